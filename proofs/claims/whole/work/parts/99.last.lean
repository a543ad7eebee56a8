set_option maxHeartbeats 4000000 in
set_option maxRecDepth 100000 in
theorem c_X1_add (l : Launch) (dC : Nat → ClassId) (dI : Nat → Nat → Nat) (A : Nat → Prop) (a : Nat → Nat) (cA : ClassId) (X : WS) (p1 : Int32) (out : (Int32 × WS)) (hw : f_X1_add X p1 = some out) : Met l yX1_add (.code yX1_add cX1_add 2 (some .int) :: lw_g) ({ frames := 0, cells := 0, slots := 0, locals := 0 }) (PcXD dC dI A a cA X [.ref (a 1), .int p1]) (va_Qi (fun (r_ : Int32) (X_ : WS) => out = (r_, X_)) (fun X_ t => va_P (dC, dI) classes (wl a cA X_) t.heap ∧ va_K (dC, dI) classes [(cA, .int)] t) A) 0 0 (A) := by
  unfold f_X1_add at hw
  refine Met.ofW (cc := cX1_add) (maxL := 2) (ret := (some .int)) (by decide) rfl ?_
  intro p e s m args below meth c s₁ B hml hv
  obtain ⟨rfl, hP, hK, hN, hD0⟩ := hv
  have hx := B.exec
  have hb := B.bytes
  have hr := B.returns
  have hts0 := atoms_spec (ws := (.code yX1_add cX1_add 2 (some .int) :: lw_g)) B.pre
  have hts : ∀ w ∈ lw_g, w.before (([.ref (a 1), .int p1] : List Value).toArray) s = true := fun w h => hts0 w (List.mem_cons_of_mem _ h)
  clear hts0
  have hown : s.vm.findClass RX1 = some m.cls := findClass_of_methodNamed B.named
  have hlocks := B.notSynchronized
  have hret : ∀ (pc : Nat) (ls : Array Slot) (v : Int32) (X_ : WS) (H : Heap) (locs : List Loc), (v, X_) = out → va_P (dC, dI) classes (wl a cA X_) H → va_S A s.heap H locs → decode cX1_add pc = .ok (.ireturn, 1) → W p l e ({ frames := 0, cells := 0, slots := 0, locals := 0 }) s m (([.ref (a 1), .int p1] : List Value).toArray) below meth c H locs 0 0 (MQ below (va_Qi (fun (r_ : Int32) (X_ : WS) => out = (r_, X_)) (fun X_ t => va_P (dC, dI) classes (wl a cA X_) t.heap ∧ va_K (dC, dI) classes [(cA, .int)] t) A) (([.ref (a 1), .int p1] : List Value).toArray) s 0 0 (A)) (F0 m pc ls [.int v]) := fun pc ls v X_ H locs hv hP hS hd => W.iret hx hb hr (fun t ht hW => ⟨⟨v, X_, rfl, hv.symm, by rw [ht]; exact hP, va_K.moved hW.alike hK⟩, hS.F ht⟩) hS.2.2 hd
  show W p l e ({ frames := 0, cells := 0, slots := 0, locals := 0 }) s m (([.ref (a 1), .int p1] : List Value).toArray) below meth c s.heap [] 0 0 (MQ below (va_Qi (fun (r_ : Int32) (X_ : WS) => out = (r_, X_)) (fun X_ t => va_P (dC, dI) classes (wl a cA X_) t.heap ∧ va_K (dC, dI) classes [(cA, .int)] t) A) (([.ref (a 1), .int p1] : List Value).toArray) s 0 0 (A)) (entryFrame m (([.ref (a 1), .int p1] : List Value).toArray) 2)
  generalize MQ below (va_Qi (fun (r_ : Int32) (X_ : WS) => out = (r_, X_)) (fun X_ t => va_P (dC, dI) classes (wl a cA X_) t.heap ∧ va_K (dC, dI) classes [(cA, .int)] t) A) (([.ref (a 1), .int p1] : List Value).toArray) s 0 0 (A) = Q at hret ⊢
  have hS : va_S A s.heap s.heap [] := va_S.rf
  have hl := lv_entry ([.ref (a 1), .int p1]) (n := 2) (Nat.le_of_ble_eq_true rfl)
  rw [lg_entry_eq]
  generalize (lg_sl ([.ref (a 1), .int p1]) ++ List.replicate (2 - (lg_sl ([.ref (a 1), .int p1])).length) Slot.unset).toArray = ls at hl ⊢
  have hl : lv_has ls 2 [(0, .ref (a 1)), (1, .int p1)] := hl
  refine lv_aload_n hx hb dX1_add_0 rfl (lv_at hl 0 rfl) ?_
  refine va_get (D := (dC, dI)) (ci := 1) (v := .int (X 1 1)) (C := RX1) (T := TX1) (N := 2) hx hb hts iX1 hown hK hP 1 rfl rfl 1 (by decide) (hts _ wd_59) (fun _ h9 => h9) rfl dX1_add_1 ?_
  refine lv_bipush (v := 12) hx hb dX1_add_4 (by decide) ?_
  refine lv_icmp_lt (tgt := 12) hx hb dX1_add_6 (by decide) (fun c1 => ?_) (fun c1 => ?_)
  · have hw := ite_t hw c1
    refine lv_aload_n hx hb dX1_add_12 rfl (lv_at hl 0 rfl) ?_
    refine va_get (D := (dC, dI)) (ci := 1) (v := .ref (a 2)) (C := RX1) (T := TX1) (N := 2) hx hb hts iX1 hown hK hP 1 rfl rfl 0 (by decide) (hts _ wd_57) (fun _ h9 => h9) rfl dX1_add_13 ?_
    refine lv_aload_n hx hb dX1_add_16 rfl (lv_at hl 0 rfl) ?_
    refine va_get (D := (dC, dI)) (ci := 1) (v := .int (X 1 1)) (C := RX1) (T := TX1) (N := 2) hx hb hts iX1 hown hK hP 1 rfl rfl 1 (by decide) (hts _ wd_59) (fun _ h9 => h9) rfl dX1_add_17 ?_
    refine lv_iload_n hx hb dX1_add_20 rfl (lv_at hl 1 rfl) ?_
    obtain ⟨h2, hw⟩ := ixc_use hw
    refine va_iast hx hb hK hP (wlD hD0) hS 2 0 rfl rfl h2 dX1_add_21 (fun H locs hP hD_ hS => ?_)
    obtain ⟨X3, eX3⟩ : ∃ y : WS, y = (ups X 2 (Int32.toNatClampNeg (X 1 1)) p1) := ⟨_, rfl⟩
    have hw := stp_use hw eX3
    have hP : va_P (dC, dI) classes (wl a cA X3) H := by rw [eX3]; exact hP
    refine lv_aload_n hx hb dX1_add_22 rfl (lv_at hl 0 rfl) ?_
    refine lv_dup hx hb dX1_add_23 rfl ?_
    refine va_get (D := (dC, dI)) (ci := 1) (v := .int (X3 1 1)) (C := RX1) (T := TX1) (N := 2) hx hb hts iX1 hown hK hP 1 rfl rfl 1 (by decide) (hts _ wd_59) (fun _ h9 => h9) rfl dX1_add_24 ?_
    refine lv_iconst (v := 1) hx hb dX1_add_27 (by decide) ?_
    refine lv_iadd hx hb dX1_add_28 ?_
    refine lv_topi (fun x4 ex4 => ?_)
    have hw := stp_use hw ex4
    refine va_put (D := (dC, dI)) (ci := 1) (v := .int x4) (ty := .int) (C := RX1) (T := TX1) (N := 2) hx hb hts iX1 tyX1 tyX1_ok nmX1 hown hK hP (wlD hD0) hS 1 rfl rfl 1 (by decide) (hts _ wd_59) (fun _ h9 => h9) rfl (by decide +kernel) rfl rfl (Nat.le_of_ble_eq_true rfl) dX1_add_29 (fun H locs hP hD_ hS => ?_)
    obtain ⟨X5, eX5⟩ : ∃ y : WS, y = (ups X3 1 1 x4) := ⟨_, rfl⟩
    have hw := stp_use hw eX5
    have hP : va_P (dC, dI) classes (wl a cA X5) H := by rw [eX5]; exact hP
    refine lv_aload_n hx hb dX1_add_32 rfl (lv_at hl 0 rfl) ?_
    refine va_get (D := (dC, dI)) (ci := 1) (v := .int (X5 1 1)) (C := RX1) (T := TX1) (N := 2) hx hb hts iX1 hown hK hP 1 rfl rfl 1 (by decide) (hts _ wd_59) (fun _ h9 => h9) rfl dX1_add_33 ?_
    exact hret _ _ _ _ _ _ (Option.some.inj hw) hP hS dX1_add_36
  · have hw := ite_f hw c1
    refine lv_bipush (v := (-104)) hx hb dX1_add_9 (by decide) ?_
    exact hret _ _ _ _ _ _ (Option.some.inj hw) hP hS dX1_add_11
set_option maxHeartbeats 4000000 in
set_option maxRecDepth 100000 in
theorem c_X3_letter (l : Launch) (dC : Nat → ClassId) (dI : Nat → Nat → Nat) (A : Nat → Prop) (a : Nat → Nat) (cA : ClassId) (X : WS) (p1 : Int32) (out : (Int32 × WS)) (hw : f_X3_letter X p1 = some out) : Met l yX3_letter (.code yX3_letter cX3_letter 2 (some .int) :: lw_g) ({ frames := 1, cells := 0, slots := 0, locals := 21 }) (PcXD dC dI A a cA X [.ref (a 0), .int p1]) (va_Qi (fun (r_ : Int32) (X_ : WS) => out = (r_, X_)) (fun X_ t => va_P (dC, dI) classes (wl a cA X_) t.heap ∧ va_K (dC, dI) classes [(cA, .int)] t) A) 0 0 (A) := by
  unfold f_X3_letter at hw
  refine Met.ofW (cc := cX3_letter) (maxL := 2) (ret := (some .int)) (by decide) rfl ?_
  intro p e s m args below meth c s₁ B hml hv
  obtain ⟨rfl, hP, hK, hN, hD0⟩ := hv
  have hx := B.exec
  have hb := B.bytes
  have hr := B.returns
  have hts0 := atoms_spec (ws := (.code yX3_letter cX3_letter 2 (some .int) :: lw_g)) B.pre
  have hts : ∀ w ∈ lw_g, w.before (([.ref (a 0), .int p1] : List Value).toArray) s = true := fun w h => hts0 w (List.mem_cons_of_mem _ h)
  clear hts0
  have hown : s.vm.findClass RX3 = some m.cls := findClass_of_methodNamed B.named
  have hlocks := B.notSynchronized
  have hret : ∀ (pc : Nat) (ls : Array Slot) (v : Int32) (X_ : WS) (H : Heap) (locs : List Loc), (v, X_) = out → va_P (dC, dI) classes (wl a cA X_) H → va_S A s.heap H locs → decode cX3_letter pc = .ok (.ireturn, 1) → W p l e ({ frames := 1, cells := 0, slots := 0, locals := 21 }) s m (([.ref (a 0), .int p1] : List Value).toArray) below meth c H locs 0 0 (MQ below (va_Qi (fun (r_ : Int32) (X_ : WS) => out = (r_, X_)) (fun X_ t => va_P (dC, dI) classes (wl a cA X_) t.heap ∧ va_K (dC, dI) classes [(cA, .int)] t) A) (([.ref (a 0), .int p1] : List Value).toArray) s 0 0 (A)) (F0 m pc ls [.int v]) := fun pc ls v X_ H locs hv hP hS hd => W.iret hx hb hr (fun t ht hW => ⟨⟨v, X_, rfl, hv.symm, by rw [ht]; exact hP, va_K.moved hW.alike hK⟩, hS.F ht⟩) hS.2.2 hd
  show W p l e ({ frames := 1, cells := 0, slots := 0, locals := 21 }) s m (([.ref (a 0), .int p1] : List Value).toArray) below meth c s.heap [] 0 0 (MQ below (va_Qi (fun (r_ : Int32) (X_ : WS) => out = (r_, X_)) (fun X_ t => va_P (dC, dI) classes (wl a cA X_) t.heap ∧ va_K (dC, dI) classes [(cA, .int)] t) A) (([.ref (a 0), .int p1] : List Value).toArray) s 0 0 (A)) (entryFrame m (([.ref (a 0), .int p1] : List Value).toArray) 2)
  generalize MQ below (va_Qi (fun (r_ : Int32) (X_ : WS) => out = (r_, X_)) (fun X_ t => va_P (dC, dI) classes (wl a cA X_) t.heap ∧ va_K (dC, dI) classes [(cA, .int)] t) A) (([.ref (a 0), .int p1] : List Value).toArray) s 0 0 (A) = Q at hret ⊢
  have hS : va_S A s.heap s.heap [] := va_S.rf
  have hl := lv_entry ([.ref (a 0), .int p1]) (n := 2) (Nat.le_of_ble_eq_true rfl)
  rw [lg_entry_eq]
  generalize (lg_sl ([.ref (a 0), .int p1]) ++ List.replicate (2 - (lg_sl ([.ref (a 0), .int p1])).length) Slot.unset).toArray = ls at hl ⊢
  have hl : lv_has ls 2 [(0, .ref (a 0)), (1, .int p1)] := hl
  refine lv_iload_n hx hb dX3_letter_0 rfl (lv_at hl 1 rfl) ?_
  refine lv_iconst (v := 1) hx hb dX3_letter_1 (by decide) ?_
  refine lv_icmp_lt (tgt := 11) hx hb dX3_letter_2 (by decide) (fun c1 => ?_) (fun c1 => ?_)
  · have hw := ite_t hw c1
    refine lv_bipush (v := (-102)) hx hb dX3_letter_11 (by decide) ?_
    exact hret _ _ _ _ _ _ (Option.some.inj hw) hP hS dX3_letter_13
  · have hw := ite_f hw c1
    refine lv_iload_n hx hb dX3_letter_5 rfl (lv_at hl 1 rfl) ?_
    refine lv_bipush (v := 126) hx hb dX3_letter_6 (by decide) ?_
    refine lv_icmp_le (tgt := 14) hx hb dX3_letter_8 (by decide) (fun c2 => ?_) (fun c2 => ?_)
    · have hw := ite_t hw c2
      refine lv_aload_n hx hb dX3_letter_14 rfl (lv_at hl 0 rfl) ?_
      refine va_get (D := (dC, dI)) (ci := 3) (v := .ref (a 1)) (C := RX3) (T := TX3) (N := 6) hx hb hts iX3 hown hK hP 0 rfl rfl 0 (by decide) (hts _ wd_178) (fun _ h9 => h9) rfl dX3_letter_15 ?_
      refine lv_iload_n hx hb dX3_letter_18 rfl (lv_at hl 1 rfl) ?_
      obtain ⟨r3, X4, er3, hw⟩ := bnd2_use hw
      refine va_calli (va_runV (As := [.int p1]) (rest := []) ⟨hx, hb, hml, hown, hts⟩ (c_X1_add l dC dI A a cA X p1 (r3, X4) er3) ⟨callB_of 1 hts gd_X1_add rfl rfl rfl (hts _ wd_36) (hts _ wd_201) hd_X1_add ⟨Nat.le_of_ble_eq_true rfl, Nat.le_of_ble_eq_true rfl⟩, hts _ wd_202, hts _ wd_203⟩ ⟨blXD, va_recv hK hP (ci := 1) (q0 := 1) rfl rfl, fun U hU hW => ⟨rfl, by rw [hU]; exact hP, va_K.moved hW.alike hK, nst.warm hW hN, wlD hD0⟩⟩ rfl rfl hl.1 rfl (lv_room (Nat.le_of_ble_eq_true rfl)) dX3_letter_19 ⟨Nat.zero_le _, Nat.zero_le _⟩) hS (fun _ _ h => h) (fun _ h => h) (fun r_ u_ t_ H1 locs1 ht hvm hp_ hB hz1 hk1 hS1 => ?_)
      obtain ⟨q1_, q2_⟩ := Prod.mk.inj hp_
      subst q1_
      subst q2_
      obtain ⟨hP1, hK1⟩ := hB
      rw [ht] at hP1
      have hP := hP1
      have hS := hS1
      exact hret _ _ _ _ _ _ (Option.some.inj hw) hP hS dX3_letter_22
    · have hw := ite_f hw c2
      refine lv_bipush (v := (-102)) hx hb dX3_letter_11 (by decide) ?_
      exact hret _ _ _ _ _ _ (Option.some.inj hw) hP hS dX3_letter_13
set_option maxHeartbeats 4000000 in
set_option maxRecDepth 100000 in
theorem c_X2_hearing (l : Launch) (dC : Nat → ClassId) (dI : Nat → Nat → Nat) (a : Nat → Nat) (cA : ClassId) (X : WS) (p1 : Int32) (p2 : Int32) (out : Int32) (hw : f_X2_hearing X p1 p2 = some out) : Met l yX2_hearing (.code yX2_hearing cX2_hearing 7 (some .int) :: lw_g) ({ frames := 0, cells := 0, slots := 0, locals := 0 }) (PcX dC dI a cA X [.ref (a 3), .int p1, .int p2]) (vp_Si (fun r_ => r_ = out)) 0 0 (fun _ => False) := by
  unfold f_X2_hearing at hw
  refine Met.ofW (cc := cX2_hearing) (maxL := 7) (ret := (some .int)) (by decide) rfl ?_
  intro p e s m args below meth c s₁ B hml hv
  obtain ⟨rfl, hP, hK, hN⟩ := hv
  have hx := B.exec
  have hb := B.bytes
  have hr := B.returns
  have hts0 := atoms_spec (ws := (.code yX2_hearing cX2_hearing 7 (some .int) :: lw_g)) B.pre
  have hts : ∀ w ∈ lw_g, w.before (([.ref (a 3), .int p1, .int p2] : List Value).toArray) s = true := fun w h => hts0 w (List.mem_cons_of_mem _ h)
  clear hts0
  have hown : s.vm.findClass RX2 = some m.cls := findClass_of_methodNamed B.named
  have hlocks := B.notSynchronized
  have hret : ∀ (pc : Nat) (ls : Array Slot) (v : Int32), v = out → decode cX2_hearing pc = .ok (.ireturn, 1) → W p l e ({ frames := 0, cells := 0, slots := 0, locals := 0 }) s m (([.ref (a 3), .int p1, .int p2] : List Value).toArray) below meth c s.heap [] 0 0 (MQ below (vp_Si (fun r_ => r_ = out)) (([.ref (a 3), .int p1, .int p2] : List Value).toArray) s 0 0 (fun _ => False)) (F0 m pc ls [.int v]) := fun pc ls v hv hd => W.iret hx hb hr (fun t ht hW => ⟨v, rfl, hv, ht⟩) (fun q hq => absurd hq List.not_mem_nil) hd
  show W p l e ({ frames := 0, cells := 0, slots := 0, locals := 0 }) s m (([.ref (a 3), .int p1, .int p2] : List Value).toArray) below meth c s.heap [] 0 0 (MQ below (vp_Si (fun r_ => r_ = out)) (([.ref (a 3), .int p1, .int p2] : List Value).toArray) s 0 0 (fun _ => False)) (entryFrame m (([.ref (a 3), .int p1, .int p2] : List Value).toArray) 7)
  generalize MQ below (vp_Si (fun r_ => r_ = out)) (([.ref (a 3), .int p1, .int p2] : List Value).toArray) s 0 0 (fun _ => False) = Q at hret ⊢
  have L5 : ∀ (v1 : Int32), ∀ (v2 : Int32), ∀ n : Nat, ∀ (v3 : Int32), ∀ (v4 : Int32), g_X2_hearing_5 X v1 v2 n v3 v4 = some out → ∀ ls : Array Slot, lv_has ls 7 [(0, .ref (a 3)), (1, .int v1), (2, .int v2), (3, .int v3), (4, .int v4)] → W p l e ({ frames := 0, cells := 0, slots := 0, locals := 0 }) s m (([.ref (a 3), .int p1, .int p2] : List Value).toArray) below meth c s.heap [] 0 0 Q (F0 m 5 ls []) := by
    intro v1 v2 n
    induction n with
    | zero =>
      intro v3 v4 hw
      rw [g_X2_hearing_5] at hw
      cases hw
    | succ n ih =>
      intro v3 v4 hw ls hl
      rw [g_X2_hearing_5] at hw
      refine lv_iload hx hb dX2_hearing_5 (lv_at hl 4 rfl) ?_
      refine lv_aload_n hx hb dX2_hearing_7 rfl (lv_at hl 0 rfl) ?_
      refine va_get (D := (dC, dI)) (ci := 2) (v := .int (X 3 5)) (C := RX2) (T := TX2) (N := 17) hx hb hts iX2 hown hK hP 3 rfl rfl 5 (by decide) (hts _ wd_83) (fun _ h9 => h9) rfl dX2_hearing_8 ?_
      refine lv_icmp_ge (tgt := 79) hx hb dX2_hearing_11 (by decide) (fun c1 => ?_) (fun c1 => ?_)
      · have hw := ite_t hw c1
        refine lv_iload_n hx hb dX2_hearing_79 rfl (lv_at hl 3 rfl) ?_
        exact hret _ _ _ (Option.some.inj hw) dX2_hearing_80
      · have hw := ite_f hw c1
        refine lv_aload_n hx hb dX2_hearing_14 rfl (lv_at hl 0 rfl) ?_
        refine va_get (D := (dC, dI)) (ci := 2) (v := .ref (a 8)) (C := RX2) (T := TX2) (N := 17) hx hb hts iX2 hown hK hP 3 rfl rfl 4 (by decide) (hts _ wd_81) (fun _ h9 => h9) rfl dX2_hearing_15 ?_
        refine lv_iload hx hb dX2_hearing_18 (lv_at hl 4 rfl) ?_
        obtain ⟨h2, hw⟩ := ixc_use hw
        refine va_iald hx hb hK hP 8 0 rfl rfl h2 dX2_hearing_20 ?_
        refine lv_topi (fun x3 ex3 => ?_)
        have hw := stp_use hw ex3
        refine lv_istore (lv' := [(5, .int x3), (0, .ref (a 3)), (1, .int v1), (2, .int v2), (3, .int v3), (4, .int v4)]) hx hb dX2_hearing_21 hl (by decide) rfl (fun ls hl => ?_)
        refine lv_iload hx hb dX2_hearing_23 (lv_at hl 0 rfl) ?_
        refine lv_iload_n hx hb dX2_hearing_25 rfl (lv_at hl 2 rfl) ?_
        refine lv_icmp_ge (tgt := 36) hx hb dX2_hearing_26 (by decide) (fun c4 => ?_) (fun c4 => ?_)
        · have hw := ite_t hw c4
          refine lv_iload hx hb dX2_hearing_36 (lv_at hl 0 rfl) ?_
          refine lv_iload_n hx hb dX2_hearing_38 rfl (lv_at hl 2 rfl) ?_
          refine lv_isub hx hb dX2_hearing_39 ?_
          refine lv_topi (fun x5 ex5 => ?_)
          have hw := stp_use hw ex5
          refine lv_istore (lv' := [(6, .int x5), (5, .int x3), (0, .ref (a 3)), (1, .int v1), (2, .int v2), (3, .int v3), (4, .int v4)]) hx hb dX2_hearing_40 hl (by decide) rfl (fun ls hl => ?_)
          refine lv_iload_n hx hb dX2_hearing_42 rfl (lv_at hl 4 rfl) ?_
          refine lv_iconst (v := 2) hx hb dX2_hearing_43 (by decide) ?_
          refine lv_iload hx hb dX2_hearing_44 (lv_at hl 0 rfl) ?_
          refine lv_imul hx hb dX2_hearing_46 ?_
          refine lv_isub hx hb dX2_hearing_47 ?_
          refine lv_aload_n hx hb dX2_hearing_48 rfl (lv_at hl 2 rfl) ?_
          refine va_get (D := (dC, dI)) (ci := 2) (v := .ref (a 4)) (C := RX2) (T := TX2) (N := 17) hx hb hts iX2 hown hK hP 3 rfl rfl 0 (by decide) (hts _ wd_73) (fun _ h9 => h9) rfl dX2_hearing_49 ?_
          refine lv_iload hx hb dX2_hearing_52 (lv_at hl 1 rfl) ?_
          obtain ⟨h6, hw⟩ := ixc_use hw
          refine va_iald hx hb hK hP 4 0 rfl rfl h6 dX2_hearing_54 ?_
          refine lv_isub hx hb dX2_hearing_55 ?_
          refine lv_aload_n hx hb dX2_hearing_56 rfl (lv_at hl 2 rfl) ?_
          refine va_get (D := (dC, dI)) (ci := 2) (v := .ref (a 6)) (C := RX2) (T := TX2) (N := 17) hx hb hts iX2 hown hK hP 3 rfl rfl 2 (by decide) (hts _ wd_77) (fun _ h9 => h9) rfl dX2_hearing_57 ?_
          refine lv_iload hx hb dX2_hearing_60 (lv_at hl 6 rfl) ?_
          obtain ⟨h7, hw⟩ := ixc_use hw
          refine va_iald hx hb hK hP 6 0 rfl rfl h7 dX2_hearing_62 ?_
          refine lv_icmp_lt (tgt := 73) hx hb dX2_hearing_63 (by decide) (fun c8 => ?_) (fun c8 => ?_)
          · have hw := ite_t hw c8
            obtain ⟨x9, ex9⟩ : ∃ y : Int32, y = (v4 + 1) := ⟨_, rfl⟩
            have hw := stp_use hw ex9
            refine lv_iinc (v := x9) (lv' := [(4, .int x9), (6, .int x5), (5, .int x3), (0, .ref (a 3)), (1, .int v1), (2, .int v2), (3, .int v3)]) hx hb dX2_hearing_73 hl (k := 6) rfl (by rw [ex9]; rfl) (by decide) rfl (fun ls hl => ?_)
            refine lv_goto (tgt := 5) hx hb dX2_hearing_76 (by decide) ?_
            exact ih v3 x9 hw ls (lv_sub hl [3, 4, 5, 6, 0] rfl)
          · have hw := ite_f hw c8
            refine lv_iload_n hx hb dX2_hearing_66 rfl (lv_at hl 5 rfl) ?_
            refine lv_iconst (v := 1) hx hb dX2_hearing_67 (by decide) ?_
            refine lv_iload hx hb dX2_hearing_68 (lv_at hl 6 rfl) ?_
            refine lv_ishl hx hb dX2_hearing_70 ?_
            refine lv_ior hx hb dX2_hearing_71 ?_
            refine lv_topi (fun x10 ex10 => ?_)
            have hw := stp_use hw ex10
            refine lv_istore_n (lv' := [(3, .int x10), (6, .int x5), (5, .int x3), (0, .ref (a 3)), (1, .int v1), (2, .int v2), (4, .int v4)]) hx hb dX2_hearing_72 rfl hl (by decide) rfl (fun ls hl => ?_)
            obtain ⟨x11, ex11⟩ : ∃ y : Int32, y = (v4 + 1) := ⟨_, rfl⟩
            have hw := stp_use hw ex11
            refine lv_iinc (v := x11) (lv' := [(4, .int x11), (3, .int x10), (6, .int x5), (5, .int x3), (0, .ref (a 3)), (1, .int v1), (2, .int v2)]) hx hb dX2_hearing_73 hl (k := 6) rfl (by rw [ex11]; rfl) (by decide) rfl (fun ls hl => ?_)
            refine lv_goto (tgt := 5) hx hb dX2_hearing_76 (by decide) ?_
            exact ih x10 x11 hw ls (lv_sub hl [4, 5, 6, 1, 0] rfl)
        · have hw := ite_f hw c4
          refine lv_iload_n hx hb dX2_hearing_29 rfl (lv_at hl 2 rfl) ?_
          refine lv_iload hx hb dX2_hearing_30 (lv_at hl 0 rfl) ?_
          refine lv_isub hx hb dX2_hearing_32 ?_
          refine lv_goto (tgt := 40) hx hb dX2_hearing_33 (by decide) ?_
          refine lv_topi (fun x12 ex12 => ?_)
          have hw := stp_use hw ex12
          refine lv_istore (lv' := [(6, .int x12), (5, .int x3), (0, .ref (a 3)), (1, .int v1), (2, .int v2), (3, .int v3), (4, .int v4)]) hx hb dX2_hearing_40 hl (by decide) rfl (fun ls hl => ?_)
          refine lv_iload_n hx hb dX2_hearing_42 rfl (lv_at hl 4 rfl) ?_
          refine lv_iconst (v := 2) hx hb dX2_hearing_43 (by decide) ?_
          refine lv_iload hx hb dX2_hearing_44 (lv_at hl 0 rfl) ?_
          refine lv_imul hx hb dX2_hearing_46 ?_
          refine lv_isub hx hb dX2_hearing_47 ?_
          refine lv_aload_n hx hb dX2_hearing_48 rfl (lv_at hl 2 rfl) ?_
          refine va_get (D := (dC, dI)) (ci := 2) (v := .ref (a 4)) (C := RX2) (T := TX2) (N := 17) hx hb hts iX2 hown hK hP 3 rfl rfl 0 (by decide) (hts _ wd_73) (fun _ h9 => h9) rfl dX2_hearing_49 ?_
          refine lv_iload hx hb dX2_hearing_52 (lv_at hl 1 rfl) ?_
          obtain ⟨h13, hw⟩ := ixc_use hw
          refine va_iald hx hb hK hP 4 0 rfl rfl h13 dX2_hearing_54 ?_
          refine lv_isub hx hb dX2_hearing_55 ?_
          refine lv_aload_n hx hb dX2_hearing_56 rfl (lv_at hl 2 rfl) ?_
          refine va_get (D := (dC, dI)) (ci := 2) (v := .ref (a 6)) (C := RX2) (T := TX2) (N := 17) hx hb hts iX2 hown hK hP 3 rfl rfl 2 (by decide) (hts _ wd_77) (fun _ h9 => h9) rfl dX2_hearing_57 ?_
          refine lv_iload hx hb dX2_hearing_60 (lv_at hl 6 rfl) ?_
          obtain ⟨h14, hw⟩ := ixc_use hw
          refine va_iald hx hb hK hP 6 0 rfl rfl h14 dX2_hearing_62 ?_
          refine lv_icmp_lt (tgt := 73) hx hb dX2_hearing_63 (by decide) (fun c15 => ?_) (fun c15 => ?_)
          · have hw := ite_t hw c15
            obtain ⟨x16, ex16⟩ : ∃ y : Int32, y = (v4 + 1) := ⟨_, rfl⟩
            have hw := stp_use hw ex16
            refine lv_iinc (v := x16) (lv' := [(4, .int x16), (6, .int x12), (5, .int x3), (0, .ref (a 3)), (1, .int v1), (2, .int v2), (3, .int v3)]) hx hb dX2_hearing_73 hl (k := 6) rfl (by rw [ex16]; rfl) (by decide) rfl (fun ls hl => ?_)
            refine lv_goto (tgt := 5) hx hb dX2_hearing_76 (by decide) ?_
            exact ih v3 x16 hw ls (lv_sub hl [3, 4, 5, 6, 0] rfl)
          · have hw := ite_f hw c15
            refine lv_iload_n hx hb dX2_hearing_66 rfl (lv_at hl 5 rfl) ?_
            refine lv_iconst (v := 1) hx hb dX2_hearing_67 (by decide) ?_
            refine lv_iload hx hb dX2_hearing_68 (lv_at hl 6 rfl) ?_
            refine lv_ishl hx hb dX2_hearing_70 ?_
            refine lv_ior hx hb dX2_hearing_71 ?_
            refine lv_topi (fun x17 ex17 => ?_)
            have hw := stp_use hw ex17
            refine lv_istore_n (lv' := [(3, .int x17), (6, .int x12), (5, .int x3), (0, .ref (a 3)), (1, .int v1), (2, .int v2), (4, .int v4)]) hx hb dX2_hearing_72 rfl hl (by decide) rfl (fun ls hl => ?_)
            obtain ⟨x18, ex18⟩ : ∃ y : Int32, y = (v4 + 1) := ⟨_, rfl⟩
            have hw := stp_use hw ex18
            refine lv_iinc (v := x18) (lv' := [(4, .int x18), (3, .int x17), (6, .int x12), (5, .int x3), (0, .ref (a 3)), (1, .int v1), (2, .int v2)]) hx hb dX2_hearing_73 hl (k := 6) rfl (by rw [ex18]; rfl) (by decide) rfl (fun ls hl => ?_)
            refine lv_goto (tgt := 5) hx hb dX2_hearing_76 (by decide) ?_
            exact ih x17 x18 hw ls (lv_sub hl [4, 5, 6, 1, 0] rfl)
  have hl := lv_entry ([.ref (a 3), .int p1, .int p2]) (n := 7) (Nat.le_of_ble_eq_true rfl)
  rw [lg_entry_eq]
  generalize (lg_sl ([.ref (a 3), .int p1, .int p2]) ++ List.replicate (7 - (lg_sl ([.ref (a 3), .int p1, .int p2])).length) Slot.unset).toArray = ls at hl ⊢
  have hl : lv_has ls 7 [(0, .ref (a 3)), (1, .int p1), (2, .int p2)] := hl
  refine lv_iconst (v := 0) hx hb dX2_hearing_0 (by decide) ?_
  refine lv_istore_n (lv' := [(3, .int 0), (0, .ref (a 3)), (1, .int p1), (2, .int p2)]) hx hb dX2_hearing_1 rfl hl (by decide) rfl (fun ls hl => ?_)
  refine lv_iconst (v := 0) hx hb dX2_hearing_2 (by decide) ?_
  refine lv_istore (lv' := [(4, .int 0), (3, .int 0), (0, .ref (a 3)), (1, .int p1), (2, .int p2)]) hx hb dX2_hearing_3 hl (by decide) rfl (fun ls hl => ?_)
  exact L5 p1 p2 NF 0 0 hw ls (lv_sub hl [2, 3, 4, 1, 0] rfl)
set_option maxHeartbeats 4000000 in
set_option maxRecDepth 100000 in
theorem c_X4_in (l : Launch) (p0 : Int64) (p2 : Int64) (p4 : Int64) (out : Int32) (hw : f_X4_in p0 p2 p4 = some out) : Met l yX4_in (.code yX4_in cX4_in 6 (some .boolean) :: lw_g) ({ frames := 0, cells := 0, slots := 0, locals := 0 }) (Pc0 [.long p0, .long p2, .long p4]) (vp_Si (fun r_ => r_ = out)) 0 0 (fun _ => False) := by
  unfold f_X4_in at hw
  refine Met.ofW (cc := cX4_in) (maxL := 6) (ret := (some .boolean)) (by decide) rfl ?_
  intro p e s m args below meth c s₁ B hml hv
  obtain ⟨rfl, -⟩ := hv
  have hx := B.exec
  have hb := B.bytes
  have hr := B.returns
  have hts0 := atoms_spec (ws := (.code yX4_in cX4_in 6 (some .boolean) :: lw_g)) B.pre
  have hts : ∀ w ∈ lw_g, w.before (([.long p0, .long p2, .long p4] : List Value).toArray) s = true := fun w h => hts0 w (List.mem_cons_of_mem _ h)
  clear hts0
  have hown : s.vm.findClass RX4 = some m.cls := findClass_of_methodNamed B.named
  have hlocks := B.notSynchronized
  have hret : ∀ (pc : Nat) (ls : Array Slot) (v : Int32), v = out → (hz : narrow .boolean (.int v) = .int v) → decode cX4_in pc = .ok (.ireturn, 1) → W p l e ({ frames := 0, cells := 0, slots := 0, locals := 0 }) s m (([.long p0, .long p2, .long p4] : List Value).toArray) below meth c s.heap [] 0 0 (MQ below (vp_Si (fun r_ => r_ = out)) (([.long p0, .long p2, .long p4] : List Value).toArray) s 0 0 (fun _ => False)) (F0 m pc ls [.int v]) := fun pc ls v hv hz hd => W.zret hx hb hr hz (fun t ht hW => ⟨v, rfl, hv, ht⟩) (fun q hq => absurd hq List.not_mem_nil) hd
  show W p l e ({ frames := 0, cells := 0, slots := 0, locals := 0 }) s m (([.long p0, .long p2, .long p4] : List Value).toArray) below meth c s.heap [] 0 0 (MQ below (vp_Si (fun r_ => r_ = out)) (([.long p0, .long p2, .long p4] : List Value).toArray) s 0 0 (fun _ => False)) (entryFrame m (([.long p0, .long p2, .long p4] : List Value).toArray) 6)
  generalize MQ below (vp_Si (fun r_ => r_ = out)) (([.long p0, .long p2, .long p4] : List Value).toArray) s 0 0 (fun _ => False) = Q at hret ⊢
  have hl := lv_entry ([.long p0, .long p2, .long p4]) (n := 6) (Nat.le_of_ble_eq_true rfl)
  rw [lg_entry_eq]
  generalize (lg_sl ([.long p0, .long p2, .long p4]) ++ List.replicate (6 - (lg_sl ([.long p0, .long p2, .long p4])).length) Slot.unset).toArray = ls at hl ⊢
  have hl : lv_has ls 6 [(0, .long p0), (2, .long p2), (4, .long p4)] := hl
  refine lv_lload_n hx hb dX4_in_0 rfl (lv_at hl 0 rfl) ?_
  refine lv_lload_n hx hb dX4_in_1 rfl (lv_at hl 1 rfl) ?_
  refine W.lcmp hx hb dX4_in_2 ?_
  refine lv_if_lt (tgt := 17) hx hb dX4_in_3 (by decide) (fun c1 => ?_) (fun c1 => ?_)
  · have hw := ite_t hw c1
    refine lv_iconst (v := 0) hx hb dX4_in_17 (by decide) ?_
    exact hret _ _ _ (Option.some.inj hw) rfl dX4_in_18
  · have hw := ite_f hw c1
    refine lv_lload_n hx hb dX4_in_6 rfl (lv_at hl 0 rfl) ?_
    refine lv_lload hx hb dX4_in_7 (lv_at hl 2 rfl) ?_
    refine W.lcmp hx hb dX4_in_9 ?_
    refine lv_if_gt (tgt := 17) hx hb dX4_in_10 (by decide) (fun c2 => ?_) (fun c2 => ?_)
    · have hw := ite_t hw c2
      refine lv_iconst (v := 0) hx hb dX4_in_17 (by decide) ?_
      exact hret _ _ _ (Option.some.inj hw) rfl dX4_in_18
    · have hw := ite_f hw c2
      refine lv_iconst (v := 1) hx hb dX4_in_13 (by decide) ?_
      refine lv_goto (tgt := 18) hx hb dX4_in_14 (by decide) ?_
      exact hret _ _ _ (Option.some.inj hw) rfl dX4_in_18
