set_option maxHeartbeats 4000000 in
set_option maxRecDepth 100000 in
theorem c_X1_add (l : Launch) (dC : Nat → ClassId) (dI : Nat → Nat → Nat) (A : Nat → Prop) (a : Nat → Nat) (cA : ClassId) (X : WS) (p1 : Int32) (out : (Int32 × WS)) (hw : f_X1_add X p1 = some out) : Met l yX1_add (.code yX1_add cX1_add 2 (some .int) :: lw_g) ({ frames := 0, cells := 0, slots := 0, locals := 0 }) (PcXD dC dI A a cA X [.ref (a 1), .int p1]) (va_Qi (fun (r_ : Int32) (X_ : WS) => out = (r_, X_)) (fun X_ t => va_P (dC, dI) classes (wl a cA X_) t.heap ∧ va_K (dC, dI) classes [(cA, .int)] t) A) 0 0 (A) := by
  unfold f_X1_add at hw
  refine Met.ofW (cc := cX1_add) (maxL := 2) (ret := (some .int)) (by decide) rfl ?_
  intro p e s m args below meth c s₁ B hml hv
  obtain ⟨rfl, hP, hK, hN, hD0⟩ := hv
  have hx := B.exec
  have hb := B.bytes
  have hr := B.returns
  have hts0 := atoms_spec (ws := (.code yX1_add cX1_add 2 (some .int) :: lw_g)) B.pre
  have hts : ∀ w ∈ lw_g, w.before (([.ref (a 1), .int p1] : List Value).toArray) s = true := fun w h => hts0 w (List.mem_cons_of_mem _ h)
  clear hts0
  have hown : s.vm.findClass RX1 = some m.cls := findClass_of_methodNamed B.named
  have hlocks := B.notSynchronized
  have hret : ∀ (pc : Nat) (ls : Array Slot) (v : Int32) (X_ : WS) (H : Heap) (locs : List Loc), (v, X_) = out → va_P (dC, dI) classes (wl a cA X_) H → va_S A s.heap H locs → decode cX1_add pc = .ok (.ireturn, 1) → W p l e ({ frames := 0, cells := 0, slots := 0, locals := 0 }) s m (([.ref (a 1), .int p1] : List Value).toArray) below meth c H locs 0 0 (MQ below (va_Qi (fun (r_ : Int32) (X_ : WS) => out = (r_, X_)) (fun X_ t => va_P (dC, dI) classes (wl a cA X_) t.heap ∧ va_K (dC, dI) classes [(cA, .int)] t) A) (([.ref (a 1), .int p1] : List Value).toArray) s 0 0 (A)) (F0 m pc ls [.int v]) := fun pc ls v X_ H locs hv hP hS hd => W.iret hx hb hr (fun t ht hW => ⟨⟨v, X_, rfl, hv.symm, by rw [ht]; exact hP, va_K.moved hW.alike hK⟩, hS.F ht⟩) hS.2.2 hd
  show W p l e ({ frames := 0, cells := 0, slots := 0, locals := 0 }) s m (([.ref (a 1), .int p1] : List Value).toArray) below meth c s.heap [] 0 0 (MQ below (va_Qi (fun (r_ : Int32) (X_ : WS) => out = (r_, X_)) (fun X_ t => va_P (dC, dI) classes (wl a cA X_) t.heap ∧ va_K (dC, dI) classes [(cA, .int)] t) A) (([.ref (a 1), .int p1] : List Value).toArray) s 0 0 (A)) (entryFrame m (([.ref (a 1), .int p1] : List Value).toArray) 2)
  generalize MQ below (va_Qi (fun (r_ : Int32) (X_ : WS) => out = (r_, X_)) (fun X_ t => va_P (dC, dI) classes (wl a cA X_) t.heap ∧ va_K (dC, dI) classes [(cA, .int)] t) A) (([.ref (a 1), .int p1] : List Value).toArray) s 0 0 (A) = Q at hret ⊢
  have hS : va_S A s.heap s.heap [] := va_S.rf
  have hl := lv_entry ([.ref (a 1), .int p1]) (n := 2) (Nat.le_of_ble_eq_true rfl)
  rw [lg_entry_eq]
  generalize (lg_sl ([.ref (a 1), .int p1]) ++ List.replicate (2 - (lg_sl ([.ref (a 1), .int p1])).length) Slot.unset).toArray = ls at hl ⊢
  have hl : lv_has ls 2 [(0, .ref (a 1)), (1, .int p1)] := hl
  refine lv_aload_n hx hb dX1_add_0 rfl (lv_at hl 0 rfl) ?_
  refine va_get (D := (dC, dI)) (ci := 1) (v := .int (X 1 1)) (C := RX1) (T := TX1) (N := 2) hx hb hts iX1 hown hK hP 1 rfl rfl 1 (by decide) (hts _ wd_59) (fun _ h9 => h9) rfl dX1_add_1 ?_
  refine lv_bipush (v := 12) hx hb dX1_add_4 (by decide) ?_
  refine lv_icmp_lt (tgt := 12) hx hb dX1_add_6 (by decide) (fun c1 => ?_) (fun c1 => ?_)
  · have hw := ite_t hw c1
    refine lv_aload_n hx hb dX1_add_12 rfl (lv_at hl 0 rfl) ?_
    refine va_get (D := (dC, dI)) (ci := 1) (v := .ref (a 2)) (C := RX1) (T := TX1) (N := 2) hx hb hts iX1 hown hK hP 1 rfl rfl 0 (by decide) (hts _ wd_57) (fun _ h9 => h9) rfl dX1_add_13 ?_
    refine lv_aload_n hx hb dX1_add_16 rfl (lv_at hl 0 rfl) ?_
    refine va_get (D := (dC, dI)) (ci := 1) (v := .int (X 1 1)) (C := RX1) (T := TX1) (N := 2) hx hb hts iX1 hown hK hP 1 rfl rfl 1 (by decide) (hts _ wd_59) (fun _ h9 => h9) rfl dX1_add_17 ?_
    refine lv_iload_n hx hb dX1_add_20 rfl (lv_at hl 1 rfl) ?_
    obtain ⟨h2, hw⟩ := ixc_use hw
    refine va_iast hx hb hK hP (wlD hD0) hS 2 0 rfl rfl h2 dX1_add_21 (fun H locs hP hD_ hS => ?_)
    obtain ⟨X3, eX3⟩ : ∃ y : WS, y = (ups X 2 (Int32.toNatClampNeg (X 1 1)) p1) := ⟨_, rfl⟩
    have hw := stp_use hw eX3
    have hP : va_P (dC, dI) classes (wl a cA X3) H := by rw [eX3]; exact hP
    refine lv_aload_n hx hb dX1_add_22 rfl (lv_at hl 0 rfl) ?_
    refine lv_dup hx hb dX1_add_23 rfl ?_
    refine va_get (D := (dC, dI)) (ci := 1) (v := .int (X3 1 1)) (C := RX1) (T := TX1) (N := 2) hx hb hts iX1 hown hK hP 1 rfl rfl 1 (by decide) (hts _ wd_59) (fun _ h9 => h9) rfl dX1_add_24 ?_
    refine lv_iconst (v := 1) hx hb dX1_add_27 (by decide) ?_
    refine lv_iadd hx hb dX1_add_28 ?_
    refine lv_topi (fun x4 ex4 => ?_)
    have hw := stp_use hw ex4
    refine va_put (D := (dC, dI)) (ci := 1) (v := .int x4) (ty := .int) (C := RX1) (T := TX1) (N := 2) hx hb hts iX1 tyX1 tyX1_ok nmX1 hown hK hP (wlD hD0) hS 1 rfl rfl 1 (by decide) (hts _ wd_59) (fun _ h9 => h9) rfl (by decide +kernel) rfl rfl (Nat.le_of_ble_eq_true rfl) dX1_add_29 (fun H locs hP hD_ hS => ?_)
    obtain ⟨X5, eX5⟩ : ∃ y : WS, y = (ups X3 1 1 x4) := ⟨_, rfl⟩
    have hw := stp_use hw eX5
    have hP : va_P (dC, dI) classes (wl a cA X5) H := by rw [eX5]; exact hP
    refine lv_aload_n hx hb dX1_add_32 rfl (lv_at hl 0 rfl) ?_
    refine va_get (D := (dC, dI)) (ci := 1) (v := .int (X5 1 1)) (C := RX1) (T := TX1) (N := 2) hx hb hts iX1 hown hK hP 1 rfl rfl 1 (by decide) (hts _ wd_59) (fun _ h9 => h9) rfl dX1_add_33 ?_
    exact hret _ _ _ _ _ _ (Option.some.inj hw) hP hS dX1_add_36
  · have hw := ite_f hw c1
    refine lv_bipush (v := (-104)) hx hb dX1_add_9 (by decide) ?_
    exact hret _ _ _ _ _ _ (Option.some.inj hw) hP hS dX1_add_11
set_option maxHeartbeats 4000000 in
set_option maxRecDepth 100000 in
theorem c_X3_letter (l : Launch) (dC : Nat → ClassId) (dI : Nat → Nat → Nat) (A : Nat → Prop) (a : Nat → Nat) (cA : ClassId) (X : WS) (p1 : Int32) (out : (Int32 × WS)) (hw : f_X3_letter X p1 = some out) : Met l yX3_letter (.code yX3_letter cX3_letter 2 (some .int) :: lw_g) ({ frames := 1, cells := 0, slots := 0, locals := 21 }) (PcXD dC dI A a cA X [.ref (a 0), .int p1]) (va_Qi (fun (r_ : Int32) (X_ : WS) => out = (r_, X_)) (fun X_ t => va_P (dC, dI) classes (wl a cA X_) t.heap ∧ va_K (dC, dI) classes [(cA, .int)] t) A) 0 0 (A) := by
  unfold f_X3_letter at hw
  refine Met.ofW (cc := cX3_letter) (maxL := 2) (ret := (some .int)) (by decide) rfl ?_
  intro p e s m args below meth c s₁ B hml hv
  obtain ⟨rfl, hP, hK, hN, hD0⟩ := hv
  have hx := B.exec
  have hb := B.bytes
  have hr := B.returns
  have hts0 := atoms_spec (ws := (.code yX3_letter cX3_letter 2 (some .int) :: lw_g)) B.pre
  have hts : ∀ w ∈ lw_g, w.before (([.ref (a 0), .int p1] : List Value).toArray) s = true := fun w h => hts0 w (List.mem_cons_of_mem _ h)
  clear hts0
  have hown : s.vm.findClass RX3 = some m.cls := findClass_of_methodNamed B.named
  have hlocks := B.notSynchronized
  have hret : ∀ (pc : Nat) (ls : Array Slot) (v : Int32) (X_ : WS) (H : Heap) (locs : List Loc), (v, X_) = out → va_P (dC, dI) classes (wl a cA X_) H → va_S A s.heap H locs → decode cX3_letter pc = .ok (.ireturn, 1) → W p l e ({ frames := 1, cells := 0, slots := 0, locals := 21 }) s m (([.ref (a 0), .int p1] : List Value).toArray) below meth c H locs 0 0 (MQ below (va_Qi (fun (r_ : Int32) (X_ : WS) => out = (r_, X_)) (fun X_ t => va_P (dC, dI) classes (wl a cA X_) t.heap ∧ va_K (dC, dI) classes [(cA, .int)] t) A) (([.ref (a 0), .int p1] : List Value).toArray) s 0 0 (A)) (F0 m pc ls [.int v]) := fun pc ls v X_ H locs hv hP hS hd => W.iret hx hb hr (fun t ht hW => ⟨⟨v, X_, rfl, hv.symm, by rw [ht]; exact hP, va_K.moved hW.alike hK⟩, hS.F ht⟩) hS.2.2 hd
  show W p l e ({ frames := 1, cells := 0, slots := 0, locals := 21 }) s m (([.ref (a 0), .int p1] : List Value).toArray) below meth c s.heap [] 0 0 (MQ below (va_Qi (fun (r_ : Int32) (X_ : WS) => out = (r_, X_)) (fun X_ t => va_P (dC, dI) classes (wl a cA X_) t.heap ∧ va_K (dC, dI) classes [(cA, .int)] t) A) (([.ref (a 0), .int p1] : List Value).toArray) s 0 0 (A)) (entryFrame m (([.ref (a 0), .int p1] : List Value).toArray) 2)
  generalize MQ below (va_Qi (fun (r_ : Int32) (X_ : WS) => out = (r_, X_)) (fun X_ t => va_P (dC, dI) classes (wl a cA X_) t.heap ∧ va_K (dC, dI) classes [(cA, .int)] t) A) (([.ref (a 0), .int p1] : List Value).toArray) s 0 0 (A) = Q at hret ⊢
  have hS : va_S A s.heap s.heap [] := va_S.rf
  have hl := lv_entry ([.ref (a 0), .int p1]) (n := 2) (Nat.le_of_ble_eq_true rfl)
  rw [lg_entry_eq]
  generalize (lg_sl ([.ref (a 0), .int p1]) ++ List.replicate (2 - (lg_sl ([.ref (a 0), .int p1])).length) Slot.unset).toArray = ls at hl ⊢
  have hl : lv_has ls 2 [(0, .ref (a 0)), (1, .int p1)] := hl
  refine lv_iload_n hx hb dX3_letter_0 rfl (lv_at hl 1 rfl) ?_
  refine lv_iconst (v := 1) hx hb dX3_letter_1 (by decide) ?_
  refine lv_icmp_lt (tgt := 11) hx hb dX3_letter_2 (by decide) (fun c1 => ?_) (fun c1 => ?_)
  · have hw := ite_t hw c1
    refine lv_bipush (v := (-102)) hx hb dX3_letter_11 (by decide) ?_
    exact hret _ _ _ _ _ _ (Option.some.inj hw) hP hS dX3_letter_13
  · have hw := ite_f hw c1
    refine lv_iload_n hx hb dX3_letter_5 rfl (lv_at hl 1 rfl) ?_
    refine lv_bipush (v := 126) hx hb dX3_letter_6 (by decide) ?_
    refine lv_icmp_le (tgt := 14) hx hb dX3_letter_8 (by decide) (fun c2 => ?_) (fun c2 => ?_)
    · have hw := ite_t hw c2
      refine lv_aload_n hx hb dX3_letter_14 rfl (lv_at hl 0 rfl) ?_
      refine va_get (D := (dC, dI)) (ci := 3) (v := .ref (a 1)) (C := RX3) (T := TX3) (N := 6) hx hb hts iX3 hown hK hP 0 rfl rfl 0 (by decide) (hts _ wd_178) (fun _ h9 => h9) rfl dX3_letter_15 ?_
      refine lv_iload_n hx hb dX3_letter_18 rfl (lv_at hl 1 rfl) ?_
      obtain ⟨r3, X4, er3, hw⟩ := bnd2_use hw
      refine va_calli (va_runV (As := [.int p1]) (rest := []) ⟨hx, hb, hml, hown, hts⟩ (c_X1_add l dC dI A a cA X p1 (r3, X4) er3) ⟨callB_of 1 hts gd_X1_add rfl rfl rfl (hts _ wd_36) (hts _ wd_201) hd_X1_add ⟨Nat.le_of_ble_eq_true rfl, Nat.le_of_ble_eq_true rfl⟩, hts _ wd_202, hts _ wd_203⟩ ⟨blXD, va_recv hK hP (ci := 1) (q0 := 1) rfl rfl, fun U hU hW => ⟨rfl, by rw [hU]; exact hP, va_K.moved hW.alike hK, nst.warm hW hN, wlD hD0⟩⟩ rfl rfl hl.1 rfl (lv_room (Nat.le_of_ble_eq_true rfl)) dX3_letter_19 ⟨Nat.zero_le _, Nat.zero_le _⟩) hS (fun _ _ h => h) (fun _ h => h) (fun r_ u_ t_ H1 locs1 ht hvm hp_ hB hz1 hk1 hS1 => ?_)
      obtain ⟨q1_, q2_⟩ := Prod.mk.inj hp_
      subst q1_
      subst q2_
      obtain ⟨hP1, hK1⟩ := hB
      rw [ht] at hP1
      have hP := hP1
      have hS := hS1
      exact hret _ _ _ _ _ _ (Option.some.inj hw) hP hS dX3_letter_22
    · have hw := ite_f hw c2
      refine lv_bipush (v := (-102)) hx hb dX3_letter_11 (by decide) ?_
      exact hret _ _ _ _ _ _ (Option.some.inj hw) hP hS dX3_letter_13
set_option maxHeartbeats 4000000 in
set_option maxRecDepth 100000 in
theorem c_X4_in (l : Launch) (p0 : Int64) (p2 : Int64) (p4 : Int64) (out : Int32) (hw : f_X4_in p0 p2 p4 = some out) : Met l yX4_in (.code yX4_in cX4_in 6 (some .boolean) :: lw_g) ({ frames := 0, cells := 0, slots := 0, locals := 0 }) (Pc0 [.long p0, .long p2, .long p4]) (vp_Si (fun r_ => r_ = out)) 0 0 (fun _ => False) := by
  unfold f_X4_in at hw
  refine Met.ofW (cc := cX4_in) (maxL := 6) (ret := (some .boolean)) (by decide) rfl ?_
  intro p e s m args below meth c s₁ B hml hv
  obtain ⟨rfl, -⟩ := hv
  have hx := B.exec
  have hb := B.bytes
  have hr := B.returns
  have hts0 := atoms_spec (ws := (.code yX4_in cX4_in 6 (some .boolean) :: lw_g)) B.pre
  have hts : ∀ w ∈ lw_g, w.before (([.long p0, .long p2, .long p4] : List Value).toArray) s = true := fun w h => hts0 w (List.mem_cons_of_mem _ h)
  clear hts0
  have hown : s.vm.findClass RX4 = some m.cls := findClass_of_methodNamed B.named
  have hlocks := B.notSynchronized
  have hret : ∀ (pc : Nat) (ls : Array Slot) (v : Int32), v = out → (hz : narrow .boolean (.int v) = .int v) → decode cX4_in pc = .ok (.ireturn, 1) → W p l e ({ frames := 0, cells := 0, slots := 0, locals := 0 }) s m (([.long p0, .long p2, .long p4] : List Value).toArray) below meth c s.heap [] 0 0 (MQ below (vp_Si (fun r_ => r_ = out)) (([.long p0, .long p2, .long p4] : List Value).toArray) s 0 0 (fun _ => False)) (F0 m pc ls [.int v]) := fun pc ls v hv hz hd => W.zret hx hb hr hz (fun t ht hW => ⟨v, rfl, hv, ht⟩) (fun q hq => absurd hq List.not_mem_nil) hd
  show W p l e ({ frames := 0, cells := 0, slots := 0, locals := 0 }) s m (([.long p0, .long p2, .long p4] : List Value).toArray) below meth c s.heap [] 0 0 (MQ below (vp_Si (fun r_ => r_ = out)) (([.long p0, .long p2, .long p4] : List Value).toArray) s 0 0 (fun _ => False)) (entryFrame m (([.long p0, .long p2, .long p4] : List Value).toArray) 6)
  generalize MQ below (vp_Si (fun r_ => r_ = out)) (([.long p0, .long p2, .long p4] : List Value).toArray) s 0 0 (fun _ => False) = Q at hret ⊢
  have hl := lv_entry ([.long p0, .long p2, .long p4]) (n := 6) (Nat.le_of_ble_eq_true rfl)
  rw [lg_entry_eq]
  generalize (lg_sl ([.long p0, .long p2, .long p4]) ++ List.replicate (6 - (lg_sl ([.long p0, .long p2, .long p4])).length) Slot.unset).toArray = ls at hl ⊢
  have hl : lv_has ls 6 [(0, .long p0), (2, .long p2), (4, .long p4)] := hl
  refine lv_lload_n hx hb dX4_in_0 rfl (lv_at hl 0 rfl) ?_
  refine lv_lload_n hx hb dX4_in_1 rfl (lv_at hl 1 rfl) ?_
  refine W.lcmp hx hb dX4_in_2 ?_
  refine lv_if_lt (tgt := 17) hx hb dX4_in_3 (by decide) (fun c1 => ?_) (fun c1 => ?_)
  · have hw := ite_t hw c1
    refine lv_iconst (v := 0) hx hb dX4_in_17 (by decide) ?_
    exact hret _ _ _ (Option.some.inj hw) rfl dX4_in_18
  · have hw := ite_f hw c1
    refine lv_lload_n hx hb dX4_in_6 rfl (lv_at hl 0 rfl) ?_
    refine lv_lload hx hb dX4_in_7 (lv_at hl 2 rfl) ?_
    refine W.lcmp hx hb dX4_in_9 ?_
    refine lv_if_gt (tgt := 17) hx hb dX4_in_10 (by decide) (fun c2 => ?_) (fun c2 => ?_)
    · have hw := ite_t hw c2
      refine lv_iconst (v := 0) hx hb dX4_in_17 (by decide) ?_
      exact hret _ _ _ (Option.some.inj hw) rfl dX4_in_18
    · have hw := ite_f hw c2
      refine lv_iconst (v := 1) hx hb dX4_in_13 (by decide) ?_
      refine lv_goto (tgt := 18) hx hb dX4_in_14 (by decide) ?_
      exact hret _ _ _ (Option.some.inj hw) rfl dX4_in_18
set_option maxHeartbeats 4000000 in
set_option maxRecDepth 100000 in
theorem c_X4_letter (l : Launch) (dC : Nat → ClassId) (dI : Nat → Nat → Nat) (A : Nat → Prop) (a : Nat → Nat) (cA : ClassId) (X : MS) (p1 : Int32) (out : (Int32 × MS)) (hw : f_X4_letter X p1 = some out) : Met l yX4_letter (.code yX4_letter cX4_letter 2 (some .int) :: lw_g) ({ frames := 1, cells := 0, slots := 0, locals := 25 }) (PcMD dC dI A a cA X [.ref (a 0), .int p1]) (va_Qi (fun (r_ : Int32) (X_ : MS) => out = (r_, X_)) (fun X_ t => va_P (dC, dI) classes (wm a cA X_) t.heap ∧ va_K (dC, dI) classes [(cA, .int)] t) A) 0 0 (A) := by
  unfold f_X4_letter at hw
  refine Met.ofW (cc := cX4_letter) (maxL := 2) (ret := (some .int)) (by decide) rfl ?_
  intro p e s m args below meth c s₁ B hml hv
  obtain ⟨rfl, hP, hK, hD0⟩ := hv
  have hx := B.exec
  have hb := B.bytes
  have hr := B.returns
  have hts0 := atoms_spec (ws := (.code yX4_letter cX4_letter 2 (some .int) :: lw_g)) B.pre
  have hts : ∀ w ∈ lw_g, w.before (([.ref (a 0), .int p1] : List Value).toArray) s = true := fun w h => hts0 w (List.mem_cons_of_mem _ h)
  clear hts0
  have hown : s.vm.findClass RX4 = some m.cls := findClass_of_methodNamed B.named
  have hlocks := B.notSynchronized
  have hret : ∀ (pc : Nat) (ls : Array Slot) (v : Int32) (X_ : MS) (H : Heap) (locs : List Loc), (v, X_) = out → va_P (dC, dI) classes (wm a cA X_) H → va_S A s.heap H locs → decode cX4_letter pc = .ok (.ireturn, 1) → W p l e ({ frames := 1, cells := 0, slots := 0, locals := 25 }) s m (([.ref (a 0), .int p1] : List Value).toArray) below meth c H locs 0 0 (MQ below (va_Qi (fun (r_ : Int32) (X_ : MS) => out = (r_, X_)) (fun X_ t => va_P (dC, dI) classes (wm a cA X_) t.heap ∧ va_K (dC, dI) classes [(cA, .int)] t) A) (([.ref (a 0), .int p1] : List Value).toArray) s 0 0 (A)) (F0 m pc ls [.int v]) := fun pc ls v X_ H locs hv hP hS hd => W.iret hx hb hr (fun t ht hW => ⟨⟨v, X_, rfl, hv.symm, by rw [ht]; exact hP, va_K.moved hW.alike hK⟩, hS.F ht⟩) hS.2.2 hd
  show W p l e ({ frames := 1, cells := 0, slots := 0, locals := 25 }) s m (([.ref (a 0), .int p1] : List Value).toArray) below meth c s.heap [] 0 0 (MQ below (va_Qi (fun (r_ : Int32) (X_ : MS) => out = (r_, X_)) (fun X_ t => va_P (dC, dI) classes (wm a cA X_) t.heap ∧ va_K (dC, dI) classes [(cA, .int)] t) A) (([.ref (a 0), .int p1] : List Value).toArray) s 0 0 (A)) (entryFrame m (([.ref (a 0), .int p1] : List Value).toArray) 2)
  generalize MQ below (va_Qi (fun (r_ : Int32) (X_ : MS) => out = (r_, X_)) (fun X_ t => va_P (dC, dI) classes (wm a cA X_) t.heap ∧ va_K (dC, dI) classes [(cA, .int)] t) A) (([.ref (a 0), .int p1] : List Value).toArray) s 0 0 (A) = Q at hret ⊢
  have hS : va_S A s.heap s.heap [] := va_S.rf
  have hl := lv_entry ([.ref (a 0), .int p1]) (n := 2) (Nat.le_of_ble_eq_true rfl)
  rw [lg_entry_eq]
  generalize (lg_sl ([.ref (a 0), .int p1]) ++ List.replicate (2 - (lg_sl ([.ref (a 0), .int p1])).length) Slot.unset).toArray = ls at hl ⊢
  have hl : lv_has ls 2 [(0, .ref (a 0)), (1, .int p1)] := hl
  refine lv_iload_n hx hb dX4_letter_0 rfl (lv_at hl 1 rfl) ?_
  refine lv_i2l hx hb dX4_letter_1 rfl ?_
  refine lv_lconst (v := 1) hx hb dX4_letter_2 (by decide) ?_
  refine lv_ldc2 hx hb hown (hts _ wd_614) dX4_letter_3 ?_
  obtain ⟨r1, er1, hw⟩ := Option.bind_eq_some_iff.mp hw
  refine vp_callSi (va_runS (As := [.long (Int32.toInt64 p1), .long 1, .long 126]) (rest := []) ⟨hx, hb, hml, hown, hts⟩ (c_X4_in l (Int32.toInt64 p1) 1 126 r1 er1) ⟨callB_of 3 hts gd_X4_in rfl rfl rfl (hts _ wd_39) (hts _ wd_615) hd_X4_in ⟨Nat.le_of_ble_eq_true rfl, Nat.le_of_ble_eq_true rfl⟩, hts _ wd_616⟩ ⟨bl0, fun U hU hW => ⟨rfl, trivial⟩⟩ rfl rfl hl.1 rfl (lv_room (Nat.le_of_ble_eq_true rfl)) dX4_letter_6 ⟨Nat.zero_le _, Nat.zero_le _⟩).run (fun r_ e_ => ?_)
  subst r_
  refine lv_if_ne (tgt := 15) hx hb dX4_letter_9 (by decide) (fun c2 => ?_) (fun c2 => ?_)
  · have hw := ite_f hw c2
    refine lv_aload_n hx hb dX4_letter_15 rfl (lv_at hl 0 rfl) ?_
    refine va_get (D := (dC, dI)) (ci := 4) (v := .int (X.1 0 1)) (C := RX4) (T := TX4) (N := 29) hx hb hts iX4 hown hK hP 0 rfl rfl 1 (by decide) (hts _ wd_523) (fun _ h9 => h9) rfl dX4_letter_16 ?_
    refine lv_bipush (v := 12) hx hb dX4_letter_19 (by decide) ?_
    refine lv_icmp_ne (tgt := 27) hx hb dX4_letter_21 (by decide) (fun c3 => ?_) (fun c3 => ?_)
    · have hw := ite_f hw c3
      refine lv_aload_n hx hb dX4_letter_27 rfl (lv_at hl 0 rfl) ?_
      refine va_get (D := (dC, dI)) (ci := 4) (v := .ref (a 1)) (C := RX4) (T := TX4) (N := 29) hx hb hts iX4 hown hK hP 0 rfl rfl 0 (by decide) (hts _ wd_522) (fun _ h9 => h9) rfl dX4_letter_28 ?_
      refine lv_aload_n hx hb dX4_letter_31 rfl (lv_at hl 0 rfl) ?_
      refine va_get (D := (dC, dI)) (ci := 4) (v := .int (X.1 0 1)) (C := RX4) (T := TX4) (N := 29) hx hb hts iX4 hown hK hP 0 rfl rfl 1 (by decide) (hts _ wd_523) (fun _ h9 => h9) rfl dX4_letter_32 ?_
      refine lv_iload_n hx hb dX4_letter_35 rfl (lv_at hl 1 rfl) ?_
      obtain ⟨h4, hw⟩ := ixc_use hw
      refine va_iast hx hb hK hP (wmD hD0) hS 1 0 rfl rfl h4 dX4_letter_36 (fun H locs hP hD_ hS => ?_)
      obtain ⟨X5, eX5⟩ : ∃ y : MS, y = (ups X.1 1 (Int32.toNatClampNeg (X.1 0 1)) p1, X.2) := ⟨_, rfl⟩
      have hw := stp_use hw eX5
      have hP : va_P (dC, dI) classes (wm a cA X5) H := by rw [eX5]; exact hP
      refine lv_aload_n hx hb dX4_letter_37 rfl (lv_at hl 0 rfl) ?_
      refine lv_dup hx hb dX4_letter_38 rfl ?_
      refine va_get (D := (dC, dI)) (ci := 4) (v := .int (X5.1 0 1)) (C := RX4) (T := TX4) (N := 29) hx hb hts iX4 hown hK hP 0 rfl rfl 1 (by decide) (hts _ wd_523) (fun _ h9 => h9) rfl dX4_letter_39 ?_
      refine lv_iconst (v := 1) hx hb dX4_letter_42 (by decide) ?_
      refine lv_iadd hx hb dX4_letter_43 ?_
      refine lv_topi (fun x6 ex6 => ?_)
      have hw := stp_use hw ex6
      refine va_put (D := (dC, dI)) (ci := 4) (v := .int x6) (ty := .int) (C := RX4) (T := TX4) (N := 29) hx hb hts iX4 tyX4 tyX4_ok nmX4 hown hK hP (wmD hD0) hS 0 rfl rfl 1 (by decide) (hts _ wd_523) (fun _ h9 => h9) rfl (by decide +kernel) rfl rfl (Nat.le_of_ble_eq_true rfl) dX4_letter_44 (fun H locs hP hD_ hS => ?_)
      obtain ⟨X7, eX7⟩ : ∃ y : MS, y = (ups X5.1 0 1 x6, X5.2) := ⟨_, rfl⟩
      have hw := stp_use hw eX7
      have hP : va_P (dC, dI) classes (wm a cA X7) H := by rw [eX7]; exact hP
      refine lv_aload_n hx hb dX4_letter_47 rfl (lv_at hl 0 rfl) ?_
      refine va_get (D := (dC, dI)) (ci := 4) (v := .int (X7.1 0 1)) (C := RX4) (T := TX4) (N := 29) hx hb hts iX4 hown hK hP 0 rfl rfl 1 (by decide) (hts _ wd_523) (fun _ h9 => h9) rfl dX4_letter_48 ?_
      exact hret _ _ _ _ _ _ (Option.some.inj hw) hP hS dX4_letter_51
    · have hw := ite_t hw c3
      refine lv_bipush (v := (-104)) hx hb dX4_letter_24 (by decide) ?_
      exact hret _ _ _ _ _ _ (Option.some.inj hw) hP hS dX4_letter_26
  · have hw := ite_t hw c2
    refine lv_bipush (v := (-102)) hx hb dX4_letter_12 (by decide) ?_
    exact hret _ _ _ _ _ _ (Option.some.inj hw) hP hS dX4_letter_14
set_option maxHeartbeats 4000000 in
set_option maxRecDepth 100000 in
theorem c_X1_clear (l : Launch) (dC : Nat → ClassId) (dI : Nat → Nat → Nat) (A : Nat → Prop) (a : Nat → Nat) (cA : ClassId) (X : WS) (out : (Int32 × WS)) (hw : f_X1_clear X = some out) : Met l yX1_clear (.code yX1_clear cX1_clear 2 (some .int) :: lw_g) ({ frames := 0, cells := 0, slots := 0, locals := 0 }) (PcXD dC dI A a cA X [.ref (a 1)]) (va_Qi (fun (r_ : Int32) (X_ : WS) => out = (r_, X_)) (fun X_ t => va_P (dC, dI) classes (wl a cA X_) t.heap ∧ va_K (dC, dI) classes [(cA, .int)] t) A) 0 0 (A) := by
  unfold f_X1_clear at hw
  refine Met.ofW (cc := cX1_clear) (maxL := 2) (ret := (some .int)) (by decide) rfl ?_
  intro p e s m args below meth c s₁ B hml hv
  obtain ⟨rfl, hP, hK, hN, hD0⟩ := hv
  have hx := B.exec
  have hb := B.bytes
  have hr := B.returns
  have hts0 := atoms_spec (ws := (.code yX1_clear cX1_clear 2 (some .int) :: lw_g)) B.pre
  have hts : ∀ w ∈ lw_g, w.before (([.ref (a 1)] : List Value).toArray) s = true := fun w h => hts0 w (List.mem_cons_of_mem _ h)
  clear hts0
  have hown : s.vm.findClass RX1 = some m.cls := findClass_of_methodNamed B.named
  have hlocks := B.notSynchronized
  have hret : ∀ (pc : Nat) (ls : Array Slot) (v : Int32) (X_ : WS) (H : Heap) (locs : List Loc), (v, X_) = out → va_P (dC, dI) classes (wl a cA X_) H → va_S A s.heap H locs → decode cX1_clear pc = .ok (.ireturn, 1) → W p l e ({ frames := 0, cells := 0, slots := 0, locals := 0 }) s m (([.ref (a 1)] : List Value).toArray) below meth c H locs 0 0 (MQ below (va_Qi (fun (r_ : Int32) (X_ : WS) => out = (r_, X_)) (fun X_ t => va_P (dC, dI) classes (wl a cA X_) t.heap ∧ va_K (dC, dI) classes [(cA, .int)] t) A) (([.ref (a 1)] : List Value).toArray) s 0 0 (A)) (F0 m pc ls [.int v]) := fun pc ls v X_ H locs hv hP hS hd => W.iret hx hb hr (fun t ht hW => ⟨⟨v, X_, rfl, hv.symm, by rw [ht]; exact hP, va_K.moved hW.alike hK⟩, hS.F ht⟩) hS.2.2 hd
  show W p l e ({ frames := 0, cells := 0, slots := 0, locals := 0 }) s m (([.ref (a 1)] : List Value).toArray) below meth c s.heap [] 0 0 (MQ below (va_Qi (fun (r_ : Int32) (X_ : WS) => out = (r_, X_)) (fun X_ t => va_P (dC, dI) classes (wl a cA X_) t.heap ∧ va_K (dC, dI) classes [(cA, .int)] t) A) (([.ref (a 1)] : List Value).toArray) s 0 0 (A)) (entryFrame m (([.ref (a 1)] : List Value).toArray) 2)
  generalize MQ below (va_Qi (fun (r_ : Int32) (X_ : WS) => out = (r_, X_)) (fun X_ t => va_P (dC, dI) classes (wl a cA X_) t.heap ∧ va_K (dC, dI) classes [(cA, .int)] t) A) (([.ref (a 1)] : List Value).toArray) s 0 0 (A) = Q at hret ⊢
  have hS : va_S A s.heap s.heap [] := va_S.rf
  have hl := lv_entry ([.ref (a 1)]) (n := 2) (Nat.le_of_ble_eq_true rfl)
  rw [lg_entry_eq]
  generalize (lg_sl ([.ref (a 1)]) ++ List.replicate (2 - (lg_sl ([.ref (a 1)])).length) Slot.unset).toArray = ls at hl ⊢
  have hl : lv_has ls 2 [(0, .ref (a 1))] := hl
  refine lv_aload_n hx hb dX1_clear_0 rfl (lv_at hl 0 rfl) ?_
  refine va_get (D := (dC, dI)) (ci := 1) (v := .int (X 1 1)) (C := RX1) (T := TX1) (N := 2) hx hb hts iX1 hown hK hP 1 rfl rfl 1 (by decide) (hts _ wd_59) (fun _ h9 => h9) rfl dX1_clear_1 ?_
  refine lv_topi (fun x1 ex1 => ?_)
  have hw := stp_use hw ex1
  refine lv_istore_n (lv' := [(1, .int x1), (0, .ref (a 1))]) hx hb dX1_clear_4 rfl hl (by decide) rfl (fun ls hl => ?_)
  refine lv_aload_n hx hb dX1_clear_5 rfl (lv_at hl 1 rfl) ?_
  refine lv_iconst (v := 0) hx hb dX1_clear_6 (by decide) ?_
  refine va_put (D := (dC, dI)) (ci := 1) (v := .int 0) (ty := .int) (C := RX1) (T := TX1) (N := 2) hx hb hts iX1 tyX1 tyX1_ok nmX1 hown hK hP (wlD hD0) hS 1 rfl rfl 1 (by decide) (hts _ wd_59) (fun _ h9 => h9) rfl (by decide +kernel) rfl rfl (Nat.le_of_ble_eq_true rfl) dX1_clear_7 (fun H locs hP hD_ hS => ?_)
  obtain ⟨X2, eX2⟩ : ∃ y : WS, y = (ups X 1 1 0) := ⟨_, rfl⟩
  have hw := stp_use hw eX2
  have hP : va_P (dC, dI) classes (wl a cA X2) H := by rw [eX2]; exact hP
  refine lv_iload_n hx hb dX1_clear_10 rfl (lv_at hl 0 rfl) ?_
  exact hret _ _ _ _ _ _ (Option.some.inj hw) hP hS dX1_clear_11
set_option maxHeartbeats 4000000 in
set_option maxRecDepth 100000 in
theorem c_X3_blank (l : Launch) (dC : Nat → ClassId) (dI : Nat → Nat → Nat) (A : Nat → Prop) (a : Nat → Nat) (cA : ClassId) (X : WS) (out : (Int32 × WS)) (hw : f_X3_blank X = some out) : Met l yX3_blank (.code yX3_blank cX3_blank 1 (some .int) :: lw_g) ({ frames := 1, cells := 0, slots := 0, locals := 21 }) (PcXD dC dI A a cA X [.ref (a 0)]) (va_Qi (fun (r_ : Int32) (X_ : WS) => out = (r_, X_)) (fun X_ t => va_P (dC, dI) classes (wl a cA X_) t.heap ∧ va_K (dC, dI) classes [(cA, .int)] t) A) 0 0 (A) := by
  unfold f_X3_blank at hw
  refine Met.ofW (cc := cX3_blank) (maxL := 1) (ret := (some .int)) (by decide) rfl ?_
  intro p e s m args below meth c s₁ B hml hv
  obtain ⟨rfl, hP, hK, hN, hD0⟩ := hv
  have hx := B.exec
  have hb := B.bytes
  have hr := B.returns
  have hts0 := atoms_spec (ws := (.code yX3_blank cX3_blank 1 (some .int) :: lw_g)) B.pre
  have hts : ∀ w ∈ lw_g, w.before (([.ref (a 0)] : List Value).toArray) s = true := fun w h => hts0 w (List.mem_cons_of_mem _ h)
  clear hts0
  have hown : s.vm.findClass RX3 = some m.cls := findClass_of_methodNamed B.named
  have hlocks := B.notSynchronized
  have hret : ∀ (pc : Nat) (ls : Array Slot) (v : Int32) (X_ : WS) (H : Heap) (locs : List Loc), (v, X_) = out → va_P (dC, dI) classes (wl a cA X_) H → va_S A s.heap H locs → decode cX3_blank pc = .ok (.ireturn, 1) → W p l e ({ frames := 1, cells := 0, slots := 0, locals := 21 }) s m (([.ref (a 0)] : List Value).toArray) below meth c H locs 0 0 (MQ below (va_Qi (fun (r_ : Int32) (X_ : WS) => out = (r_, X_)) (fun X_ t => va_P (dC, dI) classes (wl a cA X_) t.heap ∧ va_K (dC, dI) classes [(cA, .int)] t) A) (([.ref (a 0)] : List Value).toArray) s 0 0 (A)) (F0 m pc ls [.int v]) := fun pc ls v X_ H locs hv hP hS hd => W.iret hx hb hr (fun t ht hW => ⟨⟨v, X_, rfl, hv.symm, by rw [ht]; exact hP, va_K.moved hW.alike hK⟩, hS.F ht⟩) hS.2.2 hd
  show W p l e ({ frames := 1, cells := 0, slots := 0, locals := 21 }) s m (([.ref (a 0)] : List Value).toArray) below meth c s.heap [] 0 0 (MQ below (va_Qi (fun (r_ : Int32) (X_ : WS) => out = (r_, X_)) (fun X_ t => va_P (dC, dI) classes (wl a cA X_) t.heap ∧ va_K (dC, dI) classes [(cA, .int)] t) A) (([.ref (a 0)] : List Value).toArray) s 0 0 (A)) (entryFrame m (([.ref (a 0)] : List Value).toArray) 1)
  generalize MQ below (va_Qi (fun (r_ : Int32) (X_ : WS) => out = (r_, X_)) (fun X_ t => va_P (dC, dI) classes (wl a cA X_) t.heap ∧ va_K (dC, dI) classes [(cA, .int)] t) A) (([.ref (a 0)] : List Value).toArray) s 0 0 (A) = Q at hret ⊢
  have hS : va_S A s.heap s.heap [] := va_S.rf
  have hl := lv_entry ([.ref (a 0)]) (n := 1) (Nat.le_of_ble_eq_true rfl)
  rw [lg_entry_eq]
  generalize (lg_sl ([.ref (a 0)]) ++ List.replicate (1 - (lg_sl ([.ref (a 0)])).length) Slot.unset).toArray = ls at hl ⊢
  have hl : lv_has ls 1 [(0, .ref (a 0))] := hl
  refine lv_aload_n hx hb dX3_blank_0 rfl (lv_at hl 0 rfl) ?_
  refine va_get (D := (dC, dI)) (ci := 3) (v := .ref (a 1)) (C := RX3) (T := TX3) (N := 6) hx hb hts iX3 hown hK hP 0 rfl rfl 0 (by decide) (hts _ wd_178) (fun _ h9 => h9) rfl dX3_blank_1 ?_
  obtain ⟨r1, X2, er1, hw⟩ := bnd2_use hw
  refine va_calli (va_runV (As := []) (rest := []) ⟨hx, hb, hml, hown, hts⟩ (c_X1_clear l dC dI A a cA X (r1, X2) er1) ⟨callB_of 0 hts gd_X1_clear rfl rfl rfl (hts _ wd_36) (hts _ wd_209) hd_X1_clear ⟨Nat.le_of_ble_eq_true rfl, Nat.le_of_ble_eq_true rfl⟩, hts _ wd_210, hts _ wd_211⟩ ⟨blXD, va_recv hK hP (ci := 1) (q0 := 1) rfl rfl, fun U hU hW => ⟨rfl, by rw [hU]; exact hP, va_K.moved hW.alike hK, nst.warm hW hN, wlD hD0⟩⟩ rfl rfl hl.1 rfl (lv_room (Nat.le_of_ble_eq_true rfl)) dX3_blank_4 ⟨Nat.zero_le _, Nat.zero_le _⟩) hS (fun _ _ h => h) (fun _ h => h) (fun r_ u_ t_ H1 locs1 ht hvm hp_ hB hz1 hk1 hS1 => ?_)
  obtain ⟨q1_, q2_⟩ := Prod.mk.inj hp_
  subst q1_
  subst q2_
  obtain ⟨hP1, hK1⟩ := hB
  rw [ht] at hP1
  have hP := hP1
  have hS := hS1
  exact hret _ _ _ _ _ _ (Option.some.inj hw) hP hS dX3_blank_7
set_option maxHeartbeats 4000000 in
set_option maxRecDepth 100000 in
theorem c_X4_blank (l : Launch) (dC : Nat → ClassId) (dI : Nat → Nat → Nat) (A : Nat → Prop) (a : Nat → Nat) (cA : ClassId) (X : MS) (out : (Int32 × MS)) (hw : f_X4_blank X = some out) : Met l yX4_blank (.code yX4_blank cX4_blank 2 (some .int) :: lw_g) ({ frames := 0, cells := 0, slots := 0, locals := 0 }) (PcMD dC dI A a cA X [.ref (a 0)]) (va_Qi (fun (r_ : Int32) (X_ : MS) => out = (r_, X_)) (fun X_ t => va_P (dC, dI) classes (wm a cA X_) t.heap ∧ va_K (dC, dI) classes [(cA, .int)] t) A) 0 0 (A) := by
  unfold f_X4_blank at hw
  refine Met.ofW (cc := cX4_blank) (maxL := 2) (ret := (some .int)) (by decide) rfl ?_
  intro p e s m args below meth c s₁ B hml hv
  obtain ⟨rfl, hP, hK, hD0⟩ := hv
  have hx := B.exec
  have hb := B.bytes
  have hr := B.returns
  have hts0 := atoms_spec (ws := (.code yX4_blank cX4_blank 2 (some .int) :: lw_g)) B.pre
  have hts : ∀ w ∈ lw_g, w.before (([.ref (a 0)] : List Value).toArray) s = true := fun w h => hts0 w (List.mem_cons_of_mem _ h)
  clear hts0
  have hown : s.vm.findClass RX4 = some m.cls := findClass_of_methodNamed B.named
  have hlocks := B.notSynchronized
  have hret : ∀ (pc : Nat) (ls : Array Slot) (v : Int32) (X_ : MS) (H : Heap) (locs : List Loc), (v, X_) = out → va_P (dC, dI) classes (wm a cA X_) H → va_S A s.heap H locs → decode cX4_blank pc = .ok (.ireturn, 1) → W p l e ({ frames := 0, cells := 0, slots := 0, locals := 0 }) s m (([.ref (a 0)] : List Value).toArray) below meth c H locs 0 0 (MQ below (va_Qi (fun (r_ : Int32) (X_ : MS) => out = (r_, X_)) (fun X_ t => va_P (dC, dI) classes (wm a cA X_) t.heap ∧ va_K (dC, dI) classes [(cA, .int)] t) A) (([.ref (a 0)] : List Value).toArray) s 0 0 (A)) (F0 m pc ls [.int v]) := fun pc ls v X_ H locs hv hP hS hd => W.iret hx hb hr (fun t ht hW => ⟨⟨v, X_, rfl, hv.symm, by rw [ht]; exact hP, va_K.moved hW.alike hK⟩, hS.F ht⟩) hS.2.2 hd
  show W p l e ({ frames := 0, cells := 0, slots := 0, locals := 0 }) s m (([.ref (a 0)] : List Value).toArray) below meth c s.heap [] 0 0 (MQ below (va_Qi (fun (r_ : Int32) (X_ : MS) => out = (r_, X_)) (fun X_ t => va_P (dC, dI) classes (wm a cA X_) t.heap ∧ va_K (dC, dI) classes [(cA, .int)] t) A) (([.ref (a 0)] : List Value).toArray) s 0 0 (A)) (entryFrame m (([.ref (a 0)] : List Value).toArray) 2)
  generalize MQ below (va_Qi (fun (r_ : Int32) (X_ : MS) => out = (r_, X_)) (fun X_ t => va_P (dC, dI) classes (wm a cA X_) t.heap ∧ va_K (dC, dI) classes [(cA, .int)] t) A) (([.ref (a 0)] : List Value).toArray) s 0 0 (A) = Q at hret ⊢
  have hS : va_S A s.heap s.heap [] := va_S.rf
  have hl := lv_entry ([.ref (a 0)]) (n := 2) (Nat.le_of_ble_eq_true rfl)
  rw [lg_entry_eq]
  generalize (lg_sl ([.ref (a 0)]) ++ List.replicate (2 - (lg_sl ([.ref (a 0)])).length) Slot.unset).toArray = ls at hl ⊢
  have hl : lv_has ls 2 [(0, .ref (a 0))] := hl
  refine lv_aload_n hx hb dX4_blank_0 rfl (lv_at hl 0 rfl) ?_
  refine va_get (D := (dC, dI)) (ci := 4) (v := .int (X.1 0 1)) (C := RX4) (T := TX4) (N := 29) hx hb hts iX4 hown hK hP 0 rfl rfl 1 (by decide) (hts _ wd_523) (fun _ h9 => h9) rfl dX4_blank_1 ?_
  refine lv_topi (fun x1 ex1 => ?_)
  have hw := stp_use hw ex1
  refine lv_istore_n (lv' := [(1, .int x1), (0, .ref (a 0))]) hx hb dX4_blank_4 rfl hl (by decide) rfl (fun ls hl => ?_)
  refine lv_aload_n hx hb dX4_blank_5 rfl (lv_at hl 1 rfl) ?_
  refine lv_iconst (v := 0) hx hb dX4_blank_6 (by decide) ?_
  refine va_put (D := (dC, dI)) (ci := 4) (v := .int 0) (ty := .int) (C := RX4) (T := TX4) (N := 29) hx hb hts iX4 tyX4 tyX4_ok nmX4 hown hK hP (wmD hD0) hS 0 rfl rfl 1 (by decide) (hts _ wd_523) (fun _ h9 => h9) rfl (by decide +kernel) rfl rfl (Nat.le_of_ble_eq_true rfl) dX4_blank_7 (fun H locs hP hD_ hS => ?_)
  obtain ⟨X2, eX2⟩ : ∃ y : MS, y = (ups X.1 0 1 0, X.2) := ⟨_, rfl⟩
  have hw := stp_use hw eX2
  have hP : va_P (dC, dI) classes (wm a cA X2) H := by rw [eX2]; exact hP
  refine lv_iload_n hx hb dX4_blank_10 rfl (lv_at hl 0 rfl) ?_
  exact hret _ _ _ _ _ _ (Option.some.inj hw) hP hS dX4_blank_11
set_option maxHeartbeats 4000000 in
set_option maxRecDepth 100000 in
theorem c_X1_fits (l : Launch) (p0 : Int32) (p1 : Int32) (out : Int32) (hw : f_X1_fits p0 p1 = some out) : Met l yX1_fits (.code yX1_fits cX1_fits 2 (some .boolean) :: lw_g) ({ frames := 0, cells := 0, slots := 0, locals := 0 }) (Pc0 [.int p0, .int p1]) (vp_Si (fun r_ => r_ = out)) 0 0 (fun _ => False) := by
  unfold f_X1_fits at hw
  refine Met.ofW (cc := cX1_fits) (maxL := 2) (ret := (some .boolean)) (by decide) rfl ?_
  intro p e s m args below meth c s₁ B hml hv
  obtain ⟨rfl, -⟩ := hv
  have hx := B.exec
  have hb := B.bytes
  have hr := B.returns
  have hts0 := atoms_spec (ws := (.code yX1_fits cX1_fits 2 (some .boolean) :: lw_g)) B.pre
  have hts : ∀ w ∈ lw_g, w.before (([.int p0, .int p1] : List Value).toArray) s = true := fun w h => hts0 w (List.mem_cons_of_mem _ h)
  clear hts0
  have hown : s.vm.findClass RX1 = some m.cls := findClass_of_methodNamed B.named
  have hlocks := B.notSynchronized
  have hret : ∀ (pc : Nat) (ls : Array Slot) (v : Int32), v = out → (hz : narrow .boolean (.int v) = .int v) → decode cX1_fits pc = .ok (.ireturn, 1) → W p l e ({ frames := 0, cells := 0, slots := 0, locals := 0 }) s m (([.int p0, .int p1] : List Value).toArray) below meth c s.heap [] 0 0 (MQ below (vp_Si (fun r_ => r_ = out)) (([.int p0, .int p1] : List Value).toArray) s 0 0 (fun _ => False)) (F0 m pc ls [.int v]) := fun pc ls v hv hz hd => W.zret hx hb hr hz (fun t ht hW => ⟨v, rfl, hv, ht⟩) (fun q hq => absurd hq List.not_mem_nil) hd
  show W p l e ({ frames := 0, cells := 0, slots := 0, locals := 0 }) s m (([.int p0, .int p1] : List Value).toArray) below meth c s.heap [] 0 0 (MQ below (vp_Si (fun r_ => r_ = out)) (([.int p0, .int p1] : List Value).toArray) s 0 0 (fun _ => False)) (entryFrame m (([.int p0, .int p1] : List Value).toArray) 2)
  generalize MQ below (vp_Si (fun r_ => r_ = out)) (([.int p0, .int p1] : List Value).toArray) s 0 0 (fun _ => False) = Q at hret ⊢
  have hl := lv_entry ([.int p0, .int p1]) (n := 2) (Nat.le_of_ble_eq_true rfl)
  rw [lg_entry_eq]
  generalize (lg_sl ([.int p0, .int p1]) ++ List.replicate (2 - (lg_sl ([.int p0, .int p1])).length) Slot.unset).toArray = ls at hl ⊢
  have hl : lv_has ls 2 [(0, .int p0), (1, .int p1)] := hl
  refine lv_iload_n hx hb dX1_fits_0 rfl (lv_at hl 0 rfl) ?_
  refine lv_bipush (v := 6) hx hb dX1_fits_1 (by decide) ?_
  refine lv_icmp_ge (tgt := 24) hx hb dX1_fits_3 (by decide) (fun c1 => ?_) (fun c1 => ?_)
  · have hw := ite_t hw c1
    refine lv_iload_n hx hb dX1_fits_24 rfl (lv_at hl 0 rfl) ?_
    by_cases c2 : p0 = 6
    · have hw := ite_t hw c2
      refine lv_tableIn (off := 27) (tgt := 52) hx hb dX1_fits_25 (by rw [c2]; decide) (by rw [c2]; decide) (by rw [c2]; rfl) (by decide) ?_
      refine lv_iload_n hx hb dX1_fits_52 rfl (lv_at hl 1 rfl) ?_
      refine lv_bipush (v := 59) hx hb dX1_fits_53 (by decide) ?_
      refine lv_icmp_ne (tgt := 62) hx hb dX1_fits_55 (by decide) (fun c3 => ?_) (fun c3 => ?_)
      · have hw := ite_f hw c3
        refine lv_iconst (v := 0) hx hb dX1_fits_62 (by decide) ?_
        exact hret _ _ _ (Option.some.inj hw) rfl dX1_fits_63
      · have hw := ite_t hw c3
        refine lv_iconst (v := 1) hx hb dX1_fits_58 (by decide) ?_
        refine lv_goto (tgt := 63) hx hb dX1_fits_59 (by decide) ?_
        exact hret _ _ _ (Option.some.inj hw) rfl dX1_fits_63
    have hw := ite_f hw c2
    by_cases c4 : p0 = 7
    · have hw := ite_t hw c4
      refine lv_tableIn (off := 39) (tgt := 64) hx hb dX1_fits_25 (by rw [c4]; decide) (by rw [c4]; decide) (by rw [c4]; rfl) (by decide) ?_
      refine lv_iload_n hx hb dX1_fits_64 rfl (lv_at hl 1 rfl) ?_
      refine lv_bipush (v := 49) hx hb dX1_fits_65 (by decide) ?_
      refine lv_icmp_lt (tgt := 80) hx hb dX1_fits_67 (by decide) (fun c5 => ?_) (fun c5 => ?_)
      · have hw := ite_t hw c5
        refine lv_iconst (v := 0) hx hb dX1_fits_80 (by decide) ?_
        exact hret _ _ _ (Option.some.inj hw) rfl dX1_fits_81
      · have hw := ite_f hw c5
        refine lv_iload_n hx hb dX1_fits_70 rfl (lv_at hl 1 rfl) ?_
        refine lv_bipush (v := 57) hx hb dX1_fits_71 (by decide) ?_
        refine lv_icmp_gt (tgt := 80) hx hb dX1_fits_73 (by decide) (fun c6 => ?_) (fun c6 => ?_)
        · have hw := ite_t hw c6
          refine lv_iconst (v := 0) hx hb dX1_fits_80 (by decide) ?_
          exact hret _ _ _ (Option.some.inj hw) rfl dX1_fits_81
        · have hw := ite_f hw c6
          refine lv_iconst (v := 1) hx hb dX1_fits_76 (by decide) ?_
          refine lv_goto (tgt := 81) hx hb dX1_fits_77 (by decide) ?_
          exact hret _ _ _ (Option.some.inj hw) rfl dX1_fits_81
    have hw := ite_f hw c4
    by_cases c7 : p0 = 8
    · have hw := ite_t hw c7
      refine lv_tableIn (off := 57) (tgt := 82) hx hb dX1_fits_25 (by rw [c7]; decide) (by rw [c7]; decide) (by rw [c7]; rfl) (by decide) ?_
      refine lv_iload_n hx hb dX1_fits_82 rfl (lv_at hl 1 rfl) ?_
      refine lv_bipush (v := 49) hx hb dX1_fits_83 (by decide) ?_
      refine lv_icmp_lt (tgt := 98) hx hb dX1_fits_85 (by decide) (fun c8 => ?_) (fun c8 => ?_)
      · have hw := ite_t hw c8
        refine lv_iconst (v := 0) hx hb dX1_fits_98 (by decide) ?_
        exact hret _ _ _ (Option.some.inj hw) rfl dX1_fits_99
      · have hw := ite_f hw c8
        refine lv_iload_n hx hb dX1_fits_88 rfl (lv_at hl 1 rfl) ?_
        refine lv_bipush (v := 53) hx hb dX1_fits_89 (by decide) ?_
        refine lv_icmp_gt (tgt := 98) hx hb dX1_fits_91 (by decide) (fun c9 => ?_) (fun c9 => ?_)
        · have hw := ite_t hw c9
          refine lv_iconst (v := 0) hx hb dX1_fits_98 (by decide) ?_
          exact hret _ _ _ (Option.some.inj hw) rfl dX1_fits_99
        · have hw := ite_f hw c9
          refine lv_iconst (v := 1) hx hb dX1_fits_94 (by decide) ?_
          refine lv_goto (tgt := 99) hx hb dX1_fits_95 (by decide) ?_
          exact hret _ _ _ (Option.some.inj hw) rfl dX1_fits_99
    have hw := ite_f hw c7
    refine lv_tableOut (tgt := 100) hx hb dX1_fits_25 (by have qc2 := i32_ne c2 (z := 6) (by decide); have qc4 := i32_ne c4 (z := 7) (by decide); have qc7 := i32_ne c7 (z := 8) (by decide); omega) (by decide) ?_
    refine lv_iconst (v := 0) hx hb dX1_fits_100 (by decide) ?_
    exact hret _ _ _ (Option.some.inj hw) rfl dX1_fits_101
  · have hw := ite_f hw c1
    refine lv_iload_n hx hb dX1_fits_6 rfl (lv_at hl 1 rfl) ?_
    refine lv_bipush (v := 48) hx hb dX1_fits_7 (by decide) ?_
    refine lv_icmp_lt (tgt := 22) hx hb dX1_fits_9 (by decide) (fun c10 => ?_) (fun c10 => ?_)
    · have hw := ite_t hw c10
      refine lv_iconst (v := 0) hx hb dX1_fits_22 (by decide) ?_
      exact hret _ _ _ (Option.some.inj hw) rfl dX1_fits_23
    · have hw := ite_f hw c10
      refine lv_iload_n hx hb dX1_fits_12 rfl (lv_at hl 1 rfl) ?_
      refine lv_bipush (v := 57) hx hb dX1_fits_13 (by decide) ?_
      refine lv_icmp_gt (tgt := 22) hx hb dX1_fits_15 (by decide) (fun c11 => ?_) (fun c11 => ?_)
      · have hw := ite_t hw c11
        refine lv_iconst (v := 0) hx hb dX1_fits_22 (by decide) ?_
        exact hret _ _ _ (Option.some.inj hw) rfl dX1_fits_23
      · have hw := ite_f hw c11
        refine lv_iconst (v := 1) hx hb dX1_fits_18 (by decide) ?_
        refine lv_goto (tgt := 23) hx hb dX1_fits_19 (by decide) ?_
        exact hret _ _ _ (Option.some.inj hw) rfl dX1_fits_23
set_option maxHeartbeats 4000000 in
set_option maxRecDepth 100000 in
theorem c_X1_firstWrong (l : Launch) (dC : Nat → ClassId) (dI : Nat → Nat → Nat) (a : Nat → Nat) (cA : ClassId) (X : WS) (out : Int32) (hw : f_X1_firstWrong X = some out) : Met l yX1_firstWrong (.code yX1_firstWrong cX1_firstWrong 2 (some .int) :: lw_g) ({ frames := 1, cells := 0, slots := 0, locals := 21 }) (PcX dC dI a cA X [.ref (a 1)]) (vp_Si (fun r_ => r_ = out)) 0 0 (fun _ => False) := by
  unfold f_X1_firstWrong at hw
  refine Met.ofW (cc := cX1_firstWrong) (maxL := 2) (ret := (some .int)) (by decide) rfl ?_
  intro p e s m args below meth c s₁ B hml hv
  obtain ⟨rfl, hP, hK, hN⟩ := hv
  have hx := B.exec
  have hb := B.bytes
  have hr := B.returns
  have hts0 := atoms_spec (ws := (.code yX1_firstWrong cX1_firstWrong 2 (some .int) :: lw_g)) B.pre
  have hts : ∀ w ∈ lw_g, w.before (([.ref (a 1)] : List Value).toArray) s = true := fun w h => hts0 w (List.mem_cons_of_mem _ h)
  clear hts0
  have hown : s.vm.findClass RX1 = some m.cls := findClass_of_methodNamed B.named
  have hlocks := B.notSynchronized
  have hret : ∀ (pc : Nat) (ls : Array Slot) (v : Int32), v = out → decode cX1_firstWrong pc = .ok (.ireturn, 1) → W p l e ({ frames := 1, cells := 0, slots := 0, locals := 21 }) s m (([.ref (a 1)] : List Value).toArray) below meth c s.heap [] 0 0 (MQ below (vp_Si (fun r_ => r_ = out)) (([.ref (a 1)] : List Value).toArray) s 0 0 (fun _ => False)) (F0 m pc ls [.int v]) := fun pc ls v hv hd => W.iret hx hb hr (fun t ht hW => ⟨v, rfl, hv, ht⟩) (fun q hq => absurd hq List.not_mem_nil) hd
  show W p l e ({ frames := 1, cells := 0, slots := 0, locals := 21 }) s m (([.ref (a 1)] : List Value).toArray) below meth c s.heap [] 0 0 (MQ below (vp_Si (fun r_ => r_ = out)) (([.ref (a 1)] : List Value).toArray) s 0 0 (fun _ => False)) (entryFrame m (([.ref (a 1)] : List Value).toArray) 2)
  generalize MQ below (vp_Si (fun r_ => r_ = out)) (([.ref (a 1)] : List Value).toArray) s 0 0 (fun _ => False) = Q at hret ⊢
  have L2 : ∀ n : Nat, ∀ (v1 : Int32), g_X1_firstWrong_2 X n v1 = some out → ∀ ls : Array Slot, lv_has ls 2 [(0, .ref (a 1)), (1, .int v1)] → W p l e ({ frames := 1, cells := 0, slots := 0, locals := 21 }) s m (([.ref (a 1)] : List Value).toArray) below meth c s.heap [] 0 0 Q (F0 m 2 ls []) := by
    intro n
    induction n with
    | zero =>
      intro v1 hw
      rw [g_X1_firstWrong_2] at hw
      cases hw
    | succ n ih =>
      intro v1 hw ls hl
      rw [g_X1_firstWrong_2] at hw
      refine lv_iload_n hx hb dX1_firstWrong_2 rfl (lv_at hl 1 rfl) ?_
      refine lv_aload_n hx hb dX1_firstWrong_3 rfl (lv_at hl 0 rfl) ?_
      refine va_get (D := (dC, dI)) (ci := 1) (v := .int (X 1 1)) (C := RX1) (T := TX1) (N := 2) hx hb hts iX1 hown hK hP 1 rfl rfl 1 (by decide) (hts _ wd_59) (fun _ h9 => h9) rfl dX1_firstWrong_4 ?_
      refine lv_icmp_ge (tgt := 29) hx hb dX1_firstWrong_7 (by decide) (fun c1 => ?_) (fun c1 => ?_)
      · have hw := ite_t hw c1
        refine lv_iload_n hx hb dX1_firstWrong_29 rfl (lv_at hl 1 rfl) ?_
        exact hret _ _ _ (Option.some.inj hw) dX1_firstWrong_30
      · have hw := ite_f hw c1
        refine lv_iload_n hx hb dX1_firstWrong_10 rfl (lv_at hl 1 rfl) ?_
        refine lv_aload_n hx hb dX1_firstWrong_11 rfl (lv_at hl 0 rfl) ?_
        refine va_get (D := (dC, dI)) (ci := 1) (v := .ref (a 2)) (C := RX1) (T := TX1) (N := 2) hx hb hts iX1 hown hK hP 1 rfl rfl 0 (by decide) (hts _ wd_57) (fun _ h9 => h9) rfl dX1_firstWrong_12 ?_
        refine lv_iload_n hx hb dX1_firstWrong_15 rfl (lv_at hl 1 rfl) ?_
        obtain ⟨h2, hw⟩ := ixc_use hw
        refine va_iald hx hb hK hP 2 0 rfl rfl h2 dX1_firstWrong_16 ?_
        obtain ⟨r3, er3, hw⟩ := Option.bind_eq_some_iff.mp hw
        refine vp_callSi (va_runS (As := [.int v1, .int (X 2 (Int32.toNatClampNeg v1))]) (rest := []) ⟨hx, hb, hml, hown, hts⟩ (c_X1_fits l v1 (X 2 (Int32.toNatClampNeg v1)) r3 er3) ⟨callB_of 2 hts gd_X1_fits rfl rfl rfl (hts _ wd_36) (hts _ wd_221) hd_X1_fits ⟨Nat.le_of_ble_eq_true rfl, Nat.le_of_ble_eq_true rfl⟩, hts _ wd_222⟩ ⟨bl0, fun U hU hW => ⟨rfl, trivial⟩⟩ rfl rfl hl.1 rfl (lv_room (Nat.le_of_ble_eq_true rfl)) dX1_firstWrong_17 ⟨Nat.zero_le _, Nat.zero_le _⟩).run (fun r_ e_ => ?_)
        subst r_
        refine lv_if_eq (tgt := 29) hx hb dX1_firstWrong_20 (by decide) (fun c4 => ?_) (fun c4 => ?_)
        · have hw := ite_t hw c4
          refine lv_iload_n hx hb dX1_firstWrong_29 rfl (lv_at hl 1 rfl) ?_
          exact hret _ _ _ (Option.some.inj hw) dX1_firstWrong_30
        · have hw := ite_f hw c4
          obtain ⟨x5, ex5⟩ : ∃ y : Int32, y = (v1 + 1) := ⟨_, rfl⟩
          have hw := stp_use hw ex5
          refine lv_iinc (v := x5) (lv' := [(1, .int x5), (0, .ref (a 1))]) hx hb dX1_firstWrong_23 hl (k := 1) rfl (by rw [ex5]; rfl) (by decide) rfl (fun ls hl => ?_)
          refine lv_goto (tgt := 2) hx hb dX1_firstWrong_26 (by decide) ?_
          exact ih x5 hw ls (lv_sub hl [1, 0] rfl)
  have hl := lv_entry ([.ref (a 1)]) (n := 2) (Nat.le_of_ble_eq_true rfl)
  rw [lg_entry_eq]
  generalize (lg_sl ([.ref (a 1)]) ++ List.replicate (2 - (lg_sl ([.ref (a 1)])).length) Slot.unset).toArray = ls at hl ⊢
  have hl : lv_has ls 2 [(0, .ref (a 1))] := hl
  refine lv_iconst (v := 0) hx hb dX1_firstWrong_0 (by decide) ?_
  refine lv_istore_n (lv' := [(1, .int 0), (0, .ref (a 1))]) hx hb dX1_firstWrong_1 rfl hl (by decide) rfl (fun ls hl => ?_)
  exact L2 NF 0 hw ls (lv_sub hl [1, 0] rfl)
set_option maxHeartbeats 4000000 in
set_option maxRecDepth 100000 in
theorem c_X3_fault (l : Launch) (dC : Nat → ClassId) (dI : Nat → Nat → Nat) (a : Nat → Nat) (cA : ClassId) (X : WS) (out : Int32) (hw : f_X3_fault X = some out) : Met l yX3_fault (.code yX3_fault cX3_fault 1 (some .int) :: lw_g) ({ frames := 2, cells := 0, slots := 0, locals := 42 }) (PcX dC dI a cA X [.ref (a 0)]) (vp_Si (fun r_ => r_ = out)) 0 0 (fun _ => False) := by
  unfold f_X3_fault at hw
  refine Met.ofW (cc := cX3_fault) (maxL := 1) (ret := (some .int)) (by decide) rfl ?_
  intro p e s m args below meth c s₁ B hml hv
  obtain ⟨rfl, hP, hK, hN⟩ := hv
  have hx := B.exec
  have hb := B.bytes
  have hr := B.returns
  have hts0 := atoms_spec (ws := (.code yX3_fault cX3_fault 1 (some .int) :: lw_g)) B.pre
  have hts : ∀ w ∈ lw_g, w.before (([.ref (a 0)] : List Value).toArray) s = true := fun w h => hts0 w (List.mem_cons_of_mem _ h)
  clear hts0
  have hown : s.vm.findClass RX3 = some m.cls := findClass_of_methodNamed B.named
  have hlocks := B.notSynchronized
  have hret : ∀ (pc : Nat) (ls : Array Slot) (v : Int32), v = out → decode cX3_fault pc = .ok (.ireturn, 1) → W p l e ({ frames := 2, cells := 0, slots := 0, locals := 42 }) s m (([.ref (a 0)] : List Value).toArray) below meth c s.heap [] 0 0 (MQ below (vp_Si (fun r_ => r_ = out)) (([.ref (a 0)] : List Value).toArray) s 0 0 (fun _ => False)) (F0 m pc ls [.int v]) := fun pc ls v hv hd => W.iret hx hb hr (fun t ht hW => ⟨v, rfl, hv, ht⟩) (fun q hq => absurd hq List.not_mem_nil) hd
  show W p l e ({ frames := 2, cells := 0, slots := 0, locals := 42 }) s m (([.ref (a 0)] : List Value).toArray) below meth c s.heap [] 0 0 (MQ below (vp_Si (fun r_ => r_ = out)) (([.ref (a 0)] : List Value).toArray) s 0 0 (fun _ => False)) (entryFrame m (([.ref (a 0)] : List Value).toArray) 1)
  generalize MQ below (vp_Si (fun r_ => r_ = out)) (([.ref (a 0)] : List Value).toArray) s 0 0 (fun _ => False) = Q at hret ⊢
  have hl := lv_entry ([.ref (a 0)]) (n := 1) (Nat.le_of_ble_eq_true rfl)
  rw [lg_entry_eq]
  generalize (lg_sl ([.ref (a 0)]) ++ List.replicate (1 - (lg_sl ([.ref (a 0)])).length) Slot.unset).toArray = ls at hl ⊢
  have hl : lv_has ls 1 [(0, .ref (a 0))] := hl
  refine lv_aload_n hx hb dX3_fault_0 rfl (lv_at hl 0 rfl) ?_
  refine va_get (D := (dC, dI)) (ci := 3) (v := .ref (a 1)) (C := RX3) (T := TX3) (N := 6) hx hb hts iX3 hown hK hP 0 rfl rfl 0 (by decide) (hts _ wd_178) (fun _ h9 => h9) rfl dX3_fault_1 ?_
  obtain ⟨r1, er1, hw⟩ := Option.bind_eq_some_iff.mp hw
  refine vp_callSi (va_runV (As := []) (rest := []) ⟨hx, hb, hml, hown, hts⟩ (c_X1_firstWrong l dC dI a cA X r1 er1) ⟨callB_of 0 hts gd_X1_firstWrong rfl rfl rfl (hts _ wd_36) (hts _ wd_217) hd_X1_firstWrong ⟨Nat.le_of_ble_eq_true rfl, Nat.le_of_ble_eq_true rfl⟩, hts _ wd_218, hts _ wd_219⟩ ⟨blX, va_recv hK hP (ci := 1) (q0 := 1) rfl rfl, fun U hU hW => ⟨rfl, by rw [hU]; exact hP, va_K.moved hW.alike hK, nst.warm hW hN⟩⟩ rfl rfl hl.1 rfl (lv_room (Nat.le_of_ble_eq_true rfl)) dX3_fault_4 ⟨Nat.zero_le _, Nat.zero_le _⟩).run (fun r_ e_ => ?_)
  subst r_
  exact hret _ _ _ (Option.some.inj hw) dX3_fault_7
set_option maxHeartbeats 4000000 in
set_option maxRecDepth 100000 in
theorem c_X4_isGood (l : Launch) (p0 : Int32) (p1 : Int32) (out : Int32) (hw : f_X4_isGood p0 p1 = some out) : Met l yX4_isGood (.code yX4_isGood cX4_isGood 3 (some .boolean) :: lw_g) ({ frames := 1, cells := 0, slots := 0, locals := 25 }) (Pc0 [.int p0, .int p1]) (vp_Si (fun r_ => r_ = out)) 0 0 (fun _ => False) := by
  unfold f_X4_isGood at hw
  refine Met.ofW (cc := cX4_isGood) (maxL := 3) (ret := (some .boolean)) (by decide) rfl ?_
  intro p e s m args below meth c s₁ B hml hv
  obtain ⟨rfl, -⟩ := hv
  have hx := B.exec
  have hb := B.bytes
  have hr := B.returns
  have hts0 := atoms_spec (ws := (.code yX4_isGood cX4_isGood 3 (some .boolean) :: lw_g)) B.pre
  have hts : ∀ w ∈ lw_g, w.before (([.int p0, .int p1] : List Value).toArray) s = true := fun w h => hts0 w (List.mem_cons_of_mem _ h)
  clear hts0
  have hown : s.vm.findClass RX4 = some m.cls := findClass_of_methodNamed B.named
  have hlocks := B.notSynchronized
  have hret : ∀ (pc : Nat) (ls : Array Slot) (v : Int32), v = out → (hz : narrow .boolean (.int v) = .int v) → decode cX4_isGood pc = .ok (.ireturn, 1) → W p l e ({ frames := 1, cells := 0, slots := 0, locals := 25 }) s m (([.int p0, .int p1] : List Value).toArray) below meth c s.heap [] 0 0 (MQ below (vp_Si (fun r_ => r_ = out)) (([.int p0, .int p1] : List Value).toArray) s 0 0 (fun _ => False)) (F0 m pc ls [.int v]) := fun pc ls v hv hz hd => W.zret hx hb hr hz (fun t ht hW => ⟨v, rfl, hv, ht⟩) (fun q hq => absurd hq List.not_mem_nil) hd
  show W p l e ({ frames := 1, cells := 0, slots := 0, locals := 25 }) s m (([.int p0, .int p1] : List Value).toArray) below meth c s.heap [] 0 0 (MQ below (vp_Si (fun r_ => r_ = out)) (([.int p0, .int p1] : List Value).toArray) s 0 0 (fun _ => False)) (entryFrame m (([.int p0, .int p1] : List Value).toArray) 3)
  generalize MQ below (vp_Si (fun r_ => r_ = out)) (([.int p0, .int p1] : List Value).toArray) s 0 0 (fun _ => False) = Q at hret ⊢
  have hl := lv_entry ([.int p0, .int p1]) (n := 3) (Nat.le_of_ble_eq_true rfl)
  rw [lg_entry_eq]
  generalize (lg_sl ([.int p0, .int p1]) ++ List.replicate (3 - (lg_sl ([.int p0, .int p1])).length) Slot.unset).toArray = ls at hl ⊢
  have hl : lv_has ls 3 [(0, .int p0), (1, .int p1)] := hl
  refine lv_iload_n hx hb dX4_isGood_0 rfl (lv_at hl 1 rfl) ?_
  refine lv_bipush (v := 48) hx hb dX4_isGood_1 (by decide) ?_
  refine lv_isub hx hb dX4_isGood_3 ?_
  refine lv_topi (fun x1 ex1 => ?_)
  have hw := stp_use hw ex1
  refine lv_istore_n (lv' := [(2, .int x1), (0, .int p0), (1, .int p1)]) hx hb dX4_isGood_4 rfl hl (by decide) rfl (fun ls hl => ?_)
  refine lv_iload_n hx hb dX4_isGood_5 rfl (lv_at hl 1 rfl) ?_
  refine lv_bipush (v := 6) hx hb dX4_isGood_6 (by decide) ?_
  refine lv_icmp_ne (tgt := 23) hx hb dX4_isGood_8 (by decide) (fun c2 => ?_) (fun c2 => ?_)
  · have hw := ite_f hw c2
    refine lv_iload_n hx hb dX4_isGood_23 rfl (lv_at hl 1 rfl) ?_
    refine lv_bipush (v := 6) hx hb dX4_isGood_24 (by decide) ?_
    refine lv_icmp_ge (tgt := 41) hx hb dX4_isGood_26 (by decide) (fun c3 => ?_) (fun c3 => ?_)
    · have hw := ite_t hw c3
      refine lv_iload_n hx hb dX4_isGood_41 rfl (lv_at hl 1 rfl) ?_
      refine lv_bipush (v := 7) hx hb dX4_isGood_42 (by decide) ?_
      refine lv_icmp_ne (tgt := 59) hx hb dX4_isGood_44 (by decide) (fun c4 => ?_) (fun c4 => ?_)
      · have hw := ite_f hw c4
        refine lv_iload_n hx hb dX4_isGood_59 rfl (lv_at hl 1 rfl) ?_
        refine lv_bipush (v := 8) hx hb dX4_isGood_60 (by decide) ?_
        refine lv_icmp_ne (tgt := 81) hx hb dX4_isGood_62 (by decide) (fun c5 => ?_) (fun c5 => ?_)
        · have hw := ite_f hw c5
          refine lv_iconst (v := 0) hx hb dX4_isGood_81 (by decide) ?_
          exact hret _ _ _ (Option.some.inj hw) rfl dX4_isGood_82
        · have hw := ite_t hw c5
          refine lv_iload_n hx hb dX4_isGood_65 rfl (lv_at hl 0 rfl) ?_
          refine lv_i2l hx hb dX4_isGood_66 rfl ?_
          refine lv_lconst (v := 1) hx hb dX4_isGood_67 (by decide) ?_
          refine lv_ldc2 hx hb hown (hts _ wd_634) dX4_isGood_68 ?_
          obtain ⟨r6, er6, hw⟩ := Option.bind_eq_some_iff.mp hw
          refine vp_callSi (va_runS (As := [.long (Int32.toInt64 x1), .long 1, .long 5]) (rest := []) ⟨hx, hb, hml, hown, hts⟩ (c_X4_in l (Int32.toInt64 x1) 1 5 r6 er6) ⟨callB_of 3 hts gd_X4_in rfl rfl rfl (hts _ wd_39) (hts _ wd_615) hd_X4_in ⟨Nat.le_of_ble_eq_true rfl, Nat.le_of_ble_eq_true rfl⟩, hts _ wd_616⟩ ⟨bl0, fun U hU hW => ⟨rfl, trivial⟩⟩ rfl rfl hl.1 rfl (lv_room (Nat.le_of_ble_eq_true rfl)) dX4_isGood_71 ⟨Nat.zero_le _, Nat.zero_le _⟩).run (fun r_ e_ => ?_)
          subst r_
          refine lv_if_eq (tgt := 81) hx hb dX4_isGood_74 (by decide) (fun c7 => ?_) (fun c7 => ?_)
          · have hw := ite_t hw c7
            refine lv_iconst (v := 0) hx hb dX4_isGood_81 (by decide) ?_
            exact hret _ _ _ (Option.some.inj hw) rfl dX4_isGood_82
          · have hw := ite_f hw c7
            refine lv_iconst (v := 1) hx hb dX4_isGood_77 (by decide) ?_
            refine lv_goto (tgt := 82) hx hb dX4_isGood_78 (by decide) ?_
            exact hret _ _ _ (Option.some.inj hw) rfl dX4_isGood_82
      · have hw := ite_t hw c4
        refine lv_iload_n hx hb dX4_isGood_47 rfl (lv_at hl 0 rfl) ?_
        refine lv_i2l hx hb dX4_isGood_48 rfl ?_
        refine lv_lconst (v := 1) hx hb dX4_isGood_49 (by decide) ?_
        refine lv_ldc2 hx hb hown (hts _ wd_633) dX4_isGood_50 ?_
        obtain ⟨r8, er8, hw⟩ := Option.bind_eq_some_iff.mp hw
        refine vp_callSi (va_runS (As := [.long (Int32.toInt64 x1), .long 1, .long 9]) (rest := []) ⟨hx, hb, hml, hown, hts⟩ (c_X4_in l (Int32.toInt64 x1) 1 9 r8 er8) ⟨callB_of 3 hts gd_X4_in rfl rfl rfl (hts _ wd_39) (hts _ wd_615) hd_X4_in ⟨Nat.le_of_ble_eq_true rfl, Nat.le_of_ble_eq_true rfl⟩, hts _ wd_616⟩ ⟨bl0, fun U hU hW => ⟨rfl, trivial⟩⟩ rfl rfl hl.1 rfl (lv_room (Nat.le_of_ble_eq_true rfl)) dX4_isGood_53 ⟨Nat.zero_le _, Nat.zero_le _⟩).run (fun r_ e_ => ?_)
        subst r_
        refine lv_goto (tgt := 82) hx hb dX4_isGood_56 (by decide) ?_
        obtain ⟨hz_, hw⟩ := zck_use hw
        exact hret _ _ _ (Option.some.inj hw) (nz hz_) dX4_isGood_82
    · have hw := ite_f hw c3
      refine lv_iload_n hx hb dX4_isGood_29 rfl (lv_at hl 0 rfl) ?_
      refine lv_i2l hx hb dX4_isGood_30 rfl ?_
      refine lv_lconst (v := 0) hx hb dX4_isGood_31 (by decide) ?_
      refine lv_ldc2 hx hb hown (hts _ wd_633) dX4_isGood_32 ?_
      obtain ⟨r9, er9, hw⟩ := Option.bind_eq_some_iff.mp hw
      refine vp_callSi (va_runS (As := [.long (Int32.toInt64 x1), .long 0, .long 9]) (rest := []) ⟨hx, hb, hml, hown, hts⟩ (c_X4_in l (Int32.toInt64 x1) 0 9 r9 er9) ⟨callB_of 3 hts gd_X4_in rfl rfl rfl (hts _ wd_39) (hts _ wd_615) hd_X4_in ⟨Nat.le_of_ble_eq_true rfl, Nat.le_of_ble_eq_true rfl⟩, hts _ wd_616⟩ ⟨bl0, fun U hU hW => ⟨rfl, trivial⟩⟩ rfl rfl hl.1 rfl (lv_room (Nat.le_of_ble_eq_true rfl)) dX4_isGood_35 ⟨Nat.zero_le _, Nat.zero_le _⟩).run (fun r_ e_ => ?_)
      subst r_
      refine lv_goto (tgt := 82) hx hb dX4_isGood_38 (by decide) ?_
      obtain ⟨hz_, hw⟩ := zck_use hw
      exact hret _ _ _ (Option.some.inj hw) (nz hz_) dX4_isGood_82
  · have hw := ite_t hw c2
    refine lv_iload_n hx hb dX4_isGood_11 rfl (lv_at hl 2 rfl) ?_
    refine lv_bipush (v := 59) hx hb dX4_isGood_12 (by decide) ?_
    refine lv_icmp_ne (tgt := 21) hx hb dX4_isGood_14 (by decide) (fun c10 => ?_) (fun c10 => ?_)
    · have hw := ite_f hw c10
      refine lv_iconst (v := 0) hx hb dX4_isGood_21 (by decide) ?_
      exact hret _ _ _ (Option.some.inj hw) rfl dX4_isGood_22
    · have hw := ite_t hw c10
      refine lv_iconst (v := 1) hx hb dX4_isGood_17 (by decide) ?_
      refine lv_goto (tgt := 22) hx hb dX4_isGood_18 (by decide) ?_
      exact hret _ _ _ (Option.some.inj hw) rfl dX4_isGood_22
set_option maxHeartbeats 4000000 in
set_option maxRecDepth 100000 in
theorem c_X4_faultOf (l : Launch) (dC : Nat → ClassId) (dI : Nat → Nat → Nat) (a : Nat → Nat) (cA : ClassId) (X : MS) (out : Int32) (hw : f_X4_faultOf X = some out) : Met l yX4_faultOf (.code yX4_faultOf cX4_faultOf 2 (some .int) :: lw_g) ({ frames := 2, cells := 0, slots := 0, locals := 47 }) (PcM dC dI a cA X [.ref (a 0)]) (vp_Si (fun r_ => r_ = out)) 0 0 (fun _ => False) := by
  unfold f_X4_faultOf at hw
  refine Met.ofW (cc := cX4_faultOf) (maxL := 2) (ret := (some .int)) (by decide) rfl ?_
  intro p e s m args below meth c s₁ B hml hv
  obtain ⟨rfl, hP, hK⟩ := hv
  have hx := B.exec
  have hb := B.bytes
  have hr := B.returns
  have hts0 := atoms_spec (ws := (.code yX4_faultOf cX4_faultOf 2 (some .int) :: lw_g)) B.pre
  have hts : ∀ w ∈ lw_g, w.before (([.ref (a 0)] : List Value).toArray) s = true := fun w h => hts0 w (List.mem_cons_of_mem _ h)
  clear hts0
  have hown : s.vm.findClass RX4 = some m.cls := findClass_of_methodNamed B.named
  have hlocks := B.notSynchronized
  have hret : ∀ (pc : Nat) (ls : Array Slot) (v : Int32), v = out → decode cX4_faultOf pc = .ok (.ireturn, 1) → W p l e ({ frames := 2, cells := 0, slots := 0, locals := 47 }) s m (([.ref (a 0)] : List Value).toArray) below meth c s.heap [] 0 0 (MQ below (vp_Si (fun r_ => r_ = out)) (([.ref (a 0)] : List Value).toArray) s 0 0 (fun _ => False)) (F0 m pc ls [.int v]) := fun pc ls v hv hd => W.iret hx hb hr (fun t ht hW => ⟨v, rfl, hv, ht⟩) (fun q hq => absurd hq List.not_mem_nil) hd
  show W p l e ({ frames := 2, cells := 0, slots := 0, locals := 47 }) s m (([.ref (a 0)] : List Value).toArray) below meth c s.heap [] 0 0 (MQ below (vp_Si (fun r_ => r_ = out)) (([.ref (a 0)] : List Value).toArray) s 0 0 (fun _ => False)) (entryFrame m (([.ref (a 0)] : List Value).toArray) 2)
  generalize MQ below (vp_Si (fun r_ => r_ = out)) (([.ref (a 0)] : List Value).toArray) s 0 0 (fun _ => False) = Q at hret ⊢
  have L2 : ∀ n : Nat, ∀ (v1 : Int32), g_X4_faultOf_2 X n v1 = some out → ∀ ls : Array Slot, lv_has ls 2 [(0, .ref (a 0)), (1, .int v1)] → W p l e ({ frames := 2, cells := 0, slots := 0, locals := 47 }) s m (([.ref (a 0)] : List Value).toArray) below meth c s.heap [] 0 0 Q (F0 m 2 ls []) := by
    intro n
    induction n with
    | zero =>
      intro v1 hw
      rw [g_X4_faultOf_2] at hw
      cases hw
    | succ n ih =>
      intro v1 hw ls hl
      rw [g_X4_faultOf_2] at hw
      refine lv_iload_n hx hb dX4_faultOf_2 rfl (lv_at hl 1 rfl) ?_
      refine lv_aload_n hx hb dX4_faultOf_3 rfl (lv_at hl 0 rfl) ?_
      refine va_get (D := (dC, dI)) (ci := 4) (v := .int (X.1 0 1)) (C := RX4) (T := TX4) (N := 29) hx hb hts iX4 hown hK hP 0 rfl rfl 1 (by decide) (hts _ wd_523) (fun _ h9 => h9) rfl dX4_faultOf_4 ?_
      refine lv_icmp_ge (tgt := 29) hx hb dX4_faultOf_7 (by decide) (fun c1 => ?_) (fun c1 => ?_)
      · have hw := ite_t hw c1
        refine lv_iload_n hx hb dX4_faultOf_29 rfl (lv_at hl 1 rfl) ?_
        exact hret _ _ _ (Option.some.inj hw) dX4_faultOf_30
      · have hw := ite_f hw c1
        refine lv_iload_n hx hb dX4_faultOf_10 rfl (lv_at hl 1 rfl) ?_
        refine lv_aload_n hx hb dX4_faultOf_11 rfl (lv_at hl 0 rfl) ?_
        refine va_get (D := (dC, dI)) (ci := 4) (v := .ref (a 1)) (C := RX4) (T := TX4) (N := 29) hx hb hts iX4 hown hK hP 0 rfl rfl 0 (by decide) (hts _ wd_522) (fun _ h9 => h9) rfl dX4_faultOf_12 ?_
        refine lv_iload_n hx hb dX4_faultOf_15 rfl (lv_at hl 1 rfl) ?_
        obtain ⟨h2, hw⟩ := ixc_use hw
        refine va_iald hx hb hK hP 1 0 rfl rfl h2 dX4_faultOf_16 ?_
        obtain ⟨r3, er3, hw⟩ := Option.bind_eq_some_iff.mp hw
        refine vp_callSi (va_runS (As := [.int v1, .int (X.1 1 (Int32.toNatClampNeg v1))]) (rest := []) ⟨hx, hb, hml, hown, hts⟩ (c_X4_isGood l v1 (X.1 1 (Int32.toNatClampNeg v1)) r3 er3) ⟨callB_of 2 hts gd_X4_isGood rfl rfl rfl (hts _ wd_39) (hts _ wd_630) hd_X4_isGood ⟨Nat.le_of_ble_eq_true rfl, Nat.le_of_ble_eq_true rfl⟩, hts _ wd_631⟩ ⟨bl0, fun U hU hW => ⟨rfl, trivial⟩⟩ rfl rfl hl.1 rfl (lv_room (Nat.le_of_ble_eq_true rfl)) dX4_faultOf_17 ⟨Nat.zero_le _, Nat.zero_le _⟩).run (fun r_ e_ => ?_)
        subst r_
        refine lv_if_eq (tgt := 29) hx hb dX4_faultOf_20 (by decide) (fun c4 => ?_) (fun c4 => ?_)
        · have hw := ite_t hw c4
          refine lv_iload_n hx hb dX4_faultOf_29 rfl (lv_at hl 1 rfl) ?_
          exact hret _ _ _ (Option.some.inj hw) dX4_faultOf_30
        · have hw := ite_f hw c4
          obtain ⟨x5, ex5⟩ : ∃ y : Int32, y = (v1 + 1) := ⟨_, rfl⟩
          have hw := stp_use hw ex5
          refine lv_iinc (v := x5) (lv' := [(1, .int x5), (0, .ref (a 0))]) hx hb dX4_faultOf_23 hl (k := 1) rfl (by rw [ex5]; rfl) (by decide) rfl (fun ls hl => ?_)
          refine lv_goto (tgt := 2) hx hb dX4_faultOf_26 (by decide) ?_
          exact ih x5 hw ls (lv_sub hl [1, 0] rfl)
  have hl := lv_entry ([.ref (a 0)]) (n := 2) (Nat.le_of_ble_eq_true rfl)
  rw [lg_entry_eq]
  generalize (lg_sl ([.ref (a 0)]) ++ List.replicate (2 - (lg_sl ([.ref (a 0)])).length) Slot.unset).toArray = ls at hl ⊢
  have hl : lv_has ls 2 [(0, .ref (a 0))] := hl
  refine lv_iconst (v := 0) hx hb dX4_faultOf_0 (by decide) ?_
  refine lv_istore_n (lv' := [(1, .int 0), (0, .ref (a 0))]) hx hb dX4_faultOf_1 rfl hl (by decide) rfl (fun ls hl => ?_)
  exact L2 NF 0 hw ls (lv_sub hl [1, 0] rfl)
set_option maxHeartbeats 4000000 in
set_option maxRecDepth 100000 in
theorem c_X4_fault (l : Launch) (dC : Nat → ClassId) (dI : Nat → Nat → Nat) (a : Nat → Nat) (cA : ClassId) (X : MS) (out : Int32) (hw : f_X4_fault X = some out) : Met l yX4_fault (.code yX4_fault cX4_fault 1 (some .int) :: lw_g) ({ frames := 3, cells := 0, slots := 0, locals := 68 }) (PcM dC dI a cA X [.ref (a 0)]) (vp_Si (fun r_ => r_ = out)) 0 0 (fun _ => False) := by
  unfold f_X4_fault at hw
  refine Met.ofW (cc := cX4_fault) (maxL := 1) (ret := (some .int)) (by decide) rfl ?_
  intro p e s m args below meth c s₁ B hml hv
  obtain ⟨rfl, hP, hK⟩ := hv
  have hx := B.exec
  have hb := B.bytes
  have hr := B.returns
  have hts0 := atoms_spec (ws := (.code yX4_fault cX4_fault 1 (some .int) :: lw_g)) B.pre
  have hts : ∀ w ∈ lw_g, w.before (([.ref (a 0)] : List Value).toArray) s = true := fun w h => hts0 w (List.mem_cons_of_mem _ h)
  clear hts0
  have hown : s.vm.findClass RX4 = some m.cls := findClass_of_methodNamed B.named
  have hlocks := B.notSynchronized
  have hret : ∀ (pc : Nat) (ls : Array Slot) (v : Int32), v = out → decode cX4_fault pc = .ok (.ireturn, 1) → W p l e ({ frames := 3, cells := 0, slots := 0, locals := 68 }) s m (([.ref (a 0)] : List Value).toArray) below meth c s.heap [] 0 0 (MQ below (vp_Si (fun r_ => r_ = out)) (([.ref (a 0)] : List Value).toArray) s 0 0 (fun _ => False)) (F0 m pc ls [.int v]) := fun pc ls v hv hd => W.iret hx hb hr (fun t ht hW => ⟨v, rfl, hv, ht⟩) (fun q hq => absurd hq List.not_mem_nil) hd
  show W p l e ({ frames := 3, cells := 0, slots := 0, locals := 68 }) s m (([.ref (a 0)] : List Value).toArray) below meth c s.heap [] 0 0 (MQ below (vp_Si (fun r_ => r_ = out)) (([.ref (a 0)] : List Value).toArray) s 0 0 (fun _ => False)) (entryFrame m (([.ref (a 0)] : List Value).toArray) 1)
  generalize MQ below (vp_Si (fun r_ => r_ = out)) (([.ref (a 0)] : List Value).toArray) s 0 0 (fun _ => False) = Q at hret ⊢
  have hl := lv_entry ([.ref (a 0)]) (n := 1) (Nat.le_of_ble_eq_true rfl)
  rw [lg_entry_eq]
  generalize (lg_sl ([.ref (a 0)]) ++ List.replicate (1 - (lg_sl ([.ref (a 0)])).length) Slot.unset).toArray = ls at hl ⊢
  have hl : lv_has ls 1 [(0, .ref (a 0))] := hl
  refine lv_aload_n hx hb dX4_fault_0 rfl (lv_at hl 0 rfl) ?_
  obtain ⟨r1, er1, hw⟩ := Option.bind_eq_some_iff.mp hw
  refine vp_callSi (va_runV (As := []) (rest := []) ⟨hx, hb, hml, hown, hts⟩ (c_X4_faultOf l dC dI a cA X r1 er1) ⟨callB_of 0 hts gd_X4_faultOf rfl rfl rfl (hts _ wd_39) (hts _ wd_626) hd_X4_faultOf ⟨Nat.le_of_ble_eq_true rfl, Nat.le_of_ble_eq_true rfl⟩, hts _ wd_628, hts _ wd_10⟩ ⟨blM, va_recv hK hP (ci := 4) (q0 := 0) rfl rfl, fun U hU hW => ⟨rfl, by rw [hU]; exact hP, va_K.moved hW.alike hK⟩⟩ rfl rfl hl.1 rfl (lv_room (Nat.le_of_ble_eq_true rfl)) dX4_fault_1 ⟨Nat.zero_le _, Nat.zero_le _⟩).run (fun r_ e_ => ?_)
  subst r_
  exact hret _ _ _ (Option.some.inj hw) dX4_fault_4
set_option maxHeartbeats 4000000 in
set_option maxRecDepth 100000 in
theorem c_X1_isTown (l : Launch) (dC : Nat → ClassId) (dI : Nat → Nat → Nat) (a : Nat → Nat) (cA : ClassId) (X : WS) (out : Int32) (hw : f_X1_isTown X = some out) : Met l yX1_isTown (.code yX1_isTown cX1_isTown 1 (some .boolean) :: lw_g) ({ frames := 2, cells := 0, slots := 0, locals := 42 }) (PcX dC dI a cA X [.ref (a 1)]) (vp_Si (fun r_ => r_ = out)) 0 0 (fun _ => False) := by
  unfold f_X1_isTown at hw
  refine Met.ofW (cc := cX1_isTown) (maxL := 1) (ret := (some .boolean)) (by decide) rfl ?_
  intro p e s m args below meth c s₁ B hml hv
  obtain ⟨rfl, hP, hK, hN⟩ := hv
  have hx := B.exec
  have hb := B.bytes
  have hr := B.returns
  have hts0 := atoms_spec (ws := (.code yX1_isTown cX1_isTown 1 (some .boolean) :: lw_g)) B.pre
  have hts : ∀ w ∈ lw_g, w.before (([.ref (a 1)] : List Value).toArray) s = true := fun w h => hts0 w (List.mem_cons_of_mem _ h)
  clear hts0
  have hown : s.vm.findClass RX1 = some m.cls := findClass_of_methodNamed B.named
  have hlocks := B.notSynchronized
  have hret : ∀ (pc : Nat) (ls : Array Slot) (v : Int32), v = out → (hz : narrow .boolean (.int v) = .int v) → decode cX1_isTown pc = .ok (.ireturn, 1) → W p l e ({ frames := 2, cells := 0, slots := 0, locals := 42 }) s m (([.ref (a 1)] : List Value).toArray) below meth c s.heap [] 0 0 (MQ below (vp_Si (fun r_ => r_ = out)) (([.ref (a 1)] : List Value).toArray) s 0 0 (fun _ => False)) (F0 m pc ls [.int v]) := fun pc ls v hv hz hd => W.zret hx hb hr hz (fun t ht hW => ⟨v, rfl, hv, ht⟩) (fun q hq => absurd hq List.not_mem_nil) hd
  show W p l e ({ frames := 2, cells := 0, slots := 0, locals := 42 }) s m (([.ref (a 1)] : List Value).toArray) below meth c s.heap [] 0 0 (MQ below (vp_Si (fun r_ => r_ = out)) (([.ref (a 1)] : List Value).toArray) s 0 0 (fun _ => False)) (entryFrame m (([.ref (a 1)] : List Value).toArray) 1)
  generalize MQ below (vp_Si (fun r_ => r_ = out)) (([.ref (a 1)] : List Value).toArray) s 0 0 (fun _ => False) = Q at hret ⊢
  have hl := lv_entry ([.ref (a 1)]) (n := 1) (Nat.le_of_ble_eq_true rfl)
  rw [lg_entry_eq]
  generalize (lg_sl ([.ref (a 1)]) ++ List.replicate (1 - (lg_sl ([.ref (a 1)])).length) Slot.unset).toArray = ls at hl ⊢
  have hl : lv_has ls 1 [(0, .ref (a 1))] := hl
  refine lv_aload_n hx hb dX1_isTown_0 rfl (lv_at hl 0 rfl) ?_
  refine va_get (D := (dC, dI)) (ci := 1) (v := .int (X 1 1)) (C := RX1) (T := TX1) (N := 2) hx hb hts iX1 hown hK hP 1 rfl rfl 1 (by decide) (hts _ wd_59) (fun _ h9 => h9) rfl dX1_isTown_1 ?_
  refine lv_bipush (v := 9) hx hb dX1_isTown_4 (by decide) ?_
  refine lv_icmp_ne (tgt := 22) hx hb dX1_isTown_6 (by decide) (fun c1 => ?_) (fun c1 => ?_)
  · have hw := ite_f hw c1
    refine lv_iconst (v := 0) hx hb dX1_isTown_22 (by decide) ?_
    exact hret _ _ _ (Option.some.inj hw) rfl dX1_isTown_23
  · have hw := ite_t hw c1
    refine lv_aload_n hx hb dX1_isTown_9 rfl (lv_at hl 0 rfl) ?_
    obtain ⟨r2, er2, hw⟩ := Option.bind_eq_some_iff.mp hw
    refine vp_callSi (va_runV (As := []) (rest := []) ⟨hx, hb, hml, hown, hts⟩ (c_X1_firstWrong l dC dI a cA X r2 er2) ⟨callB_of 0 hts gd_X1_firstWrong rfl rfl rfl (hts _ wd_36) (hts _ wd_232) hd_X1_firstWrong ⟨Nat.le_of_ble_eq_true rfl, Nat.le_of_ble_eq_true rfl⟩, hts _ wd_218, hts _ wd_219⟩ ⟨blX, va_recv hK hP (ci := 1) (q0 := 1) rfl rfl, fun U hU hW => ⟨rfl, by rw [hU]; exact hP, va_K.moved hW.alike hK, nst.warm hW hN⟩⟩ rfl rfl hl.1 rfl (lv_room (Nat.le_of_ble_eq_true rfl)) dX1_isTown_10 ⟨Nat.zero_le _, Nat.zero_le _⟩).run (fun r_ e_ => ?_)
    subst r_
    refine lv_bipush (v := 9) hx hb dX1_isTown_13 (by decide) ?_
    refine lv_icmp_ne (tgt := 22) hx hb dX1_isTown_15 (by decide) (fun c3 => ?_) (fun c3 => ?_)
    · have hw := ite_f hw c3
      refine lv_iconst (v := 0) hx hb dX1_isTown_22 (by decide) ?_
      exact hret _ _ _ (Option.some.inj hw) rfl dX1_isTown_23
    · have hw := ite_t hw c3
      refine lv_iconst (v := 1) hx hb dX1_isTown_18 (by decide) ?_
      refine lv_goto (tgt := 23) hx hb dX1_isTown_19 (by decide) ?_
      exact hret _ _ _ (Option.some.inj hw) rfl dX1_isTown_23
set_option maxHeartbeats 4000000 in
set_option maxRecDepth 100000 in
theorem c_X1_digit (l : Launch) (dC : Nat → ClassId) (dI : Nat → Nat → Nat) (a : Nat → Nat) (cA : ClassId) (X : WS) (p1 : Int32) (out : Int32) (hw : f_X1_digit X p1 = some out) : Met l yX1_digit (.code yX1_digit cX1_digit 2 (some .int) :: lw_g) ({ frames := 0, cells := 0, slots := 0, locals := 0 }) (PcX dC dI a cA X [.ref (a 1), .int p1]) (vp_Si (fun r_ => r_ = out)) 0 0 (fun _ => False) := by
  unfold f_X1_digit at hw
  refine Met.ofW (cc := cX1_digit) (maxL := 2) (ret := (some .int)) (by decide) rfl ?_
  intro p e s m args below meth c s₁ B hml hv
  obtain ⟨rfl, hP, hK, hN⟩ := hv
  have hx := B.exec
  have hb := B.bytes
  have hr := B.returns
  have hts0 := atoms_spec (ws := (.code yX1_digit cX1_digit 2 (some .int) :: lw_g)) B.pre
  have hts : ∀ w ∈ lw_g, w.before (([.ref (a 1), .int p1] : List Value).toArray) s = true := fun w h => hts0 w (List.mem_cons_of_mem _ h)
  clear hts0
  have hown : s.vm.findClass RX1 = some m.cls := findClass_of_methodNamed B.named
  have hlocks := B.notSynchronized
  have hret : ∀ (pc : Nat) (ls : Array Slot) (v : Int32), v = out → decode cX1_digit pc = .ok (.ireturn, 1) → W p l e ({ frames := 0, cells := 0, slots := 0, locals := 0 }) s m (([.ref (a 1), .int p1] : List Value).toArray) below meth c s.heap [] 0 0 (MQ below (vp_Si (fun r_ => r_ = out)) (([.ref (a 1), .int p1] : List Value).toArray) s 0 0 (fun _ => False)) (F0 m pc ls [.int v]) := fun pc ls v hv hd => W.iret hx hb hr (fun t ht hW => ⟨v, rfl, hv, ht⟩) (fun q hq => absurd hq List.not_mem_nil) hd
  show W p l e ({ frames := 0, cells := 0, slots := 0, locals := 0 }) s m (([.ref (a 1), .int p1] : List Value).toArray) below meth c s.heap [] 0 0 (MQ below (vp_Si (fun r_ => r_ = out)) (([.ref (a 1), .int p1] : List Value).toArray) s 0 0 (fun _ => False)) (entryFrame m (([.ref (a 1), .int p1] : List Value).toArray) 2)
  generalize MQ below (vp_Si (fun r_ => r_ = out)) (([.ref (a 1), .int p1] : List Value).toArray) s 0 0 (fun _ => False) = Q at hret ⊢
  have hl := lv_entry ([.ref (a 1), .int p1]) (n := 2) (Nat.le_of_ble_eq_true rfl)
  rw [lg_entry_eq]
  generalize (lg_sl ([.ref (a 1), .int p1]) ++ List.replicate (2 - (lg_sl ([.ref (a 1), .int p1])).length) Slot.unset).toArray = ls at hl ⊢
  have hl : lv_has ls 2 [(0, .ref (a 1)), (1, .int p1)] := hl
  refine lv_iload_n hx hb dX1_digit_0 rfl (lv_at hl 1 rfl) ?_
  refine lv_if_lt (tgt := 22) hx hb dX1_digit_1 (by decide) (fun c1 => ?_) (fun c1 => ?_)
  · have hw := ite_t hw c1
    refine lv_iconst (v := 0) hx hb dX1_digit_22 (by decide) ?_
    exact hret _ _ _ (Option.some.inj hw) dX1_digit_23
  · have hw := ite_f hw c1
    refine lv_iload_n hx hb dX1_digit_4 rfl (lv_at hl 1 rfl) ?_
    refine lv_bipush (v := 12) hx hb dX1_digit_5 (by decide) ?_
    refine lv_icmp_ge (tgt := 22) hx hb dX1_digit_7 (by decide) (fun c2 => ?_) (fun c2 => ?_)
    · have hw := ite_t hw c2
      refine lv_iconst (v := 0) hx hb dX1_digit_22 (by decide) ?_
      exact hret _ _ _ (Option.some.inj hw) dX1_digit_23
    · have hw := ite_f hw c2
      refine lv_aload_n hx hb dX1_digit_10 rfl (lv_at hl 0 rfl) ?_
      refine va_get (D := (dC, dI)) (ci := 1) (v := .ref (a 2)) (C := RX1) (T := TX1) (N := 2) hx hb hts iX1 hown hK hP 1 rfl rfl 0 (by decide) (hts _ wd_57) (fun _ h9 => h9) rfl dX1_digit_11 ?_
      refine lv_iload_n hx hb dX1_digit_14 rfl (lv_at hl 1 rfl) ?_
      obtain ⟨h3, hw⟩ := ixc_use hw
      refine va_iald hx hb hK hP 2 0 rfl rfl h3 dX1_digit_15 ?_
      refine lv_bipush (v := 48) hx hb dX1_digit_16 (by decide) ?_
      refine lv_isub hx hb dX1_digit_18 ?_
      refine lv_goto (tgt := 23) hx hb dX1_digit_19 (by decide) ?_
      exact hret _ _ _ (Option.some.inj hw) dX1_digit_23
set_option maxHeartbeats 4000000 in
set_option maxRecDepth 100000 in
theorem c_X2_dropTold (l : Launch) (dC : Nat → ClassId) (dI : Nat → Nat → Nat) (A : Nat → Prop) (a : Nat → Nat) (cA : ClassId) (X : WS) (out : (Int32 × WS)) (hw : f_X2_dropTold X = some out) : Met l yX2_dropTold (.code yX2_dropTold cX2_dropTold 2 (some .int) :: lw_g) ({ frames := 0, cells := 0, slots := 0, locals := 0 }) (PcXD dC dI A a cA X [.ref (a 3)]) (va_Qi (fun (r_ : Int32) (X_ : WS) => out = (r_, X_)) (fun X_ t => va_P (dC, dI) classes (wl a cA X_) t.heap ∧ va_K (dC, dI) classes [(cA, .int)] t) A) 0 0 (A) := by
  unfold f_X2_dropTold at hw
  refine Met.ofW (cc := cX2_dropTold) (maxL := 2) (ret := (some .int)) (by decide) rfl ?_
  intro p e s m args below meth c s₁ B hml hv
  obtain ⟨rfl, hP, hK, hN, hD0⟩ := hv
  have hx := B.exec
  have hb := B.bytes
  have hr := B.returns
  have hts0 := atoms_spec (ws := (.code yX2_dropTold cX2_dropTold 2 (some .int) :: lw_g)) B.pre
  have hts : ∀ w ∈ lw_g, w.before (([.ref (a 3)] : List Value).toArray) s = true := fun w h => hts0 w (List.mem_cons_of_mem _ h)
  clear hts0
  have hown : s.vm.findClass RX2 = some m.cls := findClass_of_methodNamed B.named
  have hlocks := B.notSynchronized
  have hret : ∀ (pc : Nat) (ls : Array Slot) (v : Int32) (X_ : WS) (H : Heap) (locs : List Loc), (v, X_) = out → va_P (dC, dI) classes (wl a cA X_) H → va_S A s.heap H locs → decode cX2_dropTold pc = .ok (.ireturn, 1) → W p l e ({ frames := 0, cells := 0, slots := 0, locals := 0 }) s m (([.ref (a 3)] : List Value).toArray) below meth c H locs 0 0 (MQ below (va_Qi (fun (r_ : Int32) (X_ : WS) => out = (r_, X_)) (fun X_ t => va_P (dC, dI) classes (wl a cA X_) t.heap ∧ va_K (dC, dI) classes [(cA, .int)] t) A) (([.ref (a 3)] : List Value).toArray) s 0 0 (A)) (F0 m pc ls [.int v]) := fun pc ls v X_ H locs hv hP hS hd => W.iret hx hb hr (fun t ht hW => ⟨⟨v, X_, rfl, hv.symm, by rw [ht]; exact hP, va_K.moved hW.alike hK⟩, hS.F ht⟩) hS.2.2 hd
  show W p l e ({ frames := 0, cells := 0, slots := 0, locals := 0 }) s m (([.ref (a 3)] : List Value).toArray) below meth c s.heap [] 0 0 (MQ below (va_Qi (fun (r_ : Int32) (X_ : WS) => out = (r_, X_)) (fun X_ t => va_P (dC, dI) classes (wl a cA X_) t.heap ∧ va_K (dC, dI) classes [(cA, .int)] t) A) (([.ref (a 3)] : List Value).toArray) s 0 0 (A)) (entryFrame m (([.ref (a 3)] : List Value).toArray) 2)
  generalize MQ below (va_Qi (fun (r_ : Int32) (X_ : WS) => out = (r_, X_)) (fun X_ t => va_P (dC, dI) classes (wl a cA X_) t.heap ∧ va_K (dC, dI) classes [(cA, .int)] t) A) (([.ref (a 3)] : List Value).toArray) s 0 0 (A) = Q at hret ⊢
  have hS : va_S A s.heap s.heap [] := va_S.rf
  have hl := lv_entry ([.ref (a 3)]) (n := 2) (Nat.le_of_ble_eq_true rfl)
  rw [lg_entry_eq]
  generalize (lg_sl ([.ref (a 3)]) ++ List.replicate (2 - (lg_sl ([.ref (a 3)])).length) Slot.unset).toArray = ls at hl ⊢
  have hl : lv_has ls 2 [(0, .ref (a 3))] := hl
  refine lv_aload_n hx hb dX2_dropTold_0 rfl (lv_at hl 0 rfl) ?_
  refine va_get (D := (dC, dI)) (ci := 2) (v := .int (X 3 14)) (C := RX2) (T := TX2) (N := 17) hx hb hts iX2 hown hK hP 3 rfl rfl 14 (by decide) (hts _ wd_101) (fun _ h9 => h9) rfl dX2_dropTold_1 ?_
  refine lv_topi (fun x1 ex1 => ?_)
  have hw := stp_use hw ex1
  refine lv_istore_n (lv' := [(1, .int x1), (0, .ref (a 3))]) hx hb dX2_dropTold_4 rfl hl (by decide) rfl (fun ls hl => ?_)
  refine lv_aload_n hx hb dX2_dropTold_5 rfl (lv_at hl 1 rfl) ?_
  refine lv_iconst (v := 0) hx hb dX2_dropTold_6 (by decide) ?_
  refine va_put (D := (dC, dI)) (ci := 2) (v := .int 0) (ty := .int) (C := RX2) (T := TX2) (N := 17) hx hb hts iX2 tyX2 tyX2_ok nmX2 hown hK hP (wlD hD0) hS 3 rfl rfl 14 (by decide) (hts _ wd_101) (fun _ h9 => h9) rfl (by decide +kernel) rfl rfl (Nat.le_of_ble_eq_true rfl) dX2_dropTold_7 (fun H locs hP hD_ hS => ?_)
  obtain ⟨X2, eX2⟩ : ∃ y : WS, y = (ups X 3 14 0) := ⟨_, rfl⟩
  have hw := stp_use hw eX2
  have hP : va_P (dC, dI) classes (wl a cA X2) H := by rw [eX2]; exact hP
  refine lv_aload_n hx hb dX2_dropTold_10 rfl (lv_at hl 1 rfl) ?_
  refine lv_iconst (v := 0) hx hb dX2_dropTold_11 (by decide) ?_
  refine va_put (D := (dC, dI)) (ci := 2) (v := .int 0) (ty := .int) (C := RX2) (T := TX2) (N := 17) hx hb hts iX2 tyX2 tyX2_ok nmX2 hown hK hP (wlD hD0) hS 3 rfl rfl 15 (by decide) (hts _ wd_103) (fun _ h9 => h9) rfl (by decide +kernel) rfl rfl (Nat.le_of_ble_eq_true rfl) dX2_dropTold_12 (fun H locs hP hD_ hS => ?_)
  obtain ⟨X3, eX3⟩ : ∃ y : WS, y = (ups X2 3 15 0) := ⟨_, rfl⟩
  have hw := stp_use hw eX3
  have hP : va_P (dC, dI) classes (wl a cA X3) H := by rw [eX3]; exact hP
  refine lv_aload_n hx hb dX2_dropTold_15 rfl (lv_at hl 1 rfl) ?_
  refine lv_iconst (v := 0) hx hb dX2_dropTold_16 (by decide) ?_
  refine va_put (D := (dC, dI)) (ci := 2) (v := .int 0) (ty := .int) (C := RX2) (T := TX2) (N := 17) hx hb hts iX2 tyX2 tyX2_ok nmX2 hown hK hP (wlD hD0) hS 3 rfl rfl 16 (by decide) (hts _ wd_104) (fun _ h9 => h9) rfl (by decide +kernel) rfl rfl (Nat.le_of_ble_eq_true rfl) dX2_dropTold_17 (fun H locs hP hD_ hS => ?_)
  obtain ⟨X4, eX4⟩ : ∃ y : WS, y = (ups X3 3 16 0) := ⟨_, rfl⟩
  have hw := stp_use hw eX4
  have hP : va_P (dC, dI) classes (wl a cA X4) H := by rw [eX4]; exact hP
  refine lv_iload_n hx hb dX2_dropTold_20 rfl (lv_at hl 0 rfl) ?_
  exact hret _ _ _ _ _ _ (Option.some.inj hw) hP hS dX2_dropTold_21
set_option maxHeartbeats 4000000 in
set_option maxRecDepth 100000 in
theorem c_X2_begin (l : Launch) (dC : Nat → ClassId) (dI : Nat → Nat → Nat) (A : Nat → Prop) (a : Nat → Nat) (cA : ClassId) (X : WS) (out : WS) (hw : f_X2_begin X = some out) : Met l yX2_begin (.code yX2_begin cX2_begin 3 none :: lw_g) ({ frames := 1, cells := 0, slots := 0, locals := 21 }) (PcXD dC dI A a cA X [.ref (a 3), .ref (a 1)]) (va_Qv (fun X_ : WS => out = X_) (fun X_ t => va_P (dC, dI) classes (wl a cA X_) t.heap ∧ va_K (dC, dI) classes [(cA, .int)] t) A) 0 0 (A) := by
  unfold f_X2_begin at hw
  refine Met.ofW (cc := cX2_begin) (maxL := 3) (ret := none) (by decide) rfl ?_
  intro p e s m args below meth c s₁ B hml hv
  obtain ⟨rfl, hP, hK, hN, hD0⟩ := hv
  have hx := B.exec
  have hb := B.bytes
  have hr := B.returns
  have hts0 := atoms_spec (ws := (.code yX2_begin cX2_begin 3 none :: lw_g)) B.pre
  have hts : ∀ w ∈ lw_g, w.before (([.ref (a 3), .ref (a 1)] : List Value).toArray) s = true := fun w h => hts0 w (List.mem_cons_of_mem _ h)
  clear hts0
  have hown : s.vm.findClass RX2 = some m.cls := findClass_of_methodNamed B.named
  have hlocks := B.notSynchronized
  have hret : ∀ (pc : Nat) (ls : Array Slot) (X_ : WS) (H : Heap) (locs : List Loc), X_ = out → va_P (dC, dI) classes (wl a cA X_) H → va_S A s.heap H locs → decode cX2_begin pc = .ok (.return_, 1) → W p l e ({ frames := 1, cells := 0, slots := 0, locals := 21 }) s m (([.ref (a 3), .ref (a 1)] : List Value).toArray) below meth c H locs 0 0 (MQ below (va_Qv (fun X_ : WS => out = X_) (fun X_ t => va_P (dC, dI) classes (wl a cA X_) t.heap ∧ va_K (dC, dI) classes [(cA, .int)] t) A) (([.ref (a 3), .ref (a 1)] : List Value).toArray) s 0 0 (A)) (F0 m pc ls []) := fun pc ls X_ H locs hv hP hS hd => W.vret hx hb hr (fun t ht hW => ⟨⟨X_, rfl, hv.symm, by rw [ht]; exact hP, va_K.moved hW.alike hK⟩, hS.F ht⟩) hS.2.2 hd
  show W p l e ({ frames := 1, cells := 0, slots := 0, locals := 21 }) s m (([.ref (a 3), .ref (a 1)] : List Value).toArray) below meth c s.heap [] 0 0 (MQ below (va_Qv (fun X_ : WS => out = X_) (fun X_ t => va_P (dC, dI) classes (wl a cA X_) t.heap ∧ va_K (dC, dI) classes [(cA, .int)] t) A) (([.ref (a 3), .ref (a 1)] : List Value).toArray) s 0 0 (A)) (entryFrame m (([.ref (a 3), .ref (a 1)] : List Value).toArray) 3)
  generalize MQ below (va_Qv (fun X_ : WS => out = X_) (fun X_ t => va_P (dC, dI) classes (wl a cA X_) t.heap ∧ va_K (dC, dI) classes [(cA, .int)] t) A) (([.ref (a 3), .ref (a 1)] : List Value).toArray) s 0 0 (A) = Q at hret ⊢
  have hS : va_S A s.heap s.heap [] := va_S.rf
  have L2 : ∀ n : Nat, ∀ (X : WS), ∀ (v2 : Int32), g_X2_begin_2 n X v2 = some out → ∀ (H : Heap) (locs : List Loc), va_P (dC, dI) classes (wl a cA X) H → va_S A s.heap H locs → ∀ ls : Array Slot, lv_has ls 3 [(0, .ref (a 3)), (1, .ref (a 1)), (2, .int v2)] → W p l e ({ frames := 1, cells := 0, slots := 0, locals := 21 }) s m (([.ref (a 3), .ref (a 1)] : List Value).toArray) below meth c H locs 0 0 Q (F0 m 2 ls []) := by
    intro n
    induction n with
    | zero =>
      intro X v2 hw
      rw [g_X2_begin_2] at hw
      cases hw
    | succ n ih =>
      intro X v2 hw H locs hP hS ls hl
      rw [g_X2_begin_2] at hw
      refine lv_iload_n hx hb dX2_begin_2 rfl (lv_at hl 2 rfl) ?_
      refine lv_bipush (v := 6) hx hb dX2_begin_3 (by decide) ?_
      refine lv_icmp_ge (tgt := 25) hx hb dX2_begin_5 (by decide) (fun c1 => ?_) (fun c1 => ?_)
      · have hw := ite_t hw c1
        refine lv_aload_n hx hb dX2_begin_25 rfl (lv_at hl 0 rfl) ?_
        refine lv_aload_n hx hb dX2_begin_26 rfl (lv_at hl 1 rfl) ?_
        refine lv_bipush (v := 7) hx hb dX2_begin_27 (by decide) ?_
        obtain ⟨r2, er2, hw⟩ := Option.bind_eq_some_iff.mp hw
        refine vp_callSi (va_runV (As := [.int 7]) (rest := [.ref (a 3)]) ⟨hx, hb, hml, hown, hts⟩ (c_X1_digit l dC dI a cA X 7 r2 er2) ⟨callB_of 1 hts gd_X1_digit rfl rfl rfl (hts _ wd_36) (hts _ wd_237) hd_X1_digit ⟨Nat.le_of_ble_eq_true rfl, Nat.le_of_ble_eq_true rfl⟩, hts _ wd_238, hts _ wd_239⟩ ⟨blX, va_recv hK hP (ci := 1) (q0 := 1) rfl rfl, fun U hU hW => ⟨rfl, by rw [hU]; exact hP, va_K.moved hW.alike hK, nst.warm hW hN⟩⟩ rfl rfl hl.1 rfl (lv_room (Nat.le_of_ble_eq_true rfl)) dX2_begin_29 ⟨Nat.zero_le _, Nat.zero_le _⟩).run (fun r_ e_ => ?_)
        subst r_
        refine va_put (D := (dC, dI)) (ci := 2) (v := .int r2) (ty := .int) (C := RX2) (T := TX2) (N := 17) hx hb hts iX2 tyX2 tyX2_ok nmX2 hown hK hP (wlD hD0) hS 3 rfl rfl 8 (by decide) (hts _ wd_89) (fun _ h9 => h9) rfl (by decide +kernel) rfl rfl (Nat.le_of_ble_eq_true rfl) dX2_begin_32 (fun H locs hP hD_ hS => ?_)
        obtain ⟨X3, eX3⟩ : ∃ y : WS, y = (ups X 3 8 r2) := ⟨_, rfl⟩
        have hw := stp_use hw eX3
        have hP : va_P (dC, dI) classes (wl a cA X3) H := by rw [eX3]; exact hP
        refine lv_aload_n hx hb dX2_begin_35 rfl (lv_at hl 0 rfl) ?_
        refine lv_aload_n hx hb dX2_begin_36 rfl (lv_at hl 0 rfl) ?_
        refine va_get (D := (dC, dI)) (ci := 2) (v := .int (X3 3 8)) (C := RX2) (T := TX2) (N := 17) hx hb hts iX2 hown hK hP 3 rfl rfl 8 (by decide) (hts _ wd_89) (fun _ h9 => h9) rfl dX2_begin_37 ?_
        refine lv_topi (fun x4 ex4 => ?_)
        have hw := stp_use hw ex4
        refine va_put (D := (dC, dI)) (ci := 2) (v := .int x4) (ty := .int) (C := RX2) (T := TX2) (N := 17) hx hb hts iX2 tyX2 tyX2_ok nmX2 hown hK hP (wlD hD0) hS 3 rfl rfl 9 (by decide) (hts _ wd_91) (fun _ h9 => h9) rfl (by decide +kernel) rfl rfl (Nat.le_of_ble_eq_true rfl) dX2_begin_40 (fun H locs hP hD_ hS => ?_)
        obtain ⟨X5, eX5⟩ : ∃ y : WS, y = (ups X3 3 9 x4) := ⟨_, rfl⟩
        have hw := stp_use hw eX5
        have hP : va_P (dC, dI) classes (wl a cA X5) H := by rw [eX5]; exact hP
        refine lv_aload_n hx hb dX2_begin_43 rfl (lv_at hl 0 rfl) ?_
        refine lv_aload_n hx hb dX2_begin_44 rfl (lv_at hl 1 rfl) ?_
        refine lv_bipush (v := 8) hx hb dX2_begin_45 (by decide) ?_
        obtain ⟨r6, er6, hw⟩ := Option.bind_eq_some_iff.mp hw
        refine vp_callSi (va_runV (As := [.int 8]) (rest := [.ref (a 3)]) ⟨hx, hb, hml, hown, hts⟩ (c_X1_digit l dC dI a cA X5 8 r6 er6) ⟨callB_of 1 hts gd_X1_digit rfl rfl rfl (hts _ wd_36) (hts _ wd_237) hd_X1_digit ⟨Nat.le_of_ble_eq_true rfl, Nat.le_of_ble_eq_true rfl⟩, hts _ wd_238, hts _ wd_239⟩ ⟨blX, va_recv hK hP (ci := 1) (q0 := 1) rfl rfl, fun U hU hW => ⟨rfl, by rw [hU]; exact hP, va_K.moved hW.alike hK, nst.warm hW hN⟩⟩ rfl rfl hl.1 rfl (lv_room (Nat.le_of_ble_eq_true rfl)) dX2_begin_47 ⟨Nat.zero_le _, Nat.zero_le _⟩).run (fun r_ e_ => ?_)
        subst r_
        refine va_put (D := (dC, dI)) (ci := 2) (v := .int r6) (ty := .int) (C := RX2) (T := TX2) (N := 17) hx hb hts iX2 tyX2 tyX2_ok nmX2 hown hK hP (wlD hD0) hS 3 rfl rfl 10 (by decide) (hts _ wd_93) (fun _ h9 => h9) rfl (by decide +kernel) rfl rfl (Nat.le_of_ble_eq_true rfl) dX2_begin_50 (fun H locs hP hD_ hS => ?_)
        obtain ⟨X7, eX7⟩ : ∃ y : WS, y = (ups X5 3 10 r6) := ⟨_, rfl⟩
        have hw := stp_use hw eX7
        have hP : va_P (dC, dI) classes (wl a cA X7) H := by rw [eX7]; exact hP
        refine lv_aload_n hx hb dX2_begin_53 rfl (lv_at hl 0 rfl) ?_
        refine lv_iconst (v := 0) hx hb dX2_begin_54 (by decide) ?_
        refine va_put (D := (dC, dI)) (ci := 2) (v := .int 0) (ty := .int) (C := RX2) (T := TX2) (N := 17) hx hb hts iX2 tyX2 tyX2_ok nmX2 hown hK hP (wlD hD0) hS 3 rfl rfl 5 (by decide) (hts _ wd_83) (fun _ h9 => h9) rfl (by decide +kernel) rfl rfl (Nat.le_of_ble_eq_true rfl) dX2_begin_55 (fun H locs hP hD_ hS => ?_)
        obtain ⟨X8, eX8⟩ : ∃ y : WS, y = (ups X7 3 5 0) := ⟨_, rfl⟩
        have hw := stp_use hw eX8
        have hP : va_P (dC, dI) classes (wl a cA X8) H := by rw [eX8]; exact hP
        refine lv_aload_n hx hb dX2_begin_58 rfl (lv_at hl 0 rfl) ?_
        refine lv_iconst (v := 0) hx hb dX2_begin_59 (by decide) ?_
        refine va_put (D := (dC, dI)) (ci := 2) (v := .int 0) (ty := .int) (C := RX2) (T := TX2) (N := 17) hx hb hts iX2 tyX2 tyX2_ok nmX2 hown hK hP (wlD hD0) hS 3 rfl rfl 6 (by decide) (hts _ wd_85) (fun _ h9 => h9) rfl (by decide +kernel) rfl rfl (Nat.le_of_ble_eq_true rfl) dX2_begin_60 (fun H locs hP hD_ hS => ?_)
        obtain ⟨X9, eX9⟩ : ∃ y : WS, y = (ups X8 3 6 0) := ⟨_, rfl⟩
        have hw := stp_use hw eX9
        have hP : va_P (dC, dI) classes (wl a cA X9) H := by rw [eX9]; exact hP
        refine lv_aload_n hx hb dX2_begin_63 rfl (lv_at hl 0 rfl) ?_
        refine lv_iconst (v := 0) hx hb dX2_begin_64 (by decide) ?_
        refine va_put (D := (dC, dI)) (ci := 2) (v := .int 0) (ty := .int) (C := RX2) (T := TX2) (N := 17) hx hb hts iX2 tyX2 tyX2_ok nmX2 hown hK hP (wlD hD0) hS 3 rfl rfl 7 (by decide) (hts _ wd_87) (fun _ h9 => h9) rfl (by decide +kernel) rfl rfl (Nat.le_of_ble_eq_true rfl) dX2_begin_65 (fun H locs hP hD_ hS => ?_)
        obtain ⟨X10, eX10⟩ : ∃ y : WS, y = (ups X9 3 7 0) := ⟨_, rfl⟩
        have hw := stp_use hw eX10
        have hP : va_P (dC, dI) classes (wl a cA X10) H := by rw [eX10]; exact hP
        refine lv_aload_n hx hb dX2_begin_68 rfl (lv_at hl 0 rfl) ?_
        refine lv_iconst (v := 0) hx hb dX2_begin_69 (by decide) ?_
        refine va_put (D := (dC, dI)) (ci := 2) (v := .int 0) (ty := .int) (C := RX2) (T := TX2) (N := 17) hx hb hts iX2 tyX2 tyX2_ok nmX2 hown hK hP (wlD hD0) hS 3 rfl rfl 11 (by decide) (hts _ wd_95) (fun _ h9 => h9) rfl (by decide +kernel) rfl rfl (Nat.le_of_ble_eq_true rfl) dX2_begin_70 (fun H locs hP hD_ hS => ?_)
        obtain ⟨X11, eX11⟩ : ∃ y : WS, y = (ups X10 3 11 0) := ⟨_, rfl⟩
        have hw := stp_use hw eX11
        have hP : va_P (dC, dI) classes (wl a cA X11) H := by rw [eX11]; exact hP
        refine lv_aload_n hx hb dX2_begin_73 rfl (lv_at hl 0 rfl) ?_
        refine lv_iconst (v := 1) hx hb dX2_begin_74 (by decide) ?_
        refine va_put (D := (dC, dI)) (ci := 2) (v := .int 1) (ty := .int) (C := RX2) (T := TX2) (N := 17) hx hb hts iX2 tyX2 tyX2_ok nmX2 hown hK hP (wlD hD0) hS 3 rfl rfl 12 (by decide) (hts _ wd_97) (fun _ h9 => h9) rfl (by decide +kernel) rfl rfl (Nat.le_of_ble_eq_true rfl) dX2_begin_75 (fun H locs hP hD_ hS => ?_)
        obtain ⟨X12, eX12⟩ : ∃ y : WS, y = (ups X11 3 12 1) := ⟨_, rfl⟩
        have hw := stp_use hw eX12
        have hP : va_P (dC, dI) classes (wl a cA X12) H := by rw [eX12]; exact hP
        refine lv_aload_n hx hb dX2_begin_78 rfl (lv_at hl 0 rfl) ?_
        refine lv_iconst (v := 1) hx hb dX2_begin_79 (by decide) ?_
        refine va_put (D := (dC, dI)) (ci := 2) (v := .int 1) (ty := .int) (C := RX2) (T := TX2) (N := 17) hx hb hts iX2 tyX2 tyX2_ok nmX2 hown hK hP (wlD hD0) hS 3 rfl rfl 13 (by decide) (hts _ wd_99) (fun _ h9 => h9) rfl (by decide +kernel) rfl rfl (Nat.le_of_ble_eq_true rfl) dX2_begin_80 (fun H locs hP hD_ hS => ?_)
        obtain ⟨X13, eX13⟩ : ∃ y : WS, y = (ups X12 3 13 1) := ⟨_, rfl⟩
        have hw := stp_use hw eX13
        have hP : va_P (dC, dI) classes (wl a cA X13) H := by rw [eX13]; exact hP
        refine lv_aload_n hx hb dX2_begin_83 rfl (lv_at hl 0 rfl) ?_
        obtain ⟨r14, X15, er14, hw⟩ := bnd2_use hw
        refine va_calli (va_runV (As := []) (rest := []) ⟨hx, hb, hml, hown, hts⟩ (c_X2_dropTold l dC dI A a cA X13 (r14, X15) er14) ⟨callB_of 0 hts gd_X2_dropTold rfl rfl rfl (hts _ wd_37) (hts _ wd_241) hd_X2_dropTold ⟨Nat.le_of_ble_eq_true rfl, Nat.le_of_ble_eq_true rfl⟩, hts _ wd_242, hts _ wd_243⟩ ⟨blXD, va_recv hK hP (ci := 2) (q0 := 3) rfl rfl, fun U hU hW => ⟨rfl, by rw [hU]; exact hP, va_K.moved hW.alike hK, nst.warm hW hN, wlD hD0⟩⟩ rfl rfl hl.1 rfl (lv_room (Nat.le_of_ble_eq_true rfl)) dX2_begin_84 ⟨Nat.zero_le _, Nat.zero_le _⟩) hS (fun _ _ h => h) (fun _ h => h) (fun r_ u_ t_ H1 locs1 ht hvm hp_ hB hz1 hk1 hS1 => ?_)
        obtain ⟨q1_, q2_⟩ := Prod.mk.inj hp_
        subst q1_
        subst q2_
        obtain ⟨hP1, hK1⟩ := hB
        rw [ht] at hP1
        have hP := hP1
        have hS := hS1
        refine lv_pop hx hb dX2_begin_87 rfl ?_
        exact hret _ _ _ _ _ (Option.some.inj hw) hP hS dX2_begin_88
      · have hw := ite_f hw c1
        refine lv_aload_n hx hb dX2_begin_8 rfl (lv_at hl 0 rfl) ?_
        refine va_get (D := (dC, dI)) (ci := 2) (v := .ref (a 4)) (C := RX2) (T := TX2) (N := 17) hx hb hts iX2 hown hK hP 3 rfl rfl 0 (by decide) (hts _ wd_73) (fun _ h9 => h9) rfl dX2_begin_9 ?_
        refine lv_iload_n hx hb dX2_begin_12 rfl (lv_at hl 2 rfl) ?_
        refine lv_aload_n hx hb dX2_begin_13 rfl (lv_at hl 1 rfl) ?_
        refine lv_iload_n hx hb dX2_begin_14 rfl (lv_at hl 2 rfl) ?_
        obtain ⟨r16, er16, hw⟩ := Option.bind_eq_some_iff.mp hw
        refine vp_callSi (va_runV (As := [.int v2]) (rest := [.int v2, .ref (a 4)]) ⟨hx, hb, hml, hown, hts⟩ (c_X1_digit l dC dI a cA X v2 r16 er16) ⟨callB_of 1 hts gd_X1_digit rfl rfl rfl (hts _ wd_36) (hts _ wd_237) hd_X1_digit ⟨Nat.le_of_ble_eq_true rfl, Nat.le_of_ble_eq_true rfl⟩, hts _ wd_238, hts _ wd_239⟩ ⟨blX, va_recv hK hP (ci := 1) (q0 := 1) rfl rfl, fun U hU hW => ⟨rfl, by rw [hU]; exact hP, va_K.moved hW.alike hK, nst.warm hW hN⟩⟩ rfl rfl hl.1 rfl (lv_room (Nat.le_of_ble_eq_true rfl)) dX2_begin_15 ⟨Nat.zero_le _, Nat.zero_le _⟩).run (fun r_ e_ => ?_)
        subst r_
        obtain ⟨h17, hw⟩ := ixc_use hw
        refine va_iast hx hb hK hP (wlD hD0) hS 4 0 rfl rfl h17 dX2_begin_18 (fun H locs hP hD_ hS => ?_)
        obtain ⟨X18, eX18⟩ : ∃ y : WS, y = (ups X 4 (Int32.toNatClampNeg v2) r16) := ⟨_, rfl⟩
        have hw := stp_use hw eX18
        have hP : va_P (dC, dI) classes (wl a cA X18) H := by rw [eX18]; exact hP
        obtain ⟨x19, ex19⟩ : ∃ y : Int32, y = (v2 + 1) := ⟨_, rfl⟩
        have hw := stp_use hw ex19
        refine lv_iinc (v := x19) (lv' := [(2, .int x19), (0, .ref (a 3)), (1, .ref (a 1))]) hx hb dX2_begin_19 hl (k := 2) rfl (by rw [ex19]; rfl) (by decide) rfl (fun ls hl => ?_)
        refine lv_goto (tgt := 2) hx hb dX2_begin_22 (by decide) ?_
        exact ih X18 x19 hw _ _ hP hS ls (lv_sub hl [1, 2, 0] rfl)
  have hl := lv_entry ([.ref (a 3), .ref (a 1)]) (n := 3) (Nat.le_of_ble_eq_true rfl)
  rw [lg_entry_eq]
  generalize (lg_sl ([.ref (a 3), .ref (a 1)]) ++ List.replicate (3 - (lg_sl ([.ref (a 3), .ref (a 1)])).length) Slot.unset).toArray = ls at hl ⊢
  have hl : lv_has ls 3 [(0, .ref (a 3)), (1, .ref (a 1))] := hl
  refine lv_iconst (v := 0) hx hb dX2_begin_0 (by decide) ?_
  refine lv_istore_n (lv' := [(2, .int 0), (0, .ref (a 3)), (1, .ref (a 1))]) hx hb dX2_begin_1 rfl hl (by decide) rfl (fun ls hl => ?_)
  exact L2 NF X 0 hw _ _ hP hS ls (lv_sub hl [1, 2, 0] rfl)
set_option maxHeartbeats 4000000 in
set_option maxRecDepth 100000 in
theorem c_X2_noiseInAll (l : Launch) (dC : Nat → ClassId) (dI : Nat → Nat → Nat) (a : Nat → Nat) (cA : ClassId) (X : WS) (out : Int32) (hw : f_X2_noiseInAll X = some out) : Met l yX2_noiseInAll (.code yX2_noiseInAll cX2_noiseInAll 3 (some .int) :: lw_g) ({ frames := 0, cells := 0, slots := 0, locals := 0 }) (PcX dC dI a cA X [.ref (a 3)]) (vp_Si (fun r_ => r_ = out)) 0 0 (fun _ => False) := by
  unfold f_X2_noiseInAll at hw
  refine Met.ofW (cc := cX2_noiseInAll) (maxL := 3) (ret := (some .int)) (by decide) rfl ?_
  intro p e s m args below meth c s₁ B hml hv
  obtain ⟨rfl, hP, hK, hN⟩ := hv
  have hx := B.exec
  have hb := B.bytes
  have hr := B.returns
  have hts0 := atoms_spec (ws := (.code yX2_noiseInAll cX2_noiseInAll 3 (some .int) :: lw_g)) B.pre
  have hts : ∀ w ∈ lw_g, w.before (([.ref (a 3)] : List Value).toArray) s = true := fun w h => hts0 w (List.mem_cons_of_mem _ h)
  clear hts0
  have hown : s.vm.findClass RX2 = some m.cls := findClass_of_methodNamed B.named
  have hlocks := B.notSynchronized
  have hret : ∀ (pc : Nat) (ls : Array Slot) (v : Int32), v = out → decode cX2_noiseInAll pc = .ok (.ireturn, 1) → W p l e ({ frames := 0, cells := 0, slots := 0, locals := 0 }) s m (([.ref (a 3)] : List Value).toArray) below meth c s.heap [] 0 0 (MQ below (vp_Si (fun r_ => r_ = out)) (([.ref (a 3)] : List Value).toArray) s 0 0 (fun _ => False)) (F0 m pc ls [.int v]) := fun pc ls v hv hd => W.iret hx hb hr (fun t ht hW => ⟨v, rfl, hv, ht⟩) (fun q hq => absurd hq List.not_mem_nil) hd
  show W p l e ({ frames := 0, cells := 0, slots := 0, locals := 0 }) s m (([.ref (a 3)] : List Value).toArray) below meth c s.heap [] 0 0 (MQ below (vp_Si (fun r_ => r_ = out)) (([.ref (a 3)] : List Value).toArray) s 0 0 (fun _ => False)) (entryFrame m (([.ref (a 3)] : List Value).toArray) 3)
  generalize MQ below (vp_Si (fun r_ => r_ = out)) (([.ref (a 3)] : List Value).toArray) s 0 0 (fun _ => False) = Q at hret ⊢
  have L4 : ∀ n : Nat, ∀ (v1 : Int32), ∀ (v2 : Int32), g_X2_noiseInAll_4 X n v1 v2 = some out → ∀ ls : Array Slot, lv_has ls 3 [(0, .ref (a 3)), (1, .int v1), (2, .int v2)] → W p l e ({ frames := 0, cells := 0, slots := 0, locals := 0 }) s m (([.ref (a 3)] : List Value).toArray) below meth c s.heap [] 0 0 Q (F0 m 4 ls []) := by
    intro n
    induction n with
    | zero =>
      intro v1 v2 hw
      rw [g_X2_noiseInAll_4] at hw
      cases hw
    | succ n ih =>
      intro v1 v2 hw ls hl
      rw [g_X2_noiseInAll_4] at hw
      refine lv_iload_n hx hb dX2_noiseInAll_4 rfl (lv_at hl 2 rfl) ?_
      refine lv_bipush (v := 6) hx hb dX2_noiseInAll_5 (by decide) ?_
      refine lv_icmp_ge (tgt := 25) hx hb dX2_noiseInAll_7 (by decide) (fun c1 => ?_) (fun c1 => ?_)
      · have hw := ite_t hw c1
        refine lv_iload_n hx hb dX2_noiseInAll_25 rfl (lv_at hl 1 rfl) ?_
        exact hret _ _ _ (Option.some.inj hw) dX2_noiseInAll_26
      · have hw := ite_f hw c1
        refine lv_iload_n hx hb dX2_noiseInAll_10 rfl (lv_at hl 1 rfl) ?_
        refine lv_aload_n hx hb dX2_noiseInAll_11 rfl (lv_at hl 0 rfl) ?_
        refine va_get (D := (dC, dI)) (ci := 2) (v := .ref (a 4)) (C := RX2) (T := TX2) (N := 17) hx hb hts iX2 hown hK hP 3 rfl rfl 0 (by decide) (hts _ wd_73) (fun _ h9 => h9) rfl dX2_noiseInAll_12 ?_
        refine lv_iload_n hx hb dX2_noiseInAll_15 rfl (lv_at hl 2 rfl) ?_
        obtain ⟨h2, hw⟩ := ixc_use hw
        refine va_iald hx hb hK hP 4 0 rfl rfl h2 dX2_noiseInAll_16 ?_
        refine lv_iadd hx hb dX2_noiseInAll_17 ?_
        refine lv_topi (fun x3 ex3 => ?_)
        have hw := stp_use hw ex3
        refine lv_istore_n (lv' := [(1, .int x3), (0, .ref (a 3)), (2, .int v2)]) hx hb dX2_noiseInAll_18 rfl hl (by decide) rfl (fun ls hl => ?_)
        obtain ⟨x4, ex4⟩ : ∃ y : Int32, y = (v2 + 1) := ⟨_, rfl⟩
        have hw := stp_use hw ex4
        refine lv_iinc (v := x4) (lv' := [(2, .int x4), (1, .int x3), (0, .ref (a 3))]) hx hb dX2_noiseInAll_19 hl (k := 2) rfl (by rw [ex4]; rfl) (by decide) rfl (fun ls hl => ?_)
        refine lv_goto (tgt := 4) hx hb dX2_noiseInAll_22 (by decide) ?_
        exact ih x3 x4 hw ls (lv_sub hl [2, 1, 0] rfl)
  have hl := lv_entry ([.ref (a 3)]) (n := 3) (Nat.le_of_ble_eq_true rfl)
  rw [lg_entry_eq]
  generalize (lg_sl ([.ref (a 3)]) ++ List.replicate (3 - (lg_sl ([.ref (a 3)])).length) Slot.unset).toArray = ls at hl ⊢
  have hl : lv_has ls 3 [(0, .ref (a 3))] := hl
  refine lv_iconst (v := 0) hx hb dX2_noiseInAll_0 (by decide) ?_
  refine lv_istore_n (lv' := [(1, .int 0), (0, .ref (a 3))]) hx hb dX2_noiseInAll_1 rfl hl (by decide) rfl (fun ls hl => ?_)
  refine lv_iconst (v := 0) hx hb dX2_noiseInAll_2 (by decide) ?_
  refine lv_istore_n (lv' := [(2, .int 0), (1, .int 0), (0, .ref (a 3))]) hx hb dX2_noiseInAll_3 rfl hl (by decide) rfl (fun ls hl => ?_)
  exact L4 NF 0 0 hw ls (lv_sub hl [2, 1, 0] rfl)
set_option maxHeartbeats 4000000 in
set_option maxRecDepth 100000 in
theorem c_X3_town (l : Launch) (dC : Nat → ClassId) (dI : Nat → Nat → Nat) (A : Nat → Prop) (a : Nat → Nat) (cA : ClassId) (X : WS) (out : (Int32 × WS)) (hw : f_X3_town X = some out) : Met l yX3_town (.code yX3_town cX3_town 1 (some .int) :: lw_g) ({ frames := 3, cells := 0, slots := 0, locals := 62 }) (PcXD dC dI A a cA X [.ref (a 0)]) (va_Qi (fun (r_ : Int32) (X_ : WS) => out = (r_, X_)) (fun X_ t => va_P (dC, dI) classes (wl a cA X_) t.heap ∧ va_K (dC, dI) classes [(cA, .int)] t) A) 0 0 (A) := by
  unfold f_X3_town at hw
  refine Met.ofW (cc := cX3_town) (maxL := 1) (ret := (some .int)) (by decide) rfl ?_
  intro p e s m args below meth c s₁ B hml hv
  obtain ⟨rfl, hP, hK, hN, hD0⟩ := hv
  have hx := B.exec
  have hb := B.bytes
  have hr := B.returns
  have hts0 := atoms_spec (ws := (.code yX3_town cX3_town 1 (some .int) :: lw_g)) B.pre
  have hts : ∀ w ∈ lw_g, w.before (([.ref (a 0)] : List Value).toArray) s = true := fun w h => hts0 w (List.mem_cons_of_mem _ h)
  clear hts0
  have hown : s.vm.findClass RX3 = some m.cls := findClass_of_methodNamed B.named
  have hlocks := B.notSynchronized
  have hret : ∀ (pc : Nat) (ls : Array Slot) (v : Int32) (X_ : WS) (H : Heap) (locs : List Loc), (v, X_) = out → va_P (dC, dI) classes (wl a cA X_) H → va_S A s.heap H locs → decode cX3_town pc = .ok (.ireturn, 1) → W p l e ({ frames := 3, cells := 0, slots := 0, locals := 62 }) s m (([.ref (a 0)] : List Value).toArray) below meth c H locs 0 0 (MQ below (va_Qi (fun (r_ : Int32) (X_ : WS) => out = (r_, X_)) (fun X_ t => va_P (dC, dI) classes (wl a cA X_) t.heap ∧ va_K (dC, dI) classes [(cA, .int)] t) A) (([.ref (a 0)] : List Value).toArray) s 0 0 (A)) (F0 m pc ls [.int v]) := fun pc ls v X_ H locs hv hP hS hd => W.iret hx hb hr (fun t ht hW => ⟨⟨v, X_, rfl, hv.symm, by rw [ht]; exact hP, va_K.moved hW.alike hK⟩, hS.F ht⟩) hS.2.2 hd
  show W p l e ({ frames := 3, cells := 0, slots := 0, locals := 62 }) s m (([.ref (a 0)] : List Value).toArray) below meth c s.heap [] 0 0 (MQ below (va_Qi (fun (r_ : Int32) (X_ : WS) => out = (r_, X_)) (fun X_ t => va_P (dC, dI) classes (wl a cA X_) t.heap ∧ va_K (dC, dI) classes [(cA, .int)] t) A) (([.ref (a 0)] : List Value).toArray) s 0 0 (A)) (entryFrame m (([.ref (a 0)] : List Value).toArray) 1)
  generalize MQ below (va_Qi (fun (r_ : Int32) (X_ : WS) => out = (r_, X_)) (fun X_ t => va_P (dC, dI) classes (wl a cA X_) t.heap ∧ va_K (dC, dI) classes [(cA, .int)] t) A) (([.ref (a 0)] : List Value).toArray) s 0 0 (A) = Q at hret ⊢
  have hS : va_S A s.heap s.heap [] := va_S.rf
  have hl := lv_entry ([.ref (a 0)]) (n := 1) (Nat.le_of_ble_eq_true rfl)
  rw [lg_entry_eq]
  generalize (lg_sl ([.ref (a 0)]) ++ List.replicate (1 - (lg_sl ([.ref (a 0)])).length) Slot.unset).toArray = ls at hl ⊢
  have hl : lv_has ls 1 [(0, .ref (a 0))] := hl
  refine lv_aload_n hx hb dX3_town_0 rfl (lv_at hl 0 rfl) ?_
  refine va_get (D := (dC, dI)) (ci := 3) (v := .ref (a 1)) (C := RX3) (T := TX3) (N := 6) hx hb hts iX3 hown hK hP 0 rfl rfl 0 (by decide) (hts _ wd_178) (fun _ h9 => h9) rfl dX3_town_1 ?_
  obtain ⟨r1, er1, hw⟩ := Option.bind_eq_some_iff.mp hw
  refine vp_callSi (va_runV (As := []) (rest := []) ⟨hx, hb, hml, hown, hts⟩ (c_X1_isTown l dC dI a cA X r1 er1) ⟨callB_of 0 hts gd_X1_isTown rfl rfl rfl (hts _ wd_36) (hts _ wd_228) hd_X1_isTown ⟨Nat.le_of_ble_eq_true rfl, Nat.le_of_ble_eq_true rfl⟩, hts _ wd_229, hts _ wd_230⟩ ⟨blX, va_recv hK hP (ci := 1) (q0 := 1) rfl rfl, fun U hU hW => ⟨rfl, by rw [hU]; exact hP, va_K.moved hW.alike hK, nst.warm hW hN⟩⟩ rfl rfl hl.1 rfl (lv_room (Nat.le_of_ble_eq_true rfl)) dX3_town_4 ⟨Nat.zero_le _, Nat.zero_le _⟩).run (fun r_ e_ => ?_)
  subst r_
  refine lv_if_ne (tgt := 13) hx hb dX3_town_7 (by decide) (fun c2 => ?_) (fun c2 => ?_)
  · have hw := ite_f hw c2
    refine lv_aload_n hx hb dX3_town_13 rfl (lv_at hl 0 rfl) ?_
    refine va_get (D := (dC, dI)) (ci := 3) (v := .ref (a 3)) (C := RX3) (T := TX3) (N := 6) hx hb hts iX3 hown hK hP 0 rfl rfl 1 (by decide) (hts _ wd_179) (fun _ h9 => h9) rfl dX3_town_14 ?_
    refine lv_aload_n hx hb dX3_town_17 rfl (lv_at hl 0 rfl) ?_
    refine va_get (D := (dC, dI)) (ci := 3) (v := .ref (a 1)) (C := RX3) (T := TX3) (N := 6) hx hb hts iX3 hown hK hP 0 rfl rfl 0 (by decide) (hts _ wd_178) (fun _ h9 => h9) rfl dX3_town_18 ?_
    obtain ⟨X3, eX3, hw⟩ := Option.bind_eq_some_iff.mp hw
    refine va_callv (va_runV (As := [.ref (a 1)]) (rest := []) ⟨hx, hb, hml, hown, hts⟩ (c_X2_begin l dC dI A a cA X X3 eX3) ⟨callB_of 1 hts gd_X2_begin rfl rfl rfl (hts _ wd_37) (hts _ wd_233) hd_X2_begin ⟨Nat.le_of_ble_eq_true rfl, Nat.le_of_ble_eq_true rfl⟩, hts _ wd_234, hts _ wd_235⟩ ⟨blXD, va_recv hK hP (ci := 2) (q0 := 3) rfl rfl, fun U hU hW => ⟨rfl, by rw [hU]; exact hP, va_K.moved hW.alike hK, nst.warm hW hN, wlD hD0⟩⟩ rfl rfl hl.1 rfl (lv_room (Nat.le_of_ble_eq_true rfl)) dX3_town_21 ⟨Nat.zero_le _, Nat.zero_le _⟩) hS (fun _ _ h => h) (fun _ h => h) (fun u_ t_ H1 locs1 ht hvm hp_ hB hz1 hk1 hS1 => ?_)
    subst hp_
    obtain ⟨hP1, hK1⟩ := hB
    rw [ht] at hP1
    have hP := hP1
    have hS := hS1
    refine lv_aload_n hx hb dX3_town_24 rfl (lv_at hl 0 rfl) ?_
    refine va_get (D := (dC, dI)) (ci := 3) (v := .ref (a 1)) (C := RX3) (T := TX3) (N := 6) hx hb hts iX3 hown hK hP 0 rfl rfl 0 (by decide) (hts _ wd_178) (fun _ h9 => h9) rfl dX3_town_25 ?_
    obtain ⟨r4, X5, er4, hw⟩ := bnd2_use hw
    refine va_calli (va_runV (As := []) (rest := []) ⟨hx, hb, hml, hown, hts⟩ (c_X1_clear l dC dI A a cA X3 (r4, X5) er4) ⟨callB_of 0 hts gd_X1_clear rfl rfl rfl (hts _ wd_36) (hts _ wd_209) hd_X1_clear ⟨Nat.le_of_ble_eq_true rfl, Nat.le_of_ble_eq_true rfl⟩, hts _ wd_210, hts _ wd_211⟩ ⟨blXD, va_recv hK hP (ci := 1) (q0 := 1) rfl rfl, fun U hU hW => ⟨rfl, by rw [hU]; exact hP, va_K.moved hW.alike hK, nst.warm hW hN, wlD hD0⟩⟩ rfl rfl hl.1 rfl (lv_room (Nat.le_of_ble_eq_true rfl)) dX3_town_28 ⟨Nat.zero_le _, Nat.zero_le _⟩) hS (fun _ _ h => h) (fun _ h => h) (fun r_ u_ t_ H1 locs1 ht hvm hp_ hB hz1 hk1 hS1 => ?_)
    obtain ⟨q1_, q2_⟩ := Prod.mk.inj hp_
    subst q1_
    subst q2_
    obtain ⟨hP1, hK1⟩ := hB
    rw [ht] at hP1
    have hP := hP1
    have hS := hS1
    refine lv_pop hx hb dX3_town_31 rfl ?_
    refine lv_aload_n hx hb dX3_town_32 rfl (lv_at hl 0 rfl) ?_
    refine lv_iconst (v := 0) hx hb dX3_town_33 (by decide) ?_
    refine va_put (D := (dC, dI)) (ci := 3) (v := .int 0) (ty := .boolean) (C := RX3) (T := TX3) (N := 6) hx hb hts iX3 tyX3 tyX3_ok nmX3 hown hK hP (wlD hD0) hS 0 rfl rfl 4 (by decide) (hts _ wd_182) (fun _ h9 => h9) rfl (by decide +kernel) rfl rfl (Nat.le_of_ble_eq_true rfl) dX3_town_34 (fun H locs hP hD_ hS => ?_)
    obtain ⟨X6, eX6⟩ : ∃ y : WS, y = (ups X5 0 4 0) := ⟨_, rfl⟩
    have hw := stp_use hw eX6
    have hP : va_P (dC, dI) classes (wl a cA X6) H := by rw [eX6]; exact hP
    refine lv_aload_n hx hb dX3_town_37 rfl (lv_at hl 0 rfl) ?_
    refine lv_dup hx hb dX3_town_38 rfl ?_
    refine va_get (D := (dC, dI)) (ci := 3) (v := .int (X6 0 5)) (C := RX3) (T := TX3) (N := 6) hx hb hts iX3 hown hK hP 0 rfl rfl 5 (by decide) (hts _ wd_183) (fun _ h9 => h9) rfl dX3_town_39 ?_
    refine lv_iconst (v := 1) hx hb dX3_town_42 (by decide) ?_
    refine lv_iadd hx hb dX3_town_43 ?_
    refine lv_topi (fun x7 ex7 => ?_)
    have hw := stp_use hw ex7
    refine va_put (D := (dC, dI)) (ci := 3) (v := .int x7) (ty := .int) (C := RX3) (T := TX3) (N := 6) hx hb hts iX3 tyX3 tyX3_ok nmX3 hown hK hP (wlD hD0) hS 0 rfl rfl 5 (by decide) (hts _ wd_183) (fun _ h9 => h9) rfl (by decide +kernel) rfl rfl (Nat.le_of_ble_eq_true rfl) dX3_town_44 (fun H locs hP hD_ hS => ?_)
    obtain ⟨X8, eX8⟩ : ∃ y : WS, y = (ups X6 0 5 x7) := ⟨_, rfl⟩
    have hw := stp_use hw eX8
    have hP : va_P (dC, dI) classes (wl a cA X8) H := by rw [eX8]; exact hP
    refine lv_aload_n hx hb dX3_town_47 rfl (lv_at hl 0 rfl) ?_
    refine va_get (D := (dC, dI)) (ci := 3) (v := .ref (a 3)) (C := RX3) (T := TX3) (N := 6) hx hb hts iX3 hown hK hP 0 rfl rfl 1 (by decide) (hts _ wd_179) (fun _ h9 => h9) rfl dX3_town_48 ?_
    obtain ⟨r9, er9, hw⟩ := Option.bind_eq_some_iff.mp hw
    refine vp_callSi (va_runV (As := []) (rest := []) ⟨hx, hb, hml, hown, hts⟩ (c_X2_noiseInAll l dC dI a cA X8 r9 er9) ⟨callB_of 0 hts gd_X2_noiseInAll rfl rfl rfl (hts _ wd_37) (hts _ wd_245) hd_X2_noiseInAll ⟨Nat.le_of_ble_eq_true rfl, Nat.le_of_ble_eq_true rfl⟩, hts _ wd_246, hts _ wd_247⟩ ⟨blX, va_recv hK hP (ci := 2) (q0 := 3) rfl rfl, fun U hU hW => ⟨rfl, by rw [hU]; exact hP, va_K.moved hW.alike hK, nst.warm hW hN⟩⟩ rfl rfl hl.1 rfl (lv_room (Nat.le_of_ble_eq_true rfl)) dX3_town_51 ⟨Nat.zero_le _, Nat.zero_le _⟩).run (fun r_ e_ => ?_)
    subst r_
    exact hret _ _ _ _ _ _ (Option.some.inj hw) hP hS dX3_town_54
  · have hw := ite_t hw c2
    refine lv_bipush (v := (-103)) hx hb dX3_town_10 (by decide) ?_
    exact hret _ _ _ _ _ _ (Option.some.inj hw) hP hS dX3_town_12
set_option maxHeartbeats 4000000 in
set_option maxRecDepth 100000 in
theorem c_X4_town (l : Launch) (dC : Nat → ClassId) (dI : Nat → Nat → Nat) (A : Nat → Prop) (a : Nat → Nat) (cA : ClassId) (X : MS) (out : (Int32 × MS)) (hw : f_X4_town X = some out) : Met l yX4_town (.code yX4_town cX4_town 3 (some .int) :: lw_g) ({ frames := 3, cells := 0, slots := 0, locals := 68 }) (PcMD dC dI A a cA X [.ref (a 0)]) (va_Qi (fun (r_ : Int32) (X_ : MS) => out = (r_, X_)) (fun X_ t => va_P (dC, dI) classes (wm a cA X_) t.heap ∧ va_K (dC, dI) classes [(cA, .int)] t) A) 0 0 (A) := by
  unfold f_X4_town at hw
  refine Met.ofW (cc := cX4_town) (maxL := 3) (ret := (some .int)) (by decide) rfl ?_
  intro p e s m args below meth c s₁ B hml hv
  obtain ⟨rfl, hP, hK, hD0⟩ := hv
  have hx := B.exec
  have hb := B.bytes
  have hr := B.returns
  have hts0 := atoms_spec (ws := (.code yX4_town cX4_town 3 (some .int) :: lw_g)) B.pre
  have hts : ∀ w ∈ lw_g, w.before (([.ref (a 0)] : List Value).toArray) s = true := fun w h => hts0 w (List.mem_cons_of_mem _ h)
  clear hts0
  have hown : s.vm.findClass RX4 = some m.cls := findClass_of_methodNamed B.named
  have hlocks := B.notSynchronized
  have hret : ∀ (pc : Nat) (ls : Array Slot) (v : Int32) (X_ : MS) (H : Heap) (locs : List Loc), (v, X_) = out → va_P (dC, dI) classes (wm a cA X_) H → va_S A s.heap H locs → decode cX4_town pc = .ok (.ireturn, 1) → W p l e ({ frames := 3, cells := 0, slots := 0, locals := 68 }) s m (([.ref (a 0)] : List Value).toArray) below meth c H locs 0 0 (MQ below (va_Qi (fun (r_ : Int32) (X_ : MS) => out = (r_, X_)) (fun X_ t => va_P (dC, dI) classes (wm a cA X_) t.heap ∧ va_K (dC, dI) classes [(cA, .int)] t) A) (([.ref (a 0)] : List Value).toArray) s 0 0 (A)) (F0 m pc ls [.int v]) := fun pc ls v X_ H locs hv hP hS hd => W.iret hx hb hr (fun t ht hW => ⟨⟨v, X_, rfl, hv.symm, by rw [ht]; exact hP, va_K.moved hW.alike hK⟩, hS.F ht⟩) hS.2.2 hd
  show W p l e ({ frames := 3, cells := 0, slots := 0, locals := 68 }) s m (([.ref (a 0)] : List Value).toArray) below meth c s.heap [] 0 0 (MQ below (va_Qi (fun (r_ : Int32) (X_ : MS) => out = (r_, X_)) (fun X_ t => va_P (dC, dI) classes (wm a cA X_) t.heap ∧ va_K (dC, dI) classes [(cA, .int)] t) A) (([.ref (a 0)] : List Value).toArray) s 0 0 (A)) (entryFrame m (([.ref (a 0)] : List Value).toArray) 3)
  generalize MQ below (va_Qi (fun (r_ : Int32) (X_ : MS) => out = (r_, X_)) (fun X_ t => va_P (dC, dI) classes (wm a cA X_) t.heap ∧ va_K (dC, dI) classes [(cA, .int)] t) A) (([.ref (a 0)] : List Value).toArray) s 0 0 (A) = Q at hret ⊢
  have hS : va_S A s.heap s.heap [] := va_S.rf
  have L25 : ∀ n : Nat, ∀ (X : MS), ∀ (v1 : Int32), ∀ (v2 : Int32), g_X4_town_25 n X v1 v2 = some out → ∀ (H : Heap) (locs : List Loc), va_P (dC, dI) classes (wm a cA X) H → va_S A s.heap H locs → ∀ ls : Array Slot, lv_has ls 3 [(0, .ref (a 0)), (1, .int v1), (2, .int v2)] → W p l e ({ frames := 3, cells := 0, slots := 0, locals := 68 }) s m (([.ref (a 0)] : List Value).toArray) below meth c H locs 0 0 Q (F0 m 25 ls []) := by
    intro n
    induction n with
    | zero =>
      intro X v1 v2 hw
      rw [g_X4_town_25] at hw
      cases hw
    | succ n ih =>
      intro X v1 v2 hw H locs hP hS ls hl
      rw [g_X4_town_25] at hw
      refine lv_iload_n hx hb dX4_town_25 rfl (lv_at hl 2 rfl) ?_
      refine lv_bipush (v := 6) hx hb dX4_town_26 (by decide) ?_
      refine lv_icmp_ge (tgt := 61) hx hb dX4_town_28 (by decide) (fun c4 => ?_) (fun c4 => ?_)
      · have hw := ite_t hw c4
        refine lv_aload_n hx hb dX4_town_61 rfl (lv_at hl 0 rfl) ?_
        refine lv_aload_n hx hb dX4_town_62 rfl (lv_at hl 0 rfl) ?_
        refine va_get (D := (dC, dI)) (ci := 4) (v := .ref (a 1)) (C := RX4) (T := TX4) (N := 29) hx hb hts iX4 hown hK hP 0 rfl rfl 0 (by decide) (hts _ wd_522) (fun _ h9 => h9) rfl dX4_town_63 ?_
        refine lv_bipush (v := 7) hx hb dX4_town_66 (by decide) ?_
        refine va_iald hx hb hK hP 1 0 rfl rfl (show vp_in 7 12 by unfold vp_in; decide) dX4_town_68 ?_
        refine lv_bipush (v := 48) hx hb dX4_town_69 (by decide) ?_
        refine lv_isub hx hb dX4_town_71 ?_
        refine lv_topi (fun x5 ex5 => ?_)
        have hw := stp_use hw ex5
        refine va_put (D := (dC, dI)) (ci := 4) (v := .int x5) (ty := .int) (C := RX4) (T := TX4) (N := 29) hx hb hts iX4 tyX4 tyX4_ok nmX4 hown hK hP (wmD hD0) hS 0 rfl rfl 2 (by decide) (hts _ wd_524) (fun _ h9 => h9) rfl (by decide +kernel) rfl rfl (Nat.le_of_ble_eq_true rfl) dX4_town_72 (fun H locs hP hD_ hS => ?_)
        obtain ⟨X6, eX6⟩ : ∃ y : MS, y = (ups X.1 0 2 x5, X.2) := ⟨_, rfl⟩
        have hw := stp_use hw eX6
        have hP : va_P (dC, dI) classes (wm a cA X6) H := by rw [eX6]; exact hP
        refine lv_aload_n hx hb dX4_town_75 rfl (lv_at hl 0 rfl) ?_
        refine lv_aload_n hx hb dX4_town_76 rfl (lv_at hl 0 rfl) ?_
        refine va_get (D := (dC, dI)) (ci := 4) (v := .int (X6.1 0 2)) (C := RX4) (T := TX4) (N := 29) hx hb hts iX4 hown hK hP 0 rfl rfl 2 (by decide) (hts _ wd_524) (fun _ h9 => h9) rfl dX4_town_77 ?_
        refine lv_topi (fun x7 ex7 => ?_)
        have hw := stp_use hw ex7
        refine va_put (D := (dC, dI)) (ci := 4) (v := .int x7) (ty := .int) (C := RX4) (T := TX4) (N := 29) hx hb hts iX4 tyX4 tyX4_ok nmX4 hown hK hP (wmD hD0) hS 0 rfl rfl 3 (by decide) (hts _ wd_525) (fun _ h9 => h9) rfl (by decide +kernel) rfl rfl (Nat.le_of_ble_eq_true rfl) dX4_town_80 (fun H locs hP hD_ hS => ?_)
        obtain ⟨X8, eX8⟩ : ∃ y : MS, y = (ups X6.1 0 3 x7, X6.2) := ⟨_, rfl⟩
        have hw := stp_use hw eX8
        have hP : va_P (dC, dI) classes (wm a cA X8) H := by rw [eX8]; exact hP
        refine lv_aload_n hx hb dX4_town_83 rfl (lv_at hl 0 rfl) ?_
        refine lv_aload_n hx hb dX4_town_84 rfl (lv_at hl 0 rfl) ?_
        refine va_get (D := (dC, dI)) (ci := 4) (v := .ref (a 1)) (C := RX4) (T := TX4) (N := 29) hx hb hts iX4 hown hK hP 0 rfl rfl 0 (by decide) (hts _ wd_522) (fun _ h9 => h9) rfl dX4_town_85 ?_
        refine lv_bipush (v := 8) hx hb dX4_town_88 (by decide) ?_
        refine va_iald hx hb hK hP 1 0 rfl rfl (show vp_in 8 12 by unfold vp_in; decide) dX4_town_90 ?_
        refine lv_bipush (v := 48) hx hb dX4_town_91 (by decide) ?_
        refine lv_isub hx hb dX4_town_93 ?_
        refine lv_topi (fun x9 ex9 => ?_)
        have hw := stp_use hw ex9
        refine va_put (D := (dC, dI)) (ci := 4) (v := .int x9) (ty := .int) (C := RX4) (T := TX4) (N := 29) hx hb hts iX4 tyX4 tyX4_ok nmX4 hown hK hP (wmD hD0) hS 0 rfl rfl 4 (by decide) (hts _ wd_526) (fun _ h9 => h9) rfl (by decide +kernel) rfl rfl (Nat.le_of_ble_eq_true rfl) dX4_town_94 (fun H locs hP hD_ hS => ?_)
        obtain ⟨X10, eX10⟩ : ∃ y : MS, y = (ups X8.1 0 4 x9, X8.2) := ⟨_, rfl⟩
        have hw := stp_use hw eX10
        have hP : va_P (dC, dI) classes (wm a cA X10) H := by rw [eX10]; exact hP
        refine lv_aload_n hx hb dX4_town_97 rfl (lv_at hl 0 rfl) ?_
        refine lv_iconst (v := 0) hx hb dX4_town_98 (by decide) ?_
        refine va_put (D := (dC, dI)) (ci := 4) (v := .int 0) (ty := .int) (C := RX4) (T := TX4) (N := 29) hx hb hts iX4 tyX4 tyX4_ok nmX4 hown hK hP (wmD hD0) hS 0 rfl rfl 5 (by decide) (hts _ wd_527) (fun _ h9 => h9) rfl (by decide +kernel) rfl rfl (Nat.le_of_ble_eq_true rfl) dX4_town_99 (fun H locs hP hD_ hS => ?_)
        obtain ⟨X11, eX11⟩ : ∃ y : MS, y = (ups X10.1 0 5 0, X10.2) := ⟨_, rfl⟩
        have hw := stp_use hw eX11
        have hP : va_P (dC, dI) classes (wm a cA X11) H := by rw [eX11]; exact hP
        refine lv_aload_n hx hb dX4_town_102 rfl (lv_at hl 0 rfl) ?_
        refine lv_iconst (v := 0) hx hb dX4_town_103 (by decide) ?_
        refine va_put (D := (dC, dI)) (ci := 4) (v := .int 0) (ty := .int) (C := RX4) (T := TX4) (N := 29) hx hb hts iX4 tyX4 tyX4_ok nmX4 hown hK hP (wmD hD0) hS 0 rfl rfl 6 (by decide) (hts _ wd_528) (fun _ h9 => h9) rfl (by decide +kernel) rfl rfl (Nat.le_of_ble_eq_true rfl) dX4_town_104 (fun H locs hP hD_ hS => ?_)
        obtain ⟨X12, eX12⟩ : ∃ y : MS, y = (ups X11.1 0 6 0, X11.2) := ⟨_, rfl⟩
        have hw := stp_use hw eX12
        have hP : va_P (dC, dI) classes (wm a cA X12) H := by rw [eX12]; exact hP
        refine lv_aload_n hx hb dX4_town_107 rfl (lv_at hl 0 rfl) ?_
        refine lv_iconst (v := 1) hx hb dX4_town_108 (by decide) ?_
        refine va_put (D := (dC, dI)) (ci := 4) (v := .int 1) (ty := .int) (C := RX4) (T := TX4) (N := 29) hx hb hts iX4 tyX4 tyX4_ok nmX4 hown hK hP (wmD hD0) hS 0 rfl rfl 7 (by decide) (hts _ wd_529) (fun _ h9 => h9) rfl (by decide +kernel) rfl rfl (Nat.le_of_ble_eq_true rfl) dX4_town_109 (fun H locs hP hD_ hS => ?_)
        obtain ⟨X13, eX13⟩ : ∃ y : MS, y = (ups X12.1 0 7 1, X12.2) := ⟨_, rfl⟩
        have hw := stp_use hw eX13
        have hP : va_P (dC, dI) classes (wm a cA X13) H := by rw [eX13]; exact hP
        refine lv_aload_n hx hb dX4_town_112 rfl (lv_at hl 0 rfl) ?_
        refine lv_iconst (v := 1) hx hb dX4_town_113 (by decide) ?_
        refine va_put (D := (dC, dI)) (ci := 4) (v := .int 1) (ty := .int) (C := RX4) (T := TX4) (N := 29) hx hb hts iX4 tyX4 tyX4_ok nmX4 hown hK hP (wmD hD0) hS 0 rfl rfl 8 (by decide) (hts _ wd_530) (fun _ h9 => h9) rfl (by decide +kernel) rfl rfl (Nat.le_of_ble_eq_true rfl) dX4_town_114 (fun H locs hP hD_ hS => ?_)
        obtain ⟨X14, eX14⟩ : ∃ y : MS, y = (ups X13.1 0 8 1, X13.2) := ⟨_, rfl⟩
        have hw := stp_use hw eX14
        have hP : va_P (dC, dI) classes (wm a cA X14) H := by rw [eX14]; exact hP
        refine lv_aload_n hx hb dX4_town_117 rfl (lv_at hl 0 rfl) ?_
        refine lv_iconst (v := 0) hx hb dX4_town_118 (by decide) ?_
        refine va_put (D := (dC, dI)) (ci := 4) (v := .int 0) (ty := .int) (C := RX4) (T := TX4) (N := 29) hx hb hts iX4 tyX4 tyX4_ok nmX4 hown hK hP (wmD hD0) hS 0 rfl rfl 11 (by decide) (hts _ wd_533) (fun _ h9 => h9) rfl (by decide +kernel) rfl rfl (Nat.le_of_ble_eq_true rfl) dX4_town_119 (fun H locs hP hD_ hS => ?_)
        obtain ⟨X15, eX15⟩ : ∃ y : MS, y = (ups X14.1 0 11 0, X14.2) := ⟨_, rfl⟩
        have hw := stp_use hw eX15
        have hP : va_P (dC, dI) classes (wm a cA X15) H := by rw [eX15]; exact hP
        refine lv_aload_n hx hb dX4_town_122 rfl (lv_at hl 0 rfl) ?_
        refine lv_iconst (v := 0) hx hb dX4_town_123 (by decide) ?_
        refine va_put (D := (dC, dI)) (ci := 4) (v := .int 0) (ty := .int) (C := RX4) (T := TX4) (N := 29) hx hb hts iX4 tyX4 tyX4_ok nmX4 hown hK hP (wmD hD0) hS 0 rfl rfl 14 (by decide) (hts _ wd_536) (fun _ h9 => h9) rfl (by decide +kernel) rfl rfl (Nat.le_of_ble_eq_true rfl) dX4_town_124 (fun H locs hP hD_ hS => ?_)
        obtain ⟨X16, eX16⟩ : ∃ y : MS, y = (ups X15.1 0 14 0, X15.2) := ⟨_, rfl⟩
        have hw := stp_use hw eX16
        have hP : va_P (dC, dI) classes (wm a cA X16) H := by rw [eX16]; exact hP
        refine lv_aload_n hx hb dX4_town_127 rfl (lv_at hl 0 rfl) ?_
        refine lv_dup hx hb dX4_town_128 rfl ?_
        refine va_get (D := (dC, dI)) (ci := 4) (v := .int (X16.1 0 9)) (C := RX4) (T := TX4) (N := 29) hx hb hts iX4 hown hK hP 0 rfl rfl 9 (by decide) (hts _ wd_531) (fun _ h9 => h9) rfl dX4_town_129 ?_
        refine lv_iconst (v := 1) hx hb dX4_town_132 (by decide) ?_
        refine lv_iadd hx hb dX4_town_133 ?_
        refine lv_topi (fun x17 ex17 => ?_)
        have hw := stp_use hw ex17
        refine va_put (D := (dC, dI)) (ci := 4) (v := .int x17) (ty := .int) (C := RX4) (T := TX4) (N := 29) hx hb hts iX4 tyX4 tyX4_ok nmX4 hown hK hP (wmD hD0) hS 0 rfl rfl 9 (by decide) (hts _ wd_531) (fun _ h9 => h9) rfl (by decide +kernel) rfl rfl (Nat.le_of_ble_eq_true rfl) dX4_town_134 (fun H locs hP hD_ hS => ?_)
        obtain ⟨X18, eX18⟩ : ∃ y : MS, y = (ups X16.1 0 9 x17, X16.2) := ⟨_, rfl⟩
        have hw := stp_use hw eX18
        have hP : va_P (dC, dI) classes (wm a cA X18) H := by rw [eX18]; exact hP
        refine lv_aload_n hx hb dX4_town_137 rfl (lv_at hl 0 rfl) ?_
        refine lv_iconst (v := 0) hx hb dX4_town_138 (by decide) ?_
        refine va_put (D := (dC, dI)) (ci := 4) (v := .int 0) (ty := .int) (C := RX4) (T := TX4) (N := 29) hx hb hts iX4 tyX4 tyX4_ok nmX4 hown hK hP (wmD hD0) hS 0 rfl rfl 1 (by decide) (hts _ wd_523) (fun _ h9 => h9) rfl (by decide +kernel) rfl rfl (Nat.le_of_ble_eq_true rfl) dX4_town_139 (fun H locs hP hD_ hS => ?_)
        obtain ⟨X19, eX19⟩ : ∃ y : MS, y = (ups X18.1 0 1 0, X18.2) := ⟨_, rfl⟩
        have hw := stp_use hw eX19
        have hP : va_P (dC, dI) classes (wm a cA X19) H := by rw [eX19]; exact hP
        refine lv_iload_n hx hb dX4_town_142 rfl (lv_at hl 1 rfl) ?_
        exact hret _ _ _ _ _ _ (Option.some.inj hw) hP hS dX4_town_143
      · have hw := ite_f hw c4
        refine lv_aload_n hx hb dX4_town_31 rfl (lv_at hl 0 rfl) ?_
        refine va_get (D := (dC, dI)) (ci := 4) (v := .ref (a 2)) (C := RX4) (T := TX4) (N := 29) hx hb hts iX4 hown hK hP 0 rfl rfl 10 (by decide) (hts _ wd_532) (fun _ h9 => h9) rfl dX4_town_32 ?_
        refine lv_iload_n hx hb dX4_town_35 rfl (lv_at hl 2 rfl) ?_
        refine lv_aload_n hx hb dX4_town_36 rfl (lv_at hl 0 rfl) ?_
        refine va_get (D := (dC, dI)) (ci := 4) (v := .ref (a 1)) (C := RX4) (T := TX4) (N := 29) hx hb hts iX4 hown hK hP 0 rfl rfl 0 (by decide) (hts _ wd_522) (fun _ h9 => h9) rfl dX4_town_37 ?_
        refine lv_iload_n hx hb dX4_town_40 rfl (lv_at hl 2 rfl) ?_
        obtain ⟨h20, hw⟩ := ixc_use hw
        refine va_iald hx hb hK hP 1 0 rfl rfl h20 dX4_town_41 ?_
        refine lv_bipush (v := 48) hx hb dX4_town_42 (by decide) ?_
        refine lv_isub hx hb dX4_town_44 ?_
        refine lv_topi (fun x22 ex22 => ?_)
        have hw := stp_use hw ex22
        obtain ⟨h21, hw⟩ := ixc_use hw
        refine va_iast hx hb hK hP (wmD hD0) hS 2 0 rfl rfl h21 dX4_town_45 (fun H locs hP hD_ hS => ?_)
        obtain ⟨X23, eX23⟩ : ∃ y : MS, y = (ups X.1 2 (Int32.toNatClampNeg v2) x22, X.2) := ⟨_, rfl⟩
        have hw := stp_use hw eX23
        have hP : va_P (dC, dI) classes (wm a cA X23) H := by rw [eX23]; exact hP
        refine lv_iload_n hx hb dX4_town_46 rfl (lv_at hl 1 rfl) ?_
        refine lv_aload_n hx hb dX4_town_47 rfl (lv_at hl 0 rfl) ?_
        refine va_get (D := (dC, dI)) (ci := 4) (v := .ref (a 2)) (C := RX4) (T := TX4) (N := 29) hx hb hts iX4 hown hK hP 0 rfl rfl 10 (by decide) (hts _ wd_532) (fun _ h9 => h9) rfl dX4_town_48 ?_
        refine lv_iload_n hx hb dX4_town_51 rfl (lv_at hl 2 rfl) ?_
        obtain ⟨h24, hw⟩ := ixc_use hw
        refine va_iald hx hb hK hP 2 0 rfl rfl h24 dX4_town_52 ?_
        refine lv_iadd hx hb dX4_town_53 ?_
        refine lv_topi (fun x25 ex25 => ?_)
        have hw := stp_use hw ex25
        refine lv_istore_n (lv' := [(1, .int x25), (0, .ref (a 0)), (2, .int v2)]) hx hb dX4_town_54 rfl hl (by decide) rfl (fun ls hl => ?_)
        obtain ⟨x26, ex26⟩ : ∃ y : Int32, y = (v2 + 1) := ⟨_, rfl⟩
        have hw := stp_use hw ex26
        refine lv_iinc (v := x26) (lv' := [(2, .int x26), (1, .int x25), (0, .ref (a 0))]) hx hb dX4_town_55 hl (k := 2) rfl (by rw [ex26]; rfl) (by decide) rfl (fun ls hl => ?_)
        refine lv_goto (tgt := 25) hx hb dX4_town_58 (by decide) ?_
        exact ih X23 x25 x26 hw _ _ hP hS ls (lv_sub hl [2, 1, 0] rfl)
  have hl := lv_entry ([.ref (a 0)]) (n := 3) (Nat.le_of_ble_eq_true rfl)
  rw [lg_entry_eq]
  generalize (lg_sl ([.ref (a 0)]) ++ List.replicate (3 - (lg_sl ([.ref (a 0)])).length) Slot.unset).toArray = ls at hl ⊢
  have hl : lv_has ls 3 [(0, .ref (a 0))] := hl
  refine lv_aload_n hx hb dX4_town_0 rfl (lv_at hl 0 rfl) ?_
  refine va_get (D := (dC, dI)) (ci := 4) (v := .int (X.1 0 1)) (C := RX4) (T := TX4) (N := 29) hx hb hts iX4 hown hK hP 0 rfl rfl 1 (by decide) (hts _ wd_523) (fun _ h9 => h9) rfl dX4_town_1 ?_
  refine lv_bipush (v := 9) hx hb dX4_town_4 (by decide) ?_
  refine lv_icmp_ne (tgt := 18) hx hb dX4_town_6 (by decide) (fun c1 => ?_) (fun c1 => ?_)
  · have hw := ite_f hw c1
    refine lv_bipush (v := (-103)) hx hb dX4_town_18 (by decide) ?_
    exact hret _ _ _ _ _ _ (Option.some.inj hw) hP hS dX4_town_20
  · have hw := ite_t hw c1
    refine lv_aload_n hx hb dX4_town_9 rfl (lv_at hl 0 rfl) ?_
    obtain ⟨r2, er2, hw⟩ := Option.bind_eq_some_iff.mp hw
    refine vp_callSi (va_runV (As := []) (rest := []) ⟨hx, hb, hml, hown, hts⟩ (c_X4_faultOf l dC dI a cA X r2 er2) ⟨callB_of 0 hts gd_X4_faultOf rfl rfl rfl (hts _ wd_39) (hts _ wd_626) hd_X4_faultOf ⟨Nat.le_of_ble_eq_true rfl, Nat.le_of_ble_eq_true rfl⟩, hts _ wd_628, hts _ wd_10⟩ ⟨blM, va_recv hK hP (ci := 4) (q0 := 0) rfl rfl, fun U hU hW => ⟨rfl, by rw [hU]; exact hP, va_K.moved hW.alike hK⟩⟩ rfl rfl hl.1 rfl (lv_room (Nat.le_of_ble_eq_true rfl)) dX4_town_10 ⟨Nat.zero_le _, Nat.zero_le _⟩).run (fun r_ e_ => ?_)
    subst r_
    refine lv_bipush (v := 9) hx hb dX4_town_13 (by decide) ?_
    refine lv_icmp_ge (tgt := 21) hx hb dX4_town_15 (by decide) (fun c3 => ?_) (fun c3 => ?_)
    · have hw := ite_t hw c3
      refine lv_iconst (v := 0) hx hb dX4_town_21 (by decide) ?_
      refine lv_istore_n (lv' := [(1, .int 0), (0, .ref (a 0))]) hx hb dX4_town_22 rfl hl (by decide) rfl (fun ls hl => ?_)
      refine lv_iconst (v := 0) hx hb dX4_town_23 (by decide) ?_
      refine lv_istore_n (lv' := [(2, .int 0), (1, .int 0), (0, .ref (a 0))]) hx hb dX4_town_24 rfl hl (by decide) rfl (fun ls hl => ?_)
      exact L25 NF X 0 0 hw _ _ hP hS ls (lv_sub hl [2, 1, 0] rfl)
    · have hw := ite_f hw c3
      refine lv_bipush (v := (-103)) hx hb dX4_town_18 (by decide) ?_
      exact hret _ _ _ _ _ _ (Option.some.inj hw) hP hS dX4_town_20
set_option maxHeartbeats 4000000 in
set_option maxRecDepth 100000 in
theorem c_X3_hasTown (l : Launch) (dC : Nat → ClassId) (dI : Nat → Nat → Nat) (a : Nat → Nat) (cA : ClassId) (X : WS) (out : Int32) (hw : f_X3_hasTown X = some out) : Met l yX3_hasTown (.code yX3_hasTown cX3_hasTown 1 (some .boolean) :: lw_g) ({ frames := 0, cells := 0, slots := 0, locals := 0 }) (PcX dC dI a cA X [.ref (a 0)]) (vp_Si (fun r_ => r_ = out)) 0 0 (fun _ => False) := by
  unfold f_X3_hasTown at hw
  refine Met.ofW (cc := cX3_hasTown) (maxL := 1) (ret := (some .boolean)) (by decide) rfl ?_
  intro p e s m args below meth c s₁ B hml hv
  obtain ⟨rfl, hP, hK, hN⟩ := hv
  have hx := B.exec
  have hb := B.bytes
  have hr := B.returns
  have hts0 := atoms_spec (ws := (.code yX3_hasTown cX3_hasTown 1 (some .boolean) :: lw_g)) B.pre
  have hts : ∀ w ∈ lw_g, w.before (([.ref (a 0)] : List Value).toArray) s = true := fun w h => hts0 w (List.mem_cons_of_mem _ h)
  clear hts0
  have hown : s.vm.findClass RX3 = some m.cls := findClass_of_methodNamed B.named
  have hlocks := B.notSynchronized
  have hret : ∀ (pc : Nat) (ls : Array Slot) (v : Int32), v = out → (hz : narrow .boolean (.int v) = .int v) → decode cX3_hasTown pc = .ok (.ireturn, 1) → W p l e ({ frames := 0, cells := 0, slots := 0, locals := 0 }) s m (([.ref (a 0)] : List Value).toArray) below meth c s.heap [] 0 0 (MQ below (vp_Si (fun r_ => r_ = out)) (([.ref (a 0)] : List Value).toArray) s 0 0 (fun _ => False)) (F0 m pc ls [.int v]) := fun pc ls v hv hz hd => W.zret hx hb hr hz (fun t ht hW => ⟨v, rfl, hv, ht⟩) (fun q hq => absurd hq List.not_mem_nil) hd
  show W p l e ({ frames := 0, cells := 0, slots := 0, locals := 0 }) s m (([.ref (a 0)] : List Value).toArray) below meth c s.heap [] 0 0 (MQ below (vp_Si (fun r_ => r_ = out)) (([.ref (a 0)] : List Value).toArray) s 0 0 (fun _ => False)) (entryFrame m (([.ref (a 0)] : List Value).toArray) 1)
  generalize MQ below (vp_Si (fun r_ => r_ = out)) (([.ref (a 0)] : List Value).toArray) s 0 0 (fun _ => False) = Q at hret ⊢
  have hl := lv_entry ([.ref (a 0)]) (n := 1) (Nat.le_of_ble_eq_true rfl)
  rw [lg_entry_eq]
  generalize (lg_sl ([.ref (a 0)]) ++ List.replicate (1 - (lg_sl ([.ref (a 0)])).length) Slot.unset).toArray = ls at hl ⊢
  have hl : lv_has ls 1 [(0, .ref (a 0))] := hl
  refine lv_aload_n hx hb dX3_hasTown_0 rfl (lv_at hl 0 rfl) ?_
  refine va_get (D := (dC, dI)) (ci := 3) (v := .int (X 0 5)) (C := RX3) (T := TX3) (N := 6) hx hb hts iX3 hown hK hP 0 rfl rfl 5 (by decide) (hts _ wd_183) (fun _ h9 => h9) rfl dX3_hasTown_1 ?_
  refine lv_if_le (tgt := 11) hx hb dX3_hasTown_4 (by decide) (fun c1 => ?_) (fun c1 => ?_)
  · have hw := ite_t hw c1
    refine lv_iconst (v := 0) hx hb dX3_hasTown_11 (by decide) ?_
    exact hret _ _ _ (Option.some.inj hw) rfl dX3_hasTown_12
  · have hw := ite_f hw c1
    refine lv_iconst (v := 1) hx hb dX3_hasTown_7 (by decide) ?_
    refine lv_goto (tgt := 12) hx hb dX3_hasTown_8 (by decide) ?_
    exact hret _ _ _ (Option.some.inj hw) rfl dX3_hasTown_12
set_option maxHeartbeats 4000000 in
set_option maxRecDepth 100000 in
theorem c_X3_isPlace (l : Launch) (dC : Nat → ClassId) (dI : Nat → Nat → Nat) (a : Nat → Nat) (cA : ClassId) (X : WS) (p1 : Int32) (out : Int32) (hw : f_X3_isPlace X p1 = some out) : Met l yX3_isPlace (.code yX3_isPlace cX3_isPlace 2 (some .boolean) :: lw_g) ({ frames := 1, cells := 0, slots := 0, locals := 20 }) (PcX dC dI a cA X [.ref (a 0), .int p1]) (vp_Si (fun r_ => r_ = out)) 0 0 (fun _ => False) := by
  unfold f_X3_isPlace at hw
  refine Met.ofW (cc := cX3_isPlace) (maxL := 2) (ret := (some .boolean)) (by decide) rfl ?_
  intro p e s m args below meth c s₁ B hml hv
  obtain ⟨rfl, hP, hK, hN⟩ := hv
  have hx := B.exec
  have hb := B.bytes
  have hr := B.returns
  have hts0 := atoms_spec (ws := (.code yX3_isPlace cX3_isPlace 2 (some .boolean) :: lw_g)) B.pre
  have hts : ∀ w ∈ lw_g, w.before (([.ref (a 0), .int p1] : List Value).toArray) s = true := fun w h => hts0 w (List.mem_cons_of_mem _ h)
  clear hts0
  have hown : s.vm.findClass RX3 = some m.cls := findClass_of_methodNamed B.named
  have hlocks := B.notSynchronized
  have hret : ∀ (pc : Nat) (ls : Array Slot) (v : Int32), v = out → (hz : narrow .boolean (.int v) = .int v) → decode cX3_isPlace pc = .ok (.ireturn, 1) → W p l e ({ frames := 1, cells := 0, slots := 0, locals := 20 }) s m (([.ref (a 0), .int p1] : List Value).toArray) below meth c s.heap [] 0 0 (MQ below (vp_Si (fun r_ => r_ = out)) (([.ref (a 0), .int p1] : List Value).toArray) s 0 0 (fun _ => False)) (F0 m pc ls [.int v]) := fun pc ls v hv hz hd => W.zret hx hb hr hz (fun t ht hW => ⟨v, rfl, hv, ht⟩) (fun q hq => absurd hq List.not_mem_nil) hd
  show W p l e ({ frames := 1, cells := 0, slots := 0, locals := 20 }) s m (([.ref (a 0), .int p1] : List Value).toArray) below meth c s.heap [] 0 0 (MQ below (vp_Si (fun r_ => r_ = out)) (([.ref (a 0), .int p1] : List Value).toArray) s 0 0 (fun _ => False)) (entryFrame m (([.ref (a 0), .int p1] : List Value).toArray) 2)
  generalize MQ below (vp_Si (fun r_ => r_ = out)) (([.ref (a 0), .int p1] : List Value).toArray) s 0 0 (fun _ => False) = Q at hret ⊢
  have hl := lv_entry ([.ref (a 0), .int p1]) (n := 2) (Nat.le_of_ble_eq_true rfl)
  rw [lg_entry_eq]
  generalize (lg_sl ([.ref (a 0), .int p1]) ++ List.replicate (2 - (lg_sl ([.ref (a 0), .int p1])).length) Slot.unset).toArray = ls at hl ⊢
  have hl : lv_has ls 2 [(0, .ref (a 0)), (1, .int p1)] := hl
  refine lv_aload_n hx hb dX3_isPlace_0 rfl (lv_at hl 0 rfl) ?_
  obtain ⟨r1, er1, hw⟩ := Option.bind_eq_some_iff.mp hw
  refine vp_callSi (va_runV (As := []) (rest := []) ⟨hx, hb, hml, hown, hts⟩ (c_X3_hasTown l dC dI a cA X r1 er1) ⟨callB_of 0 hts gd_X3_hasTown rfl rfl rfl (hts _ wd_35) (hts _ wd_257) hd_X3_hasTown ⟨Nat.le_of_ble_eq_true rfl, Nat.le_of_ble_eq_true rfl⟩, hts _ wd_259, hts _ wd_1⟩ ⟨blX, va_recv hK hP (ci := 3) (q0 := 0) rfl rfl, fun U hU hW => ⟨rfl, by rw [hU]; exact hP, va_K.moved hW.alike hK, nst.warm hW hN⟩⟩ rfl rfl hl.1 rfl (lv_room (Nat.le_of_ble_eq_true rfl)) dX3_isPlace_1 ⟨Nat.zero_le _, Nat.zero_le _⟩).run (fun r_ e_ => ?_)
  subst r_
  refine lv_if_eq (tgt := 21) hx hb dX3_isPlace_4 (by decide) (fun c2 => ?_) (fun c2 => ?_)
  · have hw := ite_t hw c2
    refine lv_iconst (v := 0) hx hb dX3_isPlace_21 (by decide) ?_
    exact hret _ _ _ (Option.some.inj hw) rfl dX3_isPlace_22
  · have hw := ite_f hw c2
    refine lv_iload_n hx hb dX3_isPlace_7 rfl (lv_at hl 1 rfl) ?_
    refine lv_if_lt (tgt := 21) hx hb dX3_isPlace_8 (by decide) (fun c3 => ?_) (fun c3 => ?_)
    · have hw := ite_t hw c3
      refine lv_iconst (v := 0) hx hb dX3_isPlace_21 (by decide) ?_
      exact hret _ _ _ (Option.some.inj hw) rfl dX3_isPlace_22
    · have hw := ite_f hw c3
      refine lv_iload_n hx hb dX3_isPlace_11 rfl (lv_at hl 1 rfl) ?_
      refine lv_bipush (v := 6) hx hb dX3_isPlace_12 (by decide) ?_
      refine lv_icmp_ge (tgt := 21) hx hb dX3_isPlace_14 (by decide) (fun c4 => ?_) (fun c4 => ?_)
      · have hw := ite_t hw c4
        refine lv_iconst (v := 0) hx hb dX3_isPlace_21 (by decide) ?_
        exact hret _ _ _ (Option.some.inj hw) rfl dX3_isPlace_22
      · have hw := ite_f hw c4
        refine lv_iconst (v := 1) hx hb dX3_isPlace_17 (by decide) ?_
        refine lv_goto (tgt := 22) hx hb dX3_isPlace_18 (by decide) ?_
        exact hret _ _ _ (Option.some.inj hw) rfl dX3_isPlace_22
