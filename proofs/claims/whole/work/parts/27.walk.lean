set_option maxHeartbeats 4000000 in
set_option maxRecDepth 100000 in
theorem c_X4_copy_2_8 (l : Launch) (dC : Nat → ClassId) (dI : Nat → Nat → Nat) (A : Nat → Prop) (a : Nat → Nat) (cA : ClassId) (X : MS) (out : MS) (hw : f_X4_copy_2_8 X = some out) : Met l yX4_copy (.code yX4_copy cX4_copy 3 none :: lw_g) ({ frames := 0, cells := 0, slots := 0, locals := 0 }) (PcMD dC dI A a cA X [.ref (a 2), .ref (a 8)]) (va_Qv (fun X_ : MS => out = X_) (fun X_ t => va_P (dC, dI) classes (wm a cA X_) t.heap ∧ va_K (dC, dI) classes [(cA, .int)] t) A) 0 0 (A) := by
  unfold f_X4_copy_2_8 at hw
  refine Met.ofW (cc := cX4_copy) (maxL := 3) (ret := none) (by decide) rfl ?_
  intro p e s m args below meth c s₁ B hml hv
  obtain ⟨rfl, hP, hK, hD0⟩ := hv
  have hx := B.exec
  have hb := B.bytes
  have hr := B.returns
  have hts0 := atoms_spec (ws := (.code yX4_copy cX4_copy 3 none :: lw_g)) B.pre
  have hts : ∀ w ∈ lw_g, w.before (([.ref (a 2), .ref (a 8)] : List Value).toArray) s = true := fun w h => hts0 w (List.mem_cons_of_mem _ h)
  clear hts0
  have hown : s.vm.findClass RX4 = some m.cls := findClass_of_methodNamed B.named
  have hlocks := B.notSynchronized
  have hret : ∀ (pc : Nat) (ls : Array Slot) (X_ : MS) (H : Heap) (locs : List Loc), X_ = out → va_P (dC, dI) classes (wm a cA X_) H → va_S A s.heap H locs → decode cX4_copy pc = .ok (.return_, 1) → W p l e ({ frames := 0, cells := 0, slots := 0, locals := 0 }) s m (([.ref (a 2), .ref (a 8)] : List Value).toArray) below meth c H locs 0 0 (MQ below (va_Qv (fun X_ : MS => out = X_) (fun X_ t => va_P (dC, dI) classes (wm a cA X_) t.heap ∧ va_K (dC, dI) classes [(cA, .int)] t) A) (([.ref (a 2), .ref (a 8)] : List Value).toArray) s 0 0 (A)) (F0 m pc ls []) := fun pc ls X_ H locs hv hP hS hd => W.vret hx hb hr (fun t ht hW => ⟨⟨X_, rfl, hv.symm, by rw [ht]; exact hP, va_K.moved hW.alike hK⟩, hS.F ht⟩) hS.2.2 hd
  show W p l e ({ frames := 0, cells := 0, slots := 0, locals := 0 }) s m (([.ref (a 2), .ref (a 8)] : List Value).toArray) below meth c s.heap [] 0 0 (MQ below (va_Qv (fun X_ : MS => out = X_) (fun X_ t => va_P (dC, dI) classes (wm a cA X_) t.heap ∧ va_K (dC, dI) classes [(cA, .int)] t) A) (([.ref (a 2), .ref (a 8)] : List Value).toArray) s 0 0 (A)) (entryFrame m (([.ref (a 2), .ref (a 8)] : List Value).toArray) 3)
  generalize MQ below (va_Qv (fun X_ : MS => out = X_) (fun X_ t => va_P (dC, dI) classes (wm a cA X_) t.heap ∧ va_K (dC, dI) classes [(cA, .int)] t) A) (([.ref (a 2), .ref (a 8)] : List Value).toArray) s 0 0 (A) = Q at hret ⊢
  have hS : va_S A s.heap s.heap [] := va_S.rf
  have L2 : ∀ n : Nat, ∀ (X : MS), ∀ (v2 : Int32), g_X4_copy_2_8_2 n X v2 = some out → ∀ (H : Heap) (locs : List Loc), va_P (dC, dI) classes (wm a cA X) H → va_S A s.heap H locs → ∀ ls : Array Slot, lv_has ls 3 [(0, .ref (a 2)), (1, .ref (a 8)), (2, .int v2)] → W p l e ({ frames := 0, cells := 0, slots := 0, locals := 0 }) s m (([.ref (a 2), .ref (a 8)] : List Value).toArray) below meth c H locs 0 0 Q (F0 m 2 ls []) := by
    intro n
    induction n with
    | zero =>
      intro X v2 hw
      rw [g_X4_copy_2_8_2] at hw
      cases hw
    | succ n ih =>
      intro X v2 hw H locs hP hS ls hl
      rw [g_X4_copy_2_8_2] at hw
      refine lv_iload_n hx hb dX4_copy_2 rfl (lv_at hl 2 rfl) ?_
      refine lv_aload_n hx hb dX4_copy_3 rfl (lv_at hl 0 rfl) ?_
      refine va_alen (v := 6) hx hb hK hP 2 0 rfl rfl rfl dX4_copy_4 ?_
      refine lv_icmp_ge (tgt := 20) hx hb dX4_copy_5 (by decide) (fun c1 => ?_) (fun c1 => ?_)
      · have hw := ite_t hw c1
        exact hret _ _ _ _ _ (Option.some.inj hw) hP hS dX4_copy_20
      · have hw := ite_f hw c1
        refine lv_aload_n hx hb dX4_copy_8 rfl (lv_at hl 1 rfl) ?_
        refine lv_iload_n hx hb dX4_copy_9 rfl (lv_at hl 2 rfl) ?_
        refine lv_aload_n hx hb dX4_copy_10 rfl (lv_at hl 0 rfl) ?_
        refine lv_iload_n hx hb dX4_copy_11 rfl (lv_at hl 2 rfl) ?_
        obtain ⟨h2, hw⟩ := ixc_use hw
        refine va_iald hx hb hK hP 2 0 rfl rfl h2 dX4_copy_12 ?_
        refine lv_topi (fun x4 ex4 => ?_)
        have hw := stp_use hw ex4
        obtain ⟨h3, hw⟩ := ixc_use hw
        refine va_iast hx hb hK hP (wmD hD0) hS 8 0 rfl rfl h3 dX4_copy_13 (fun H locs hP hD_ hS => ?_)
        obtain ⟨X5, eX5⟩ : ∃ y : MS, y = (ups X.1 8 (Int32.toNatClampNeg v2) x4, X.2) := ⟨_, rfl⟩
        have hw := stp_use hw eX5
        have hP : va_P (dC, dI) classes (wm a cA X5) H := by rw [eX5]; exact hP
        obtain ⟨x6, ex6⟩ : ∃ y : Int32, y = (v2 + 1) := ⟨_, rfl⟩
        have hw := stp_use hw ex6
        refine lv_iinc (v := x6) (lv' := [(2, .int x6), (0, .ref (a 2)), (1, .ref (a 8))]) hx hb dX4_copy_14 hl (k := 2) rfl (by rw [ex6]; rfl) (by decide) rfl (fun ls hl => ?_)
        refine lv_goto (tgt := 2) hx hb dX4_copy_17 (by decide) ?_
        exact ih X5 x6 hw _ _ hP hS ls (lv_sub hl [1, 2, 0] rfl)
  have hl := lv_entry ([.ref (a 2), .ref (a 8)]) (n := 3) (Nat.le_of_ble_eq_true rfl)
  rw [lg_entry_eq]
  generalize (lg_sl ([.ref (a 2), .ref (a 8)]) ++ List.replicate (3 - (lg_sl ([.ref (a 2), .ref (a 8)])).length) Slot.unset).toArray = ls at hl ⊢
  have hl : lv_has ls 3 [(0, .ref (a 2)), (1, .ref (a 8))] := hl
  refine lv_iconst (v := 0) hx hb dX4_copy_0 (by decide) ?_
  refine lv_istore_n (lv' := [(2, .int 0), (0, .ref (a 2)), (1, .ref (a 8))]) hx hb dX4_copy_1 rfl hl (by decide) rfl (fun ls hl => ?_)
  exact L2 NF X 0 hw _ _ hP hS ls (lv_sub hl [1, 2, 0] rfl)
set_option maxHeartbeats 4000000 in
set_option maxRecDepth 100000 in
theorem c_X4_image (l : Launch) (dC : Nat → ClassId) (dI : Nat → Nat → Nat) (A : Nat → Prop) (a : Nat → Nat) (cA : ClassId) (X : MS) (out : (Int32 × MS)) (hw : f_X4_image X = some out) : Met l yX4_image (.code yX4_image cX4_image 1 (some .int) :: lw_g) ({ frames := 1, cells := 0, slots := 0, locals := 22 }) (PcMD dC dI A a cA X [.ref (a 0)]) (va_Qi (fun (r_ : Int32) (X_ : MS) => out = (r_, X_)) (fun X_ t => va_P (dC, dI) classes (wm a cA X_) t.heap ∧ va_K (dC, dI) classes [(cA, .int)] t) A) 0 0 (A) := by
  unfold f_X4_image at hw
  refine Met.ofW (cc := cX4_image) (maxL := 1) (ret := (some .int)) (by decide) rfl ?_
  intro p e s m args below meth c s₁ B hml hv
  obtain ⟨rfl, hP, hK, hD0⟩ := hv
  have hx := B.exec
  have hb := B.bytes
  have hr := B.returns
  have hts0 := atoms_spec (ws := (.code yX4_image cX4_image 1 (some .int) :: lw_g)) B.pre
  have hts : ∀ w ∈ lw_g, w.before (([.ref (a 0)] : List Value).toArray) s = true := fun w h => hts0 w (List.mem_cons_of_mem _ h)
  clear hts0
  have hown : s.vm.findClass RX4 = some m.cls := findClass_of_methodNamed B.named
  have hlocks := B.notSynchronized
  have hret : ∀ (pc : Nat) (ls : Array Slot) (v : Int32) (X_ : MS) (H : Heap) (locs : List Loc), (v, X_) = out → va_P (dC, dI) classes (wm a cA X_) H → va_S A s.heap H locs → decode cX4_image pc = .ok (.ireturn, 1) → W p l e ({ frames := 1, cells := 0, slots := 0, locals := 22 }) s m (([.ref (a 0)] : List Value).toArray) below meth c H locs 0 0 (MQ below (va_Qi (fun (r_ : Int32) (X_ : MS) => out = (r_, X_)) (fun X_ t => va_P (dC, dI) classes (wm a cA X_) t.heap ∧ va_K (dC, dI) classes [(cA, .int)] t) A) (([.ref (a 0)] : List Value).toArray) s 0 0 (A)) (F0 m pc ls [.int v]) := fun pc ls v X_ H locs hv hP hS hd => W.iret hx hb hr (fun t ht hW => ⟨⟨v, X_, rfl, hv.symm, by rw [ht]; exact hP, va_K.moved hW.alike hK⟩, hS.F ht⟩) hS.2.2 hd
  show W p l e ({ frames := 1, cells := 0, slots := 0, locals := 22 }) s m (([.ref (a 0)] : List Value).toArray) below meth c s.heap [] 0 0 (MQ below (va_Qi (fun (r_ : Int32) (X_ : MS) => out = (r_, X_)) (fun X_ t => va_P (dC, dI) classes (wm a cA X_) t.heap ∧ va_K (dC, dI) classes [(cA, .int)] t) A) (([.ref (a 0)] : List Value).toArray) s 0 0 (A)) (entryFrame m (([.ref (a 0)] : List Value).toArray) 1)
  generalize MQ below (va_Qi (fun (r_ : Int32) (X_ : MS) => out = (r_, X_)) (fun X_ t => va_P (dC, dI) classes (wm a cA X_) t.heap ∧ va_K (dC, dI) classes [(cA, .int)] t) A) (([.ref (a 0)] : List Value).toArray) s 0 0 (A) = Q at hret ⊢
  have hS : va_S A s.heap s.heap [] := va_S.rf
  have hl := lv_entry ([.ref (a 0)]) (n := 1) (Nat.le_of_ble_eq_true rfl)
  rw [lg_entry_eq]
  generalize (lg_sl ([.ref (a 0)]) ++ List.replicate (1 - (lg_sl ([.ref (a 0)])).length) Slot.unset).toArray = ls at hl ⊢
  have hl : lv_has ls 1 [(0, .ref (a 0))] := hl
  refine lv_aload_n hx hb dX4_image_0 rfl (lv_at hl 0 rfl) ?_
  obtain ⟨r1, er1, hw⟩ := Option.bind_eq_some_iff.mp hw
  refine vp_callSi (va_runV (As := []) (rest := []) ⟨hx, hb, hml, hown, hts⟩ (c_X4_lacks l dC dI a cA X r1 er1) ⟨callB_of 0 hts gd_X4_lacks rfl rfl rfl (hts _ wd_39) (hts _ wd_647) hd_X4_lacks ⟨Nat.le_of_ble_eq_true rfl, Nat.le_of_ble_eq_true rfl⟩, hts _ wd_649, hts _ wd_12⟩ ⟨blM, va_recv hK hP (ci := 4) (q0 := 0) rfl rfl, fun U hU hW => ⟨rfl, by rw [hU]; exact hP, va_K.moved hW.alike hK⟩⟩ rfl rfl hl.1 rfl (lv_room (Nat.le_of_ble_eq_true rfl)) dX4_image_1 ⟨Nat.zero_le _, Nat.zero_le _⟩).run (fun r_ e_ => ?_)
  subst r_
  refine lv_if_eq (tgt := 10) hx hb dX4_image_4 (by decide) (fun c2 => ?_) (fun c2 => ?_)
  · have hw := ite_t hw c2
    refine lv_aload_n hx hb dX4_image_10 rfl (lv_at hl 0 rfl) ?_
    refine va_get (D := (dC, dI)) (ci := 4) (v := .ref (a 3)) (C := RX4) (T := TX4) (N := 29) hx hb hts iX4 hown hK hP 0 rfl rfl 12 (by decide) (hts _ wd_534) (fun _ h9 => h9) rfl dX4_image_11 ?_
    refine lv_aload_n hx hb dX4_image_14 rfl (lv_at hl 0 rfl) ?_
    refine va_get (D := (dC, dI)) (ci := 4) (v := .ref (a 6)) (C := RX4) (T := TX4) (N := 29) hx hb hts iX4 hown hK hP 0 rfl rfl 25 (by decide) (hts _ wd_547) (fun _ h9 => h9) rfl dX4_image_15 ?_
    obtain ⟨X3, eX3, hw⟩ := Option.bind_eq_some_iff.mp hw
    refine va_callv (va_runS (As := [.ref (a 3), .ref (a 6)]) (rest := []) ⟨hx, hb, hml, hown, hts⟩ (c_X4_copy_3_6 l dC dI A a cA X X3 eX3) ⟨callB_of 2 hts gd_X4_copy rfl rfl rfl (hts _ wd_39) (hts _ wd_811) hd_X4_copy ⟨Nat.le_of_ble_eq_true rfl, Nat.le_of_ble_eq_true rfl⟩, hts _ wd_812⟩ ⟨blMD, fun U hU hW => ⟨rfl, by rw [hU]; exact hP, va_K.moved hW.alike hK, wmD hD0⟩⟩ rfl rfl hl.1 rfl (lv_room (Nat.le_of_ble_eq_true rfl)) dX4_image_18 ⟨Nat.zero_le _, Nat.zero_le _⟩) hS (fun _ _ h => h) (fun _ h => h) (fun u_ t_ H1 locs1 ht hvm hp_ hB hz1 hk1 hS1 => ?_)
    subst hp_
    obtain ⟨hP1, hK1⟩ := hB
    rw [ht] at hP1
    have hP := hP1
    have hS := hS1
    refine lv_aload_n hx hb dX4_image_21 rfl (lv_at hl 0 rfl) ?_
    refine va_get (D := (dC, dI)) (ci := 4) (v := .ref (a 5)) (C := RX4) (T := TX4) (N := 29) hx hb hts iX4 hown hK hP 0 rfl rfl 15 (by decide) (hts _ wd_537) (fun _ h9 => h9) rfl dX4_image_22 ?_
    refine lv_aload_n hx hb dX4_image_25 rfl (lv_at hl 0 rfl) ?_
    refine va_get (D := (dC, dI)) (ci := 4) (v := .ref (a 7)) (C := RX4) (T := TX4) (N := 29) hx hb hts iX4 hown hK hP 0 rfl rfl 26 (by decide) (hts _ wd_548) (fun _ h9 => h9) rfl dX4_image_26 ?_
    obtain ⟨X4, eX4, hw⟩ := Option.bind_eq_some_iff.mp hw
    refine va_callv (va_runS (As := [.ref (a 5), .ref (a 7)]) (rest := []) ⟨hx, hb, hml, hown, hts⟩ (c_X4_copy_5_7 l dC dI A a cA X3 X4 eX4) ⟨callB_of 2 hts gd_X4_copy rfl rfl rfl (hts _ wd_39) (hts _ wd_811) hd_X4_copy ⟨Nat.le_of_ble_eq_true rfl, Nat.le_of_ble_eq_true rfl⟩, hts _ wd_812⟩ ⟨blMD, fun U hU hW => ⟨rfl, by rw [hU]; exact hP, va_K.moved hW.alike hK, wmD hD0⟩⟩ rfl rfl hl.1 rfl (lv_room (Nat.le_of_ble_eq_true rfl)) dX4_image_29 ⟨Nat.zero_le _, Nat.zero_le _⟩) hS (fun _ _ h => h) (fun _ h => h) (fun u_ t_ H1 locs1 ht hvm hp_ hB hz1 hk1 hS1 => ?_)
    subst hp_
    obtain ⟨hP1, hK1⟩ := hB
    rw [ht] at hP1
    have hP := hP1
    have hS := hS1
    refine lv_aload_n hx hb dX4_image_32 rfl (lv_at hl 0 rfl) ?_
    refine va_get (D := (dC, dI)) (ci := 4) (v := .ref (a 2)) (C := RX4) (T := TX4) (N := 29) hx hb hts iX4 hown hK hP 0 rfl rfl 10 (by decide) (hts _ wd_532) (fun _ h9 => h9) rfl dX4_image_33 ?_
    refine lv_aload_n hx hb dX4_image_36 rfl (lv_at hl 0 rfl) ?_
    refine va_get (D := (dC, dI)) (ci := 4) (v := .ref (a 8)) (C := RX4) (T := TX4) (N := 29) hx hb hts iX4 hown hK hP 0 rfl rfl 27 (by decide) (hts _ wd_549) (fun _ h9 => h9) rfl dX4_image_37 ?_
    obtain ⟨X5, eX5, hw⟩ := Option.bind_eq_some_iff.mp hw
    refine va_callv (va_runS (As := [.ref (a 2), .ref (a 8)]) (rest := []) ⟨hx, hb, hml, hown, hts⟩ (c_X4_copy_2_8 l dC dI A a cA X4 X5 eX5) ⟨callB_of 2 hts gd_X4_copy rfl rfl rfl (hts _ wd_39) (hts _ wd_811) hd_X4_copy ⟨Nat.le_of_ble_eq_true rfl, Nat.le_of_ble_eq_true rfl⟩, hts _ wd_812⟩ ⟨blMD, fun U hU hW => ⟨rfl, by rw [hU]; exact hP, va_K.moved hW.alike hK, wmD hD0⟩⟩ rfl rfl hl.1 rfl (lv_room (Nat.le_of_ble_eq_true rfl)) dX4_image_40 ⟨Nat.zero_le _, Nat.zero_le _⟩) hS (fun _ _ h => h) (fun _ h => h) (fun u_ t_ H1 locs1 ht hvm hp_ hB hz1 hk1 hS1 => ?_)
    subst hp_
    obtain ⟨hP1, hK1⟩ := hB
    rw [ht] at hP1
    have hP := hP1
    have hS := hS1
    refine lv_aload_n hx hb dX4_image_43 rfl (lv_at hl 0 rfl) ?_
    refine lv_aload_n hx hb dX4_image_44 rfl (lv_at hl 0 rfl) ?_
    refine va_get (D := (dC, dI)) (ci := 4) (v := .int (X5.1 0 11)) (C := RX4) (T := TX4) (N := 29) hx hb hts iX4 hown hK hP 0 rfl rfl 11 (by decide) (hts _ wd_533) (fun _ h9 => h9) rfl dX4_image_45 ?_
    refine lv_topi (fun x6 ex6 => ?_)
    have hw := stp_use hw ex6
    refine va_put (D := (dC, dI)) (ci := 4) (v := .int x6) (ty := .int) (C := RX4) (T := TX4) (N := 29) hx hb hts iX4 tyX4 tyX4_ok nmX4 hown hK hP (wmD hD0) hS 0 rfl rfl 18 (by decide) (hts _ wd_540) (fun _ h9 => h9) rfl (by decide +kernel) rfl rfl (Nat.le_of_ble_eq_true rfl) dX4_image_48 (fun H locs hP hD_ hS => ?_)
    obtain ⟨X7, eX7⟩ : ∃ y : MS, y = (ups X5.1 0 18 x6, X5.2) := ⟨_, rfl⟩
    have hw := stp_use hw eX7
    have hP : va_P (dC, dI) classes (wm a cA X7) H := by rw [eX7]; exact hP
    refine lv_aload_n hx hb dX4_image_51 rfl (lv_at hl 0 rfl) ?_
    refine lv_aload_n hx hb dX4_image_52 rfl (lv_at hl 0 rfl) ?_
    refine va_get (D := (dC, dI)) (ci := 4) (v := .int (X7.1 0 3)) (C := RX4) (T := TX4) (N := 29) hx hb hts iX4 hown hK hP 0 rfl rfl 3 (by decide) (hts _ wd_525) (fun _ h9 => h9) rfl dX4_image_53 ?_
    refine lv_topi (fun x8 ex8 => ?_)
    have hw := stp_use hw ex8
    refine va_put (D := (dC, dI)) (ci := 4) (v := .int x8) (ty := .int) (C := RX4) (T := TX4) (N := 29) hx hb hts iX4 tyX4 tyX4_ok nmX4 hown hK hP (wmD hD0) hS 0 rfl rfl 19 (by decide) (hts _ wd_541) (fun _ h9 => h9) rfl (by decide +kernel) rfl rfl (Nat.le_of_ble_eq_true rfl) dX4_image_56 (fun H locs hP hD_ hS => ?_)
    obtain ⟨X9, eX9⟩ : ∃ y : MS, y = (ups X7.1 0 19 x8, X7.2) := ⟨_, rfl⟩
    have hw := stp_use hw eX9
    have hP : va_P (dC, dI) classes (wm a cA X9) H := by rw [eX9]; exact hP
    refine lv_aload_n hx hb dX4_image_59 rfl (lv_at hl 0 rfl) ?_
    refine lv_aload_n hx hb dX4_image_60 rfl (lv_at hl 0 rfl) ?_
    refine va_get (D := (dC, dI)) (ci := 4) (v := .int (X9.1 0 5)) (C := RX4) (T := TX4) (N := 29) hx hb hts iX4 hown hK hP 0 rfl rfl 5 (by decide) (hts _ wd_527) (fun _ h9 => h9) rfl dX4_image_61 ?_
    refine lv_topi (fun x10 ex10 => ?_)
    have hw := stp_use hw ex10
    refine va_put (D := (dC, dI)) (ci := 4) (v := .int x10) (ty := .int) (C := RX4) (T := TX4) (N := 29) hx hb hts iX4 tyX4 tyX4_ok nmX4 hown hK hP (wmD hD0) hS 0 rfl rfl 20 (by decide) (hts _ wd_542) (fun _ h9 => h9) rfl (by decide +kernel) rfl rfl (Nat.le_of_ble_eq_true rfl) dX4_image_64 (fun H locs hP hD_ hS => ?_)
    obtain ⟨X11, eX11⟩ : ∃ y : MS, y = (ups X9.1 0 20 x10, X9.2) := ⟨_, rfl⟩
    have hw := stp_use hw eX11
    have hP : va_P (dC, dI) classes (wm a cA X11) H := by rw [eX11]; exact hP
    refine lv_aload_n hx hb dX4_image_67 rfl (lv_at hl 0 rfl) ?_
    refine lv_aload_n hx hb dX4_image_68 rfl (lv_at hl 0 rfl) ?_
    refine va_get (D := (dC, dI)) (ci := 4) (v := .int (X11.1 0 6)) (C := RX4) (T := TX4) (N := 29) hx hb hts iX4 hown hK hP 0 rfl rfl 6 (by decide) (hts _ wd_528) (fun _ h9 => h9) rfl dX4_image_69 ?_
    refine lv_topi (fun x12 ex12 => ?_)
    have hw := stp_use hw ex12
    refine va_put (D := (dC, dI)) (ci := 4) (v := .int x12) (ty := .int) (C := RX4) (T := TX4) (N := 29) hx hb hts iX4 tyX4 tyX4_ok nmX4 hown hK hP (wmD hD0) hS 0 rfl rfl 21 (by decide) (hts _ wd_543) (fun _ h9 => h9) rfl (by decide +kernel) rfl rfl (Nat.le_of_ble_eq_true rfl) dX4_image_72 (fun H locs hP hD_ hS => ?_)
    obtain ⟨X13, eX13⟩ : ∃ y : MS, y = (ups X11.1 0 21 x12, X11.2) := ⟨_, rfl⟩
    have hw := stp_use hw eX13
    have hP : va_P (dC, dI) classes (wm a cA X13) H := by rw [eX13]; exact hP
    refine lv_aload_n hx hb dX4_image_75 rfl (lv_at hl 0 rfl) ?_
    refine lv_aload_n hx hb dX4_image_76 rfl (lv_at hl 0 rfl) ?_
    refine va_get (D := (dC, dI)) (ci := 4) (v := .int (X13.1 0 7)) (C := RX4) (T := TX4) (N := 29) hx hb hts iX4 hown hK hP 0 rfl rfl 7 (by decide) (hts _ wd_529) (fun _ h9 => h9) rfl dX4_image_77 ?_
    refine lv_topi (fun x14 ex14 => ?_)
    have hw := stp_use hw ex14
    refine va_put (D := (dC, dI)) (ci := 4) (v := .int x14) (ty := .int) (C := RX4) (T := TX4) (N := 29) hx hb hts iX4 tyX4 tyX4_ok nmX4 hown hK hP (wmD hD0) hS 0 rfl rfl 22 (by decide) (hts _ wd_544) (fun _ h9 => h9) rfl (by decide +kernel) rfl rfl (Nat.le_of_ble_eq_true rfl) dX4_image_80 (fun H locs hP hD_ hS => ?_)
    obtain ⟨X15, eX15⟩ : ∃ y : MS, y = (ups X13.1 0 22 x14, X13.2) := ⟨_, rfl⟩
    have hw := stp_use hw eX15
    have hP : va_P (dC, dI) classes (wm a cA X15) H := by rw [eX15]; exact hP
    refine lv_aload_n hx hb dX4_image_83 rfl (lv_at hl 0 rfl) ?_
    refine lv_aload_n hx hb dX4_image_84 rfl (lv_at hl 0 rfl) ?_
    refine va_get (D := (dC, dI)) (ci := 4) (v := .int (X15.1 0 8)) (C := RX4) (T := TX4) (N := 29) hx hb hts iX4 hown hK hP 0 rfl rfl 8 (by decide) (hts _ wd_530) (fun _ h9 => h9) rfl dX4_image_85 ?_
    refine lv_topi (fun x16 ex16 => ?_)
    have hw := stp_use hw ex16
    refine va_put (D := (dC, dI)) (ci := 4) (v := .int x16) (ty := .int) (C := RX4) (T := TX4) (N := 29) hx hb hts iX4 tyX4 tyX4_ok nmX4 hown hK hP (wmD hD0) hS 0 rfl rfl 23 (by decide) (hts _ wd_545) (fun _ h9 => h9) rfl (by decide +kernel) rfl rfl (Nat.le_of_ble_eq_true rfl) dX4_image_88 (fun H locs hP hD_ hS => ?_)
    obtain ⟨X17, eX17⟩ : ∃ y : MS, y = (ups X15.1 0 23 x16, X15.2) := ⟨_, rfl⟩
    have hw := stp_use hw eX17
    have hP : va_P (dC, dI) classes (wm a cA X17) H := by rw [eX17]; exact hP
    refine lv_aload_n hx hb dX4_image_91 rfl (lv_at hl 0 rfl) ?_
    refine lv_aload_n hx hb dX4_image_92 rfl (lv_at hl 0 rfl) ?_
    refine va_get (D := (dC, dI)) (ci := 4) (v := .int (X17.1 0 14)) (C := RX4) (T := TX4) (N := 29) hx hb hts iX4 hown hK hP 0 rfl rfl 14 (by decide) (hts _ wd_536) (fun _ h9 => h9) rfl dX4_image_93 ?_
    refine lv_topi (fun x18 ex18 => ?_)
    have hw := stp_use hw ex18
    refine va_put (D := (dC, dI)) (ci := 4) (v := .int x18) (ty := .int) (C := RX4) (T := TX4) (N := 29) hx hb hts iX4 tyX4 tyX4_ok nmX4 hown hK hP (wmD hD0) hS 0 rfl rfl 24 (by decide) (hts _ wd_546) (fun _ h9 => h9) rfl (by decide +kernel) rfl rfl (Nat.le_of_ble_eq_true rfl) dX4_image_96 (fun H locs hP hD_ hS => ?_)
    obtain ⟨X19, eX19⟩ : ∃ y : MS, y = (ups X17.1 0 24 x18, X17.2) := ⟨_, rfl⟩
    have hw := stp_use hw eX19
    have hP : va_P (dC, dI) classes (wm a cA X19) H := by rw [eX19]; exact hP
    refine lv_aload_n hx hb dX4_image_99 rfl (lv_at hl 0 rfl) ?_
    refine lv_aload_n hx hb dX4_image_100 rfl (lv_at hl 0 rfl) ?_
    refine va_get (D := (dC, dI)) (ci := 4) (v := .int (X19.1 0 9)) (C := RX4) (T := TX4) (N := 29) hx hb hts iX4 hown hK hP 0 rfl rfl 9 (by decide) (hts _ wd_531) (fun _ h9 => h9) rfl dX4_image_101 ?_
    refine lv_topi (fun x20 ex20 => ?_)
    have hw := stp_use hw ex20
    refine va_put (D := (dC, dI)) (ci := 4) (v := .int x20) (ty := .int) (C := RX4) (T := TX4) (N := 29) hx hb hts iX4 tyX4 tyX4_ok nmX4 hown hK hP (wmD hD0) hS 0 rfl rfl 17 (by decide) (hts _ wd_539) (fun _ h9 => h9) rfl (by decide +kernel) rfl rfl (Nat.le_of_ble_eq_true rfl) dX4_image_104 (fun H locs hP hD_ hS => ?_)
    obtain ⟨X21, eX21⟩ : ∃ y : MS, y = (ups X19.1 0 17 x20, X19.2) := ⟨_, rfl⟩
    have hw := stp_use hw eX21
    have hP : va_P (dC, dI) classes (wm a cA X21) H := by rw [eX21]; exact hP
    refine lv_aload_n hx hb dX4_image_107 rfl (lv_at hl 0 rfl) ?_
    refine va_get (D := (dC, dI)) (ci := 4) (v := .int (X21.1 0 7)) (C := RX4) (T := TX4) (N := 29) hx hb hts iX4 hown hK hP 0 rfl rfl 7 (by decide) (hts _ wd_529) (fun _ h9 => h9) rfl dX4_image_108 ?_
    exact hret _ _ _ _ _ _ (Option.some.inj hw) hP hS dX4_image_111
  · have hw := ite_f hw c2
    refine lv_bipush (v := (-103)) hx hb dX4_image_7 (by decide) ?_
    exact hret _ _ _ _ _ _ (Option.some.inj hw) hP hS dX4_image_9
set_option maxHeartbeats 4000000 in
set_option maxRecDepth 100000 in
theorem c_X2_copy_3_9 (l : Launch) (dC : Nat → ClassId) (dI : Nat → Nat → Nat) (A : Nat → Prop) (a : Nat → Nat) (cA : ClassId) (X : WS) (out : WS) (hw : f_X2_copy_3_9 X = some out) : Met l yX2_copy (.code yX2_copy cX2_copy 2 none :: lw_g) ({ frames := 1, cells := 0, slots := 0, locals := 60 }) (PcXD dC dI A a cA X [.ref (a 3), .ref (a 9)]) (va_Qv (fun X_ : WS => out = X_) (fun X_ t => va_P (dC, dI) classes (wl a cA X_) t.heap ∧ va_K (dC, dI) classes [(cA, .int)] t) A) 0 0 (A) := by
  unfold f_X2_copy_3_9 at hw
  refine Met.ofW (cc := cX2_copy) (maxL := 2) (ret := none) (by decide) rfl ?_
  intro p e s m args below meth c s₁ B hml hv
  obtain ⟨rfl, hP, hK, hN, hD0⟩ := hv
  have hx := B.exec
  have hb := B.bytes
  have hr := B.returns
  have hts0 := atoms_spec (ws := (.code yX2_copy cX2_copy 2 none :: lw_g)) B.pre
  have hts : ∀ w ∈ lw_g, w.before (([.ref (a 3), .ref (a 9)] : List Value).toArray) s = true := fun w h => hts0 w (List.mem_cons_of_mem _ h)
  clear hts0
  have hown : s.vm.findClass RX2 = some m.cls := findClass_of_methodNamed B.named
  have hlocks := B.notSynchronized
  have hret : ∀ (pc : Nat) (ls : Array Slot) (X_ : WS) (H : Heap) (locs : List Loc), X_ = out → va_P (dC, dI) classes (wl a cA X_) H → va_S A s.heap H locs → decode cX2_copy pc = .ok (.return_, 1) → W p l e ({ frames := 1, cells := 0, slots := 0, locals := 60 }) s m (([.ref (a 3), .ref (a 9)] : List Value).toArray) below meth c H locs 0 0 (MQ below (va_Qv (fun X_ : WS => out = X_) (fun X_ t => va_P (dC, dI) classes (wl a cA X_) t.heap ∧ va_K (dC, dI) classes [(cA, .int)] t) A) (([.ref (a 3), .ref (a 9)] : List Value).toArray) s 0 0 (A)) (F0 m pc ls []) := fun pc ls X_ H locs hv hP hS hd => W.vret hx hb hr (fun t ht hW => ⟨⟨X_, rfl, hv.symm, by rw [ht]; exact hP, va_K.moved hW.alike hK⟩, hS.F ht⟩) hS.2.2 hd
  show W p l e ({ frames := 1, cells := 0, slots := 0, locals := 60 }) s m (([.ref (a 3), .ref (a 9)] : List Value).toArray) below meth c s.heap [] 0 0 (MQ below (va_Qv (fun X_ : WS => out = X_) (fun X_ t => va_P (dC, dI) classes (wl a cA X_) t.heap ∧ va_K (dC, dI) classes [(cA, .int)] t) A) (([.ref (a 3), .ref (a 9)] : List Value).toArray) s 0 0 (A)) (entryFrame m (([.ref (a 3), .ref (a 9)] : List Value).toArray) 2)
  generalize MQ below (va_Qv (fun X_ : WS => out = X_) (fun X_ t => va_P (dC, dI) classes (wl a cA X_) t.heap ∧ va_K (dC, dI) classes [(cA, .int)] t) A) (([.ref (a 3), .ref (a 9)] : List Value).toArray) s 0 0 (A) = Q at hret ⊢
  have hS : va_S A s.heap s.heap [] := va_S.rf
  have hl := lv_entry ([.ref (a 3), .ref (a 9)]) (n := 2) (Nat.le_of_ble_eq_true rfl)
  rw [lg_entry_eq]
  generalize (lg_sl ([.ref (a 3), .ref (a 9)]) ++ List.replicate (2 - (lg_sl ([.ref (a 3), .ref (a 9)])).length) Slot.unset).toArray = ls at hl ⊢
  have hl : lv_has ls 2 [(0, .ref (a 3)), (1, .ref (a 9))] := hl
  refine lv_aload_n hx hb dX2_copy_0 rfl (lv_at hl 1 rfl) ?_
  refine va_get (D := (dC, dI)) (ci := 2) (v := .ref (a 10)) (C := RX2) (T := TX2) (N := 17) hx hb hts iX2 hown hK hP 9 rfl rfl 0 (by decide) (hts _ wd_73) (fun _ h9 => h9) rfl dX2_copy_1 ?_
  refine lv_iconst (v := 0) hx hb dX2_copy_4 (by decide) ?_
  refine lv_aload_n hx hb dX2_copy_5 rfl (lv_at hl 0 rfl) ?_
  refine va_get (D := (dC, dI)) (ci := 2) (v := .ref (a 4)) (C := RX2) (T := TX2) (N := 17) hx hb hts iX2 hown hK hP 3 rfl rfl 0 (by decide) (hts _ wd_73) (fun _ h9 => h9) rfl dX2_copy_6 ?_
  refine lv_iconst (v := 0) hx hb dX2_copy_9 (by decide) ?_
  refine lv_bipush (v := 6) hx hb dX2_copy_10 (by decide) ?_
  refine va_copyi hx hb (by rw [hml]; exact hl.1.symm) hown (hts _ wd_477) (hts _ wd_479) (hts _ wd_478) (hts _ wd_42) hK hP (wlD hD0) hS 10 4 0 0 rfl rfl rfl rfl rfl (by decide) (by decide) (by decide) (by decide) (by decide) (fun i _ => rfl) (Nat.le_of_ble_eq_true rfl) (by decide) dX2_copy_12 (fun H locs hP hD_ hS => ?_)
  obtain ⟨X1, eX1⟩ : ∃ y : WS, y = (upw X 4 (va_cpy (X 10) (X 4) (Int32.toNatClampNeg 0) (Int32.toNatClampNeg 0) (Int32.toNatClampNeg 6))) := ⟨_, rfl⟩
  have hw := stp_use hw eX1
  have hP : va_P (dC, dI) classes (wl a cA X1) H := by rw [eX1]; exact hP
  refine lv_aload_n hx hb dX2_copy_15 rfl (lv_at hl 1 rfl) ?_
  refine va_get (D := (dC, dI)) (ci := 2) (v := .ref (a 11)) (C := RX2) (T := TX2) (N := 17) hx hb hts iX2 hown hK hP 9 rfl rfl 1 (by decide) (hts _ wd_75) (fun _ h9 => h9) rfl dX2_copy_16 ?_
  refine lv_iconst (v := 0) hx hb dX2_copy_19 (by decide) ?_
  refine lv_aload_n hx hb dX2_copy_20 rfl (lv_at hl 0 rfl) ?_
  refine va_get (D := (dC, dI)) (ci := 2) (v := .ref (a 5)) (C := RX2) (T := TX2) (N := 17) hx hb hts iX2 hown hK hP 3 rfl rfl 1 (by decide) (hts _ wd_75) (fun _ h9 => h9) rfl dX2_copy_21 ?_
  refine lv_iconst (v := 0) hx hb dX2_copy_24 (by decide) ?_
  refine lv_bipush (v := 6) hx hb dX2_copy_25 (by decide) ?_
  refine va_copyi hx hb (by rw [hml]; exact hl.1.symm) hown (hts _ wd_477) (hts _ wd_479) (hts _ wd_478) (hts _ wd_42) hK hP (wlD hD0) hS 11 5 0 0 rfl rfl rfl rfl rfl (by decide) (by decide) (by decide) (by decide) (by decide) (fun i _ => rfl) (Nat.le_of_ble_eq_true rfl) (by decide) dX2_copy_27 (fun H locs hP hD_ hS => ?_)
  obtain ⟨X2, eX2⟩ : ∃ y : WS, y = (upw X1 5 (va_cpy (X1 11) (X1 5) (Int32.toNatClampNeg 0) (Int32.toNatClampNeg 0) (Int32.toNatClampNeg 6))) := ⟨_, rfl⟩
  have hw := stp_use hw eX2
  have hP : va_P (dC, dI) classes (wl a cA X2) H := by rw [eX2]; exact hP
  refine lv_aload_n hx hb dX2_copy_30 rfl (lv_at hl 1 rfl) ?_
  refine va_get (D := (dC, dI)) (ci := 2) (v := .ref (a 12)) (C := RX2) (T := TX2) (N := 17) hx hb hts iX2 hown hK hP 9 rfl rfl 2 (by decide) (hts _ wd_77) (fun _ h9 => h9) rfl dX2_copy_31 ?_
  refine lv_iconst (v := 0) hx hb dX2_copy_34 (by decide) ?_
  refine lv_aload_n hx hb dX2_copy_35 rfl (lv_at hl 0 rfl) ?_
  refine va_get (D := (dC, dI)) (ci := 2) (v := .ref (a 6)) (C := RX2) (T := TX2) (N := 17) hx hb hts iX2 hown hK hP 3 rfl rfl 2 (by decide) (hts _ wd_77) (fun _ h9 => h9) rfl dX2_copy_36 ?_
  refine lv_iconst (v := 0) hx hb dX2_copy_39 (by decide) ?_
  refine lv_bipush (v := 6) hx hb dX2_copy_40 (by decide) ?_
  refine va_copyi hx hb (by rw [hml]; exact hl.1.symm) hown (hts _ wd_477) (hts _ wd_479) (hts _ wd_478) (hts _ wd_42) hK hP (wlD hD0) hS 12 6 0 0 rfl rfl rfl rfl rfl (by decide) (by decide) (by decide) (by decide) (by decide) (fun i _ => rfl) (Nat.le_of_ble_eq_true rfl) (by decide) dX2_copy_42 (fun H locs hP hD_ hS => ?_)
  obtain ⟨X3, eX3⟩ : ∃ y : WS, y = (upw X2 6 (va_cpy (X2 12) (X2 6) (Int32.toNatClampNeg 0) (Int32.toNatClampNeg 0) (Int32.toNatClampNeg 6))) := ⟨_, rfl⟩
  have hw := stp_use hw eX3
  have hP : va_P (dC, dI) classes (wl a cA X3) H := by rw [eX3]; exact hP
  refine lv_aload_n hx hb dX2_copy_45 rfl (lv_at hl 1 rfl) ?_
  refine va_get (D := (dC, dI)) (ci := 2) (v := .ref (a 13)) (C := RX2) (T := TX2) (N := 17) hx hb hts iX2 hown hK hP 9 rfl rfl 3 (by decide) (hts _ wd_79) (fun _ h9 => h9) rfl dX2_copy_46 ?_
  refine lv_iconst (v := 0) hx hb dX2_copy_49 (by decide) ?_
  refine lv_aload_n hx hb dX2_copy_50 rfl (lv_at hl 0 rfl) ?_
  refine va_get (D := (dC, dI)) (ci := 2) (v := .ref (a 7)) (C := RX2) (T := TX2) (N := 17) hx hb hts iX2 hown hK hP 3 rfl rfl 3 (by decide) (hts _ wd_79) (fun _ h9 => h9) rfl dX2_copy_51 ?_
  refine lv_iconst (v := 0) hx hb dX2_copy_54 (by decide) ?_
  refine lv_bipush (v := 6) hx hb dX2_copy_55 (by decide) ?_
  refine va_copyi hx hb (by rw [hml]; exact hl.1.symm) hown (hts _ wd_477) (hts _ wd_479) (hts _ wd_478) (hts _ wd_42) hK hP (wlD hD0) hS 13 7 0 0 rfl rfl rfl rfl rfl (by decide) (by decide) (by decide) (by decide) (by decide) (fun i _ => rfl) (Nat.le_of_ble_eq_true rfl) (by decide) dX2_copy_57 (fun H locs hP hD_ hS => ?_)
  obtain ⟨X4, eX4⟩ : ∃ y : WS, y = (upw X3 7 (va_cpy (X3 13) (X3 7) (Int32.toNatClampNeg 0) (Int32.toNatClampNeg 0) (Int32.toNatClampNeg 6))) := ⟨_, rfl⟩
  have hw := stp_use hw eX4
  have hP : va_P (dC, dI) classes (wl a cA X4) H := by rw [eX4]; exact hP
  refine lv_aload_n hx hb dX2_copy_60 rfl (lv_at hl 1 rfl) ?_
  refine va_get (D := (dC, dI)) (ci := 2) (v := .ref (a 14)) (C := RX2) (T := TX2) (N := 17) hx hb hts iX2 hown hK hP 9 rfl rfl 4 (by decide) (hts _ wd_81) (fun _ h9 => h9) rfl dX2_copy_61 ?_
  refine lv_iconst (v := 0) hx hb dX2_copy_64 (by decide) ?_
  refine lv_aload_n hx hb dX2_copy_65 rfl (lv_at hl 0 rfl) ?_
  refine va_get (D := (dC, dI)) (ci := 2) (v := .ref (a 8)) (C := RX2) (T := TX2) (N := 17) hx hb hts iX2 hown hK hP 3 rfl rfl 4 (by decide) (hts _ wd_81) (fun _ h9 => h9) rfl dX2_copy_66 ?_
  refine lv_iconst (v := 0) hx hb dX2_copy_69 (by decide) ?_
  refine lv_bipush (v := 6) hx hb dX2_copy_70 (by decide) ?_
  refine va_copyi hx hb (by rw [hml]; exact hl.1.symm) hown (hts _ wd_477) (hts _ wd_479) (hts _ wd_478) (hts _ wd_42) hK hP (wlD hD0) hS 14 8 0 0 rfl rfl rfl rfl rfl (by decide) (by decide) (by decide) (by decide) (by decide) (fun i _ => rfl) (Nat.le_of_ble_eq_true rfl) (by decide) dX2_copy_72 (fun H locs hP hD_ hS => ?_)
  obtain ⟨X5, eX5⟩ : ∃ y : WS, y = (upw X4 8 (va_cpy (X4 14) (X4 8) (Int32.toNatClampNeg 0) (Int32.toNatClampNeg 0) (Int32.toNatClampNeg 6))) := ⟨_, rfl⟩
  have hw := stp_use hw eX5
  have hP : va_P (dC, dI) classes (wl a cA X5) H := by rw [eX5]; exact hP
  refine lv_aload_n hx hb dX2_copy_75 rfl (lv_at hl 0 rfl) ?_
  refine lv_aload_n hx hb dX2_copy_76 rfl (lv_at hl 1 rfl) ?_
  refine va_get (D := (dC, dI)) (ci := 2) (v := .int (X5 9 5)) (C := RX2) (T := TX2) (N := 17) hx hb hts iX2 hown hK hP 9 rfl rfl 5 (by decide) (hts _ wd_83) (fun _ h9 => h9) rfl dX2_copy_77 ?_
  refine lv_topi (fun x6 ex6 => ?_)
  have hw := stp_use hw ex6
  refine va_put (D := (dC, dI)) (ci := 2) (v := .int x6) (ty := .int) (C := RX2) (T := TX2) (N := 17) hx hb hts iX2 tyX2 tyX2_ok nmX2 hown hK hP (wlD hD0) hS 3 rfl rfl 5 (by decide) (hts _ wd_83) (fun _ h9 => h9) rfl (by decide +kernel) rfl rfl (Nat.le_of_ble_eq_true rfl) dX2_copy_80 (fun H locs hP hD_ hS => ?_)
  obtain ⟨X7, eX7⟩ : ∃ y : WS, y = (ups X5 3 5 x6) := ⟨_, rfl⟩
  have hw := stp_use hw eX7
  have hP : va_P (dC, dI) classes (wl a cA X7) H := by rw [eX7]; exact hP
  refine lv_aload_n hx hb dX2_copy_83 rfl (lv_at hl 0 rfl) ?_
  refine lv_aload_n hx hb dX2_copy_84 rfl (lv_at hl 1 rfl) ?_
  refine va_get (D := (dC, dI)) (ci := 2) (v := .int (X7 9 6)) (C := RX2) (T := TX2) (N := 17) hx hb hts iX2 hown hK hP 9 rfl rfl 6 (by decide) (hts _ wd_85) (fun _ h9 => h9) rfl dX2_copy_85 ?_
  refine lv_topi (fun x8 ex8 => ?_)
  have hw := stp_use hw ex8
  refine va_put (D := (dC, dI)) (ci := 2) (v := .int x8) (ty := .int) (C := RX2) (T := TX2) (N := 17) hx hb hts iX2 tyX2 tyX2_ok nmX2 hown hK hP (wlD hD0) hS 3 rfl rfl 6 (by decide) (hts _ wd_85) (fun _ h9 => h9) rfl (by decide +kernel) rfl rfl (Nat.le_of_ble_eq_true rfl) dX2_copy_88 (fun H locs hP hD_ hS => ?_)
  obtain ⟨X9, eX9⟩ : ∃ y : WS, y = (ups X7 3 6 x8) := ⟨_, rfl⟩
  have hw := stp_use hw eX9
  have hP : va_P (dC, dI) classes (wl a cA X9) H := by rw [eX9]; exact hP
  refine lv_aload_n hx hb dX2_copy_91 rfl (lv_at hl 0 rfl) ?_
  refine lv_aload_n hx hb dX2_copy_92 rfl (lv_at hl 1 rfl) ?_
  refine va_get (D := (dC, dI)) (ci := 2) (v := .int (X9 9 7)) (C := RX2) (T := TX2) (N := 17) hx hb hts iX2 hown hK hP 9 rfl rfl 7 (by decide) (hts _ wd_87) (fun _ h9 => h9) rfl dX2_copy_93 ?_
  refine lv_topi (fun x10 ex10 => ?_)
  have hw := stp_use hw ex10
  refine va_put (D := (dC, dI)) (ci := 2) (v := .int x10) (ty := .int) (C := RX2) (T := TX2) (N := 17) hx hb hts iX2 tyX2 tyX2_ok nmX2 hown hK hP (wlD hD0) hS 3 rfl rfl 7 (by decide) (hts _ wd_87) (fun _ h9 => h9) rfl (by decide +kernel) rfl rfl (Nat.le_of_ble_eq_true rfl) dX2_copy_96 (fun H locs hP hD_ hS => ?_)
  obtain ⟨X11, eX11⟩ : ∃ y : WS, y = (ups X9 3 7 x10) := ⟨_, rfl⟩
  have hw := stp_use hw eX11
  have hP : va_P (dC, dI) classes (wl a cA X11) H := by rw [eX11]; exact hP
  refine lv_aload_n hx hb dX2_copy_99 rfl (lv_at hl 0 rfl) ?_
  refine lv_aload_n hx hb dX2_copy_100 rfl (lv_at hl 1 rfl) ?_
  refine va_get (D := (dC, dI)) (ci := 2) (v := .int (X11 9 8)) (C := RX2) (T := TX2) (N := 17) hx hb hts iX2 hown hK hP 9 rfl rfl 8 (by decide) (hts _ wd_89) (fun _ h9 => h9) rfl dX2_copy_101 ?_
  refine lv_topi (fun x12 ex12 => ?_)
  have hw := stp_use hw ex12
  refine va_put (D := (dC, dI)) (ci := 2) (v := .int x12) (ty := .int) (C := RX2) (T := TX2) (N := 17) hx hb hts iX2 tyX2 tyX2_ok nmX2 hown hK hP (wlD hD0) hS 3 rfl rfl 8 (by decide) (hts _ wd_89) (fun _ h9 => h9) rfl (by decide +kernel) rfl rfl (Nat.le_of_ble_eq_true rfl) dX2_copy_104 (fun H locs hP hD_ hS => ?_)
  obtain ⟨X13, eX13⟩ : ∃ y : WS, y = (ups X11 3 8 x12) := ⟨_, rfl⟩
  have hw := stp_use hw eX13
  have hP : va_P (dC, dI) classes (wl a cA X13) H := by rw [eX13]; exact hP
  refine lv_aload_n hx hb dX2_copy_107 rfl (lv_at hl 0 rfl) ?_
  refine lv_aload_n hx hb dX2_copy_108 rfl (lv_at hl 1 rfl) ?_
  refine va_get (D := (dC, dI)) (ci := 2) (v := .int (X13 9 9)) (C := RX2) (T := TX2) (N := 17) hx hb hts iX2 hown hK hP 9 rfl rfl 9 (by decide) (hts _ wd_91) (fun _ h9 => h9) rfl dX2_copy_109 ?_
  refine lv_topi (fun x14 ex14 => ?_)
  have hw := stp_use hw ex14
  refine va_put (D := (dC, dI)) (ci := 2) (v := .int x14) (ty := .int) (C := RX2) (T := TX2) (N := 17) hx hb hts iX2 tyX2 tyX2_ok nmX2 hown hK hP (wlD hD0) hS 3 rfl rfl 9 (by decide) (hts _ wd_91) (fun _ h9 => h9) rfl (by decide +kernel) rfl rfl (Nat.le_of_ble_eq_true rfl) dX2_copy_112 (fun H locs hP hD_ hS => ?_)
  obtain ⟨X15, eX15⟩ : ∃ y : WS, y = (ups X13 3 9 x14) := ⟨_, rfl⟩
  have hw := stp_use hw eX15
  have hP : va_P (dC, dI) classes (wl a cA X15) H := by rw [eX15]; exact hP
  refine lv_aload_n hx hb dX2_copy_115 rfl (lv_at hl 0 rfl) ?_
  refine lv_aload_n hx hb dX2_copy_116 rfl (lv_at hl 1 rfl) ?_
  refine va_get (D := (dC, dI)) (ci := 2) (v := .int (X15 9 10)) (C := RX2) (T := TX2) (N := 17) hx hb hts iX2 hown hK hP 9 rfl rfl 10 (by decide) (hts _ wd_93) (fun _ h9 => h9) rfl dX2_copy_117 ?_
  refine lv_topi (fun x16 ex16 => ?_)
  have hw := stp_use hw ex16
  refine va_put (D := (dC, dI)) (ci := 2) (v := .int x16) (ty := .int) (C := RX2) (T := TX2) (N := 17) hx hb hts iX2 tyX2 tyX2_ok nmX2 hown hK hP (wlD hD0) hS 3 rfl rfl 10 (by decide) (hts _ wd_93) (fun _ h9 => h9) rfl (by decide +kernel) rfl rfl (Nat.le_of_ble_eq_true rfl) dX2_copy_120 (fun H locs hP hD_ hS => ?_)
  obtain ⟨X17, eX17⟩ : ∃ y : WS, y = (ups X15 3 10 x16) := ⟨_, rfl⟩
  have hw := stp_use hw eX17
  have hP : va_P (dC, dI) classes (wl a cA X17) H := by rw [eX17]; exact hP
  refine lv_aload_n hx hb dX2_copy_123 rfl (lv_at hl 0 rfl) ?_
  refine lv_aload_n hx hb dX2_copy_124 rfl (lv_at hl 1 rfl) ?_
  refine va_get (D := (dC, dI)) (ci := 2) (v := .int (X17 9 11)) (C := RX2) (T := TX2) (N := 17) hx hb hts iX2 hown hK hP 9 rfl rfl 11 (by decide) (hts _ wd_95) (fun _ h9 => h9) rfl dX2_copy_125 ?_
  refine lv_topi (fun x18 ex18 => ?_)
  have hw := stp_use hw ex18
  refine va_put (D := (dC, dI)) (ci := 2) (v := .int x18) (ty := .int) (C := RX2) (T := TX2) (N := 17) hx hb hts iX2 tyX2 tyX2_ok nmX2 hown hK hP (wlD hD0) hS 3 rfl rfl 11 (by decide) (hts _ wd_95) (fun _ h9 => h9) rfl (by decide +kernel) rfl rfl (Nat.le_of_ble_eq_true rfl) dX2_copy_128 (fun H locs hP hD_ hS => ?_)
  obtain ⟨X19, eX19⟩ : ∃ y : WS, y = (ups X17 3 11 x18) := ⟨_, rfl⟩
  have hw := stp_use hw eX19
  have hP : va_P (dC, dI) classes (wl a cA X19) H := by rw [eX19]; exact hP
  refine lv_aload_n hx hb dX2_copy_131 rfl (lv_at hl 0 rfl) ?_
  refine lv_aload_n hx hb dX2_copy_132 rfl (lv_at hl 1 rfl) ?_
  refine va_get (D := (dC, dI)) (ci := 2) (v := .int (X19 9 12)) (C := RX2) (T := TX2) (N := 17) hx hb hts iX2 hown hK hP 9 rfl rfl 12 (by decide) (hts _ wd_97) (fun _ h9 => h9) rfl dX2_copy_133 ?_
  refine lv_topi (fun x20 ex20 => ?_)
  have hw := stp_use hw ex20
  refine va_put (D := (dC, dI)) (ci := 2) (v := .int x20) (ty := .int) (C := RX2) (T := TX2) (N := 17) hx hb hts iX2 tyX2 tyX2_ok nmX2 hown hK hP (wlD hD0) hS 3 rfl rfl 12 (by decide) (hts _ wd_97) (fun _ h9 => h9) rfl (by decide +kernel) rfl rfl (Nat.le_of_ble_eq_true rfl) dX2_copy_136 (fun H locs hP hD_ hS => ?_)
  obtain ⟨X21, eX21⟩ : ∃ y : WS, y = (ups X19 3 12 x20) := ⟨_, rfl⟩
  have hw := stp_use hw eX21
  have hP : va_P (dC, dI) classes (wl a cA X21) H := by rw [eX21]; exact hP
  refine lv_aload_n hx hb dX2_copy_139 rfl (lv_at hl 0 rfl) ?_
  refine lv_aload_n hx hb dX2_copy_140 rfl (lv_at hl 1 rfl) ?_
  refine va_get (D := (dC, dI)) (ci := 2) (v := .int (X21 9 13)) (C := RX2) (T := TX2) (N := 17) hx hb hts iX2 hown hK hP 9 rfl rfl 13 (by decide) (hts _ wd_99) (fun _ h9 => h9) rfl dX2_copy_141 ?_
  refine lv_topi (fun x22 ex22 => ?_)
  have hw := stp_use hw ex22
  refine va_put (D := (dC, dI)) (ci := 2) (v := .int x22) (ty := .int) (C := RX2) (T := TX2) (N := 17) hx hb hts iX2 tyX2 tyX2_ok nmX2 hown hK hP (wlD hD0) hS 3 rfl rfl 13 (by decide) (hts _ wd_99) (fun _ h9 => h9) rfl (by decide +kernel) rfl rfl (Nat.le_of_ble_eq_true rfl) dX2_copy_144 (fun H locs hP hD_ hS => ?_)
  obtain ⟨X23, eX23⟩ : ∃ y : WS, y = (ups X21 3 13 x22) := ⟨_, rfl⟩
  have hw := stp_use hw eX23
  have hP : va_P (dC, dI) classes (wl a cA X23) H := by rw [eX23]; exact hP
  refine lv_aload_n hx hb dX2_copy_147 rfl (lv_at hl 0 rfl) ?_
  refine lv_aload_n hx hb dX2_copy_148 rfl (lv_at hl 1 rfl) ?_
  refine va_get (D := (dC, dI)) (ci := 2) (v := .int (X23 9 14)) (C := RX2) (T := TX2) (N := 17) hx hb hts iX2 hown hK hP 9 rfl rfl 14 (by decide) (hts _ wd_101) (fun _ h9 => h9) rfl dX2_copy_149 ?_
  refine lv_topi (fun x24 ex24 => ?_)
  have hw := stp_use hw ex24
  refine va_put (D := (dC, dI)) (ci := 2) (v := .int x24) (ty := .int) (C := RX2) (T := TX2) (N := 17) hx hb hts iX2 tyX2 tyX2_ok nmX2 hown hK hP (wlD hD0) hS 3 rfl rfl 14 (by decide) (hts _ wd_101) (fun _ h9 => h9) rfl (by decide +kernel) rfl rfl (Nat.le_of_ble_eq_true rfl) dX2_copy_152 (fun H locs hP hD_ hS => ?_)
  obtain ⟨X25, eX25⟩ : ∃ y : WS, y = (ups X23 3 14 x24) := ⟨_, rfl⟩
  have hw := stp_use hw eX25
  have hP : va_P (dC, dI) classes (wl a cA X25) H := by rw [eX25]; exact hP
  refine lv_aload_n hx hb dX2_copy_155 rfl (lv_at hl 0 rfl) ?_
  refine lv_aload_n hx hb dX2_copy_156 rfl (lv_at hl 1 rfl) ?_
  refine va_get (D := (dC, dI)) (ci := 2) (v := .int (X25 9 15)) (C := RX2) (T := TX2) (N := 17) hx hb hts iX2 hown hK hP 9 rfl rfl 15 (by decide) (hts _ wd_103) (fun _ h9 => h9) rfl dX2_copy_157 ?_
  refine lv_topi (fun x26 ex26 => ?_)
  have hw := stp_use hw ex26
  refine va_put (D := (dC, dI)) (ci := 2) (v := .int x26) (ty := .int) (C := RX2) (T := TX2) (N := 17) hx hb hts iX2 tyX2 tyX2_ok nmX2 hown hK hP (wlD hD0) hS 3 rfl rfl 15 (by decide) (hts _ wd_103) (fun _ h9 => h9) rfl (by decide +kernel) rfl rfl (Nat.le_of_ble_eq_true rfl) dX2_copy_160 (fun H locs hP hD_ hS => ?_)
  obtain ⟨X27, eX27⟩ : ∃ y : WS, y = (ups X25 3 15 x26) := ⟨_, rfl⟩
  have hw := stp_use hw eX27
  have hP : va_P (dC, dI) classes (wl a cA X27) H := by rw [eX27]; exact hP
  refine lv_aload_n hx hb dX2_copy_163 rfl (lv_at hl 0 rfl) ?_
  refine lv_aload_n hx hb dX2_copy_164 rfl (lv_at hl 1 rfl) ?_
  refine va_get (D := (dC, dI)) (ci := 2) (v := .int (X27 9 16)) (C := RX2) (T := TX2) (N := 17) hx hb hts iX2 hown hK hP 9 rfl rfl 16 (by decide) (hts _ wd_104) (fun _ h9 => h9) rfl dX2_copy_165 ?_
  refine lv_topi (fun x28 ex28 => ?_)
  have hw := stp_use hw ex28
  refine va_put (D := (dC, dI)) (ci := 2) (v := .int x28) (ty := .int) (C := RX2) (T := TX2) (N := 17) hx hb hts iX2 tyX2 tyX2_ok nmX2 hown hK hP (wlD hD0) hS 3 rfl rfl 16 (by decide) (hts _ wd_104) (fun _ h9 => h9) rfl (by decide +kernel) rfl rfl (Nat.le_of_ble_eq_true rfl) dX2_copy_168 (fun H locs hP hD_ hS => ?_)
  obtain ⟨X29, eX29⟩ : ∃ y : WS, y = (ups X27 3 16 x28) := ⟨_, rfl⟩
  have hw := stp_use hw eX29
  have hP : va_P (dC, dI) classes (wl a cA X29) H := by rw [eX29]; exact hP
  exact hret _ _ _ _ _ (Option.some.inj hw) hP hS dX2_copy_171
set_option maxHeartbeats 4000000 in
set_option maxRecDepth 100000 in
theorem c_X3_restore (l : Launch) (dC : Nat → ClassId) (dI : Nat → Nat → Nat) (A : Nat → Prop) (a : Nat → Nat) (cA : ClassId) (X : WS) (out : (Int32 × WS)) (hw : f_X3_restore X = some out) : Met l yX3_restore (.code yX3_restore cX3_restore 1 (some .int) :: lw_g) ({ frames := 2, cells := 0, slots := 0, locals := 81 }) (PcXD dC dI A a cA X [.ref (a 0)]) (va_Qi (fun (r_ : Int32) (X_ : WS) => out = (r_, X_)) (fun X_ t => va_P (dC, dI) classes (wl a cA X_) t.heap ∧ va_K (dC, dI) classes [(cA, .int)] t) A) 0 0 (A) := by
  unfold f_X3_restore at hw
  refine Met.ofW (cc := cX3_restore) (maxL := 1) (ret := (some .int)) (by decide) rfl ?_
  intro p e s m args below meth c s₁ B hml hv
  obtain ⟨rfl, hP, hK, hN, hD0⟩ := hv
  have hx := B.exec
  have hb := B.bytes
  have hr := B.returns
  have hts0 := atoms_spec (ws := (.code yX3_restore cX3_restore 1 (some .int) :: lw_g)) B.pre
  have hts : ∀ w ∈ lw_g, w.before (([.ref (a 0)] : List Value).toArray) s = true := fun w h => hts0 w (List.mem_cons_of_mem _ h)
  clear hts0
  have hown : s.vm.findClass RX3 = some m.cls := findClass_of_methodNamed B.named
  have hlocks := B.notSynchronized
  have hret : ∀ (pc : Nat) (ls : Array Slot) (v : Int32) (X_ : WS) (H : Heap) (locs : List Loc), (v, X_) = out → va_P (dC, dI) classes (wl a cA X_) H → va_S A s.heap H locs → decode cX3_restore pc = .ok (.ireturn, 1) → W p l e ({ frames := 2, cells := 0, slots := 0, locals := 81 }) s m (([.ref (a 0)] : List Value).toArray) below meth c H locs 0 0 (MQ below (va_Qi (fun (r_ : Int32) (X_ : WS) => out = (r_, X_)) (fun X_ t => va_P (dC, dI) classes (wl a cA X_) t.heap ∧ va_K (dC, dI) classes [(cA, .int)] t) A) (([.ref (a 0)] : List Value).toArray) s 0 0 (A)) (F0 m pc ls [.int v]) := fun pc ls v X_ H locs hv hP hS hd => W.iret hx hb hr (fun t ht hW => ⟨⟨v, X_, rfl, hv.symm, by rw [ht]; exact hP, va_K.moved hW.alike hK⟩, hS.F ht⟩) hS.2.2 hd
  show W p l e ({ frames := 2, cells := 0, slots := 0, locals := 81 }) s m (([.ref (a 0)] : List Value).toArray) below meth c s.heap [] 0 0 (MQ below (va_Qi (fun (r_ : Int32) (X_ : WS) => out = (r_, X_)) (fun X_ t => va_P (dC, dI) classes (wl a cA X_) t.heap ∧ va_K (dC, dI) classes [(cA, .int)] t) A) (([.ref (a 0)] : List Value).toArray) s 0 0 (A)) (entryFrame m (([.ref (a 0)] : List Value).toArray) 1)
  generalize MQ below (va_Qi (fun (r_ : Int32) (X_ : WS) => out = (r_, X_)) (fun X_ t => va_P (dC, dI) classes (wl a cA X_) t.heap ∧ va_K (dC, dI) classes [(cA, .int)] t) A) (([.ref (a 0)] : List Value).toArray) s 0 0 (A) = Q at hret ⊢
  have hS : va_S A s.heap s.heap [] := va_S.rf
  have hl := lv_entry ([.ref (a 0)]) (n := 1) (Nat.le_of_ble_eq_true rfl)
  rw [lg_entry_eq]
  generalize (lg_sl ([.ref (a 0)]) ++ List.replicate (1 - (lg_sl ([.ref (a 0)])).length) Slot.unset).toArray = ls at hl ⊢
  have hl : lv_has ls 1 [(0, .ref (a 0))] := hl
  refine lv_aload_n hx hb dX3_restore_0 rfl (lv_at hl 0 rfl) ?_
  refine va_get (D := (dC, dI)) (ci := 3) (v := .int (X 0 4)) (C := RX3) (T := TX3) (N := 6) hx hb hts iX3 hown hK hP 0 rfl rfl 4 (by decide) (hts _ wd_182) (fun _ h9 => h9) rfl dX3_restore_1 ?_
  refine lv_if_ne (tgt := 10) hx hb dX3_restore_4 (by decide) (fun c1 => ?_) (fun c1 => ?_)
  · have hw := ite_f hw c1
    refine lv_aload_n hx hb dX3_restore_10 rfl (lv_at hl 0 rfl) ?_
    refine va_get (D := (dC, dI)) (ci := 3) (v := .ref (a 3)) (C := RX3) (T := TX3) (N := 6) hx hb hts iX3 hown hK hP 0 rfl rfl 1 (by decide) (hts _ wd_179) (fun _ h9 => h9) rfl dX3_restore_11 ?_
    refine lv_aload_n hx hb dX3_restore_14 rfl (lv_at hl 0 rfl) ?_
    refine va_get (D := (dC, dI)) (ci := 3) (v := .ref (a 9)) (C := RX3) (T := TX3) (N := 6) hx hb hts iX3 hown hK hP 0 rfl rfl 2 (by decide) (hts _ wd_180) (fun _ h9 => h9) rfl dX3_restore_15 ?_
    obtain ⟨X2, eX2, hw⟩ := Option.bind_eq_some_iff.mp hw
    refine va_callv (va_runV (As := [.ref (a 9)]) (rest := []) ⟨hx, hb, hml, hown, hts⟩ (c_X2_copy_3_9 l dC dI A a cA X X2 eX2) ⟨callB_of 1 hts gd_X2_copy rfl rfl rfl (hts _ wd_37) (hts _ wd_473) hd_X2_copy ⟨Nat.le_of_ble_eq_true rfl, Nat.le_of_ble_eq_true rfl⟩, hts _ wd_474, hts _ wd_475⟩ ⟨blXD, va_recv hK hP (ci := 2) (q0 := 3) rfl rfl, fun U hU hW => ⟨rfl, by rw [hU]; exact hP, va_K.moved hW.alike hK, nst.warm hW hN, wlD hD0⟩⟩ rfl rfl hl.1 rfl (lv_room (Nat.le_of_ble_eq_true rfl)) dX3_restore_18 ⟨Nat.zero_le _, Nat.zero_le _⟩) hS (fun _ _ h => h) (fun _ h => h) (fun u_ t_ H1 locs1 ht hvm hp_ hB hz1 hk1 hS1 => ?_)
    subst hp_
    obtain ⟨hP1, hK1⟩ := hB
    rw [ht] at hP1
    have hP := hP1
    have hS := hS1
    refine lv_aload_n hx hb dX3_restore_21 rfl (lv_at hl 0 rfl) ?_
    refine va_get (D := (dC, dI)) (ci := 3) (v := .ref (a 3)) (C := RX3) (T := TX3) (N := 6) hx hb hts iX3 hown hK hP 0 rfl rfl 1 (by decide) (hts _ wd_179) (fun _ h9 => h9) rfl dX3_restore_22 ?_
    refine va_getN (D := (dC, dI)) (ci := 2) (v := .int (X2 3 12)) (C := RX2) (T := TX2) (N := 17) hx hb hts iX2 hown hK hP 3 rfl rfl 12 (by decide) (va_Nw.use rfl (hN _ nk_98)) (fun _ h9 => h9) rfl dX3_restore_25 ?_
    exact hret _ _ _ _ _ _ (Option.some.inj hw) hP hS dX3_restore_28
  · have hw := ite_t hw c1
    refine lv_bipush (v := (-103)) hx hb dX3_restore_7 (by decide) ?_
    exact hret _ _ _ _ _ _ (Option.some.inj hw) hP hS dX3_restore_9
set_option maxHeartbeats 4000000 in
set_option maxRecDepth 100000 in
theorem c_X4_copy_6_3 (l : Launch) (dC : Nat → ClassId) (dI : Nat → Nat → Nat) (A : Nat → Prop) (a : Nat → Nat) (cA : ClassId) (X : MS) (out : MS) (hw : f_X4_copy_6_3 X = some out) : Met l yX4_copy (.code yX4_copy cX4_copy 3 none :: lw_g) ({ frames := 0, cells := 0, slots := 0, locals := 0 }) (PcMD dC dI A a cA X [.ref (a 6), .ref (a 3)]) (va_Qv (fun X_ : MS => out = X_) (fun X_ t => va_P (dC, dI) classes (wm a cA X_) t.heap ∧ va_K (dC, dI) classes [(cA, .int)] t) A) 0 0 (A) := by
  unfold f_X4_copy_6_3 at hw
  refine Met.ofW (cc := cX4_copy) (maxL := 3) (ret := none) (by decide) rfl ?_
  intro p e s m args below meth c s₁ B hml hv
  obtain ⟨rfl, hP, hK, hD0⟩ := hv
  have hx := B.exec
  have hb := B.bytes
  have hr := B.returns
  have hts0 := atoms_spec (ws := (.code yX4_copy cX4_copy 3 none :: lw_g)) B.pre
  have hts : ∀ w ∈ lw_g, w.before (([.ref (a 6), .ref (a 3)] : List Value).toArray) s = true := fun w h => hts0 w (List.mem_cons_of_mem _ h)
  clear hts0
  have hown : s.vm.findClass RX4 = some m.cls := findClass_of_methodNamed B.named
  have hlocks := B.notSynchronized
  have hret : ∀ (pc : Nat) (ls : Array Slot) (X_ : MS) (H : Heap) (locs : List Loc), X_ = out → va_P (dC, dI) classes (wm a cA X_) H → va_S A s.heap H locs → decode cX4_copy pc = .ok (.return_, 1) → W p l e ({ frames := 0, cells := 0, slots := 0, locals := 0 }) s m (([.ref (a 6), .ref (a 3)] : List Value).toArray) below meth c H locs 0 0 (MQ below (va_Qv (fun X_ : MS => out = X_) (fun X_ t => va_P (dC, dI) classes (wm a cA X_) t.heap ∧ va_K (dC, dI) classes [(cA, .int)] t) A) (([.ref (a 6), .ref (a 3)] : List Value).toArray) s 0 0 (A)) (F0 m pc ls []) := fun pc ls X_ H locs hv hP hS hd => W.vret hx hb hr (fun t ht hW => ⟨⟨X_, rfl, hv.symm, by rw [ht]; exact hP, va_K.moved hW.alike hK⟩, hS.F ht⟩) hS.2.2 hd
  show W p l e ({ frames := 0, cells := 0, slots := 0, locals := 0 }) s m (([.ref (a 6), .ref (a 3)] : List Value).toArray) below meth c s.heap [] 0 0 (MQ below (va_Qv (fun X_ : MS => out = X_) (fun X_ t => va_P (dC, dI) classes (wm a cA X_) t.heap ∧ va_K (dC, dI) classes [(cA, .int)] t) A) (([.ref (a 6), .ref (a 3)] : List Value).toArray) s 0 0 (A)) (entryFrame m (([.ref (a 6), .ref (a 3)] : List Value).toArray) 3)
  generalize MQ below (va_Qv (fun X_ : MS => out = X_) (fun X_ t => va_P (dC, dI) classes (wm a cA X_) t.heap ∧ va_K (dC, dI) classes [(cA, .int)] t) A) (([.ref (a 6), .ref (a 3)] : List Value).toArray) s 0 0 (A) = Q at hret ⊢
  have hS : va_S A s.heap s.heap [] := va_S.rf
  have L2 : ∀ n : Nat, ∀ (X : MS), ∀ (v2 : Int32), g_X4_copy_6_3_2 n X v2 = some out → ∀ (H : Heap) (locs : List Loc), va_P (dC, dI) classes (wm a cA X) H → va_S A s.heap H locs → ∀ ls : Array Slot, lv_has ls 3 [(0, .ref (a 6)), (1, .ref (a 3)), (2, .int v2)] → W p l e ({ frames := 0, cells := 0, slots := 0, locals := 0 }) s m (([.ref (a 6), .ref (a 3)] : List Value).toArray) below meth c H locs 0 0 Q (F0 m 2 ls []) := by
    intro n
    induction n with
    | zero =>
      intro X v2 hw
      rw [g_X4_copy_6_3_2] at hw
      cases hw
    | succ n ih =>
      intro X v2 hw H locs hP hS ls hl
      rw [g_X4_copy_6_3_2] at hw
      refine lv_iload_n hx hb dX4_copy_2 rfl (lv_at hl 2 rfl) ?_
      refine lv_aload_n hx hb dX4_copy_3 rfl (lv_at hl 0 rfl) ?_
      refine va_alen (v := 12) hx hb hK hP 6 0 rfl rfl rfl dX4_copy_4 ?_
      refine lv_icmp_ge (tgt := 20) hx hb dX4_copy_5 (by decide) (fun c1 => ?_) (fun c1 => ?_)
      · have hw := ite_t hw c1
        exact hret _ _ _ _ _ (Option.some.inj hw) hP hS dX4_copy_20
      · have hw := ite_f hw c1
        refine lv_aload_n hx hb dX4_copy_8 rfl (lv_at hl 1 rfl) ?_
        refine lv_iload_n hx hb dX4_copy_9 rfl (lv_at hl 2 rfl) ?_
        refine lv_aload_n hx hb dX4_copy_10 rfl (lv_at hl 0 rfl) ?_
        refine lv_iload_n hx hb dX4_copy_11 rfl (lv_at hl 2 rfl) ?_
        obtain ⟨h2, hw⟩ := ixc_use hw
        refine va_iald hx hb hK hP 6 0 rfl rfl h2 dX4_copy_12 ?_
        refine lv_topi (fun x4 ex4 => ?_)
        have hw := stp_use hw ex4
        obtain ⟨h3, hw⟩ := ixc_use hw
        refine va_iast hx hb hK hP (wmD hD0) hS 3 0 rfl rfl h3 dX4_copy_13 (fun H locs hP hD_ hS => ?_)
        obtain ⟨X5, eX5⟩ : ∃ y : MS, y = (ups X.1 3 (Int32.toNatClampNeg v2) x4, X.2) := ⟨_, rfl⟩
        have hw := stp_use hw eX5
        have hP : va_P (dC, dI) classes (wm a cA X5) H := by rw [eX5]; exact hP
        obtain ⟨x6, ex6⟩ : ∃ y : Int32, y = (v2 + 1) := ⟨_, rfl⟩
        have hw := stp_use hw ex6
        refine lv_iinc (v := x6) (lv' := [(2, .int x6), (0, .ref (a 6)), (1, .ref (a 3))]) hx hb dX4_copy_14 hl (k := 2) rfl (by rw [ex6]; rfl) (by decide) rfl (fun ls hl => ?_)
        refine lv_goto (tgt := 2) hx hb dX4_copy_17 (by decide) ?_
        exact ih X5 x6 hw _ _ hP hS ls (lv_sub hl [1, 2, 0] rfl)
  have hl := lv_entry ([.ref (a 6), .ref (a 3)]) (n := 3) (Nat.le_of_ble_eq_true rfl)
  rw [lg_entry_eq]
  generalize (lg_sl ([.ref (a 6), .ref (a 3)]) ++ List.replicate (3 - (lg_sl ([.ref (a 6), .ref (a 3)])).length) Slot.unset).toArray = ls at hl ⊢
  have hl : lv_has ls 3 [(0, .ref (a 6)), (1, .ref (a 3))] := hl
  refine lv_iconst (v := 0) hx hb dX4_copy_0 (by decide) ?_
  refine lv_istore_n (lv' := [(2, .int 0), (0, .ref (a 6)), (1, .ref (a 3))]) hx hb dX4_copy_1 rfl hl (by decide) rfl (fun ls hl => ?_)
  exact L2 NF X 0 hw _ _ hP hS ls (lv_sub hl [1, 2, 0] rfl)
set_option maxHeartbeats 4000000 in
set_option maxRecDepth 100000 in
theorem c_X4_copy_7_5 (l : Launch) (dC : Nat → ClassId) (dI : Nat → Nat → Nat) (A : Nat → Prop) (a : Nat → Nat) (cA : ClassId) (X : MS) (out : MS) (hw : f_X4_copy_7_5 X = some out) : Met l yX4_copy (.code yX4_copy cX4_copy 3 none :: lw_g) ({ frames := 0, cells := 0, slots := 0, locals := 0 }) (PcMD dC dI A a cA X [.ref (a 7), .ref (a 5)]) (va_Qv (fun X_ : MS => out = X_) (fun X_ t => va_P (dC, dI) classes (wm a cA X_) t.heap ∧ va_K (dC, dI) classes [(cA, .int)] t) A) 0 0 (A) := by
  unfold f_X4_copy_7_5 at hw
  refine Met.ofW (cc := cX4_copy) (maxL := 3) (ret := none) (by decide) rfl ?_
  intro p e s m args below meth c s₁ B hml hv
  obtain ⟨rfl, hP, hK, hD0⟩ := hv
  have hx := B.exec
  have hb := B.bytes
  have hr := B.returns
  have hts0 := atoms_spec (ws := (.code yX4_copy cX4_copy 3 none :: lw_g)) B.pre
  have hts : ∀ w ∈ lw_g, w.before (([.ref (a 7), .ref (a 5)] : List Value).toArray) s = true := fun w h => hts0 w (List.mem_cons_of_mem _ h)
  clear hts0
  have hown : s.vm.findClass RX4 = some m.cls := findClass_of_methodNamed B.named
  have hlocks := B.notSynchronized
  have hret : ∀ (pc : Nat) (ls : Array Slot) (X_ : MS) (H : Heap) (locs : List Loc), X_ = out → va_P (dC, dI) classes (wm a cA X_) H → va_S A s.heap H locs → decode cX4_copy pc = .ok (.return_, 1) → W p l e ({ frames := 0, cells := 0, slots := 0, locals := 0 }) s m (([.ref (a 7), .ref (a 5)] : List Value).toArray) below meth c H locs 0 0 (MQ below (va_Qv (fun X_ : MS => out = X_) (fun X_ t => va_P (dC, dI) classes (wm a cA X_) t.heap ∧ va_K (dC, dI) classes [(cA, .int)] t) A) (([.ref (a 7), .ref (a 5)] : List Value).toArray) s 0 0 (A)) (F0 m pc ls []) := fun pc ls X_ H locs hv hP hS hd => W.vret hx hb hr (fun t ht hW => ⟨⟨X_, rfl, hv.symm, by rw [ht]; exact hP, va_K.moved hW.alike hK⟩, hS.F ht⟩) hS.2.2 hd
  show W p l e ({ frames := 0, cells := 0, slots := 0, locals := 0 }) s m (([.ref (a 7), .ref (a 5)] : List Value).toArray) below meth c s.heap [] 0 0 (MQ below (va_Qv (fun X_ : MS => out = X_) (fun X_ t => va_P (dC, dI) classes (wm a cA X_) t.heap ∧ va_K (dC, dI) classes [(cA, .int)] t) A) (([.ref (a 7), .ref (a 5)] : List Value).toArray) s 0 0 (A)) (entryFrame m (([.ref (a 7), .ref (a 5)] : List Value).toArray) 3)
  generalize MQ below (va_Qv (fun X_ : MS => out = X_) (fun X_ t => va_P (dC, dI) classes (wm a cA X_) t.heap ∧ va_K (dC, dI) classes [(cA, .int)] t) A) (([.ref (a 7), .ref (a 5)] : List Value).toArray) s 0 0 (A) = Q at hret ⊢
  have hS : va_S A s.heap s.heap [] := va_S.rf
  have L2 : ∀ n : Nat, ∀ (X : MS), ∀ (v2 : Int32), g_X4_copy_7_5_2 n X v2 = some out → ∀ (H : Heap) (locs : List Loc), va_P (dC, dI) classes (wm a cA X) H → va_S A s.heap H locs → ∀ ls : Array Slot, lv_has ls 3 [(0, .ref (a 7)), (1, .ref (a 5)), (2, .int v2)] → W p l e ({ frames := 0, cells := 0, slots := 0, locals := 0 }) s m (([.ref (a 7), .ref (a 5)] : List Value).toArray) below meth c H locs 0 0 Q (F0 m 2 ls []) := by
    intro n
    induction n with
    | zero =>
      intro X v2 hw
      rw [g_X4_copy_7_5_2] at hw
      cases hw
    | succ n ih =>
      intro X v2 hw H locs hP hS ls hl
      rw [g_X4_copy_7_5_2] at hw
      refine lv_iload_n hx hb dX4_copy_2 rfl (lv_at hl 2 rfl) ?_
      refine lv_aload_n hx hb dX4_copy_3 rfl (lv_at hl 0 rfl) ?_
      refine va_alen (v := 16) hx hb hK hP 7 0 rfl rfl rfl dX4_copy_4 ?_
      refine lv_icmp_ge (tgt := 20) hx hb dX4_copy_5 (by decide) (fun c1 => ?_) (fun c1 => ?_)
      · have hw := ite_t hw c1
        exact hret _ _ _ _ _ (Option.some.inj hw) hP hS dX4_copy_20
      · have hw := ite_f hw c1
        refine lv_aload_n hx hb dX4_copy_8 rfl (lv_at hl 1 rfl) ?_
        refine lv_iload_n hx hb dX4_copy_9 rfl (lv_at hl 2 rfl) ?_
        refine lv_aload_n hx hb dX4_copy_10 rfl (lv_at hl 0 rfl) ?_
        refine lv_iload_n hx hb dX4_copy_11 rfl (lv_at hl 2 rfl) ?_
        obtain ⟨h2, hw⟩ := ixc_use hw
        refine va_iald hx hb hK hP 7 0 rfl rfl h2 dX4_copy_12 ?_
        refine lv_topi (fun x4 ex4 => ?_)
        have hw := stp_use hw ex4
        obtain ⟨h3, hw⟩ := ixc_use hw
        refine va_iast hx hb hK hP (wmD hD0) hS 5 0 rfl rfl h3 dX4_copy_13 (fun H locs hP hD_ hS => ?_)
        obtain ⟨X5, eX5⟩ : ∃ y : MS, y = (ups X.1 5 (Int32.toNatClampNeg v2) x4, X.2) := ⟨_, rfl⟩
        have hw := stp_use hw eX5
        have hP : va_P (dC, dI) classes (wm a cA X5) H := by rw [eX5]; exact hP
        obtain ⟨x6, ex6⟩ : ∃ y : Int32, y = (v2 + 1) := ⟨_, rfl⟩
        have hw := stp_use hw ex6
        refine lv_iinc (v := x6) (lv' := [(2, .int x6), (0, .ref (a 7)), (1, .ref (a 5))]) hx hb dX4_copy_14 hl (k := 2) rfl (by rw [ex6]; rfl) (by decide) rfl (fun ls hl => ?_)
        refine lv_goto (tgt := 2) hx hb dX4_copy_17 (by decide) ?_
        exact ih X5 x6 hw _ _ hP hS ls (lv_sub hl [1, 2, 0] rfl)
  have hl := lv_entry ([.ref (a 7), .ref (a 5)]) (n := 3) (Nat.le_of_ble_eq_true rfl)
  rw [lg_entry_eq]
  generalize (lg_sl ([.ref (a 7), .ref (a 5)]) ++ List.replicate (3 - (lg_sl ([.ref (a 7), .ref (a 5)])).length) Slot.unset).toArray = ls at hl ⊢
  have hl : lv_has ls 3 [(0, .ref (a 7)), (1, .ref (a 5))] := hl
  refine lv_iconst (v := 0) hx hb dX4_copy_0 (by decide) ?_
  refine lv_istore_n (lv' := [(2, .int 0), (0, .ref (a 7)), (1, .ref (a 5))]) hx hb dX4_copy_1 rfl hl (by decide) rfl (fun ls hl => ?_)
  exact L2 NF X 0 hw _ _ hP hS ls (lv_sub hl [1, 2, 0] rfl)
set_option maxHeartbeats 4000000 in
set_option maxRecDepth 100000 in
theorem c_X4_copy_8_2 (l : Launch) (dC : Nat → ClassId) (dI : Nat → Nat → Nat) (A : Nat → Prop) (a : Nat → Nat) (cA : ClassId) (X : MS) (out : MS) (hw : f_X4_copy_8_2 X = some out) : Met l yX4_copy (.code yX4_copy cX4_copy 3 none :: lw_g) ({ frames := 0, cells := 0, slots := 0, locals := 0 }) (PcMD dC dI A a cA X [.ref (a 8), .ref (a 2)]) (va_Qv (fun X_ : MS => out = X_) (fun X_ t => va_P (dC, dI) classes (wm a cA X_) t.heap ∧ va_K (dC, dI) classes [(cA, .int)] t) A) 0 0 (A) := by
  unfold f_X4_copy_8_2 at hw
  refine Met.ofW (cc := cX4_copy) (maxL := 3) (ret := none) (by decide) rfl ?_
  intro p e s m args below meth c s₁ B hml hv
  obtain ⟨rfl, hP, hK, hD0⟩ := hv
  have hx := B.exec
  have hb := B.bytes
  have hr := B.returns
  have hts0 := atoms_spec (ws := (.code yX4_copy cX4_copy 3 none :: lw_g)) B.pre
  have hts : ∀ w ∈ lw_g, w.before (([.ref (a 8), .ref (a 2)] : List Value).toArray) s = true := fun w h => hts0 w (List.mem_cons_of_mem _ h)
  clear hts0
  have hown : s.vm.findClass RX4 = some m.cls := findClass_of_methodNamed B.named
  have hlocks := B.notSynchronized
  have hret : ∀ (pc : Nat) (ls : Array Slot) (X_ : MS) (H : Heap) (locs : List Loc), X_ = out → va_P (dC, dI) classes (wm a cA X_) H → va_S A s.heap H locs → decode cX4_copy pc = .ok (.return_, 1) → W p l e ({ frames := 0, cells := 0, slots := 0, locals := 0 }) s m (([.ref (a 8), .ref (a 2)] : List Value).toArray) below meth c H locs 0 0 (MQ below (va_Qv (fun X_ : MS => out = X_) (fun X_ t => va_P (dC, dI) classes (wm a cA X_) t.heap ∧ va_K (dC, dI) classes [(cA, .int)] t) A) (([.ref (a 8), .ref (a 2)] : List Value).toArray) s 0 0 (A)) (F0 m pc ls []) := fun pc ls X_ H locs hv hP hS hd => W.vret hx hb hr (fun t ht hW => ⟨⟨X_, rfl, hv.symm, by rw [ht]; exact hP, va_K.moved hW.alike hK⟩, hS.F ht⟩) hS.2.2 hd
  show W p l e ({ frames := 0, cells := 0, slots := 0, locals := 0 }) s m (([.ref (a 8), .ref (a 2)] : List Value).toArray) below meth c s.heap [] 0 0 (MQ below (va_Qv (fun X_ : MS => out = X_) (fun X_ t => va_P (dC, dI) classes (wm a cA X_) t.heap ∧ va_K (dC, dI) classes [(cA, .int)] t) A) (([.ref (a 8), .ref (a 2)] : List Value).toArray) s 0 0 (A)) (entryFrame m (([.ref (a 8), .ref (a 2)] : List Value).toArray) 3)
  generalize MQ below (va_Qv (fun X_ : MS => out = X_) (fun X_ t => va_P (dC, dI) classes (wm a cA X_) t.heap ∧ va_K (dC, dI) classes [(cA, .int)] t) A) (([.ref (a 8), .ref (a 2)] : List Value).toArray) s 0 0 (A) = Q at hret ⊢
  have hS : va_S A s.heap s.heap [] := va_S.rf
  have L2 : ∀ n : Nat, ∀ (X : MS), ∀ (v2 : Int32), g_X4_copy_8_2_2 n X v2 = some out → ∀ (H : Heap) (locs : List Loc), va_P (dC, dI) classes (wm a cA X) H → va_S A s.heap H locs → ∀ ls : Array Slot, lv_has ls 3 [(0, .ref (a 8)), (1, .ref (a 2)), (2, .int v2)] → W p l e ({ frames := 0, cells := 0, slots := 0, locals := 0 }) s m (([.ref (a 8), .ref (a 2)] : List Value).toArray) below meth c H locs 0 0 Q (F0 m 2 ls []) := by
    intro n
    induction n with
    | zero =>
      intro X v2 hw
      rw [g_X4_copy_8_2_2] at hw
      cases hw
    | succ n ih =>
      intro X v2 hw H locs hP hS ls hl
      rw [g_X4_copy_8_2_2] at hw
      refine lv_iload_n hx hb dX4_copy_2 rfl (lv_at hl 2 rfl) ?_
      refine lv_aload_n hx hb dX4_copy_3 rfl (lv_at hl 0 rfl) ?_
      refine va_alen (v := 6) hx hb hK hP 8 0 rfl rfl rfl dX4_copy_4 ?_
      refine lv_icmp_ge (tgt := 20) hx hb dX4_copy_5 (by decide) (fun c1 => ?_) (fun c1 => ?_)
      · have hw := ite_t hw c1
        exact hret _ _ _ _ _ (Option.some.inj hw) hP hS dX4_copy_20
      · have hw := ite_f hw c1
        refine lv_aload_n hx hb dX4_copy_8 rfl (lv_at hl 1 rfl) ?_
        refine lv_iload_n hx hb dX4_copy_9 rfl (lv_at hl 2 rfl) ?_
        refine lv_aload_n hx hb dX4_copy_10 rfl (lv_at hl 0 rfl) ?_
        refine lv_iload_n hx hb dX4_copy_11 rfl (lv_at hl 2 rfl) ?_
        obtain ⟨h2, hw⟩ := ixc_use hw
        refine va_iald hx hb hK hP 8 0 rfl rfl h2 dX4_copy_12 ?_
        refine lv_topi (fun x4 ex4 => ?_)
        have hw := stp_use hw ex4
        obtain ⟨h3, hw⟩ := ixc_use hw
        refine va_iast hx hb hK hP (wmD hD0) hS 2 0 rfl rfl h3 dX4_copy_13 (fun H locs hP hD_ hS => ?_)
        obtain ⟨X5, eX5⟩ : ∃ y : MS, y = (ups X.1 2 (Int32.toNatClampNeg v2) x4, X.2) := ⟨_, rfl⟩
        have hw := stp_use hw eX5
        have hP : va_P (dC, dI) classes (wm a cA X5) H := by rw [eX5]; exact hP
        obtain ⟨x6, ex6⟩ : ∃ y : Int32, y = (v2 + 1) := ⟨_, rfl⟩
        have hw := stp_use hw ex6
        refine lv_iinc (v := x6) (lv' := [(2, .int x6), (0, .ref (a 8)), (1, .ref (a 2))]) hx hb dX4_copy_14 hl (k := 2) rfl (by rw [ex6]; rfl) (by decide) rfl (fun ls hl => ?_)
        refine lv_goto (tgt := 2) hx hb dX4_copy_17 (by decide) ?_
        exact ih X5 x6 hw _ _ hP hS ls (lv_sub hl [1, 2, 0] rfl)
  have hl := lv_entry ([.ref (a 8), .ref (a 2)]) (n := 3) (Nat.le_of_ble_eq_true rfl)
  rw [lg_entry_eq]
  generalize (lg_sl ([.ref (a 8), .ref (a 2)]) ++ List.replicate (3 - (lg_sl ([.ref (a 8), .ref (a 2)])).length) Slot.unset).toArray = ls at hl ⊢
  have hl : lv_has ls 3 [(0, .ref (a 8)), (1, .ref (a 2))] := hl
  refine lv_iconst (v := 0) hx hb dX4_copy_0 (by decide) ?_
  refine lv_istore_n (lv' := [(2, .int 0), (0, .ref (a 8)), (1, .ref (a 2))]) hx hb dX4_copy_1 rfl hl (by decide) rfl (fun ls hl => ?_)
  exact L2 NF X 0 hw _ _ hP hS ls (lv_sub hl [1, 2, 0] rfl)
set_option maxHeartbeats 4000000 in
set_option maxRecDepth 100000 in
theorem c_X4_restore (l : Launch) (dC : Nat → ClassId) (dI : Nat → Nat → Nat) (A : Nat → Prop) (a : Nat → Nat) (cA : ClassId) (X : MS) (out : (Int32 × MS)) (hw : f_X4_restore X = some out) : Met l yX4_restore (.code yX4_restore cX4_restore 1 (some .int) :: lw_g) ({ frames := 1, cells := 0, slots := 0, locals := 22 }) (PcMD dC dI A a cA X [.ref (a 0)]) (va_Qi (fun (r_ : Int32) (X_ : MS) => out = (r_, X_)) (fun X_ t => va_P (dC, dI) classes (wm a cA X_) t.heap ∧ va_K (dC, dI) classes [(cA, .int)] t) A) 0 0 (A) := by
  unfold f_X4_restore at hw
  refine Met.ofW (cc := cX4_restore) (maxL := 1) (ret := (some .int)) (by decide) rfl ?_
  intro p e s m args below meth c s₁ B hml hv
  obtain ⟨rfl, hP, hK, hD0⟩ := hv
  have hx := B.exec
  have hb := B.bytes
  have hr := B.returns
  have hts0 := atoms_spec (ws := (.code yX4_restore cX4_restore 1 (some .int) :: lw_g)) B.pre
  have hts : ∀ w ∈ lw_g, w.before (([.ref (a 0)] : List Value).toArray) s = true := fun w h => hts0 w (List.mem_cons_of_mem _ h)
  clear hts0
  have hown : s.vm.findClass RX4 = some m.cls := findClass_of_methodNamed B.named
  have hlocks := B.notSynchronized
  have hret : ∀ (pc : Nat) (ls : Array Slot) (v : Int32) (X_ : MS) (H : Heap) (locs : List Loc), (v, X_) = out → va_P (dC, dI) classes (wm a cA X_) H → va_S A s.heap H locs → decode cX4_restore pc = .ok (.ireturn, 1) → W p l e ({ frames := 1, cells := 0, slots := 0, locals := 22 }) s m (([.ref (a 0)] : List Value).toArray) below meth c H locs 0 0 (MQ below (va_Qi (fun (r_ : Int32) (X_ : MS) => out = (r_, X_)) (fun X_ t => va_P (dC, dI) classes (wm a cA X_) t.heap ∧ va_K (dC, dI) classes [(cA, .int)] t) A) (([.ref (a 0)] : List Value).toArray) s 0 0 (A)) (F0 m pc ls [.int v]) := fun pc ls v X_ H locs hv hP hS hd => W.iret hx hb hr (fun t ht hW => ⟨⟨v, X_, rfl, hv.symm, by rw [ht]; exact hP, va_K.moved hW.alike hK⟩, hS.F ht⟩) hS.2.2 hd
  show W p l e ({ frames := 1, cells := 0, slots := 0, locals := 22 }) s m (([.ref (a 0)] : List Value).toArray) below meth c s.heap [] 0 0 (MQ below (va_Qi (fun (r_ : Int32) (X_ : MS) => out = (r_, X_)) (fun X_ t => va_P (dC, dI) classes (wm a cA X_) t.heap ∧ va_K (dC, dI) classes [(cA, .int)] t) A) (([.ref (a 0)] : List Value).toArray) s 0 0 (A)) (entryFrame m (([.ref (a 0)] : List Value).toArray) 1)
  generalize MQ below (va_Qi (fun (r_ : Int32) (X_ : MS) => out = (r_, X_)) (fun X_ t => va_P (dC, dI) classes (wm a cA X_) t.heap ∧ va_K (dC, dI) classes [(cA, .int)] t) A) (([.ref (a 0)] : List Value).toArray) s 0 0 (A) = Q at hret ⊢
  have hS : va_S A s.heap s.heap [] := va_S.rf
  have hl := lv_entry ([.ref (a 0)]) (n := 1) (Nat.le_of_ble_eq_true rfl)
  rw [lg_entry_eq]
  generalize (lg_sl ([.ref (a 0)]) ++ List.replicate (1 - (lg_sl ([.ref (a 0)])).length) Slot.unset).toArray = ls at hl ⊢
  have hl : lv_has ls 1 [(0, .ref (a 0))] := hl
  refine lv_aload_n hx hb dX4_restore_0 rfl (lv_at hl 0 rfl) ?_
  refine va_get (D := (dC, dI)) (ci := 4) (v := .int (X.1 0 17)) (C := RX4) (T := TX4) (N := 29) hx hb hts iX4 hown hK hP 0 rfl rfl 17 (by decide) (hts _ wd_539) (fun _ h9 => h9) rfl dX4_restore_1 ?_
  refine lv_aload_n hx hb dX4_restore_4 rfl (lv_at hl 0 rfl) ?_
  refine va_get (D := (dC, dI)) (ci := 4) (v := .int (X.1 0 9)) (C := RX4) (T := TX4) (N := 29) hx hb hts iX4 hown hK hP 0 rfl rfl 9 (by decide) (hts _ wd_531) (fun _ h9 => h9) rfl dX4_restore_5 ?_
  refine lv_icmp_eq (tgt := 14) hx hb dX4_restore_8 (by decide) (fun c1 => ?_) (fun c1 => ?_)
  · have hw := ite_t hw c1
    refine lv_aload_n hx hb dX4_restore_14 rfl (lv_at hl 0 rfl) ?_
    refine va_get (D := (dC, dI)) (ci := 4) (v := .ref (a 6)) (C := RX4) (T := TX4) (N := 29) hx hb hts iX4 hown hK hP 0 rfl rfl 25 (by decide) (hts _ wd_547) (fun _ h9 => h9) rfl dX4_restore_15 ?_
    refine lv_aload_n hx hb dX4_restore_18 rfl (lv_at hl 0 rfl) ?_
    refine va_get (D := (dC, dI)) (ci := 4) (v := .ref (a 3)) (C := RX4) (T := TX4) (N := 29) hx hb hts iX4 hown hK hP 0 rfl rfl 12 (by decide) (hts _ wd_534) (fun _ h9 => h9) rfl dX4_restore_19 ?_
    obtain ⟨X2, eX2, hw⟩ := Option.bind_eq_some_iff.mp hw
    refine va_callv (va_runS (As := [.ref (a 6), .ref (a 3)]) (rest := []) ⟨hx, hb, hml, hown, hts⟩ (c_X4_copy_6_3 l dC dI A a cA X X2 eX2) ⟨callB_of 2 hts gd_X4_copy rfl rfl rfl (hts _ wd_39) (hts _ wd_811) hd_X4_copy ⟨Nat.le_of_ble_eq_true rfl, Nat.le_of_ble_eq_true rfl⟩, hts _ wd_812⟩ ⟨blMD, fun U hU hW => ⟨rfl, by rw [hU]; exact hP, va_K.moved hW.alike hK, wmD hD0⟩⟩ rfl rfl hl.1 rfl (lv_room (Nat.le_of_ble_eq_true rfl)) dX4_restore_22 ⟨Nat.zero_le _, Nat.zero_le _⟩) hS (fun _ _ h => h) (fun _ h => h) (fun u_ t_ H1 locs1 ht hvm hp_ hB hz1 hk1 hS1 => ?_)
    subst hp_
    obtain ⟨hP1, hK1⟩ := hB
    rw [ht] at hP1
    have hP := hP1
    have hS := hS1
    refine lv_aload_n hx hb dX4_restore_25 rfl (lv_at hl 0 rfl) ?_
    refine va_get (D := (dC, dI)) (ci := 4) (v := .ref (a 7)) (C := RX4) (T := TX4) (N := 29) hx hb hts iX4 hown hK hP 0 rfl rfl 26 (by decide) (hts _ wd_548) (fun _ h9 => h9) rfl dX4_restore_26 ?_
    refine lv_aload_n hx hb dX4_restore_29 rfl (lv_at hl 0 rfl) ?_
    refine va_get (D := (dC, dI)) (ci := 4) (v := .ref (a 5)) (C := RX4) (T := TX4) (N := 29) hx hb hts iX4 hown hK hP 0 rfl rfl 15 (by decide) (hts _ wd_537) (fun _ h9 => h9) rfl dX4_restore_30 ?_
    obtain ⟨X3, eX3, hw⟩ := Option.bind_eq_some_iff.mp hw
    refine va_callv (va_runS (As := [.ref (a 7), .ref (a 5)]) (rest := []) ⟨hx, hb, hml, hown, hts⟩ (c_X4_copy_7_5 l dC dI A a cA X2 X3 eX3) ⟨callB_of 2 hts gd_X4_copy rfl rfl rfl (hts _ wd_39) (hts _ wd_811) hd_X4_copy ⟨Nat.le_of_ble_eq_true rfl, Nat.le_of_ble_eq_true rfl⟩, hts _ wd_812⟩ ⟨blMD, fun U hU hW => ⟨rfl, by rw [hU]; exact hP, va_K.moved hW.alike hK, wmD hD0⟩⟩ rfl rfl hl.1 rfl (lv_room (Nat.le_of_ble_eq_true rfl)) dX4_restore_33 ⟨Nat.zero_le _, Nat.zero_le _⟩) hS (fun _ _ h => h) (fun _ h => h) (fun u_ t_ H1 locs1 ht hvm hp_ hB hz1 hk1 hS1 => ?_)
    subst hp_
    obtain ⟨hP1, hK1⟩ := hB
    rw [ht] at hP1
    have hP := hP1
    have hS := hS1
    refine lv_aload_n hx hb dX4_restore_36 rfl (lv_at hl 0 rfl) ?_
    refine va_get (D := (dC, dI)) (ci := 4) (v := .ref (a 8)) (C := RX4) (T := TX4) (N := 29) hx hb hts iX4 hown hK hP 0 rfl rfl 27 (by decide) (hts _ wd_549) (fun _ h9 => h9) rfl dX4_restore_37 ?_
    refine lv_aload_n hx hb dX4_restore_40 rfl (lv_at hl 0 rfl) ?_
    refine va_get (D := (dC, dI)) (ci := 4) (v := .ref (a 2)) (C := RX4) (T := TX4) (N := 29) hx hb hts iX4 hown hK hP 0 rfl rfl 10 (by decide) (hts _ wd_532) (fun _ h9 => h9) rfl dX4_restore_41 ?_
    obtain ⟨X4, eX4, hw⟩ := Option.bind_eq_some_iff.mp hw
    refine va_callv (va_runS (As := [.ref (a 8), .ref (a 2)]) (rest := []) ⟨hx, hb, hml, hown, hts⟩ (c_X4_copy_8_2 l dC dI A a cA X3 X4 eX4) ⟨callB_of 2 hts gd_X4_copy rfl rfl rfl (hts _ wd_39) (hts _ wd_811) hd_X4_copy ⟨Nat.le_of_ble_eq_true rfl, Nat.le_of_ble_eq_true rfl⟩, hts _ wd_812⟩ ⟨blMD, fun U hU hW => ⟨rfl, by rw [hU]; exact hP, va_K.moved hW.alike hK, wmD hD0⟩⟩ rfl rfl hl.1 rfl (lv_room (Nat.le_of_ble_eq_true rfl)) dX4_restore_44 ⟨Nat.zero_le _, Nat.zero_le _⟩) hS (fun _ _ h => h) (fun _ h => h) (fun u_ t_ H1 locs1 ht hvm hp_ hB hz1 hk1 hS1 => ?_)
    subst hp_
    obtain ⟨hP1, hK1⟩ := hB
    rw [ht] at hP1
    have hP := hP1
    have hS := hS1
    refine lv_aload_n hx hb dX4_restore_47 rfl (lv_at hl 0 rfl) ?_
    refine lv_aload_n hx hb dX4_restore_48 rfl (lv_at hl 0 rfl) ?_
    refine va_get (D := (dC, dI)) (ci := 4) (v := .int (X4.1 0 18)) (C := RX4) (T := TX4) (N := 29) hx hb hts iX4 hown hK hP 0 rfl rfl 18 (by decide) (hts _ wd_540) (fun _ h9 => h9) rfl dX4_restore_49 ?_
    refine lv_topi (fun x5 ex5 => ?_)
    have hw := stp_use hw ex5
    refine va_put (D := (dC, dI)) (ci := 4) (v := .int x5) (ty := .int) (C := RX4) (T := TX4) (N := 29) hx hb hts iX4 tyX4 tyX4_ok nmX4 hown hK hP (wmD hD0) hS 0 rfl rfl 11 (by decide) (hts _ wd_533) (fun _ h9 => h9) rfl (by decide +kernel) rfl rfl (Nat.le_of_ble_eq_true rfl) dX4_restore_52 (fun H locs hP hD_ hS => ?_)
    obtain ⟨X6, eX6⟩ : ∃ y : MS, y = (ups X4.1 0 11 x5, X4.2) := ⟨_, rfl⟩
    have hw := stp_use hw eX6
    have hP : va_P (dC, dI) classes (wm a cA X6) H := by rw [eX6]; exact hP
    refine lv_aload_n hx hb dX4_restore_55 rfl (lv_at hl 0 rfl) ?_
    refine lv_aload_n hx hb dX4_restore_56 rfl (lv_at hl 0 rfl) ?_
    refine va_get (D := (dC, dI)) (ci := 4) (v := .int (X6.1 0 19)) (C := RX4) (T := TX4) (N := 29) hx hb hts iX4 hown hK hP 0 rfl rfl 19 (by decide) (hts _ wd_541) (fun _ h9 => h9) rfl dX4_restore_57 ?_
    refine lv_topi (fun x7 ex7 => ?_)
    have hw := stp_use hw ex7
    refine va_put (D := (dC, dI)) (ci := 4) (v := .int x7) (ty := .int) (C := RX4) (T := TX4) (N := 29) hx hb hts iX4 tyX4 tyX4_ok nmX4 hown hK hP (wmD hD0) hS 0 rfl rfl 3 (by decide) (hts _ wd_525) (fun _ h9 => h9) rfl (by decide +kernel) rfl rfl (Nat.le_of_ble_eq_true rfl) dX4_restore_60 (fun H locs hP hD_ hS => ?_)
    obtain ⟨X8, eX8⟩ : ∃ y : MS, y = (ups X6.1 0 3 x7, X6.2) := ⟨_, rfl⟩
    have hw := stp_use hw eX8
    have hP : va_P (dC, dI) classes (wm a cA X8) H := by rw [eX8]; exact hP
    refine lv_aload_n hx hb dX4_restore_63 rfl (lv_at hl 0 rfl) ?_
    refine lv_aload_n hx hb dX4_restore_64 rfl (lv_at hl 0 rfl) ?_
    refine va_get (D := (dC, dI)) (ci := 4) (v := .int (X8.1 0 20)) (C := RX4) (T := TX4) (N := 29) hx hb hts iX4 hown hK hP 0 rfl rfl 20 (by decide) (hts _ wd_542) (fun _ h9 => h9) rfl dX4_restore_65 ?_
    refine lv_topi (fun x9 ex9 => ?_)
    have hw := stp_use hw ex9
    refine va_put (D := (dC, dI)) (ci := 4) (v := .int x9) (ty := .int) (C := RX4) (T := TX4) (N := 29) hx hb hts iX4 tyX4 tyX4_ok nmX4 hown hK hP (wmD hD0) hS 0 rfl rfl 5 (by decide) (hts _ wd_527) (fun _ h9 => h9) rfl (by decide +kernel) rfl rfl (Nat.le_of_ble_eq_true rfl) dX4_restore_68 (fun H locs hP hD_ hS => ?_)
    obtain ⟨X10, eX10⟩ : ∃ y : MS, y = (ups X8.1 0 5 x9, X8.2) := ⟨_, rfl⟩
    have hw := stp_use hw eX10
    have hP : va_P (dC, dI) classes (wm a cA X10) H := by rw [eX10]; exact hP
    refine lv_aload_n hx hb dX4_restore_71 rfl (lv_at hl 0 rfl) ?_
    refine lv_aload_n hx hb dX4_restore_72 rfl (lv_at hl 0 rfl) ?_
    refine va_get (D := (dC, dI)) (ci := 4) (v := .int (X10.1 0 21)) (C := RX4) (T := TX4) (N := 29) hx hb hts iX4 hown hK hP 0 rfl rfl 21 (by decide) (hts _ wd_543) (fun _ h9 => h9) rfl dX4_restore_73 ?_
    refine lv_topi (fun x11 ex11 => ?_)
    have hw := stp_use hw ex11
    refine va_put (D := (dC, dI)) (ci := 4) (v := .int x11) (ty := .int) (C := RX4) (T := TX4) (N := 29) hx hb hts iX4 tyX4 tyX4_ok nmX4 hown hK hP (wmD hD0) hS 0 rfl rfl 6 (by decide) (hts _ wd_528) (fun _ h9 => h9) rfl (by decide +kernel) rfl rfl (Nat.le_of_ble_eq_true rfl) dX4_restore_76 (fun H locs hP hD_ hS => ?_)
    obtain ⟨X12, eX12⟩ : ∃ y : MS, y = (ups X10.1 0 6 x11, X10.2) := ⟨_, rfl⟩
    have hw := stp_use hw eX12
    have hP : va_P (dC, dI) classes (wm a cA X12) H := by rw [eX12]; exact hP
    refine lv_aload_n hx hb dX4_restore_79 rfl (lv_at hl 0 rfl) ?_
    refine lv_aload_n hx hb dX4_restore_80 rfl (lv_at hl 0 rfl) ?_
    refine va_get (D := (dC, dI)) (ci := 4) (v := .int (X12.1 0 22)) (C := RX4) (T := TX4) (N := 29) hx hb hts iX4 hown hK hP 0 rfl rfl 22 (by decide) (hts _ wd_544) (fun _ h9 => h9) rfl dX4_restore_81 ?_
    refine lv_topi (fun x13 ex13 => ?_)
    have hw := stp_use hw ex13
    refine va_put (D := (dC, dI)) (ci := 4) (v := .int x13) (ty := .int) (C := RX4) (T := TX4) (N := 29) hx hb hts iX4 tyX4 tyX4_ok nmX4 hown hK hP (wmD hD0) hS 0 rfl rfl 7 (by decide) (hts _ wd_529) (fun _ h9 => h9) rfl (by decide +kernel) rfl rfl (Nat.le_of_ble_eq_true rfl) dX4_restore_84 (fun H locs hP hD_ hS => ?_)
    obtain ⟨X14, eX14⟩ : ∃ y : MS, y = (ups X12.1 0 7 x13, X12.2) := ⟨_, rfl⟩
    have hw := stp_use hw eX14
    have hP : va_P (dC, dI) classes (wm a cA X14) H := by rw [eX14]; exact hP
    refine lv_aload_n hx hb dX4_restore_87 rfl (lv_at hl 0 rfl) ?_
    refine lv_aload_n hx hb dX4_restore_88 rfl (lv_at hl 0 rfl) ?_
    refine va_get (D := (dC, dI)) (ci := 4) (v := .int (X14.1 0 23)) (C := RX4) (T := TX4) (N := 29) hx hb hts iX4 hown hK hP 0 rfl rfl 23 (by decide) (hts _ wd_545) (fun _ h9 => h9) rfl dX4_restore_89 ?_
    refine lv_topi (fun x15 ex15 => ?_)
    have hw := stp_use hw ex15
    refine va_put (D := (dC, dI)) (ci := 4) (v := .int x15) (ty := .int) (C := RX4) (T := TX4) (N := 29) hx hb hts iX4 tyX4 tyX4_ok nmX4 hown hK hP (wmD hD0) hS 0 rfl rfl 8 (by decide) (hts _ wd_530) (fun _ h9 => h9) rfl (by decide +kernel) rfl rfl (Nat.le_of_ble_eq_true rfl) dX4_restore_92 (fun H locs hP hD_ hS => ?_)
    obtain ⟨X16, eX16⟩ : ∃ y : MS, y = (ups X14.1 0 8 x15, X14.2) := ⟨_, rfl⟩
    have hw := stp_use hw eX16
    have hP : va_P (dC, dI) classes (wm a cA X16) H := by rw [eX16]; exact hP
    refine lv_aload_n hx hb dX4_restore_95 rfl (lv_at hl 0 rfl) ?_
    refine lv_aload_n hx hb dX4_restore_96 rfl (lv_at hl 0 rfl) ?_
    refine va_get (D := (dC, dI)) (ci := 4) (v := .int (X16.1 0 24)) (C := RX4) (T := TX4) (N := 29) hx hb hts iX4 hown hK hP 0 rfl rfl 24 (by decide) (hts _ wd_546) (fun _ h9 => h9) rfl dX4_restore_97 ?_
    refine lv_topi (fun x17 ex17 => ?_)
    have hw := stp_use hw ex17
    refine va_put (D := (dC, dI)) (ci := 4) (v := .int x17) (ty := .int) (C := RX4) (T := TX4) (N := 29) hx hb hts iX4 tyX4 tyX4_ok nmX4 hown hK hP (wmD hD0) hS 0 rfl rfl 14 (by decide) (hts _ wd_536) (fun _ h9 => h9) rfl (by decide +kernel) rfl rfl (Nat.le_of_ble_eq_true rfl) dX4_restore_100 (fun H locs hP hD_ hS => ?_)
    obtain ⟨X18, eX18⟩ : ∃ y : MS, y = (ups X16.1 0 14 x17, X16.2) := ⟨_, rfl⟩
    have hw := stp_use hw eX18
    have hP : va_P (dC, dI) classes (wm a cA X18) H := by rw [eX18]; exact hP
    refine lv_aload_n hx hb dX4_restore_103 rfl (lv_at hl 0 rfl) ?_
    refine va_get (D := (dC, dI)) (ci := 4) (v := .int (X18.1 0 7)) (C := RX4) (T := TX4) (N := 29) hx hb hts iX4 hown hK hP 0 rfl rfl 7 (by decide) (hts _ wd_529) (fun _ h9 => h9) rfl dX4_restore_104 ?_
    exact hret _ _ _ _ _ _ (Option.some.inj hw) hP hS dX4_restore_107
  · have hw := ite_f hw c1
    refine lv_bipush (v := (-103)) hx hb dX4_restore_11 (by decide) ?_
    exact hret _ _ _ _ _ _ (Option.some.inj hw) hP hS dX4_restore_13
set_option maxHeartbeats 4000000 in
set_option maxRecDepth 100000 in
theorem c_X3_count (l : Launch) (dC : Nat → ClassId) (dI : Nat → Nat → Nat) (a : Nat → Nat) (cA : ClassId) (X : WS) (p1 : Int32) (out : Int32) (hw : f_X3_count X p1 = some out) : Met l yX3_count (.code yX3_count cX3_count 2 (some .int) :: lw_g) ({ frames := 1, cells := 0, slots := 0, locals := 21 }) (PcX dC dI a cA X [.ref (a 0), .int p1]) (vp_Si (fun r_ => r_ = out)) 0 0 (fun _ => False) := by
  unfold f_X3_count at hw
  refine Met.ofW (cc := cX3_count) (maxL := 2) (ret := (some .int)) (by decide) rfl ?_
  intro p e s m args below meth c s₁ B hml hv
  obtain ⟨rfl, hP, hK, hN⟩ := hv
  have hx := B.exec
  have hb := B.bytes
  have hr := B.returns
  have hts0 := atoms_spec (ws := (.code yX3_count cX3_count 2 (some .int) :: lw_g)) B.pre
  have hts : ∀ w ∈ lw_g, w.before (([.ref (a 0), .int p1] : List Value).toArray) s = true := fun w h => hts0 w (List.mem_cons_of_mem _ h)
  clear hts0
  have hown : s.vm.findClass RX3 = some m.cls := findClass_of_methodNamed B.named
  have hlocks := B.notSynchronized
  have hret : ∀ (pc : Nat) (ls : Array Slot) (v : Int32), v = out → decode cX3_count pc = .ok (.ireturn, 1) → W p l e ({ frames := 1, cells := 0, slots := 0, locals := 21 }) s m (([.ref (a 0), .int p1] : List Value).toArray) below meth c s.heap [] 0 0 (MQ below (vp_Si (fun r_ => r_ = out)) (([.ref (a 0), .int p1] : List Value).toArray) s 0 0 (fun _ => False)) (F0 m pc ls [.int v]) := fun pc ls v hv hd => W.iret hx hb hr (fun t ht hW => ⟨v, rfl, hv, ht⟩) (fun q hq => absurd hq List.not_mem_nil) hd
  show W p l e ({ frames := 1, cells := 0, slots := 0, locals := 21 }) s m (([.ref (a 0), .int p1] : List Value).toArray) below meth c s.heap [] 0 0 (MQ below (vp_Si (fun r_ => r_ = out)) (([.ref (a 0), .int p1] : List Value).toArray) s 0 0 (fun _ => False)) (entryFrame m (([.ref (a 0), .int p1] : List Value).toArray) 2)
  generalize MQ below (vp_Si (fun r_ => r_ = out)) (([.ref (a 0), .int p1] : List Value).toArray) s 0 0 (fun _ => False) = Q at hret ⊢
  have hl := lv_entry ([.ref (a 0), .int p1]) (n := 2) (Nat.le_of_ble_eq_true rfl)
  rw [lg_entry_eq]
  generalize (lg_sl ([.ref (a 0), .int p1]) ++ List.replicate (2 - (lg_sl ([.ref (a 0), .int p1])).length) Slot.unset).toArray = ls at hl ⊢
  have hl : lv_has ls 2 [(0, .ref (a 0)), (1, .int p1)] := hl
  refine lv_iload_n hx hb dX3_count_0 rfl (lv_at hl 1 rfl) ?_
  by_cases c1 : p1 = 0
  · have hw := ite_t hw c1
    refine lv_tableIn (off := 55) (tgt := 56) hx hb dX3_count_1 (by rw [c1]; decide) (by rw [c1]; decide) (by rw [c1]; rfl) (by decide) ?_
    refine lv_aload_n hx hb dX3_count_56 rfl (lv_at hl 0 rfl) ?_
    refine va_get (D := (dC, dI)) (ci := 3) (v := .ref (a 3)) (C := RX3) (T := TX3) (N := 6) hx hb hts iX3 hown hK hP 0 rfl rfl 1 (by decide) (hts _ wd_179) (fun _ h9 => h9) rfl dX3_count_57 ?_
    refine va_getN (D := (dC, dI)) (ci := 2) (v := .int (X 3 5)) (C := RX2) (T := TX2) (N := 17) hx hb hts iX2 hown hK hP 3 rfl rfl 5 (by decide) (va_Nw.use rfl (hN _ nk_84)) (fun _ h9 => h9) rfl dX3_count_60 ?_
    exact hret _ _ _ (Option.some.inj hw) dX3_count_63
  have hw := ite_f hw c1
  by_cases c2 : p1 = 1
  · have hw := ite_t hw c2
    refine lv_tableIn (off := 63) (tgt := 64) hx hb dX3_count_1 (by rw [c2]; decide) (by rw [c2]; decide) (by rw [c2]; rfl) (by decide) ?_
    refine lv_aload_n hx hb dX3_count_64 rfl (lv_at hl 0 rfl) ?_
    refine va_get (D := (dC, dI)) (ci := 3) (v := .ref (a 3)) (C := RX3) (T := TX3) (N := 6) hx hb hts iX3 hown hK hP 0 rfl rfl 1 (by decide) (hts _ wd_179) (fun _ h9 => h9) rfl dX3_count_65 ?_
    refine va_getN (D := (dC, dI)) (ci := 2) (v := .int (X 3 9)) (C := RX2) (T := TX2) (N := 17) hx hb hts iX2 hown hK hP 3 rfl rfl 9 (by decide) (va_Nw.use rfl (hN _ nk_92)) (fun _ h9 => h9) rfl dX3_count_68 ?_
    exact hret _ _ _ (Option.some.inj hw) dX3_count_71
  have hw := ite_f hw c2
  by_cases c3 : p1 = 2
  · have hw := ite_t hw c3
    refine lv_tableIn (off := 71) (tgt := 72) hx hb dX3_count_1 (by rw [c3]; decide) (by rw [c3]; decide) (by rw [c3]; rfl) (by decide) ?_
    refine lv_aload_n hx hb dX3_count_72 rfl (lv_at hl 0 rfl) ?_
    refine va_get (D := (dC, dI)) (ci := 3) (v := .ref (a 3)) (C := RX3) (T := TX3) (N := 6) hx hb hts iX3 hown hK hP 0 rfl rfl 1 (by decide) (hts _ wd_179) (fun _ h9 => h9) rfl dX3_count_73 ?_
    refine va_getN (D := (dC, dI)) (ci := 2) (v := .int (X 3 10)) (C := RX2) (T := TX2) (N := 17) hx hb hts iX2 hown hK hP 3 rfl rfl 10 (by decide) (va_Nw.use rfl (hN _ nk_94)) (fun _ h9 => h9) rfl dX3_count_76 ?_
    exact hret _ _ _ (Option.some.inj hw) dX3_count_79
  have hw := ite_f hw c3
  by_cases c4 : p1 = 3
  · have hw := ite_t hw c4
    refine lv_tableIn (off := 79) (tgt := 80) hx hb dX3_count_1 (by rw [c4]; decide) (by rw [c4]; decide) (by rw [c4]; rfl) (by decide) ?_
    refine lv_aload_n hx hb dX3_count_80 rfl (lv_at hl 0 rfl) ?_
    refine va_get (D := (dC, dI)) (ci := 3) (v := .ref (a 3)) (C := RX3) (T := TX3) (N := 6) hx hb hts iX3 hown hK hP 0 rfl rfl 1 (by decide) (hts _ wd_179) (fun _ h9 => h9) rfl dX3_count_81 ?_
    refine va_getN (D := (dC, dI)) (ci := 2) (v := .int (X 3 11)) (C := RX2) (T := TX2) (N := 17) hx hb hts iX2 hown hK hP 3 rfl rfl 11 (by decide) (va_Nw.use rfl (hN _ nk_96)) (fun _ h9 => h9) rfl dX3_count_84 ?_
    exact hret _ _ _ (Option.some.inj hw) dX3_count_87
  have hw := ite_f hw c4
  by_cases c5 : p1 = 4
  · have hw := ite_t hw c5
    refine lv_tableIn (off := 87) (tgt := 88) hx hb dX3_count_1 (by rw [c5]; decide) (by rw [c5]; decide) (by rw [c5]; rfl) (by decide) ?_
    refine lv_aload_n hx hb dX3_count_88 rfl (lv_at hl 0 rfl) ?_
    refine va_get (D := (dC, dI)) (ci := 3) (v := .ref (a 3)) (C := RX3) (T := TX3) (N := 6) hx hb hts iX3 hown hK hP 0 rfl rfl 1 (by decide) (hts _ wd_179) (fun _ h9 => h9) rfl dX3_count_89 ?_
    refine lv_aload_n hx hb dX3_count_92 rfl (lv_at hl 0 rfl) ?_
    refine va_get (D := (dC, dI)) (ci := 3) (v := .ref (a 3)) (C := RX3) (T := TX3) (N := 6) hx hb hts iX3 hown hK hP 0 rfl rfl 1 (by decide) (hts _ wd_179) (fun _ h9 => h9) rfl dX3_count_93 ?_
    refine va_getN (D := (dC, dI)) (ci := 2) (v := .int (X 3 7)) (C := RX2) (T := TX2) (N := 17) hx hb hts iX2 hown hK hP 3 rfl rfl 7 (by decide) (va_Nw.use rfl (hN _ nk_88)) (fun _ h9 => h9) rfl dX3_count_96 ?_
    obtain ⟨r6, er6, hw⟩ := Option.bind_eq_some_iff.mp hw
    refine vp_callSi (va_runV (As := [.int (X 3 7)]) (rest := []) ⟨hx, hb, hml, hown, hts⟩ (c_X2_knowing l dC dI a cA X (X 3 7) r6 er6) ⟨callB_of 1 hts gd_X2_knowing rfl rfl rfl (hts _ wd_37) (hts _ wd_290) hd_X2_knowing ⟨Nat.le_of_ble_eq_true rfl, Nat.le_of_ble_eq_true rfl⟩, hts _ wd_291, hts _ wd_292⟩ ⟨blX, va_recv hK hP (ci := 2) (q0 := 3) rfl rfl, fun U hU hW => ⟨rfl, by rw [hU]; exact hP, va_K.moved hW.alike hK, nst.warm hW hN⟩⟩ rfl rfl hl.1 rfl (lv_room (Nat.le_of_ble_eq_true rfl)) dX3_count_99 ⟨Nat.zero_le _, Nat.zero_le _⟩).run (fun r_ e_ => ?_)
    subst r_
    obtain ⟨r7, er7, hw⟩ := Option.bind_eq_some_iff.mp hw
    refine vp_callSi (va_runS (As := [.int r6]) (rest := []) ⟨hx, hb, hml, hown, hts⟩ (c_J6_bitCount_0f7a4 l r6 r7 er7) ⟨callB_of 1 hts gd_J6_bitCount_0f7a4 rfl rfl rfl (hts _ wd_40) (hts _ wd_412) hd_J6_bitCount_0f7a4 ⟨Nat.le_of_ble_eq_true rfl, Nat.le_of_ble_eq_true rfl⟩, hts _ wd_333⟩ ⟨bl0, fun U hU hW => ⟨rfl, trivial⟩⟩ rfl rfl hl.1 rfl (lv_room (Nat.le_of_ble_eq_true rfl)) dX3_count_102 ⟨Nat.zero_le _, Nat.zero_le _⟩).run (fun r_ e_ => ?_)
    subst r_
    exact hret _ _ _ (Option.some.inj hw) dX3_count_105
  have hw := ite_f hw c5
  by_cases c8 : p1 = 5
  · have hw := ite_t hw c8
    refine lv_tableIn (off := 105) (tgt := 106) hx hb dX3_count_1 (by rw [c8]; decide) (by rw [c8]; decide) (by rw [c8]; rfl) (by decide) ?_
    refine lv_aload_n hx hb dX3_count_106 rfl (lv_at hl 0 rfl) ?_
    refine va_get (D := (dC, dI)) (ci := 3) (v := .ref (a 3)) (C := RX3) (T := TX3) (N := 6) hx hb hts iX3 hown hK hP 0 rfl rfl 1 (by decide) (hts _ wd_179) (fun _ h9 => h9) rfl dX3_count_107 ?_
    refine va_getN (D := (dC, dI)) (ci := 2) (v := .int (X 3 12)) (C := RX2) (T := TX2) (N := 17) hx hb hts iX2 hown hK hP 3 rfl rfl 12 (by decide) (va_Nw.use rfl (hN _ nk_98)) (fun _ h9 => h9) rfl dX3_count_110 ?_
    exact hret _ _ _ (Option.some.inj hw) dX3_count_113
  have hw := ite_f hw c8
  by_cases c9 : p1 = 6
  · have hw := ite_t hw c9
    refine lv_tableIn (off := 113) (tgt := 114) hx hb dX3_count_1 (by rw [c9]; decide) (by rw [c9]; decide) (by rw [c9]; rfl) (by decide) ?_
    refine lv_aload_n hx hb dX3_count_114 rfl (lv_at hl 0 rfl) ?_
    refine va_get (D := (dC, dI)) (ci := 3) (v := .ref (a 3)) (C := RX3) (T := TX3) (N := 6) hx hb hts iX3 hown hK hP 0 rfl rfl 1 (by decide) (hts _ wd_179) (fun _ h9 => h9) rfl dX3_count_115 ?_
    refine va_getN (D := (dC, dI)) (ci := 2) (v := .int (X 3 13)) (C := RX2) (T := TX2) (N := 17) hx hb hts iX2 hown hK hP 3 rfl rfl 13 (by decide) (va_Nw.use rfl (hN _ nk_100)) (fun _ h9 => h9) rfl dX3_count_118 ?_
    exact hret _ _ _ (Option.some.inj hw) dX3_count_121
  have hw := ite_f hw c9
  by_cases c10 : p1 = 7
  · have hw := ite_t hw c10
    refine lv_tableIn (off := 121) (tgt := 122) hx hb dX3_count_1 (by rw [c10]; decide) (by rw [c10]; decide) (by rw [c10]; rfl) (by decide) ?_
    refine lv_aload_n hx hb dX3_count_122 rfl (lv_at hl 0 rfl) ?_
    refine va_get (D := (dC, dI)) (ci := 3) (v := .ref (a 3)) (C := RX3) (T := TX3) (N := 6) hx hb hts iX3 hown hK hP 0 rfl rfl 1 (by decide) (hts _ wd_179) (fun _ h9 => h9) rfl dX3_count_123 ?_
    refine va_getN (D := (dC, dI)) (ci := 2) (v := .int (X 3 14)) (C := RX2) (T := TX2) (N := 17) hx hb hts iX2 hown hK hP 3 rfl rfl 14 (by decide) (va_Nw.use rfl (hN _ nk_102)) (fun _ h9 => h9) rfl dX3_count_126 ?_
    exact hret _ _ _ (Option.some.inj hw) dX3_count_129
  have hw := ite_f hw c10
  by_cases c11 : p1 = 8
  · have hw := ite_t hw c11
    refine lv_tableIn (off := 129) (tgt := 130) hx hb dX3_count_1 (by rw [c11]; decide) (by rw [c11]; decide) (by rw [c11]; rfl) (by decide) ?_
    refine lv_aload_n hx hb dX3_count_130 rfl (lv_at hl 0 rfl) ?_
    refine va_get (D := (dC, dI)) (ci := 3) (v := .ref (a 1)) (C := RX3) (T := TX3) (N := 6) hx hb hts iX3 hown hK hP 0 rfl rfl 0 (by decide) (hts _ wd_178) (fun _ h9 => h9) rfl dX3_count_131 ?_
    refine va_getN (D := (dC, dI)) (ci := 1) (v := .int (X 1 1)) (C := RX1) (T := TX1) (N := 2) hx hb hts iX1 hown hK hP 1 rfl rfl 1 (by decide) (va_Nw.use rfl (hN _ nk_60)) (fun _ h9 => h9) rfl dX3_count_134 ?_
    exact hret _ _ _ (Option.some.inj hw) dX3_count_137
  have hw := ite_f hw c11
  by_cases c12 : p1 = 9
  · have hw := ite_t hw c12
    refine lv_tableIn (off := 137) (tgt := 138) hx hb dX3_count_1 (by rw [c12]; decide) (by rw [c12]; decide) (by rw [c12]; rfl) (by decide) ?_
    refine lv_aload_n hx hb dX3_count_138 rfl (lv_at hl 0 rfl) ?_
    refine va_get (D := (dC, dI)) (ci := 3) (v := .int (X 0 5)) (C := RX3) (T := TX3) (N := 6) hx hb hts iX3 hown hK hP 0 rfl rfl 5 (by decide) (hts _ wd_183) (fun _ h9 => h9) rfl dX3_count_139 ?_
    exact hret _ _ _ (Option.some.inj hw) dX3_count_142
  have hw := ite_f hw c12
  refine lv_tableOut (tgt := 143) hx hb dX3_count_1 (by have qc1 := i32_ne c1 (z := 0) (by decide); have qc2 := i32_ne c2 (z := 1) (by decide); have qc3 := i32_ne c3 (z := 2) (by decide); have qc4 := i32_ne c4 (z := 3) (by decide); have qc5 := i32_ne c5 (z := 4) (by decide); have qc8 := i32_ne c8 (z := 5) (by decide); have qc9 := i32_ne c9 (z := 6) (by decide); have qc10 := i32_ne c10 (z := 7) (by decide); have qc11 := i32_ne c11 (z := 8) (by decide); have qc12 := i32_ne c12 (z := 9) (by decide); omega) (by decide) ?_
  refine lv_bipush (v := (-102)) hx hb dX3_count_143 (by decide) ?_
  exact hret _ _ _ (Option.some.inj hw) dX3_count_145
set_option maxHeartbeats 4000000 in
set_option maxRecDepth 100000 in
theorem c_X4_countOf (l : Launch) (dC : Nat → ClassId) (dI : Nat → Nat → Nat) (a : Nat → Nat) (cA : ClassId) (X : MS) (p1 : Int32) (out : Int32) (hw : f_X4_countOf X p1 = some out) : Met l yX4_countOf (.code yX4_countOf cX4_countOf 2 (some .int) :: lw_g) ({ frames := 1, cells := 0, slots := 0, locals := 23 }) (PcM dC dI a cA X [.ref (a 0), .int p1]) (vp_Si (fun r_ => r_ = out)) 0 0 (fun _ => False) := by
  unfold f_X4_countOf at hw
  refine Met.ofW (cc := cX4_countOf) (maxL := 2) (ret := (some .int)) (by decide) rfl ?_
  intro p e s m args below meth c s₁ B hml hv
  obtain ⟨rfl, hP, hK⟩ := hv
  have hx := B.exec
  have hb := B.bytes
  have hr := B.returns
  have hts0 := atoms_spec (ws := (.code yX4_countOf cX4_countOf 2 (some .int) :: lw_g)) B.pre
  have hts : ∀ w ∈ lw_g, w.before (([.ref (a 0), .int p1] : List Value).toArray) s = true := fun w h => hts0 w (List.mem_cons_of_mem _ h)
  clear hts0
  have hown : s.vm.findClass RX4 = some m.cls := findClass_of_methodNamed B.named
  have hlocks := B.notSynchronized
  have hret : ∀ (pc : Nat) (ls : Array Slot) (v : Int32), v = out → decode cX4_countOf pc = .ok (.ireturn, 1) → W p l e ({ frames := 1, cells := 0, slots := 0, locals := 23 }) s m (([.ref (a 0), .int p1] : List Value).toArray) below meth c s.heap [] 0 0 (MQ below (vp_Si (fun r_ => r_ = out)) (([.ref (a 0), .int p1] : List Value).toArray) s 0 0 (fun _ => False)) (F0 m pc ls [.int v]) := fun pc ls v hv hd => W.iret hx hb hr (fun t ht hW => ⟨v, rfl, hv, ht⟩) (fun q hq => absurd hq List.not_mem_nil) hd
  show W p l e ({ frames := 1, cells := 0, slots := 0, locals := 23 }) s m (([.ref (a 0), .int p1] : List Value).toArray) below meth c s.heap [] 0 0 (MQ below (vp_Si (fun r_ => r_ = out)) (([.ref (a 0), .int p1] : List Value).toArray) s 0 0 (fun _ => False)) (entryFrame m (([.ref (a 0), .int p1] : List Value).toArray) 2)
  generalize MQ below (vp_Si (fun r_ => r_ = out)) (([.ref (a 0), .int p1] : List Value).toArray) s 0 0 (fun _ => False) = Q at hret ⊢
  have hl := lv_entry ([.ref (a 0), .int p1]) (n := 2) (Nat.le_of_ble_eq_true rfl)
  rw [lg_entry_eq]
  generalize (lg_sl ([.ref (a 0), .int p1]) ++ List.replicate (2 - (lg_sl ([.ref (a 0), .int p1])).length) Slot.unset).toArray = ls at hl ⊢
  have hl : lv_has ls 2 [(0, .ref (a 0)), (1, .int p1)] := hl
  refine lv_iload_n hx hb dX4_countOf_0 rfl (lv_at hl 1 rfl) ?_
  by_cases c1 : p1 = 0
  · have hw := ite_t hw c1
    refine lv_tableIn (off := 55) (tgt := 56) hx hb dX4_countOf_1 (by rw [c1]; decide) (by rw [c1]; decide) (by rw [c1]; rfl) (by decide) ?_
    refine lv_aload_n hx hb dX4_countOf_56 rfl (lv_at hl 0 rfl) ?_
    refine va_get (D := (dC, dI)) (ci := 4) (v := .int (X.1 0 11)) (C := RX4) (T := TX4) (N := 29) hx hb hts iX4 hown hK hP 0 rfl rfl 11 (by decide) (hts _ wd_533) (fun _ h9 => h9) rfl dX4_countOf_57 ?_
    exact hret _ _ _ (Option.some.inj hw) dX4_countOf_60
  have hw := ite_f hw c1
  by_cases c2 : p1 = 1
  · have hw := ite_t hw c2
    refine lv_tableIn (off := 60) (tgt := 61) hx hb dX4_countOf_1 (by rw [c2]; decide) (by rw [c2]; decide) (by rw [c2]; rfl) (by decide) ?_
    refine lv_aload_n hx hb dX4_countOf_61 rfl (lv_at hl 0 rfl) ?_
    refine va_get (D := (dC, dI)) (ci := 4) (v := .int (X.1 0 3)) (C := RX4) (T := TX4) (N := 29) hx hb hts iX4 hown hK hP 0 rfl rfl 3 (by decide) (hts _ wd_525) (fun _ h9 => h9) rfl dX4_countOf_62 ?_
    exact hret _ _ _ (Option.some.inj hw) dX4_countOf_65
  have hw := ite_f hw c2
  by_cases c3 : p1 = 2
  · have hw := ite_t hw c3
    refine lv_tableIn (off := 65) (tgt := 66) hx hb dX4_countOf_1 (by rw [c3]; decide) (by rw [c3]; decide) (by rw [c3]; rfl) (by decide) ?_
    refine lv_aload_n hx hb dX4_countOf_66 rfl (lv_at hl 0 rfl) ?_
    refine va_get (D := (dC, dI)) (ci := 4) (v := .int (X.1 0 4)) (C := RX4) (T := TX4) (N := 29) hx hb hts iX4 hown hK hP 0 rfl rfl 4 (by decide) (hts _ wd_526) (fun _ h9 => h9) rfl dX4_countOf_67 ?_
    exact hret _ _ _ (Option.some.inj hw) dX4_countOf_70
  have hw := ite_f hw c3
  by_cases c4 : p1 = 3
  · have hw := ite_t hw c4
    refine lv_tableIn (off := 70) (tgt := 71) hx hb dX4_countOf_1 (by rw [c4]; decide) (by rw [c4]; decide) (by rw [c4]; rfl) (by decide) ?_
    refine lv_aload_n hx hb dX4_countOf_71 rfl (lv_at hl 0 rfl) ?_
    refine va_get (D := (dC, dI)) (ci := 4) (v := .int (X.1 0 5)) (C := RX4) (T := TX4) (N := 29) hx hb hts iX4 hown hK hP 0 rfl rfl 5 (by decide) (hts _ wd_527) (fun _ h9 => h9) rfl dX4_countOf_72 ?_
    exact hret _ _ _ (Option.some.inj hw) dX4_countOf_75
  have hw := ite_f hw c4
  by_cases c5 : p1 = 4
  · have hw := ite_t hw c5
    refine lv_tableIn (off := 75) (tgt := 76) hx hb dX4_countOf_1 (by rw [c5]; decide) (by rw [c5]; decide) (by rw [c5]; rfl) (by decide) ?_
    refine lv_aload_n hx hb dX4_countOf_76 rfl (lv_at hl 0 rfl) ?_
    refine lv_aload_n hx hb dX4_countOf_77 rfl (lv_at hl 0 rfl) ?_
    refine va_get (D := (dC, dI)) (ci := 4) (v := .int (X.1 0 6)) (C := RX4) (T := TX4) (N := 29) hx hb hts iX4 hown hK hP 0 rfl rfl 6 (by decide) (hts _ wd_528) (fun _ h9 => h9) rfl dX4_countOf_78 ?_
    obtain ⟨r6, er6, hw⟩ := Option.bind_eq_some_iff.mp hw
    refine vp_callSi (va_runV (As := [.int (X.1 0 6)]) (rest := []) ⟨hx, hb, hml, hown, hts⟩ (c_X4_knowing l dC dI a cA X (X.1 0 6) r6 er6) ⟨callB_of 1 hts gd_X4_knowing rfl rfl rfl (hts _ wd_39) (hts _ wd_672) hd_X4_knowing ⟨Nat.le_of_ble_eq_true rfl, Nat.le_of_ble_eq_true rfl⟩, hts _ wd_674, hts _ wd_15⟩ ⟨blM, va_recv hK hP (ci := 4) (q0 := 0) rfl rfl, fun U hU hW => ⟨rfl, by rw [hU]; exact hP, va_K.moved hW.alike hK⟩⟩ rfl rfl hl.1 rfl (lv_room (Nat.le_of_ble_eq_true rfl)) dX4_countOf_81 ⟨Nat.zero_le _, Nat.zero_le _⟩).run (fun r_ e_ => ?_)
    subst r_
    obtain ⟨r7, er7, hw⟩ := Option.bind_eq_some_iff.mp hw
    refine vp_callSi (va_runS (As := [.int r6]) (rest := []) ⟨hx, hb, hml, hown, hts⟩ (c_X4_ones l r6 r7 er7) ⟨callB_of 1 hts gd_X4_ones rfl rfl rfl (hts _ wd_39) (hts _ wd_696) hd_X4_ones ⟨Nat.le_of_ble_eq_true rfl, Nat.le_of_ble_eq_true rfl⟩, hts _ wd_697⟩ ⟨bl0, fun U hU hW => ⟨rfl, trivial⟩⟩ rfl rfl hl.1 rfl (lv_room (Nat.le_of_ble_eq_true rfl)) dX4_countOf_84 ⟨Nat.zero_le _, Nat.zero_le _⟩).run (fun r_ e_ => ?_)
    subst r_
    exact hret _ _ _ (Option.some.inj hw) dX4_countOf_87
  have hw := ite_f hw c5
  by_cases c8 : p1 = 5
  · have hw := ite_t hw c8
    refine lv_tableIn (off := 87) (tgt := 88) hx hb dX4_countOf_1 (by rw [c8]; decide) (by rw [c8]; decide) (by rw [c8]; rfl) (by decide) ?_
    refine lv_aload_n hx hb dX4_countOf_88 rfl (lv_at hl 0 rfl) ?_
    refine va_get (D := (dC, dI)) (ci := 4) (v := .int (X.1 0 7)) (C := RX4) (T := TX4) (N := 29) hx hb hts iX4 hown hK hP 0 rfl rfl 7 (by decide) (hts _ wd_529) (fun _ h9 => h9) rfl dX4_countOf_89 ?_
    exact hret _ _ _ (Option.some.inj hw) dX4_countOf_92
  have hw := ite_f hw c8
  by_cases c9 : p1 = 6
  · have hw := ite_t hw c9
    refine lv_tableIn (off := 92) (tgt := 93) hx hb dX4_countOf_1 (by rw [c9]; decide) (by rw [c9]; decide) (by rw [c9]; rfl) (by decide) ?_
    refine lv_aload_n hx hb dX4_countOf_93 rfl (lv_at hl 0 rfl) ?_
    refine va_get (D := (dC, dI)) (ci := 4) (v := .int (X.1 0 8)) (C := RX4) (T := TX4) (N := 29) hx hb hts iX4 hown hK hP 0 rfl rfl 8 (by decide) (hts _ wd_530) (fun _ h9 => h9) rfl dX4_countOf_94 ?_
    exact hret _ _ _ (Option.some.inj hw) dX4_countOf_97
  have hw := ite_f hw c9
  by_cases c10 : p1 = 7
  · have hw := ite_t hw c10
    refine lv_tableIn (off := 97) (tgt := 98) hx hb dX4_countOf_1 (by rw [c10]; decide) (by rw [c10]; decide) (by rw [c10]; rfl) (by decide) ?_
    refine lv_aload_n hx hb dX4_countOf_98 rfl (lv_at hl 0 rfl) ?_
    refine va_get (D := (dC, dI)) (ci := 4) (v := .int (X.1 0 14)) (C := RX4) (T := TX4) (N := 29) hx hb hts iX4 hown hK hP 0 rfl rfl 14 (by decide) (hts _ wd_536) (fun _ h9 => h9) rfl dX4_countOf_99 ?_
    exact hret _ _ _ (Option.some.inj hw) dX4_countOf_102
  have hw := ite_f hw c10
  by_cases c11 : p1 = 8
  · have hw := ite_t hw c11
    refine lv_tableIn (off := 102) (tgt := 103) hx hb dX4_countOf_1 (by rw [c11]; decide) (by rw [c11]; decide) (by rw [c11]; rfl) (by decide) ?_
    refine lv_aload_n hx hb dX4_countOf_103 rfl (lv_at hl 0 rfl) ?_
    refine va_get (D := (dC, dI)) (ci := 4) (v := .int (X.1 0 1)) (C := RX4) (T := TX4) (N := 29) hx hb hts iX4 hown hK hP 0 rfl rfl 1 (by decide) (hts _ wd_523) (fun _ h9 => h9) rfl dX4_countOf_104 ?_
    exact hret _ _ _ (Option.some.inj hw) dX4_countOf_107
  have hw := ite_f hw c11
  by_cases c12 : p1 = 9
  · have hw := ite_t hw c12
    refine lv_tableIn (off := 107) (tgt := 108) hx hb dX4_countOf_1 (by rw [c12]; decide) (by rw [c12]; decide) (by rw [c12]; rfl) (by decide) ?_
    refine lv_aload_n hx hb dX4_countOf_108 rfl (lv_at hl 0 rfl) ?_
    refine va_get (D := (dC, dI)) (ci := 4) (v := .int (X.1 0 9)) (C := RX4) (T := TX4) (N := 29) hx hb hts iX4 hown hK hP 0 rfl rfl 9 (by decide) (hts _ wd_531) (fun _ h9 => h9) rfl dX4_countOf_109 ?_
    exact hret _ _ _ (Option.some.inj hw) dX4_countOf_112
  have hw := ite_f hw c12
  refine lv_tableOut (tgt := 113) hx hb dX4_countOf_1 (by have qc1 := i32_ne c1 (z := 0) (by decide); have qc2 := i32_ne c2 (z := 1) (by decide); have qc3 := i32_ne c3 (z := 2) (by decide); have qc4 := i32_ne c4 (z := 3) (by decide); have qc5 := i32_ne c5 (z := 4) (by decide); have qc8 := i32_ne c8 (z := 5) (by decide); have qc9 := i32_ne c9 (z := 6) (by decide); have qc10 := i32_ne c10 (z := 7) (by decide); have qc11 := i32_ne c11 (z := 8) (by decide); have qc12 := i32_ne c12 (z := 9) (by decide); omega) (by decide) ?_
  refine lv_bipush (v := (-102)) hx hb dX4_countOf_113 (by decide) ?_
  exact hret _ _ _ (Option.some.inj hw) dX4_countOf_115
set_option maxHeartbeats 4000000 in
set_option maxRecDepth 100000 in
theorem c_X4_count (l : Launch) (dC : Nat → ClassId) (dI : Nat → Nat → Nat) (a : Nat → Nat) (cA : ClassId) (X : MS) (p1 : Int32) (out : Int32) (hw : f_X4_count X p1 = some out) : Met l yX4_count (.code yX4_count cX4_count 2 (some .int) :: lw_g) ({ frames := 2, cells := 0, slots := 0, locals := 44 }) (PcM dC dI a cA X [.ref (a 0), .int p1]) (vp_Si (fun r_ => r_ = out)) 0 0 (fun _ => False) := by
  unfold f_X4_count at hw
  refine Met.ofW (cc := cX4_count) (maxL := 2) (ret := (some .int)) (by decide) rfl ?_
  intro p e s m args below meth c s₁ B hml hv
  obtain ⟨rfl, hP, hK⟩ := hv
  have hx := B.exec
  have hb := B.bytes
  have hr := B.returns
  have hts0 := atoms_spec (ws := (.code yX4_count cX4_count 2 (some .int) :: lw_g)) B.pre
  have hts : ∀ w ∈ lw_g, w.before (([.ref (a 0), .int p1] : List Value).toArray) s = true := fun w h => hts0 w (List.mem_cons_of_mem _ h)
  clear hts0
  have hown : s.vm.findClass RX4 = some m.cls := findClass_of_methodNamed B.named
  have hlocks := B.notSynchronized
  have hret : ∀ (pc : Nat) (ls : Array Slot) (v : Int32), v = out → decode cX4_count pc = .ok (.ireturn, 1) → W p l e ({ frames := 2, cells := 0, slots := 0, locals := 44 }) s m (([.ref (a 0), .int p1] : List Value).toArray) below meth c s.heap [] 0 0 (MQ below (vp_Si (fun r_ => r_ = out)) (([.ref (a 0), .int p1] : List Value).toArray) s 0 0 (fun _ => False)) (F0 m pc ls [.int v]) := fun pc ls v hv hd => W.iret hx hb hr (fun t ht hW => ⟨v, rfl, hv, ht⟩) (fun q hq => absurd hq List.not_mem_nil) hd
  show W p l e ({ frames := 2, cells := 0, slots := 0, locals := 44 }) s m (([.ref (a 0), .int p1] : List Value).toArray) below meth c s.heap [] 0 0 (MQ below (vp_Si (fun r_ => r_ = out)) (([.ref (a 0), .int p1] : List Value).toArray) s 0 0 (fun _ => False)) (entryFrame m (([.ref (a 0), .int p1] : List Value).toArray) 2)
  generalize MQ below (vp_Si (fun r_ => r_ = out)) (([.ref (a 0), .int p1] : List Value).toArray) s 0 0 (fun _ => False) = Q at hret ⊢
  have hl := lv_entry ([.ref (a 0), .int p1]) (n := 2) (Nat.le_of_ble_eq_true rfl)
  rw [lg_entry_eq]
  generalize (lg_sl ([.ref (a 0), .int p1]) ++ List.replicate (2 - (lg_sl ([.ref (a 0), .int p1])).length) Slot.unset).toArray = ls at hl ⊢
  have hl : lv_has ls 2 [(0, .ref (a 0)), (1, .int p1)] := hl
  refine lv_aload_n hx hb dX4_count_0 rfl (lv_at hl 0 rfl) ?_
  refine lv_iload_n hx hb dX4_count_1 rfl (lv_at hl 1 rfl) ?_
  obtain ⟨r1, er1, hw⟩ := Option.bind_eq_some_iff.mp hw
  refine vp_callSi (va_runV (As := [.int p1]) (rest := []) ⟨hx, hb, hml, hown, hts⟩ (c_X4_countOf l dC dI a cA X p1 r1 er1) ⟨callB_of 1 hts gd_X4_countOf rfl rfl rfl (hts _ wd_39) (hts _ wd_822) hd_X4_countOf ⟨Nat.le_of_ble_eq_true rfl, Nat.le_of_ble_eq_true rfl⟩, hts _ wd_824, hts _ wd_31⟩ ⟨blM, va_recv hK hP (ci := 4) (q0 := 0) rfl rfl, fun U hU hW => ⟨rfl, by rw [hU]; exact hP, va_K.moved hW.alike hK⟩⟩ rfl rfl hl.1 rfl (lv_room (Nat.le_of_ble_eq_true rfl)) dX4_count_2 ⟨Nat.zero_le _, Nat.zero_le _⟩).run (fun r_ e_ => ?_)
  subst r_
  exact hret _ _ _ (Option.some.inj hw) dX4_count_5
set_option maxHeartbeats 4000000 in
set_option maxRecDepth 100000 in
theorem c_X3_fold (l : Launch) (p0 : Int64) (p2 : Int64) (out : Int64) (hw : f_X3_fold p0 p2 = some out) : Met l yX3_fold (.code yX3_fold cX3_fold 4 (some .long) :: lw_g) ({ frames := 0, cells := 0, slots := 0, locals := 0 }) (Pc0 [.long p0, .long p2]) (vp_Sl (fun r_ => r_ = out)) 0 0 (fun _ => False) := by
  unfold f_X3_fold at hw
  refine Met.ofW (cc := cX3_fold) (maxL := 4) (ret := (some .long)) (by decide) rfl ?_
  intro p e s m args below meth c s₁ B hml hv
  obtain ⟨rfl, -⟩ := hv
  have hx := B.exec
  have hb := B.bytes
  have hr := B.returns
  have hts0 := atoms_spec (ws := (.code yX3_fold cX3_fold 4 (some .long) :: lw_g)) B.pre
  have hts : ∀ w ∈ lw_g, w.before (([.long p0, .long p2] : List Value).toArray) s = true := fun w h => hts0 w (List.mem_cons_of_mem _ h)
  clear hts0
  have hown : s.vm.findClass RX3 = some m.cls := findClass_of_methodNamed B.named
  have hlocks := B.notSynchronized
  have hret : ∀ (pc : Nat) (ls : Array Slot) (v : Int64), v = out → decode cX3_fold pc = .ok (.lreturn, 1) → W p l e ({ frames := 0, cells := 0, slots := 0, locals := 0 }) s m (([.long p0, .long p2] : List Value).toArray) below meth c s.heap [] 0 0 (MQ below (vp_Sl (fun r_ => r_ = out)) (([.long p0, .long p2] : List Value).toArray) s 0 0 (fun _ => False)) (F0 m pc ls [.long v]) := fun pc ls v hv hd => W.lret hx hb hr (fun t ht hW => ⟨v, rfl, hv, ht⟩) (fun q hq => absurd hq List.not_mem_nil) hd
  show W p l e ({ frames := 0, cells := 0, slots := 0, locals := 0 }) s m (([.long p0, .long p2] : List Value).toArray) below meth c s.heap [] 0 0 (MQ below (vp_Sl (fun r_ => r_ = out)) (([.long p0, .long p2] : List Value).toArray) s 0 0 (fun _ => False)) (entryFrame m (([.long p0, .long p2] : List Value).toArray) 4)
  generalize MQ below (vp_Sl (fun r_ => r_ = out)) (([.long p0, .long p2] : List Value).toArray) s 0 0 (fun _ => False) = Q at hret ⊢
  have hl := lv_entry ([.long p0, .long p2]) (n := 4) (Nat.le_of_ble_eq_true rfl)
  rw [lg_entry_eq]
  generalize (lg_sl ([.long p0, .long p2]) ++ List.replicate (4 - (lg_sl ([.long p0, .long p2])).length) Slot.unset).toArray = ls at hl ⊢
  have hl : lv_has ls 4 [(0, .long p0), (2, .long p2)] := hl
  refine lv_ldc2 hx hb hown (hts _ wd_501) dX3_fold_0 ?_
  refine lv_lload_n hx hb dX3_fold_3 rfl (lv_at hl 0 rfl) ?_
  refine lv_lmul hx hb dX3_fold_4 ?_
  refine lv_lload_n hx hb dX3_fold_5 rfl (lv_at hl 1 rfl) ?_
  refine lv_ladd hx hb dX3_fold_6 ?_
  exact hret _ _ _ (Option.some.inj hw) dX3_fold_7
set_option maxHeartbeats 4000000 in
set_option maxRecDepth 100000 in
theorem c_X3_foldListeners (l : Launch) (dC : Nat → ClassId) (dI : Nat → Nat → Nat) (a : Nat → Nat) (cA : ClassId) (X : WS) (p1 : Int64) (out : Int64) (hw : f_X3_foldListeners X p1 = some out) : Met l yX3_foldListeners (.code yX3_foldListeners cX3_foldListeners 7 (some .long) :: lw_g) ({ frames := 5, cells := 0, slots := 0, locals := 129 }) (PcX dC dI a cA X [.ref (a 0), .long p1]) (vp_Sl (fun r_ => r_ = out)) 0 0 (fun _ => False) := by
  unfold f_X3_foldListeners at hw
  refine Met.ofW (cc := cX3_foldListeners) (maxL := 7) (ret := (some .long)) (by decide) rfl ?_
  intro p e s m args below meth c s₁ B hml hv
  obtain ⟨rfl, hP, hK, hN⟩ := hv
  have hx := B.exec
  have hb := B.bytes
  have hr := B.returns
  have hts0 := atoms_spec (ws := (.code yX3_foldListeners cX3_foldListeners 7 (some .long) :: lw_g)) B.pre
  have hts : ∀ w ∈ lw_g, w.before (([.ref (a 0), .long p1] : List Value).toArray) s = true := fun w h => hts0 w (List.mem_cons_of_mem _ h)
  clear hts0
  have hown : s.vm.findClass RX3 = some m.cls := findClass_of_methodNamed B.named
  have hlocks := B.notSynchronized
  have hret : ∀ (pc : Nat) (ls : Array Slot) (v : Int64), v = out → decode cX3_foldListeners pc = .ok (.lreturn, 1) → W p l e ({ frames := 5, cells := 0, slots := 0, locals := 129 }) s m (([.ref (a 0), .long p1] : List Value).toArray) below meth c s.heap [] 0 0 (MQ below (vp_Sl (fun r_ => r_ = out)) (([.ref (a 0), .long p1] : List Value).toArray) s 0 0 (fun _ => False)) (F0 m pc ls [.long v]) := fun pc ls v hv hd => W.lret hx hb hr (fun t ht hW => ⟨v, rfl, hv, ht⟩) (fun q hq => absurd hq List.not_mem_nil) hd
  show W p l e ({ frames := 5, cells := 0, slots := 0, locals := 129 }) s m (([.ref (a 0), .long p1] : List Value).toArray) below meth c s.heap [] 0 0 (MQ below (vp_Sl (fun r_ => r_ = out)) (([.ref (a 0), .long p1] : List Value).toArray) s 0 0 (fun _ => False)) (entryFrame m (([.ref (a 0), .long p1] : List Value).toArray) 7)
  generalize MQ below (vp_Sl (fun r_ => r_ = out)) (([.ref (a 0), .long p1] : List Value).toArray) s 0 0 (fun _ => False) = Q at hret ⊢
  have L20 : ∀ (k5 : Int64 → Int32 → Option Int64), (∀ (v3 : Int64), ∀ (v5 : Int32), k5 v3 v5 = some out → ∀ ls : Array Slot, lv_has ls 7 [(0, .ref (a 0)), (3, .long v3), (5, .int v5)] → W p l e ({ frames := 5, cells := 0, slots := 0, locals := 129 }) s m (([.ref (a 0), .long p1] : List Value).toArray) below meth c s.heap [] 0 0 Q (F0 m 5 ls [])) → ∀ n : Nat, ∀ (v3 : Int64), ∀ (v5 : Int32), ∀ (v6 : Int32), g_X3_foldListeners_20 X k5 n v3 v5 v6 = some out → ∀ ls : Array Slot, lv_has ls 7 [(0, .ref (a 0)), (3, .long v3), (5, .int v5), (6, .int v6)] → W p l e ({ frames := 5, cells := 0, slots := 0, locals := 129 }) s m (([.ref (a 0), .long p1] : List Value).toArray) below meth c s.heap [] 0 0 Q (F0 m 20 ls []) := by
    intro k5 hk5 n
    induction n with
    | zero =>
      intro v3 v5 v6 hw
      rw [g_X3_foldListeners_20] at hw
      cases hw
    | succ n ih =>
      intro v3 v5 v6 hw ls hl
      rw [g_X3_foldListeners_20] at hw
      refine lv_iload hx hb dX3_foldListeners_20 (lv_at hl 3 rfl) ?_
      refine lv_iconst (v := 5) hx hb dX3_foldListeners_22 (by decide) ?_
      refine lv_icmp_gt (tgt := 46) hx hb dX3_foldListeners_23 (by decide) (fun c2 => ?_) (fun c2 => ?_)
      · have hw := ite_t hw c2
        refine lv_aload_n hx hb dX3_foldListeners_46 rfl (lv_at hl 0 rfl) ?_
        refine va_get (D := (dC, dI)) (ci := 3) (v := .ref (a 3)) (C := RX3) (T := TX3) (N := 6) hx hb hts iX3 hown hK hP 0 rfl rfl 1 (by decide) (hts _ wd_179) (fun _ h9 => h9) rfl dX3_foldListeners_47 ?_
        refine lv_iload hx hb dX3_foldListeners_50 (lv_at hl 2 rfl) ?_
        refine lv_iconst (v := 2) hx hb dX3_foldListeners_52 (by decide) ?_
        refine lv_bipush (v := 9) hx hb dX3_foldListeners_53 (by decide) ?_
        obtain ⟨r3, er3, hw⟩ := Option.bind_eq_some_iff.mp hw
        refine vp_callSi (va_runS (As := [.ref (a 3), .int v5, .int 2, .int 9]) (rest := []) ⟨hx, hb, hml, hown, hts⟩ (c_X0_sentAway l dC dI a cA X v5 2 9 r3 er3) ⟨callB_of 4 hts gd_X0_sentAway rfl rfl rfl (hts _ wd_38) (hts _ wd_402) hd_X0_sentAway ⟨Nat.le_of_ble_eq_true rfl, Nat.le_of_ble_eq_true rfl⟩, hts _ wd_403⟩ ⟨blX, fun U hU hW => ⟨rfl, by rw [hU]; exact hP, va_K.moved hW.alike hK, nst.warm hW hN⟩⟩ rfl rfl hl.1 rfl (lv_room (Nat.le_of_ble_eq_true rfl)) dX3_foldListeners_55 ⟨Nat.zero_le _, Nat.zero_le _⟩).run (fun r_ e_ => ?_)
        subst r_
        refine lv_istore (lv' := [(6, .int r3), (0, .ref (a 0)), (3, .long v3), (5, .int v5)]) hx hb dX3_foldListeners_58 hl (by decide) rfl (fun ls hl => ?_)
        refine lv_lload_n hx hb dX3_foldListeners_60 rfl (lv_at hl 2 rfl) ?_
        refine lv_iload hx hb dX3_foldListeners_61 (lv_at hl 0 rfl) ?_
        obtain ⟨r4, er4, hw⟩ := Option.bind_eq_some_iff.mp hw
        refine vp_callSi (va_runS (As := [.int r3]) (rest := [.long v3]) ⟨hx, hb, hml, hown, hts⟩ (c_X3_howMany l r3 r4 er4) ⟨callB_of 1 hts gd_X3_howMany rfl rfl rfl (hts _ wd_35) (hts _ wd_409) hd_X3_howMany ⟨Nat.le_of_ble_eq_true rfl, Nat.le_of_ble_eq_true rfl⟩, hts _ wd_410⟩ ⟨bl0, fun U hU hW => ⟨rfl, trivial⟩⟩ rfl rfl hl.1 rfl (lv_room (Nat.le_of_ble_eq_true rfl)) dX3_foldListeners_63 ⟨Nat.zero_le _, Nat.zero_le _⟩).run (fun r_ e_ => ?_)
        subst r_
        refine lv_i2l hx hb dX3_foldListeners_66 rfl ?_
        obtain ⟨r5, er5, hw⟩ := Option.bind_eq_some_iff.mp hw
        refine vp_callSl (va_runS (As := [.long v3, .long (Int32.toInt64 r4)]) (rest := []) ⟨hx, hb, hml, hown, hts⟩ (c_X3_fold l v3 (Int32.toInt64 r4) r5 er5) ⟨callB_of 2 hts gd_X3_fold rfl rfl rfl (hts _ wd_35) (hts _ wd_498) hd_X3_fold ⟨Nat.le_of_ble_eq_true rfl, Nat.le_of_ble_eq_true rfl⟩, hts _ wd_499⟩ ⟨bl0, fun U hU hW => ⟨rfl, trivial⟩⟩ rfl rfl hl.1 rfl (lv_room (Nat.le_of_ble_eq_true rfl)) dX3_foldListeners_67 ⟨Nat.zero_le _, Nat.zero_le _⟩).run (fun r_ e_ => ?_)
        subst r_
        refine lv_lstore_n (lv' := [(3, .long r5), (6, .int r3), (0, .ref (a 0)), (5, .int v5)]) hx hb dX3_foldListeners_70 rfl hl (by decide) rfl (fun ls hl => ?_)
        refine lv_lload_n hx hb dX3_foldListeners_71 rfl (lv_at hl 0 rfl) ?_
        refine lv_iload hx hb dX3_foldListeners_72 (lv_at hl 1 rfl) ?_
        refine lv_i2l hx hb dX3_foldListeners_74 rfl ?_
        obtain ⟨r6, er6, hw⟩ := Option.bind_eq_some_iff.mp hw
        refine vp_callSl (va_runS (As := [.long r5, .long (Int32.toInt64 r3)]) (rest := []) ⟨hx, hb, hml, hown, hts⟩ (c_X3_fold l r5 (Int32.toInt64 r3) r6 er6) ⟨callB_of 2 hts gd_X3_fold rfl rfl rfl (hts _ wd_35) (hts _ wd_498) hd_X3_fold ⟨Nat.le_of_ble_eq_true rfl, Nat.le_of_ble_eq_true rfl⟩, hts _ wd_499⟩ ⟨bl0, fun U hU hW => ⟨rfl, trivial⟩⟩ rfl rfl hl.1 rfl (lv_room (Nat.le_of_ble_eq_true rfl)) dX3_foldListeners_75 ⟨Nat.zero_le _, Nat.zero_le _⟩).run (fun r_ e_ => ?_)
        subst r_
        refine lv_lstore_n (lv' := [(3, .long r6), (6, .int r3), (0, .ref (a 0)), (5, .int v5)]) hx hb dX3_foldListeners_78 rfl hl (by decide) rfl (fun ls hl => ?_)
        obtain ⟨x7, ex7⟩ : ∃ y : Int32, y = (v5 + 1) := ⟨_, rfl⟩
        have hw := stp_use hw ex7
        refine lv_iinc (v := x7) (lv' := [(5, .int x7), (3, .long r6), (6, .int r3), (0, .ref (a 0))]) hx hb dX3_foldListeners_79 hl (k := 3) rfl (by rw [ex7]; rfl) (by decide) rfl (fun ls hl => ?_)
        refine lv_goto (tgt := 5) hx hb dX3_foldListeners_82 (by decide) ?_
        exact hk5 r6 x7 hw ls (lv_sub hl [3, 1, 0] rfl)
      · have hw := ite_f hw c2
        refine lv_lload_n hx hb dX3_foldListeners_26 rfl (lv_at hl 1 rfl) ?_
        refine lv_aload_n hx hb dX3_foldListeners_27 rfl (lv_at hl 0 rfl) ?_
        refine lv_iload hx hb dX3_foldListeners_28 (lv_at hl 2 rfl) ?_
        refine lv_iload hx hb dX3_foldListeners_30 (lv_at hl 3 rfl) ?_
        obtain ⟨r8, er8, hw⟩ := Option.bind_eq_some_iff.mp hw
        refine vp_callSi (va_runV (As := [.int v5, .int v6]) (rest := [.long v3]) ⟨hx, hb, hml, hown, hts⟩ (c_X3_about l dC dI a cA X v5 v6 r8 er8) ⟨callB_of 2 hts gd_X3_about rfl rfl rfl (hts _ wd_35) (hts _ wd_497) hd_X3_about ⟨Nat.le_of_ble_eq_true rfl, Nat.le_of_ble_eq_true rfl⟩, hts _ wd_283, hts _ wd_284⟩ ⟨blX, va_recv hK hP (ci := 3) (q0 := 0) rfl rfl, fun U hU hW => ⟨rfl, by rw [hU]; exact hP, va_K.moved hW.alike hK, nst.warm hW hN⟩⟩ rfl rfl hl.1 rfl (lv_room (Nat.le_of_ble_eq_true rfl)) dX3_foldListeners_32 ⟨Nat.zero_le _, Nat.zero_le _⟩).run (fun r_ e_ => ?_)
        subst r_
        refine lv_i2l hx hb dX3_foldListeners_35 rfl ?_
        obtain ⟨r9, er9, hw⟩ := Option.bind_eq_some_iff.mp hw
        refine vp_callSl (va_runS (As := [.long v3, .long (Int32.toInt64 r8)]) (rest := []) ⟨hx, hb, hml, hown, hts⟩ (c_X3_fold l v3 (Int32.toInt64 r8) r9 er9) ⟨callB_of 2 hts gd_X3_fold rfl rfl rfl (hts _ wd_35) (hts _ wd_498) hd_X3_fold ⟨Nat.le_of_ble_eq_true rfl, Nat.le_of_ble_eq_true rfl⟩, hts _ wd_499⟩ ⟨bl0, fun U hU hW => ⟨rfl, trivial⟩⟩ rfl rfl hl.1 rfl (lv_room (Nat.le_of_ble_eq_true rfl)) dX3_foldListeners_36 ⟨Nat.zero_le _, Nat.zero_le _⟩).run (fun r_ e_ => ?_)
        subst r_
        refine lv_lstore_n (lv' := [(3, .long r9), (0, .ref (a 0)), (5, .int v5), (6, .int v6)]) hx hb dX3_foldListeners_39 rfl hl (by decide) rfl (fun ls hl => ?_)
        obtain ⟨x10, ex10⟩ : ∃ y : Int32, y = (v6 + 1) := ⟨_, rfl⟩
        have hw := stp_use hw ex10
        refine lv_iinc (v := x10) (lv' := [(6, .int x10), (3, .long r9), (0, .ref (a 0)), (5, .int v5)]) hx hb dX3_foldListeners_40 hl (k := 3) rfl (by rw [ex10]; rfl) (by decide) rfl (fun ls hl => ?_)
        refine lv_goto (tgt := 20) hx hb dX3_foldListeners_43 (by decide) ?_
        exact ih r9 v5 x10 hw ls (lv_sub hl [2, 1, 3, 0] rfl)
  have L5 : ∀ n : Nat, ∀ (v3 : Int64), ∀ (v5 : Int32), g_X3_foldListeners_5 X n v3 v5 = some out → ∀ ls : Array Slot, lv_has ls 7 [(0, .ref (a 0)), (3, .long v3), (5, .int v5)] → W p l e ({ frames := 5, cells := 0, slots := 0, locals := 129 }) s m (([.ref (a 0), .long p1] : List Value).toArray) below meth c s.heap [] 0 0 Q (F0 m 5 ls []) := by
    intro n
    induction n with
    | zero =>
      intro v3 v5 hw
      rw [g_X3_foldListeners_5] at hw
      cases hw
    | succ n ih =>
      intro v3 v5 hw ls hl
      rw [g_X3_foldListeners_5] at hw
      refine lv_iload hx hb dX3_foldListeners_5 (lv_at hl 2 rfl) ?_
      refine lv_aload_n hx hb dX3_foldListeners_7 rfl (lv_at hl 0 rfl) ?_
      refine va_get (D := (dC, dI)) (ci := 3) (v := .ref (a 3)) (C := RX3) (T := TX3) (N := 6) hx hb hts iX3 hown hK hP 0 rfl rfl 1 (by decide) (hts _ wd_179) (fun _ h9 => h9) rfl dX3_foldListeners_8 ?_
      refine va_getN (D := (dC, dI)) (ci := 2) (v := .int (X 3 5)) (C := RX2) (T := TX2) (N := 17) hx hb hts iX2 hown hK hP 3 rfl rfl 5 (by decide) (va_Nw.use rfl (hN _ nk_84)) (fun _ h9 => h9) rfl dX3_foldListeners_11 ?_
      refine lv_icmp_ge (tgt := 85) hx hb dX3_foldListeners_14 (by decide) (fun c1 => ?_) (fun c1 => ?_)
      · have hw := ite_t hw c1
        refine lv_lload_n hx hb dX3_foldListeners_85 rfl (lv_at hl 1 rfl) ?_
        exact hret _ _ _ (Option.some.inj hw) dX3_foldListeners_86
      · have hw := ite_f hw c1
        refine lv_iconst (v := 0) hx hb dX3_foldListeners_17 (by decide) ?_
        refine lv_istore (lv' := [(6, .int 0), (0, .ref (a 0)), (3, .long v3), (5, .int v5)]) hx hb dX3_foldListeners_18 hl (by decide) rfl (fun ls hl => ?_)
        exact L20 _ ih NF v3 v5 0 hw ls (lv_sub hl [1, 2, 3, 0] rfl)
  have hl := lv_entry ([.ref (a 0), .long p1]) (n := 7) (Nat.le_of_ble_eq_true rfl)
  rw [lg_entry_eq]
  generalize (lg_sl ([.ref (a 0), .long p1]) ++ List.replicate (7 - (lg_sl ([.ref (a 0), .long p1])).length) Slot.unset).toArray = ls at hl ⊢
  have hl : lv_has ls 7 [(0, .ref (a 0)), (1, .long p1)] := hl
  refine lv_lload_n hx hb dX3_foldListeners_0 rfl (lv_at hl 1 rfl) ?_
  refine lv_lstore_n (lv' := [(3, .long p1), (0, .ref (a 0)), (1, .long p1)]) hx hb dX3_foldListeners_1 rfl hl (by decide) rfl (fun ls hl => ?_)
  refine lv_iconst (v := 0) hx hb dX3_foldListeners_2 (by decide) ?_
  refine lv_istore (lv' := [(5, .int 0), (3, .long p1), (0, .ref (a 0)), (1, .long p1)]) hx hb dX3_foldListeners_3 hl (by decide) rfl (fun ls hl => ?_)
  exact L5 NF p1 0 hw ls (lv_sub hl [2, 1, 0] rfl)
set_option maxHeartbeats 4000000 in
set_option maxRecDepth 100000 in
theorem c_X3_foldPlaces (l : Launch) (dC : Nat → ClassId) (dI : Nat → Nat → Nat) (a : Nat → Nat) (cA : ClassId) (X : WS) (p1 : Int64) (out : Int64) (hw : f_X3_foldPlaces X p1 = some out) : Met l yX3_foldPlaces (.code yX3_foldPlaces cX3_foldPlaces 6 (some .long) :: lw_g) ({ frames := 4, cells := 0, slots := 0, locals := 99 }) (PcX dC dI a cA X [.ref (a 0), .long p1]) (vp_Sl (fun r_ => r_ = out)) 0 0 (fun _ => False) := by
  unfold f_X3_foldPlaces at hw
  refine Met.ofW (cc := cX3_foldPlaces) (maxL := 6) (ret := (some .long)) (by decide) rfl ?_
  intro p e s m args below meth c s₁ B hml hv
  obtain ⟨rfl, hP, hK, hN⟩ := hv
  have hx := B.exec
  have hb := B.bytes
  have hr := B.returns
  have hts0 := atoms_spec (ws := (.code yX3_foldPlaces cX3_foldPlaces 6 (some .long) :: lw_g)) B.pre
  have hts : ∀ w ∈ lw_g, w.before (([.ref (a 0), .long p1] : List Value).toArray) s = true := fun w h => hts0 w (List.mem_cons_of_mem _ h)
  clear hts0
  have hown : s.vm.findClass RX3 = some m.cls := findClass_of_methodNamed B.named
  have hlocks := B.notSynchronized
  have hret : ∀ (pc : Nat) (ls : Array Slot) (v : Int64), v = out → decode cX3_foldPlaces pc = .ok (.lreturn, 1) → W p l e ({ frames := 4, cells := 0, slots := 0, locals := 99 }) s m (([.ref (a 0), .long p1] : List Value).toArray) below meth c s.heap [] 0 0 (MQ below (vp_Sl (fun r_ => r_ = out)) (([.ref (a 0), .long p1] : List Value).toArray) s 0 0 (fun _ => False)) (F0 m pc ls [.long v]) := fun pc ls v hv hd => W.lret hx hb hr (fun t ht hW => ⟨v, rfl, hv, ht⟩) (fun q hq => absurd hq List.not_mem_nil) hd
  show W p l e ({ frames := 4, cells := 0, slots := 0, locals := 99 }) s m (([.ref (a 0), .long p1] : List Value).toArray) below meth c s.heap [] 0 0 (MQ below (vp_Sl (fun r_ => r_ = out)) (([.ref (a 0), .long p1] : List Value).toArray) s 0 0 (fun _ => False)) (entryFrame m (([.ref (a 0), .long p1] : List Value).toArray) 6)
  generalize MQ below (vp_Sl (fun r_ => r_ = out)) (([.ref (a 0), .long p1] : List Value).toArray) s 0 0 (fun _ => False) = Q at hret ⊢
  have L5 : ∀ n : Nat, ∀ (v3 : Int64), ∀ (v5 : Int32), g_X3_foldPlaces_5 X n v3 v5 = some out → ∀ ls : Array Slot, lv_has ls 6 [(0, .ref (a 0)), (3, .long v3), (5, .int v5)] → W p l e ({ frames := 4, cells := 0, slots := 0, locals := 99 }) s m (([.ref (a 0), .long p1] : List Value).toArray) below meth c s.heap [] 0 0 Q (F0 m 5 ls []) := by
    intro n
    induction n with
    | zero =>
      intro v3 v5 hw
      rw [g_X3_foldPlaces_5] at hw
      cases hw
    | succ n ih =>
      intro v3 v5 hw ls hl
      rw [g_X3_foldPlaces_5] at hw
      refine lv_iload hx hb dX3_foldPlaces_5 (lv_at hl 2 rfl) ?_
      refine lv_bipush (v := 6) hx hb dX3_foldPlaces_7 (by decide) ?_
      refine lv_icmp_ge (tgt := 43) hx hb dX3_foldPlaces_9 (by decide) (fun c1 => ?_) (fun c1 => ?_)
      · have hw := ite_t hw c1
        refine lv_lload_n hx hb dX3_foldPlaces_43 rfl (lv_at hl 1 rfl) ?_
        exact hret _ _ _ (Option.some.inj hw) dX3_foldPlaces_44
      · have hw := ite_f hw c1
        refine lv_lload_n hx hb dX3_foldPlaces_12 rfl (lv_at hl 1 rfl) ?_
        refine lv_aload_n hx hb dX3_foldPlaces_13 rfl (lv_at hl 0 rfl) ?_
        refine lv_iload hx hb dX3_foldPlaces_14 (lv_at hl 2 rfl) ?_
        obtain ⟨r2, er2, hw⟩ := Option.bind_eq_some_iff.mp hw
        refine vp_callSi (va_runV (As := [.int v5]) (rest := [.long v3]) ⟨hx, hb, hml, hown, hts⟩ (c_X3_noise l dC dI a cA X v5 r2 er2) ⟨callB_of 1 hts gd_X3_noise rfl rfl rfl (hts _ wd_35) (hts _ wd_506) hd_X3_noise ⟨Nat.le_of_ble_eq_true rfl, Nat.le_of_ble_eq_true rfl⟩, hts _ wd_250, hts _ wd_251⟩ ⟨blX, va_recv hK hP (ci := 3) (q0 := 0) rfl rfl, fun U hU hW => ⟨rfl, by rw [hU]; exact hP, va_K.moved hW.alike hK, nst.warm hW hN⟩⟩ rfl rfl hl.1 rfl (lv_room (Nat.le_of_ble_eq_true rfl)) dX3_foldPlaces_16 ⟨Nat.zero_le _, Nat.zero_le _⟩).run (fun r_ e_ => ?_)
        subst r_
        refine lv_i2l hx hb dX3_foldPlaces_19 rfl ?_
        obtain ⟨r3, er3, hw⟩ := Option.bind_eq_some_iff.mp hw
        refine vp_callSl (va_runS (As := [.long v3, .long (Int32.toInt64 r2)]) (rest := []) ⟨hx, hb, hml, hown, hts⟩ (c_X3_fold l v3 (Int32.toInt64 r2) r3 er3) ⟨callB_of 2 hts gd_X3_fold rfl rfl rfl (hts _ wd_35) (hts _ wd_498) hd_X3_fold ⟨Nat.le_of_ble_eq_true rfl, Nat.le_of_ble_eq_true rfl⟩, hts _ wd_499⟩ ⟨bl0, fun U hU hW => ⟨rfl, trivial⟩⟩ rfl rfl hl.1 rfl (lv_room (Nat.le_of_ble_eq_true rfl)) dX3_foldPlaces_20 ⟨Nat.zero_le _, Nat.zero_le _⟩).run (fun r_ e_ => ?_)
        subst r_
        refine lv_lstore_n (lv' := [(3, .long r3), (0, .ref (a 0)), (5, .int v5)]) hx hb dX3_foldPlaces_23 rfl hl (by decide) rfl (fun ls hl => ?_)
        refine lv_lload_n hx hb dX3_foldPlaces_24 rfl (lv_at hl 0 rfl) ?_
        refine lv_aload_n hx hb dX3_foldPlaces_25 rfl (lv_at hl 1 rfl) ?_
        refine lv_iload hx hb dX3_foldPlaces_26 (lv_at hl 2 rfl) ?_
        refine lv_iconst (v := 5) hx hb dX3_foldPlaces_28 (by decide) ?_
        obtain ⟨r4, er4, hw⟩ := Option.bind_eq_some_iff.mp hw
        refine vp_callSi (va_runV (As := [.int v5, .int 5]) (rest := [.long r3]) ⟨hx, hb, hml, hown, hts⟩ (c_X3_would l dC dI a cA X v5 5 r4 er4) ⟨callB_of 2 hts gd_X3_would rfl rfl rfl (hts _ wd_35) (hts _ wd_507) hd_X3_would ⟨Nat.le_of_ble_eq_true rfl, Nat.le_of_ble_eq_true rfl⟩, hts _ wd_339, hts _ wd_340⟩ ⟨blX, va_recv hK hP (ci := 3) (q0 := 0) rfl rfl, fun U hU hW => ⟨rfl, by rw [hU]; exact hP, va_K.moved hW.alike hK, nst.warm hW hN⟩⟩ rfl rfl hl.1 rfl (lv_room (Nat.le_of_ble_eq_true rfl)) dX3_foldPlaces_29 ⟨Nat.zero_le _, Nat.zero_le _⟩).run (fun r_ e_ => ?_)
        subst r_
        refine lv_i2l hx hb dX3_foldPlaces_32 rfl ?_
        obtain ⟨r5, er5, hw⟩ := Option.bind_eq_some_iff.mp hw
        refine vp_callSl (va_runS (As := [.long r3, .long (Int32.toInt64 r4)]) (rest := []) ⟨hx, hb, hml, hown, hts⟩ (c_X3_fold l r3 (Int32.toInt64 r4) r5 er5) ⟨callB_of 2 hts gd_X3_fold rfl rfl rfl (hts _ wd_35) (hts _ wd_498) hd_X3_fold ⟨Nat.le_of_ble_eq_true rfl, Nat.le_of_ble_eq_true rfl⟩, hts _ wd_499⟩ ⟨bl0, fun U hU hW => ⟨rfl, trivial⟩⟩ rfl rfl hl.1 rfl (lv_room (Nat.le_of_ble_eq_true rfl)) dX3_foldPlaces_33 ⟨Nat.zero_le _, Nat.zero_le _⟩).run (fun r_ e_ => ?_)
        subst r_
        refine lv_lstore_n (lv' := [(3, .long r5), (0, .ref (a 0)), (5, .int v5)]) hx hb dX3_foldPlaces_36 rfl hl (by decide) rfl (fun ls hl => ?_)
        obtain ⟨x6, ex6⟩ : ∃ y : Int32, y = (v5 + 1) := ⟨_, rfl⟩
        have hw := stp_use hw ex6
        refine lv_iinc (v := x6) (lv' := [(5, .int x6), (3, .long r5), (0, .ref (a 0))]) hx hb dX3_foldPlaces_37 hl (k := 2) rfl (by rw [ex6]; rfl) (by decide) rfl (fun ls hl => ?_)
        refine lv_goto (tgt := 5) hx hb dX3_foldPlaces_40 (by decide) ?_
        exact ih r5 x6 hw ls (lv_sub hl [2, 1, 0] rfl)
  have hl := lv_entry ([.ref (a 0), .long p1]) (n := 6) (Nat.le_of_ble_eq_true rfl)
  rw [lg_entry_eq]
  generalize (lg_sl ([.ref (a 0), .long p1]) ++ List.replicate (6 - (lg_sl ([.ref (a 0), .long p1])).length) Slot.unset).toArray = ls at hl ⊢
  have hl : lv_has ls 6 [(0, .ref (a 0)), (1, .long p1)] := hl
  refine lv_lload_n hx hb dX3_foldPlaces_0 rfl (lv_at hl 1 rfl) ?_
  refine lv_lstore_n (lv' := [(3, .long p1), (0, .ref (a 0)), (1, .long p1)]) hx hb dX3_foldPlaces_1 rfl hl (by decide) rfl (fun ls hl => ?_)
  refine lv_iconst (v := 0) hx hb dX3_foldPlaces_2 (by decide) ?_
  refine lv_istore (lv' := [(5, .int 0), (3, .long p1), (0, .ref (a 0)), (1, .long p1)]) hx hb dX3_foldPlaces_3 hl (by decide) rfl (fun ls hl => ?_)
  exact L5 NF p1 0 hw ls (lv_sub hl [2, 1, 0] rfl)
