set_option maxHeartbeats 4000000 in
set_option maxRecDepth 100000 in
theorem c_X4_cry (l : Launch) (dC : Nat → ClassId) (dI : Nat → Nat → Nat) (A : Nat → Prop) (a : Nat → Nat) (cA : ClassId) (X : MS) (p1 : Int32) (p2 : Int32) (out : (Int32 × MS)) (hw : f_X4_cry X p1 p2 = some out) : Met l yX4_cry (.code yX4_cry cX4_cry 4 (some .int) :: lw_g) ({ frames := 3, cells := 0, slots := 0, locals := 78 }) (PcMD dC dI A a cA X [.ref (a 0), .int p1, .int p2]) (va_Qi (fun (r_ : Int32) (X_ : MS) => out = (r_, X_)) (fun X_ t => va_P (dC, dI) classes (wm a cA X_) t.heap ∧ va_K (dC, dI) classes [(cA, .int)] t) A) 0 0 (A) := by
  unfold f_X4_cry at hw
  refine Met.ofW (cc := cX4_cry) (maxL := 4) (ret := (some .int)) (by decide) rfl ?_
  intro p e s m args below meth c s₁ B hml hv
  obtain ⟨rfl, hP, hK, hD0⟩ := hv
  have hx := B.exec
  have hb := B.bytes
  have hr := B.returns
  have hts0 := atoms_spec (ws := (.code yX4_cry cX4_cry 4 (some .int) :: lw_g)) B.pre
  have hts : ∀ w ∈ lw_g, w.before (([.ref (a 0), .int p1, .int p2] : List Value).toArray) s = true := fun w h => hts0 w (List.mem_cons_of_mem _ h)
  clear hts0
  have hown : s.vm.findClass RX4 = some m.cls := findClass_of_methodNamed B.named
  have hlocks := B.notSynchronized
  have hret : ∀ (pc : Nat) (ls : Array Slot) (v : Int32) (X_ : MS) (H : Heap) (locs : List Loc), (v, X_) = out → va_P (dC, dI) classes (wm a cA X_) H → va_S A s.heap H locs → decode cX4_cry pc = .ok (.ireturn, 1) → W p l e ({ frames := 3, cells := 0, slots := 0, locals := 78 }) s m (([.ref (a 0), .int p1, .int p2] : List Value).toArray) below meth c H locs 0 0 (MQ below (va_Qi (fun (r_ : Int32) (X_ : MS) => out = (r_, X_)) (fun X_ t => va_P (dC, dI) classes (wm a cA X_) t.heap ∧ va_K (dC, dI) classes [(cA, .int)] t) A) (([.ref (a 0), .int p1, .int p2] : List Value).toArray) s 0 0 (A)) (F0 m pc ls [.int v]) := fun pc ls v X_ H locs hv hP hS hd => W.iret hx hb hr (fun t ht hW => ⟨⟨v, X_, rfl, hv.symm, by rw [ht]; exact hP, va_K.moved hW.alike hK⟩, hS.F ht⟩) hS.2.2 hd
  show W p l e ({ frames := 3, cells := 0, slots := 0, locals := 78 }) s m (([.ref (a 0), .int p1, .int p2] : List Value).toArray) below meth c s.heap [] 0 0 (MQ below (va_Qi (fun (r_ : Int32) (X_ : MS) => out = (r_, X_)) (fun X_ t => va_P (dC, dI) classes (wm a cA X_) t.heap ∧ va_K (dC, dI) classes [(cA, .int)] t) A) (([.ref (a 0), .int p1, .int p2] : List Value).toArray) s 0 0 (A)) (entryFrame m (([.ref (a 0), .int p1, .int p2] : List Value).toArray) 4)
  generalize MQ below (va_Qi (fun (r_ : Int32) (X_ : MS) => out = (r_, X_)) (fun X_ t => va_P (dC, dI) classes (wm a cA X_) t.heap ∧ va_K (dC, dI) classes [(cA, .int)] t) A) (([.ref (a 0), .int p1, .int p2] : List Value).toArray) s 0 0 (A) = Q at hret ⊢
  have hS : va_S A s.heap s.heap [] := va_S.rf
  have hl := lv_entry ([.ref (a 0), .int p1, .int p2]) (n := 4) (Nat.le_of_ble_eq_true rfl)
  rw [lg_entry_eq]
  generalize (lg_sl ([.ref (a 0), .int p1, .int p2]) ++ List.replicate (4 - (lg_sl ([.ref (a 0), .int p1, .int p2])).length) Slot.unset).toArray = ls at hl ⊢
  have hl : lv_has ls 4 [(0, .ref (a 0)), (1, .int p1), (2, .int p2)] := hl
  refine lv_aload_n hx hb dX4_cry_0 rfl (lv_at hl 0 rfl) ?_
  refine lv_iload_n hx hb dX4_cry_1 rfl (lv_at hl 1 rfl) ?_
  obtain ⟨r1, er1, hw⟩ := Option.bind_eq_some_iff.mp hw
  refine vp_callSi (va_runV (As := [.int p1]) (rest := []) ⟨hx, hb, hml, hown, hts⟩ (c_X4_isPlace l dC dI a cA X p1 r1 er1) ⟨callB_of 1 hts gd_X4_isPlace rfl rfl rfl (hts _ wd_39) (hts _ wd_643) hd_X4_isPlace ⟨Nat.le_of_ble_eq_true rfl, Nat.le_of_ble_eq_true rfl⟩, hts _ wd_645, hts _ wd_11⟩ ⟨blM, va_recv hK hP (ci := 4) (q0 := 0) rfl rfl, fun U hU hW => ⟨rfl, by rw [hU]; exact hP, va_K.moved hW.alike hK⟩⟩ rfl rfl hl.1 rfl (lv_room (Nat.le_of_ble_eq_true rfl)) dX4_cry_2 ⟨Nat.zero_le _, Nat.zero_le _⟩).run (fun r_ e_ => ?_)
  subst r_
  refine lv_if_ne (tgt := 11) hx hb dX4_cry_5 (by decide) (fun c2 => ?_) (fun c2 => ?_)
  · have hw := ite_f hw c2
    refine lv_iload_n hx hb dX4_cry_11 rfl (lv_at hl 2 rfl) ?_
    refine lv_i2l hx hb dX4_cry_12 rfl ?_
    refine lv_lconst (v := 1) hx hb dX4_cry_13 (by decide) ?_
    refine lv_ldc2 hx hb hown (hts _ wd_633) dX4_cry_14 ?_
    obtain ⟨r3, er3, hw⟩ := Option.bind_eq_some_iff.mp hw
    refine vp_callSi (va_runS (As := [.long (Int32.toInt64 p2), .long 1, .long 9]) (rest := []) ⟨hx, hb, hml, hown, hts⟩ (c_X4_in l (Int32.toInt64 p2) 1 9 r3 er3) ⟨callB_of 3 hts gd_X4_in rfl rfl rfl (hts _ wd_39) (hts _ wd_615) hd_X4_in ⟨Nat.le_of_ble_eq_true rfl, Nat.le_of_ble_eq_true rfl⟩, hts _ wd_616⟩ ⟨bl0, fun U hU hW => ⟨rfl, trivial⟩⟩ rfl rfl hl.1 rfl (lv_room (Nat.le_of_ble_eq_true rfl)) dX4_cry_17 ⟨Nat.zero_le _, Nat.zero_le _⟩).run (fun r_ e_ => ?_)
    subst r_
    refine lv_if_ne (tgt := 26) hx hb dX4_cry_20 (by decide) (fun c4 => ?_) (fun c4 => ?_)
    · have hw := ite_f hw c4
      refine lv_aload_n hx hb dX4_cry_26 rfl (lv_at hl 0 rfl) ?_
      refine va_get (D := (dC, dI)) (ci := 4) (v := .int (X.1 0 3)) (C := RX4) (T := TX4) (N := 29) hx hb hts iX4 hown hK hP 0 rfl rfl 3 (by decide) (hts _ wd_525) (fun _ h9 => h9) rfl dX4_cry_27 ?_
      refine lv_iload_n hx hb dX4_cry_30 rfl (lv_at hl 2 rfl) ?_
      refine lv_icmp_ge (tgt := 37) hx hb dX4_cry_31 (by decide) (fun c5 => ?_) (fun c5 => ?_)
      · have hw := ite_t hw c5
        refine lv_aload_n hx hb dX4_cry_37 rfl (lv_at hl 0 rfl) ?_
        refine lv_aload_n hx hb dX4_cry_38 rfl (lv_at hl 0 rfl) ?_
        refine va_get (D := (dC, dI)) (ci := 4) (v := .int (X.1 0 6)) (C := RX4) (T := TX4) (N := 29) hx hb hts iX4 hown hK hP 0 rfl rfl 6 (by decide) (hts _ wd_528) (fun _ h9 => h9) rfl dX4_cry_39 ?_
        obtain ⟨r6, er6, hw⟩ := Option.bind_eq_some_iff.mp hw
        refine vp_callSi (va_runV (As := [.int (X.1 0 6)]) (rest := []) ⟨hx, hb, hml, hown, hts⟩ (c_X4_knowing l dC dI a cA X (X.1 0 6) r6 er6) ⟨callB_of 1 hts gd_X4_knowing rfl rfl rfl (hts _ wd_39) (hts _ wd_672) hd_X4_knowing ⟨Nat.le_of_ble_eq_true rfl, Nat.le_of_ble_eq_true rfl⟩, hts _ wd_674, hts _ wd_15⟩ ⟨blM, va_recv hK hP (ci := 4) (q0 := 0) rfl rfl, fun U hU hW => ⟨rfl, by rw [hU]; exact hP, va_K.moved hW.alike hK⟩⟩ rfl rfl hl.1 rfl (lv_room (Nat.le_of_ble_eq_true rfl)) dX4_cry_42 ⟨Nat.zero_le _, Nat.zero_le _⟩).run (fun r_ e_ => ?_)
        subst r_
        obtain ⟨r7, er7, hw⟩ := Option.bind_eq_some_iff.mp hw
        refine vp_callSi (va_runS (As := [.int r6]) (rest := []) ⟨hx, hb, hml, hown, hts⟩ (c_X4_ones l r6 r7 er7) ⟨callB_of 1 hts gd_X4_ones rfl rfl rfl (hts _ wd_39) (hts _ wd_696) hd_X4_ones ⟨Nat.le_of_ble_eq_true rfl, Nat.le_of_ble_eq_true rfl⟩, hts _ wd_697⟩ ⟨bl0, fun U hU hW => ⟨rfl, trivial⟩⟩ rfl rfl hl.1 rfl (lv_room (Nat.le_of_ble_eq_true rfl)) dX4_cry_45 ⟨Nat.zero_le _, Nat.zero_le _⟩).run (fun r_ e_ => ?_)
        subst r_
        refine lv_istore_n (lv' := [(3, .int r7), (0, .ref (a 0)), (1, .int p1), (2, .int p2)]) hx hb dX4_cry_48 rfl hl (by decide) rfl (fun ls hl => ?_)
        refine lv_aload_n hx hb dX4_cry_49 rfl (lv_at hl 1 rfl) ?_
        refine lv_aload_n hx hb dX4_cry_50 rfl (lv_at hl 1 rfl) ?_
        refine lv_iload_n hx hb dX4_cry_51 rfl (lv_at hl 2 rfl) ?_
        refine lv_iload_n hx hb dX4_cry_52 rfl (lv_at hl 3 rfl) ?_
        refine lv_aload_n hx hb dX4_cry_53 rfl (lv_at hl 1 rfl) ?_
        obtain ⟨r8, er8, hw⟩ := Option.bind_eq_some_iff.mp hw
        refine vp_callSi (va_runV (As := []) (rest := [.int p2, .int p1, .ref (a 0), .ref (a 0)]) ⟨hx, hb, hml, hown, hts⟩ (c_X4_allListeners l dC dI a cA X r8 er8) ⟨callB_of 0 hts gd_X4_allListeners rfl rfl rfl (hts _ wd_39) (hts _ wd_699) hd_X4_allListeners ⟨Nat.le_of_ble_eq_true rfl, Nat.le_of_ble_eq_true rfl⟩, hts _ wd_701, hts _ wd_18⟩ ⟨blM, va_recv hK hP (ci := 4) (q0 := 0) rfl rfl, fun U hU hW => ⟨rfl, by rw [hU]; exact hP, va_K.moved hW.alike hK⟩⟩ rfl rfl hl.1 rfl (lv_room (Nat.le_of_ble_eq_true rfl)) dX4_cry_54 ⟨Nat.zero_le _, Nat.zero_le _⟩).run (fun r_ e_ => ?_)
        subst r_
        refine lv_aload_n hx hb dX4_cry_57 rfl (lv_at hl 1 rfl) ?_
        refine va_get (D := (dC, dI)) (ci := 4) (v := .int (X.1 0 6)) (C := RX4) (T := TX4) (N := 29) hx hb hts iX4 hown hK hP 0 rfl rfl 6 (by decide) (hts _ wd_528) (fun _ h9 => h9) rfl dX4_cry_58 ?_
        obtain ⟨r9, er9, hw⟩ := Option.bind_eq_some_iff.mp hw
        refine vp_callSi (va_runV (As := [.int p1, .int p2, .int r8, .int (X.1 0 6)]) (rest := [.ref (a 0)]) ⟨hx, hb, hml, hown, hts⟩ (c_X4_heardBy l dC dI a cA X p1 p2 r8 (X.1 0 6) r9 er9) ⟨callB_of 4 hts gd_X4_heardBy rfl rfl rfl (hts _ wd_39) (hts _ wd_703) hd_X4_heardBy ⟨Nat.le_of_ble_eq_true rfl, Nat.le_of_ble_eq_true rfl⟩, hts _ wd_705, hts _ wd_19⟩ ⟨blM, va_recv hK hP (ci := 4) (q0 := 0) rfl rfl, fun U hU hW => ⟨rfl, by rw [hU]; exact hP, va_K.moved hW.alike hK⟩⟩ rfl rfl hl.1 rfl (lv_room (Nat.le_of_ble_eq_true rfl)) dX4_cry_61 ⟨Nat.zero_le _, Nat.zero_le _⟩).run (fun r_ e_ => ?_)
        subst r_
        refine va_put (D := (dC, dI)) (ci := 4) (v := .int r9) (ty := .int) (C := RX4) (T := TX4) (N := 29) hx hb hts iX4 tyX4 tyX4_ok nmX4 hown hK hP (wmD hD0) hS 0 rfl rfl 6 (by decide) (hts _ wd_528) (fun _ h9 => h9) rfl (by decide +kernel) rfl rfl (Nat.le_of_ble_eq_true rfl) dX4_cry_64 (fun H locs hP hD_ hS => ?_)
        obtain ⟨X10, eX10⟩ : ∃ y : MS, y = (ups X.1 0 6 r9, X.2) := ⟨_, rfl⟩
        have hw := stp_use hw eX10
        have hP : va_P (dC, dI) classes (wm a cA X10) H := by rw [eX10]; exact hP
        refine lv_aload_n hx hb dX4_cry_67 rfl (lv_at hl 1 rfl) ?_
        refine lv_dup hx hb dX4_cry_68 rfl ?_
        refine va_get (D := (dC, dI)) (ci := 4) (v := .int (X10.1 0 3)) (C := RX4) (T := TX4) (N := 29) hx hb hts iX4 hown hK hP 0 rfl rfl 3 (by decide) (hts _ wd_525) (fun _ h9 => h9) rfl dX4_cry_69 ?_
        refine lv_iconst (v := 1) hx hb dX4_cry_72 (by decide) ?_
        refine lv_isub hx hb dX4_cry_73 ?_
        refine lv_topi (fun x11 ex11 => ?_)
        have hw := stp_use hw ex11
        refine va_put (D := (dC, dI)) (ci := 4) (v := .int x11) (ty := .int) (C := RX4) (T := TX4) (N := 29) hx hb hts iX4 tyX4 tyX4_ok nmX4 hown hK hP (wmD hD0) hS 0 rfl rfl 3 (by decide) (hts _ wd_525) (fun _ h9 => h9) rfl (by decide +kernel) rfl rfl (Nat.le_of_ble_eq_true rfl) dX4_cry_74 (fun H locs hP hD_ hS => ?_)
        obtain ⟨X12, eX12⟩ : ∃ y : MS, y = (ups X10.1 0 3 x11, X10.2) := ⟨_, rfl⟩
        have hw := stp_use hw eX12
        have hP : va_P (dC, dI) classes (wm a cA X12) H := by rw [eX12]; exact hP
        refine lv_aload_n hx hb dX4_cry_77 rfl (lv_at hl 1 rfl) ?_
        refine lv_dup hx hb dX4_cry_78 rfl ?_
        refine va_get (D := (dC, dI)) (ci := 4) (v := .int (X12.1 0 5)) (C := RX4) (T := TX4) (N := 29) hx hb hts iX4 hown hK hP 0 rfl rfl 5 (by decide) (hts _ wd_527) (fun _ h9 => h9) rfl dX4_cry_79 ?_
        refine lv_iconst (v := 1) hx hb dX4_cry_82 (by decide) ?_
        refine lv_iadd hx hb dX4_cry_83 ?_
        refine lv_topi (fun x13 ex13 => ?_)
        have hw := stp_use hw ex13
        refine va_put (D := (dC, dI)) (ci := 4) (v := .int x13) (ty := .int) (C := RX4) (T := TX4) (N := 29) hx hb hts iX4 tyX4 tyX4_ok nmX4 hown hK hP (wmD hD0) hS 0 rfl rfl 5 (by decide) (hts _ wd_527) (fun _ h9 => h9) rfl (by decide +kernel) rfl rfl (Nat.le_of_ble_eq_true rfl) dX4_cry_84 (fun H locs hP hD_ hS => ?_)
        obtain ⟨X14, eX14⟩ : ∃ y : MS, y = (ups X12.1 0 5 x13, X12.2) := ⟨_, rfl⟩
        have hw := stp_use hw eX14
        have hP : va_P (dC, dI) classes (wm a cA X14) H := by rw [eX14]; exact hP
        refine lv_aload_n hx hb dX4_cry_87 rfl (lv_at hl 1 rfl) ?_
        refine lv_aload_n hx hb dX4_cry_88 rfl (lv_at hl 1 rfl) ?_
        refine va_get (D := (dC, dI)) (ci := 4) (v := .int (X14.1 0 6)) (C := RX4) (T := TX4) (N := 29) hx hb hts iX4 hown hK hP 0 rfl rfl 6 (by decide) (hts _ wd_528) (fun _ h9 => h9) rfl dX4_cry_89 ?_
        obtain ⟨r15, er15, hw⟩ := Option.bind_eq_some_iff.mp hw
        refine vp_callSi (va_runV (As := [.int (X14.1 0 6)]) (rest := []) ⟨hx, hb, hml, hown, hts⟩ (c_X4_knowing l dC dI a cA X14 (X14.1 0 6) r15 er15) ⟨callB_of 1 hts gd_X4_knowing rfl rfl rfl (hts _ wd_39) (hts _ wd_672) hd_X4_knowing ⟨Nat.le_of_ble_eq_true rfl, Nat.le_of_ble_eq_true rfl⟩, hts _ wd_674, hts _ wd_15⟩ ⟨blM, va_recv hK hP (ci := 4) (q0 := 0) rfl rfl, fun U hU hW => ⟨rfl, by rw [hU]; exact hP, va_K.moved hW.alike hK⟩⟩ rfl rfl hl.1 rfl (lv_room (Nat.le_of_ble_eq_true rfl)) dX4_cry_92 ⟨Nat.zero_le _, Nat.zero_le _⟩).run (fun r_ e_ => ?_)
        subst r_
        obtain ⟨r16, er16, hw⟩ := Option.bind_eq_some_iff.mp hw
        refine vp_callSi (va_runS (As := [.int r15]) (rest := []) ⟨hx, hb, hml, hown, hts⟩ (c_X4_ones l r15 r16 er16) ⟨callB_of 1 hts gd_X4_ones rfl rfl rfl (hts _ wd_39) (hts _ wd_696) hd_X4_ones ⟨Nat.le_of_ble_eq_true rfl, Nat.le_of_ble_eq_true rfl⟩, hts _ wd_697⟩ ⟨bl0, fun U hU hW => ⟨rfl, trivial⟩⟩ rfl rfl hl.1 rfl (lv_room (Nat.le_of_ble_eq_true rfl)) dX4_cry_95 ⟨Nat.zero_le _, Nat.zero_le _⟩).run (fun r_ e_ => ?_)
        subst r_
        refine lv_iload_n hx hb dX4_cry_98 rfl (lv_at hl 0 rfl) ?_
        refine lv_isub hx hb dX4_cry_99 ?_
        exact hret _ _ _ _ _ _ (Option.some.inj hw) hP hS dX4_cry_100
      · have hw := ite_f hw c5
        refine lv_bipush (v := (-103)) hx hb dX4_cry_34 (by decide) ?_
        exact hret _ _ _ _ _ _ (Option.some.inj hw) hP hS dX4_cry_36
    · have hw := ite_t hw c4
      refine lv_bipush (v := (-102)) hx hb dX4_cry_23 (by decide) ?_
      exact hret _ _ _ _ _ _ (Option.some.inj hw) hP hS dX4_cry_25
  · have hw := ite_t hw c2
    refine lv_bipush (v := (-101)) hx hb dX4_cry_8 (by decide) ?_
    exact hret _ _ _ _ _ _ (Option.some.inj hw) hP hS dX4_cry_10
set_option maxHeartbeats 4000000 in
set_option maxRecDepth 100000 in
theorem c_X3_would (l : Launch) (dC : Nat → ClassId) (dI : Nat → Nat → Nat) (a : Nat → Nat) (cA : ClassId) (X : WS) (p1 : Int32) (p2 : Int32) (out : Int32) (hw : f_X3_would X p1 p2 = some out) : Met l yX3_would (.code yX3_would cX3_would 3 (some .int) :: lw_g) ({ frames := 3, cells := 0, slots := 0, locals := 77 }) (PcX dC dI a cA X [.ref (a 0), .int p1, .int p2]) (vp_Si (fun r_ => r_ = out)) 0 0 (fun _ => False) := by
  unfold f_X3_would at hw
  refine Met.ofW (cc := cX3_would) (maxL := 3) (ret := (some .int)) (by decide) rfl ?_
  intro p e s m args below meth c s₁ B hml hv
  obtain ⟨rfl, hP, hK, hN⟩ := hv
  have hx := B.exec
  have hb := B.bytes
  have hr := B.returns
  have hts0 := atoms_spec (ws := (.code yX3_would cX3_would 3 (some .int) :: lw_g)) B.pre
  have hts : ∀ w ∈ lw_g, w.before (([.ref (a 0), .int p1, .int p2] : List Value).toArray) s = true := fun w h => hts0 w (List.mem_cons_of_mem _ h)
  clear hts0
  have hown : s.vm.findClass RX3 = some m.cls := findClass_of_methodNamed B.named
  have hlocks := B.notSynchronized
  have hret : ∀ (pc : Nat) (ls : Array Slot) (v : Int32), v = out → decode cX3_would pc = .ok (.ireturn, 1) → W p l e ({ frames := 3, cells := 0, slots := 0, locals := 77 }) s m (([.ref (a 0), .int p1, .int p2] : List Value).toArray) below meth c s.heap [] 0 0 (MQ below (vp_Si (fun r_ => r_ = out)) (([.ref (a 0), .int p1, .int p2] : List Value).toArray) s 0 0 (fun _ => False)) (F0 m pc ls [.int v]) := fun pc ls v hv hd => W.iret hx hb hr (fun t ht hW => ⟨v, rfl, hv, ht⟩) (fun q hq => absurd hq List.not_mem_nil) hd
  show W p l e ({ frames := 3, cells := 0, slots := 0, locals := 77 }) s m (([.ref (a 0), .int p1, .int p2] : List Value).toArray) below meth c s.heap [] 0 0 (MQ below (vp_Si (fun r_ => r_ = out)) (([.ref (a 0), .int p1, .int p2] : List Value).toArray) s 0 0 (fun _ => False)) (entryFrame m (([.ref (a 0), .int p1, .int p2] : List Value).toArray) 3)
  generalize MQ below (vp_Si (fun r_ => r_ = out)) (([.ref (a 0), .int p1, .int p2] : List Value).toArray) s 0 0 (fun _ => False) = Q at hret ⊢
  have hl := lv_entry ([.ref (a 0), .int p1, .int p2]) (n := 3) (Nat.le_of_ble_eq_true rfl)
  rw [lg_entry_eq]
  generalize (lg_sl ([.ref (a 0), .int p1, .int p2]) ++ List.replicate (3 - (lg_sl ([.ref (a 0), .int p1, .int p2])).length) Slot.unset).toArray = ls at hl ⊢
  have hl : lv_has ls 3 [(0, .ref (a 0)), (1, .int p1), (2, .int p2)] := hl
  refine lv_aload_n hx hb dX3_would_0 rfl (lv_at hl 0 rfl) ?_
  refine lv_iload_n hx hb dX3_would_1 rfl (lv_at hl 1 rfl) ?_
  obtain ⟨r1, er1, hw⟩ := Option.bind_eq_some_iff.mp hw
  refine vp_callSi (va_runV (As := [.int p1]) (rest := []) ⟨hx, hb, hml, hown, hts⟩ (c_X3_isPlace l dC dI a cA X p1 r1 er1) ⟨callB_of 1 hts gd_X3_isPlace rfl rfl rfl (hts _ wd_35) (hts _ wd_253) hd_X3_isPlace ⟨Nat.le_of_ble_eq_true rfl, Nat.le_of_ble_eq_true rfl⟩, hts _ wd_255, hts _ wd_0⟩ ⟨blX, va_recv hK hP (ci := 3) (q0 := 0) rfl rfl, fun U hU hW => ⟨rfl, by rw [hU]; exact hP, va_K.moved hW.alike hK, nst.warm hW hN⟩⟩ rfl rfl hl.1 rfl (lv_room (Nat.le_of_ble_eq_true rfl)) dX3_would_2 ⟨Nat.zero_le _, Nat.zero_le _⟩).run (fun r_ e_ => ?_)
  subst r_
  refine lv_if_ne (tgt := 11) hx hb dX3_would_5 (by decide) (fun c2 => ?_) (fun c2 => ?_)
  · have hw := ite_f hw c2
    refine lv_iload_n hx hb dX3_would_11 rfl (lv_at hl 2 rfl) ?_
    obtain ⟨r3, er3, hw⟩ := Option.bind_eq_some_iff.mp hw
    refine vp_callSi (va_runS (As := [.int p2]) (rest := []) ⟨hx, hb, hml, hown, hts⟩ (c_X3_isLoud l p2 r3 er3) ⟨callB_of 1 hts gd_X3_isLoud rfl rfl rfl (hts _ wd_35) (hts _ wd_312) hd_X3_isLoud ⟨Nat.le_of_ble_eq_true rfl, Nat.le_of_ble_eq_true rfl⟩, hts _ wd_313⟩ ⟨bl0, fun U hU hW => ⟨rfl, trivial⟩⟩ rfl rfl hl.1 rfl (lv_room (Nat.le_of_ble_eq_true rfl)) dX3_would_12 ⟨Nat.zero_le _, Nat.zero_le _⟩).run (fun r_ e_ => ?_)
    subst r_
    refine lv_if_ne (tgt := 21) hx hb dX3_would_15 (by decide) (fun c4 => ?_) (fun c4 => ?_)
    · have hw := ite_f hw c4
      refine lv_aload_n hx hb dX3_would_21 rfl (lv_at hl 0 rfl) ?_
      refine va_get (D := (dC, dI)) (ci := 3) (v := .ref (a 3)) (C := RX3) (T := TX3) (N := 6) hx hb hts iX3 hown hK hP 0 rfl rfl 1 (by decide) (hts _ wd_179) (fun _ h9 => h9) rfl dX3_would_22 ?_
      refine lv_aload_n hx hb dX3_would_25 rfl (lv_at hl 0 rfl) ?_
      refine va_get (D := (dC, dI)) (ci := 3) (v := .ref (a 3)) (C := RX3) (T := TX3) (N := 6) hx hb hts iX3 hown hK hP 0 rfl rfl 1 (by decide) (hts _ wd_179) (fun _ h9 => h9) rfl dX3_would_26 ?_
      refine lv_aload_n hx hb dX3_would_29 rfl (lv_at hl 0 rfl) ?_
      refine va_get (D := (dC, dI)) (ci := 3) (v := .ref (a 3)) (C := RX3) (T := TX3) (N := 6) hx hb hts iX3 hown hK hP 0 rfl rfl 1 (by decide) (hts _ wd_179) (fun _ h9 => h9) rfl dX3_would_30 ?_
      refine va_getN (D := (dC, dI)) (ci := 2) (v := .int (X 3 7)) (C := RX2) (T := TX2) (N := 17) hx hb hts iX2 hown hK hP 3 rfl rfl 7 (by decide) (va_Nw.use rfl (hN _ nk_88)) (fun _ h9 => h9) rfl dX3_would_33 ?_
      refine lv_iload_n hx hb dX3_would_36 rfl (lv_at hl 1 rfl) ?_
      refine lv_iload_n hx hb dX3_would_37 rfl (lv_at hl 2 rfl) ?_
      refine lv_iconst (v := 0) hx hb dX3_would_38 (by decide) ?_
      obtain ⟨r5, er5, hw⟩ := Option.bind_eq_some_iff.mp hw
      refine vp_callSi (va_runV (As := [.int (X 3 7), .int p1, .int p2, .int 0]) (rest := [.ref (a 3)]) ⟨hx, hb, hml, hown, hts⟩ (c_X2_spread l dC dI a cA X (X 3 7) p1 p2 0 r5 er5) ⟨callB_of 4 hts gd_X2_spread rfl rfl rfl (hts _ wd_37) (hts _ wd_342) hd_X2_spread ⟨Nat.le_of_ble_eq_true rfl, Nat.le_of_ble_eq_true rfl⟩, hts _ wd_320, hts _ wd_321⟩ ⟨blX, va_recv hK hP (ci := 2) (q0 := 3) rfl rfl, fun U hU hW => ⟨rfl, by rw [hU]; exact hP, va_K.moved hW.alike hK, nst.warm hW hN⟩⟩ rfl rfl hl.1 rfl (lv_room (Nat.le_of_ble_eq_true rfl)) dX3_would_39 ⟨Nat.zero_le _, Nat.zero_le _⟩).run (fun r_ e_ => ?_)
      subst r_
      obtain ⟨r6, er6, hw⟩ := Option.bind_eq_some_iff.mp hw
      refine vp_callSi (va_runV (As := [.int r5]) (rest := []) ⟨hx, hb, hml, hown, hts⟩ (c_X2_knowing l dC dI a cA X r5 r6 er6) ⟨callB_of 1 hts gd_X2_knowing rfl rfl rfl (hts _ wd_37) (hts _ wd_290) hd_X2_knowing ⟨Nat.le_of_ble_eq_true rfl, Nat.le_of_ble_eq_true rfl⟩, hts _ wd_291, hts _ wd_292⟩ ⟨blX, va_recv hK hP (ci := 2) (q0 := 3) rfl rfl, fun U hU hW => ⟨rfl, by rw [hU]; exact hP, va_K.moved hW.alike hK, nst.warm hW hN⟩⟩ rfl rfl hl.1 rfl (lv_room (Nat.le_of_ble_eq_true rfl)) dX3_would_42 ⟨Nat.zero_le _, Nat.zero_le _⟩).run (fun r_ e_ => ?_)
      subst r_
      exact hret _ _ _ (Option.some.inj hw) dX3_would_45
    · have hw := ite_t hw c4
      refine lv_bipush (v := (-102)) hx hb dX3_would_18 (by decide) ?_
      exact hret _ _ _ (Option.some.inj hw) dX3_would_20
  · have hw := ite_t hw c2
    refine lv_bipush (v := (-101)) hx hb dX3_would_8 (by decide) ?_
    exact hret _ _ _ (Option.some.inj hw) dX3_would_10
set_option maxHeartbeats 4000000 in
set_option maxRecDepth 100000 in
theorem c_X4_knowThen (l : Launch) (dC : Nat → ClassId) (dI : Nat → Nat → Nat) (a : Nat → Nat) (cA : ClassId) (X : MS) (p1 : Int32) (p2 : Int32) (p3 : Int32) (out : Int32) (hw : f_X4_knowThen X p1 p2 p3 = some out) : Met l yX4_knowThen (.code yX4_knowThen cX4_knowThen 4 (some .int) :: lw_g) ({ frames := 3, cells := 0, slots := 0, locals := 78 }) (PcM dC dI a cA X [.ref (a 0), .int p1, .int p2, .int p3]) (vp_Si (fun r_ => r_ = out)) 0 0 (fun _ => False) := by
  unfold f_X4_knowThen at hw
  refine Met.ofW (cc := cX4_knowThen) (maxL := 4) (ret := (some .int)) (by decide) rfl ?_
  intro p e s m args below meth c s₁ B hml hv
  obtain ⟨rfl, hP, hK⟩ := hv
  have hx := B.exec
  have hb := B.bytes
  have hr := B.returns
  have hts0 := atoms_spec (ws := (.code yX4_knowThen cX4_knowThen 4 (some .int) :: lw_g)) B.pre
  have hts : ∀ w ∈ lw_g, w.before (([.ref (a 0), .int p1, .int p2, .int p3] : List Value).toArray) s = true := fun w h => hts0 w (List.mem_cons_of_mem _ h)
  clear hts0
  have hown : s.vm.findClass RX4 = some m.cls := findClass_of_methodNamed B.named
  have hlocks := B.notSynchronized
  have hret : ∀ (pc : Nat) (ls : Array Slot) (v : Int32), v = out → decode cX4_knowThen pc = .ok (.ireturn, 1) → W p l e ({ frames := 3, cells := 0, slots := 0, locals := 78 }) s m (([.ref (a 0), .int p1, .int p2, .int p3] : List Value).toArray) below meth c s.heap [] 0 0 (MQ below (vp_Si (fun r_ => r_ = out)) (([.ref (a 0), .int p1, .int p2, .int p3] : List Value).toArray) s 0 0 (fun _ => False)) (F0 m pc ls [.int v]) := fun pc ls v hv hd => W.iret hx hb hr (fun t ht hW => ⟨v, rfl, hv, ht⟩) (fun q hq => absurd hq List.not_mem_nil) hd
  show W p l e ({ frames := 3, cells := 0, slots := 0, locals := 78 }) s m (([.ref (a 0), .int p1, .int p2, .int p3] : List Value).toArray) below meth c s.heap [] 0 0 (MQ below (vp_Si (fun r_ => r_ = out)) (([.ref (a 0), .int p1, .int p2, .int p3] : List Value).toArray) s 0 0 (fun _ => False)) (entryFrame m (([.ref (a 0), .int p1, .int p2, .int p3] : List Value).toArray) 4)
  generalize MQ below (vp_Si (fun r_ => r_ = out)) (([.ref (a 0), .int p1, .int p2, .int p3] : List Value).toArray) s 0 0 (fun _ => False) = Q at hret ⊢
  have hl := lv_entry ([.ref (a 0), .int p1, .int p2, .int p3]) (n := 4) (Nat.le_of_ble_eq_true rfl)
  rw [lg_entry_eq]
  generalize (lg_sl ([.ref (a 0), .int p1, .int p2, .int p3]) ++ List.replicate (4 - (lg_sl ([.ref (a 0), .int p1, .int p2, .int p3])).length) Slot.unset).toArray = ls at hl ⊢
  have hl : lv_has ls 4 [(0, .ref (a 0)), (1, .int p1), (2, .int p2), (3, .int p3)] := hl
  refine lv_aload_n hx hb dX4_knowThen_0 rfl (lv_at hl 0 rfl) ?_
  refine lv_aload_n hx hb dX4_knowThen_1 rfl (lv_at hl 0 rfl) ?_
  refine lv_iload_n hx hb dX4_knowThen_2 rfl (lv_at hl 1 rfl) ?_
  refine lv_iload_n hx hb dX4_knowThen_3 rfl (lv_at hl 2 rfl) ?_
  refine lv_aload_n hx hb dX4_knowThen_4 rfl (lv_at hl 0 rfl) ?_
  obtain ⟨r1, er1, hw⟩ := Option.bind_eq_some_iff.mp hw
  refine vp_callSi (va_runV (As := []) (rest := [.int p2, .int p1, .ref (a 0), .ref (a 0)]) ⟨hx, hb, hml, hown, hts⟩ (c_X4_allListeners l dC dI a cA X r1 er1) ⟨callB_of 0 hts gd_X4_allListeners rfl rfl rfl (hts _ wd_39) (hts _ wd_699) hd_X4_allListeners ⟨Nat.le_of_ble_eq_true rfl, Nat.le_of_ble_eq_true rfl⟩, hts _ wd_701, hts _ wd_18⟩ ⟨blM, va_recv hK hP (ci := 4) (q0 := 0) rfl rfl, fun U hU hW => ⟨rfl, by rw [hU]; exact hP, va_K.moved hW.alike hK⟩⟩ rfl rfl hl.1 rfl (lv_room (Nat.le_of_ble_eq_true rfl)) dX4_knowThen_5 ⟨Nat.zero_le _, Nat.zero_le _⟩).run (fun r_ e_ => ?_)
  subst r_
  refine lv_iload_n hx hb dX4_knowThen_8 rfl (lv_at hl 3 rfl) ?_
  obtain ⟨r2, er2, hw⟩ := Option.bind_eq_some_iff.mp hw
  refine vp_callSi (va_runV (As := [.int p1, .int p2, .int r1, .int p3]) (rest := [.ref (a 0)]) ⟨hx, hb, hml, hown, hts⟩ (c_X4_heardBy l dC dI a cA X p1 p2 r1 p3 r2 er2) ⟨callB_of 4 hts gd_X4_heardBy rfl rfl rfl (hts _ wd_39) (hts _ wd_703) hd_X4_heardBy ⟨Nat.le_of_ble_eq_true rfl, Nat.le_of_ble_eq_true rfl⟩, hts _ wd_705, hts _ wd_19⟩ ⟨blM, va_recv hK hP (ci := 4) (q0 := 0) rfl rfl, fun U hU hW => ⟨rfl, by rw [hU]; exact hP, va_K.moved hW.alike hK⟩⟩ rfl rfl hl.1 rfl (lv_room (Nat.le_of_ble_eq_true rfl)) dX4_knowThen_9 ⟨Nat.zero_le _, Nat.zero_le _⟩).run (fun r_ e_ => ?_)
  subst r_
  obtain ⟨r3, er3, hw⟩ := Option.bind_eq_some_iff.mp hw
  refine vp_callSi (va_runV (As := [.int r2]) (rest := []) ⟨hx, hb, hml, hown, hts⟩ (c_X4_knowing l dC dI a cA X r2 r3 er3) ⟨callB_of 1 hts gd_X4_knowing rfl rfl rfl (hts _ wd_39) (hts _ wd_672) hd_X4_knowing ⟨Nat.le_of_ble_eq_true rfl, Nat.le_of_ble_eq_true rfl⟩, hts _ wd_674, hts _ wd_15⟩ ⟨blM, va_recv hK hP (ci := 4) (q0 := 0) rfl rfl, fun U hU hW => ⟨rfl, by rw [hU]; exact hP, va_K.moved hW.alike hK⟩⟩ rfl rfl hl.1 rfl (lv_room (Nat.le_of_ble_eq_true rfl)) dX4_knowThen_12 ⟨Nat.zero_le _, Nat.zero_le _⟩).run (fun r_ e_ => ?_)
  subst r_
  exact hret _ _ _ (Option.some.inj hw) dX4_knowThen_15
set_option maxHeartbeats 4000000 in
set_option maxRecDepth 100000 in
theorem c_X4_would (l : Launch) (dC : Nat → ClassId) (dI : Nat → Nat → Nat) (a : Nat → Nat) (cA : ClassId) (X : MS) (p1 : Int32) (p2 : Int32) (out : Int32) (hw : f_X4_would X p1 p2 = some out) : Met l yX4_would (.code yX4_would cX4_would 3 (some .int) :: lw_g) ({ frames := 4, cells := 0, slots := 0, locals := 101 }) (PcM dC dI a cA X [.ref (a 0), .int p1, .int p2]) (vp_Si (fun r_ => r_ = out)) 0 0 (fun _ => False) := by
  unfold f_X4_would at hw
  refine Met.ofW (cc := cX4_would) (maxL := 3) (ret := (some .int)) (by decide) rfl ?_
  intro p e s m args below meth c s₁ B hml hv
  obtain ⟨rfl, hP, hK⟩ := hv
  have hx := B.exec
  have hb := B.bytes
  have hr := B.returns
  have hts0 := atoms_spec (ws := (.code yX4_would cX4_would 3 (some .int) :: lw_g)) B.pre
  have hts : ∀ w ∈ lw_g, w.before (([.ref (a 0), .int p1, .int p2] : List Value).toArray) s = true := fun w h => hts0 w (List.mem_cons_of_mem _ h)
  clear hts0
  have hown : s.vm.findClass RX4 = some m.cls := findClass_of_methodNamed B.named
  have hlocks := B.notSynchronized
  have hret : ∀ (pc : Nat) (ls : Array Slot) (v : Int32), v = out → decode cX4_would pc = .ok (.ireturn, 1) → W p l e ({ frames := 4, cells := 0, slots := 0, locals := 101 }) s m (([.ref (a 0), .int p1, .int p2] : List Value).toArray) below meth c s.heap [] 0 0 (MQ below (vp_Si (fun r_ => r_ = out)) (([.ref (a 0), .int p1, .int p2] : List Value).toArray) s 0 0 (fun _ => False)) (F0 m pc ls [.int v]) := fun pc ls v hv hd => W.iret hx hb hr (fun t ht hW => ⟨v, rfl, hv, ht⟩) (fun q hq => absurd hq List.not_mem_nil) hd
  show W p l e ({ frames := 4, cells := 0, slots := 0, locals := 101 }) s m (([.ref (a 0), .int p1, .int p2] : List Value).toArray) below meth c s.heap [] 0 0 (MQ below (vp_Si (fun r_ => r_ = out)) (([.ref (a 0), .int p1, .int p2] : List Value).toArray) s 0 0 (fun _ => False)) (entryFrame m (([.ref (a 0), .int p1, .int p2] : List Value).toArray) 3)
  generalize MQ below (vp_Si (fun r_ => r_ = out)) (([.ref (a 0), .int p1, .int p2] : List Value).toArray) s 0 0 (fun _ => False) = Q at hret ⊢
  have hl := lv_entry ([.ref (a 0), .int p1, .int p2]) (n := 3) (Nat.le_of_ble_eq_true rfl)
  rw [lg_entry_eq]
  generalize (lg_sl ([.ref (a 0), .int p1, .int p2]) ++ List.replicate (3 - (lg_sl ([.ref (a 0), .int p1, .int p2])).length) Slot.unset).toArray = ls at hl ⊢
  have hl : lv_has ls 3 [(0, .ref (a 0)), (1, .int p1), (2, .int p2)] := hl
  refine lv_aload_n hx hb dX4_would_0 rfl (lv_at hl 0 rfl) ?_
  refine lv_iload_n hx hb dX4_would_1 rfl (lv_at hl 1 rfl) ?_
  obtain ⟨r1, er1, hw⟩ := Option.bind_eq_some_iff.mp hw
  refine vp_callSi (va_runV (As := [.int p1]) (rest := []) ⟨hx, hb, hml, hown, hts⟩ (c_X4_isPlace l dC dI a cA X p1 r1 er1) ⟨callB_of 1 hts gd_X4_isPlace rfl rfl rfl (hts _ wd_39) (hts _ wd_643) hd_X4_isPlace ⟨Nat.le_of_ble_eq_true rfl, Nat.le_of_ble_eq_true rfl⟩, hts _ wd_645, hts _ wd_11⟩ ⟨blM, va_recv hK hP (ci := 4) (q0 := 0) rfl rfl, fun U hU hW => ⟨rfl, by rw [hU]; exact hP, va_K.moved hW.alike hK⟩⟩ rfl rfl hl.1 rfl (lv_room (Nat.le_of_ble_eq_true rfl)) dX4_would_2 ⟨Nat.zero_le _, Nat.zero_le _⟩).run (fun r_ e_ => ?_)
  subst r_
  refine lv_if_ne (tgt := 11) hx hb dX4_would_5 (by decide) (fun c2 => ?_) (fun c2 => ?_)
  · have hw := ite_f hw c2
    refine lv_iload_n hx hb dX4_would_11 rfl (lv_at hl 2 rfl) ?_
    refine lv_i2l hx hb dX4_would_12 rfl ?_
    refine lv_lconst (v := 1) hx hb dX4_would_13 (by decide) ?_
    refine lv_ldc2 hx hb hown (hts _ wd_633) dX4_would_14 ?_
    obtain ⟨r3, er3, hw⟩ := Option.bind_eq_some_iff.mp hw
    refine vp_callSi (va_runS (As := [.long (Int32.toInt64 p2), .long 1, .long 9]) (rest := []) ⟨hx, hb, hml, hown, hts⟩ (c_X4_in l (Int32.toInt64 p2) 1 9 r3 er3) ⟨callB_of 3 hts gd_X4_in rfl rfl rfl (hts _ wd_39) (hts _ wd_615) hd_X4_in ⟨Nat.le_of_ble_eq_true rfl, Nat.le_of_ble_eq_true rfl⟩, hts _ wd_616⟩ ⟨bl0, fun U hU hW => ⟨rfl, trivial⟩⟩ rfl rfl hl.1 rfl (lv_room (Nat.le_of_ble_eq_true rfl)) dX4_would_17 ⟨Nat.zero_le _, Nat.zero_le _⟩).run (fun r_ e_ => ?_)
    subst r_
    refine lv_if_eq (tgt := 36) hx hb dX4_would_20 (by decide) (fun c4 => ?_) (fun c4 => ?_)
    · have hw := ite_t hw c4
      refine lv_bipush (v := (-102)) hx hb dX4_would_36 (by decide) ?_
      exact hret _ _ _ (Option.some.inj hw) dX4_would_38
    · have hw := ite_f hw c4
      refine lv_aload_n hx hb dX4_would_23 rfl (lv_at hl 0 rfl) ?_
      refine lv_iload_n hx hb dX4_would_24 rfl (lv_at hl 1 rfl) ?_
      refine lv_iload_n hx hb dX4_would_25 rfl (lv_at hl 2 rfl) ?_
      refine lv_aload_n hx hb dX4_would_26 rfl (lv_at hl 0 rfl) ?_
      refine va_get (D := (dC, dI)) (ci := 4) (v := .int (X.1 0 6)) (C := RX4) (T := TX4) (N := 29) hx hb hts iX4 hown hK hP 0 rfl rfl 6 (by decide) (hts _ wd_528) (fun _ h9 => h9) rfl dX4_would_27 ?_
      obtain ⟨r5, er5, hw⟩ := Option.bind_eq_some_iff.mp hw
      refine vp_callSi (va_runV (As := [.int p1, .int p2, .int (X.1 0 6)]) (rest := []) ⟨hx, hb, hml, hown, hts⟩ (c_X4_knowThen l dC dI a cA X p1 p2 (X.1 0 6) r5 er5) ⟨callB_of 3 hts gd_X4_knowThen rfl rfl rfl (hts _ wd_39) (hts _ wd_715) hd_X4_knowThen ⟨Nat.le_of_ble_eq_true rfl, Nat.le_of_ble_eq_true rfl⟩, hts _ wd_717, hts _ wd_21⟩ ⟨blM, va_recv hK hP (ci := 4) (q0 := 0) rfl rfl, fun U hU hW => ⟨rfl, by rw [hU]; exact hP, va_K.moved hW.alike hK⟩⟩ rfl rfl hl.1 rfl (lv_room (Nat.le_of_ble_eq_true rfl)) dX4_would_30 ⟨Nat.zero_le _, Nat.zero_le _⟩).run (fun r_ e_ => ?_)
      subst r_
      refine lv_goto (tgt := 38) hx hb dX4_would_33 (by decide) ?_
      exact hret _ _ _ (Option.some.inj hw) dX4_would_38
  · have hw := ite_t hw c2
    refine lv_bipush (v := (-101)) hx hb dX4_would_8 (by decide) ?_
    exact hret _ _ _ (Option.some.inj hw) dX4_would_10
theorem mm_use {c : Prop} {h : Decidable c} {a b r : Int32} (e : (@ite (Option Int32) c h (some a) (some b)) = some r) : (@ite Int32 c h a b) = r := by by_cases q : c <;> simp_all
set_option maxHeartbeats 4000000 in
set_option maxRecDepth 100000 in
theorem c_X2_sweeten (l : Launch) (dC : Nat → ClassId) (dI : Nat → Nat → Nat) (A : Nat → Prop) (a : Nat → Nat) (cA : ClassId) (X : WS) (out : (Int32 × WS)) (hw : f_X2_sweeten X = some out) : Met l yX2_sweeten (.code yX2_sweeten cX2_sweeten 1 (some .int) :: lw_g) ({ frames := 1, cells := 0, slots := 0, locals := 60 }) (PcXD dC dI A a cA X [.ref (a 3)]) (va_Qi (fun (r_ : Int32) (X_ : WS) => out = (r_, X_)) (fun X_ t => va_P (dC, dI) classes (wl a cA X_) t.heap ∧ va_K (dC, dI) classes [(cA, .int)] t) A) 0 0 (A) := by
  unfold f_X2_sweeten at hw
  refine Met.ofW (cc := cX2_sweeten) (maxL := 1) (ret := (some .int)) (by decide) rfl ?_
  intro p e s m args below meth c s₁ B hml hv
  obtain ⟨rfl, hP, hK, hN, hD0⟩ := hv
  have hx := B.exec
  have hb := B.bytes
  have hr := B.returns
  have hts0 := atoms_spec (ws := (.code yX2_sweeten cX2_sweeten 1 (some .int) :: lw_g)) B.pre
  have hts : ∀ w ∈ lw_g, w.before (([.ref (a 3)] : List Value).toArray) s = true := fun w h => hts0 w (List.mem_cons_of_mem _ h)
  clear hts0
  have hown : s.vm.findClass RX2 = some m.cls := findClass_of_methodNamed B.named
  have hlocks := B.notSynchronized
  have hret : ∀ (pc : Nat) (ls : Array Slot) (v : Int32) (X_ : WS) (H : Heap) (locs : List Loc), (v, X_) = out → va_P (dC, dI) classes (wl a cA X_) H → va_S A s.heap H locs → decode cX2_sweeten pc = .ok (.ireturn, 1) → W p l e ({ frames := 1, cells := 0, slots := 0, locals := 60 }) s m (([.ref (a 3)] : List Value).toArray) below meth c H locs 0 0 (MQ below (va_Qi (fun (r_ : Int32) (X_ : WS) => out = (r_, X_)) (fun X_ t => va_P (dC, dI) classes (wl a cA X_) t.heap ∧ va_K (dC, dI) classes [(cA, .int)] t) A) (([.ref (a 3)] : List Value).toArray) s 0 0 (A)) (F0 m pc ls [.int v]) := fun pc ls v X_ H locs hv hP hS hd => W.iret hx hb hr (fun t ht hW => ⟨⟨v, X_, rfl, hv.symm, by rw [ht]; exact hP, va_K.moved hW.alike hK⟩, hS.F ht⟩) hS.2.2 hd
  show W p l e ({ frames := 1, cells := 0, slots := 0, locals := 60 }) s m (([.ref (a 3)] : List Value).toArray) below meth c s.heap [] 0 0 (MQ below (va_Qi (fun (r_ : Int32) (X_ : WS) => out = (r_, X_)) (fun X_ t => va_P (dC, dI) classes (wl a cA X_) t.heap ∧ va_K (dC, dI) classes [(cA, .int)] t) A) (([.ref (a 3)] : List Value).toArray) s 0 0 (A)) (entryFrame m (([.ref (a 3)] : List Value).toArray) 1)
  generalize MQ below (va_Qi (fun (r_ : Int32) (X_ : WS) => out = (r_, X_)) (fun X_ t => va_P (dC, dI) classes (wl a cA X_) t.heap ∧ va_K (dC, dI) classes [(cA, .int)] t) A) (([.ref (a 3)] : List Value).toArray) s 0 0 (A) = Q at hret ⊢
  have hS : va_S A s.heap s.heap [] := va_S.rf
  have hl := lv_entry ([.ref (a 3)]) (n := 1) (Nat.le_of_ble_eq_true rfl)
  rw [lg_entry_eq]
  generalize (lg_sl ([.ref (a 3)]) ++ List.replicate (1 - (lg_sl ([.ref (a 3)])).length) Slot.unset).toArray = ls at hl ⊢
  have hl : lv_has ls 1 [(0, .ref (a 3))] := hl
  refine lv_aload_n hx hb dX2_sweeten_0 rfl (lv_at hl 0 rfl) ?_
  refine lv_bipush (v := 9) hx hb dX2_sweeten_1 (by decide) ?_
  refine lv_aload_n hx hb dX2_sweeten_3 rfl (lv_at hl 0 rfl) ?_
  refine va_get (D := (dC, dI)) (ci := 2) (v := .int (X 3 9)) (C := RX2) (T := TX2) (N := 17) hx hb hts iX2 hown hK hP 3 rfl rfl 9 (by decide) (hts _ wd_91) (fun _ h9 => h9) rfl dX2_sweeten_4 ?_
  refine lv_iconst (v := 2) hx hb dX2_sweeten_7 (by decide) ?_
  refine lv_iadd hx hb dX2_sweeten_8 ?_
  obtain ⟨r1, er1, hw⟩ := Option.bind_eq_some_iff.mp hw
  have er1 : (if ((X 3 9) + 2) < 9 then ((X 3 9) + 2) else 9) = r1 := mm_use er1
  refine va_mmin hx hb (by rw [hml]; exact hl.1.symm) hown (hts _ wd_351) (hts _ wd_352) (hts _ wd_41) (hts _ wd_353) (Nat.le_of_ble_eq_true rfl) (Nat.le_of_ble_eq_true rfl) (Nat.zero_le _) (Nat.zero_le _) dX2_sweeten_9 ?_
  rw [er1]
  refine va_put (D := (dC, dI)) (ci := 2) (v := .int r1) (ty := .int) (C := RX2) (T := TX2) (N := 17) hx hb hts iX2 tyX2 tyX2_ok nmX2 hown hK hP (wlD hD0) hS 3 rfl rfl 9 (by decide) (hts _ wd_91) (fun _ h9 => h9) rfl (by decide +kernel) rfl rfl (Nat.le_of_ble_eq_true rfl) dX2_sweeten_12 (fun H locs hP hD_ hS => ?_)
  obtain ⟨X2, eX2⟩ : ∃ y : WS, y = (ups X 3 9 r1) := ⟨_, rfl⟩
  have hw := stp_use hw eX2
  have hP : va_P (dC, dI) classes (wl a cA X2) H := by rw [eX2]; exact hP
  refine lv_aload_n hx hb dX2_sweeten_15 rfl (lv_at hl 0 rfl) ?_
  refine va_get (D := (dC, dI)) (ci := 2) (v := .int (X2 3 9)) (C := RX2) (T := TX2) (N := 17) hx hb hts iX2 hown hK hP 3 rfl rfl 9 (by decide) (hts _ wd_91) (fun _ h9 => h9) rfl dX2_sweeten_16 ?_
  exact hret _ _ _ _ _ _ (Option.some.inj hw) hP hS dX2_sweeten_19
set_option maxHeartbeats 4000000 in
set_option maxRecDepth 100000 in
theorem c_X3_honey (l : Launch) (dC : Nat → ClassId) (dI : Nat → Nat → Nat) (A : Nat → Prop) (a : Nat → Nat) (cA : ClassId) (X : WS) (out : (Int32 × WS)) (hw : f_X3_honey X = some out) : Met l yX3_honey (.code yX3_honey cX3_honey 1 (some .int) :: lw_g) ({ frames := 2, cells := 0, slots := 0, locals := 80 }) (PcXD dC dI A a cA X [.ref (a 0)]) (va_Qi (fun (r_ : Int32) (X_ : WS) => out = (r_, X_)) (fun X_ t => va_P (dC, dI) classes (wl a cA X_) t.heap ∧ va_K (dC, dI) classes [(cA, .int)] t) A) 0 0 (A) := by
  unfold f_X3_honey at hw
  refine Met.ofW (cc := cX3_honey) (maxL := 1) (ret := (some .int)) (by decide) rfl ?_
  intro p e s m args below meth c s₁ B hml hv
  obtain ⟨rfl, hP, hK, hN, hD0⟩ := hv
  have hx := B.exec
  have hb := B.bytes
  have hr := B.returns
  have hts0 := atoms_spec (ws := (.code yX3_honey cX3_honey 1 (some .int) :: lw_g)) B.pre
  have hts : ∀ w ∈ lw_g, w.before (([.ref (a 0)] : List Value).toArray) s = true := fun w h => hts0 w (List.mem_cons_of_mem _ h)
  clear hts0
  have hown : s.vm.findClass RX3 = some m.cls := findClass_of_methodNamed B.named
  have hlocks := B.notSynchronized
  have hret : ∀ (pc : Nat) (ls : Array Slot) (v : Int32) (X_ : WS) (H : Heap) (locs : List Loc), (v, X_) = out → va_P (dC, dI) classes (wl a cA X_) H → va_S A s.heap H locs → decode cX3_honey pc = .ok (.ireturn, 1) → W p l e ({ frames := 2, cells := 0, slots := 0, locals := 80 }) s m (([.ref (a 0)] : List Value).toArray) below meth c H locs 0 0 (MQ below (va_Qi (fun (r_ : Int32) (X_ : WS) => out = (r_, X_)) (fun X_ t => va_P (dC, dI) classes (wl a cA X_) t.heap ∧ va_K (dC, dI) classes [(cA, .int)] t) A) (([.ref (a 0)] : List Value).toArray) s 0 0 (A)) (F0 m pc ls [.int v]) := fun pc ls v X_ H locs hv hP hS hd => W.iret hx hb hr (fun t ht hW => ⟨⟨v, X_, rfl, hv.symm, by rw [ht]; exact hP, va_K.moved hW.alike hK⟩, hS.F ht⟩) hS.2.2 hd
  show W p l e ({ frames := 2, cells := 0, slots := 0, locals := 80 }) s m (([.ref (a 0)] : List Value).toArray) below meth c s.heap [] 0 0 (MQ below (va_Qi (fun (r_ : Int32) (X_ : WS) => out = (r_, X_)) (fun X_ t => va_P (dC, dI) classes (wl a cA X_) t.heap ∧ va_K (dC, dI) classes [(cA, .int)] t) A) (([.ref (a 0)] : List Value).toArray) s 0 0 (A)) (entryFrame m (([.ref (a 0)] : List Value).toArray) 1)
  generalize MQ below (va_Qi (fun (r_ : Int32) (X_ : WS) => out = (r_, X_)) (fun X_ t => va_P (dC, dI) classes (wl a cA X_) t.heap ∧ va_K (dC, dI) classes [(cA, .int)] t) A) (([.ref (a 0)] : List Value).toArray) s 0 0 (A) = Q at hret ⊢
  have hS : va_S A s.heap s.heap [] := va_S.rf
  have hl := lv_entry ([.ref (a 0)]) (n := 1) (Nat.le_of_ble_eq_true rfl)
  rw [lg_entry_eq]
  generalize (lg_sl ([.ref (a 0)]) ++ List.replicate (1 - (lg_sl ([.ref (a 0)])).length) Slot.unset).toArray = ls at hl ⊢
  have hl : lv_has ls 1 [(0, .ref (a 0))] := hl
  refine lv_aload_n hx hb dX3_honey_0 rfl (lv_at hl 0 rfl) ?_
  obtain ⟨r1, er1, hw⟩ := Option.bind_eq_some_iff.mp hw
  refine vp_callSi (va_runV (As := []) (rest := []) ⟨hx, hb, hml, hown, hts⟩ (c_X3_hasTown l dC dI a cA X r1 er1) ⟨callB_of 0 hts gd_X3_hasTown rfl rfl rfl (hts _ wd_35) (hts _ wd_257) hd_X3_hasTown ⟨Nat.le_of_ble_eq_true rfl, Nat.le_of_ble_eq_true rfl⟩, hts _ wd_259, hts _ wd_1⟩ ⟨blX, va_recv hK hP (ci := 3) (q0 := 0) rfl rfl, fun U hU hW => ⟨rfl, by rw [hU]; exact hP, va_K.moved hW.alike hK, nst.warm hW hN⟩⟩ rfl rfl hl.1 rfl (lv_room (Nat.le_of_ble_eq_true rfl)) dX3_honey_1 ⟨Nat.zero_le _, Nat.zero_le _⟩).run (fun r_ e_ => ?_)
  subst r_
  refine lv_if_eq (tgt := 17) hx hb dX3_honey_4 (by decide) (fun c2 => ?_) (fun c2 => ?_)
  · have hw := ite_t hw c2
    refine lv_bipush (v := (-103)) hx hb dX3_honey_17 (by decide) ?_
    exact hret _ _ _ _ _ _ (Option.some.inj hw) hP hS dX3_honey_19
  · have hw := ite_f hw c2
    refine lv_aload_n hx hb dX3_honey_7 rfl (lv_at hl 0 rfl) ?_
    refine va_get (D := (dC, dI)) (ci := 3) (v := .ref (a 3)) (C := RX3) (T := TX3) (N := 6) hx hb hts iX3 hown hK hP 0 rfl rfl 1 (by decide) (hts _ wd_179) (fun _ h9 => h9) rfl dX3_honey_8 ?_
    obtain ⟨r3, X4, er3, hw⟩ := bnd2_use hw
    refine va_calli (va_runV (As := []) (rest := []) ⟨hx, hb, hml, hown, hts⟩ (c_X2_sweeten l dC dI A a cA X (r3, X4) er3) ⟨callB_of 0 hts gd_X2_sweeten rfl rfl rfl (hts _ wd_37) (hts _ wd_347) hd_X2_sweeten ⟨Nat.le_of_ble_eq_true rfl, Nat.le_of_ble_eq_true rfl⟩, hts _ wd_348, hts _ wd_349⟩ ⟨blXD, va_recv hK hP (ci := 2) (q0 := 3) rfl rfl, fun U hU hW => ⟨rfl, by rw [hU]; exact hP, va_K.moved hW.alike hK, nst.warm hW hN, wlD hD0⟩⟩ rfl rfl hl.1 rfl (lv_room (Nat.le_of_ble_eq_true rfl)) dX3_honey_11 ⟨Nat.zero_le _, Nat.zero_le _⟩) hS (fun _ _ h => h) (fun _ h => h) (fun r_ u_ t_ H1 locs1 ht hvm hp_ hB hz1 hk1 hS1 => ?_)
    obtain ⟨q1_, q2_⟩ := Prod.mk.inj hp_
    subst q1_
    subst q2_
    obtain ⟨hP1, hK1⟩ := hB
    rw [ht] at hP1
    have hP := hP1
    have hS := hS1
    refine lv_goto (tgt := 19) hx hb dX3_honey_14 (by decide) ?_
    exact hret _ _ _ _ _ _ (Option.some.inj hw) hP hS dX3_honey_19
set_option maxHeartbeats 4000000 in
set_option maxRecDepth 100000 in
theorem c_X4_honey (l : Launch) (dC : Nat → ClassId) (dI : Nat → Nat → Nat) (A : Nat → Prop) (a : Nat → Nat) (cA : ClassId) (X : MS) (out : (Int32 × MS)) (hw : f_X4_honey X = some out) : Met l yX4_honey (.code yX4_honey cX4_honey 1 (some .int) :: lw_g) ({ frames := 1, cells := 0, slots := 0, locals := 20 }) (PcMD dC dI A a cA X [.ref (a 0)]) (va_Qi (fun (r_ : Int32) (X_ : MS) => out = (r_, X_)) (fun X_ t => va_P (dC, dI) classes (wm a cA X_) t.heap ∧ va_K (dC, dI) classes [(cA, .int)] t) A) 0 0 (A) := by
  unfold f_X4_honey at hw
  refine Met.ofW (cc := cX4_honey) (maxL := 1) (ret := (some .int)) (by decide) rfl ?_
  intro p e s m args below meth c s₁ B hml hv
  obtain ⟨rfl, hP, hK, hD0⟩ := hv
  have hx := B.exec
  have hb := B.bytes
  have hr := B.returns
  have hts0 := atoms_spec (ws := (.code yX4_honey cX4_honey 1 (some .int) :: lw_g)) B.pre
  have hts : ∀ w ∈ lw_g, w.before (([.ref (a 0)] : List Value).toArray) s = true := fun w h => hts0 w (List.mem_cons_of_mem _ h)
  clear hts0
  have hown : s.vm.findClass RX4 = some m.cls := findClass_of_methodNamed B.named
  have hlocks := B.notSynchronized
  have hret : ∀ (pc : Nat) (ls : Array Slot) (v : Int32) (X_ : MS) (H : Heap) (locs : List Loc), (v, X_) = out → va_P (dC, dI) classes (wm a cA X_) H → va_S A s.heap H locs → decode cX4_honey pc = .ok (.ireturn, 1) → W p l e ({ frames := 1, cells := 0, slots := 0, locals := 20 }) s m (([.ref (a 0)] : List Value).toArray) below meth c H locs 0 0 (MQ below (va_Qi (fun (r_ : Int32) (X_ : MS) => out = (r_, X_)) (fun X_ t => va_P (dC, dI) classes (wm a cA X_) t.heap ∧ va_K (dC, dI) classes [(cA, .int)] t) A) (([.ref (a 0)] : List Value).toArray) s 0 0 (A)) (F0 m pc ls [.int v]) := fun pc ls v X_ H locs hv hP hS hd => W.iret hx hb hr (fun t ht hW => ⟨⟨v, X_, rfl, hv.symm, by rw [ht]; exact hP, va_K.moved hW.alike hK⟩, hS.F ht⟩) hS.2.2 hd
  show W p l e ({ frames := 1, cells := 0, slots := 0, locals := 20 }) s m (([.ref (a 0)] : List Value).toArray) below meth c s.heap [] 0 0 (MQ below (va_Qi (fun (r_ : Int32) (X_ : MS) => out = (r_, X_)) (fun X_ t => va_P (dC, dI) classes (wm a cA X_) t.heap ∧ va_K (dC, dI) classes [(cA, .int)] t) A) (([.ref (a 0)] : List Value).toArray) s 0 0 (A)) (entryFrame m (([.ref (a 0)] : List Value).toArray) 1)
  generalize MQ below (va_Qi (fun (r_ : Int32) (X_ : MS) => out = (r_, X_)) (fun X_ t => va_P (dC, dI) classes (wm a cA X_) t.heap ∧ va_K (dC, dI) classes [(cA, .int)] t) A) (([.ref (a 0)] : List Value).toArray) s 0 0 (A) = Q at hret ⊢
  have hS : va_S A s.heap s.heap [] := va_S.rf
  have hl := lv_entry ([.ref (a 0)]) (n := 1) (Nat.le_of_ble_eq_true rfl)
  rw [lg_entry_eq]
  generalize (lg_sl ([.ref (a 0)]) ++ List.replicate (1 - (lg_sl ([.ref (a 0)])).length) Slot.unset).toArray = ls at hl ⊢
  have hl : lv_has ls 1 [(0, .ref (a 0))] := hl
  refine lv_aload_n hx hb dX4_honey_0 rfl (lv_at hl 0 rfl) ?_
  obtain ⟨r1, er1, hw⟩ := Option.bind_eq_some_iff.mp hw
  refine vp_callSi (va_runV (As := []) (rest := []) ⟨hx, hb, hml, hown, hts⟩ (c_X4_lacks l dC dI a cA X r1 er1) ⟨callB_of 0 hts gd_X4_lacks rfl rfl rfl (hts _ wd_39) (hts _ wd_647) hd_X4_lacks ⟨Nat.le_of_ble_eq_true rfl, Nat.le_of_ble_eq_true rfl⟩, hts _ wd_649, hts _ wd_12⟩ ⟨blM, va_recv hK hP (ci := 4) (q0 := 0) rfl rfl, fun U hU hW => ⟨rfl, by rw [hU]; exact hP, va_K.moved hW.alike hK⟩⟩ rfl rfl hl.1 rfl (lv_room (Nat.le_of_ble_eq_true rfl)) dX4_honey_1 ⟨Nat.zero_le _, Nat.zero_le _⟩).run (fun r_ e_ => ?_)
  subst r_
  refine lv_if_eq (tgt := 10) hx hb dX4_honey_4 (by decide) (fun c2 => ?_) (fun c2 => ?_)
  · have hw := ite_t hw c2
    refine lv_aload_n hx hb dX4_honey_10 rfl (lv_at hl 0 rfl) ?_
    refine lv_aload_n hx hb dX4_honey_11 rfl (lv_at hl 0 rfl) ?_
    refine va_get (D := (dC, dI)) (ci := 4) (v := .int (X.1 0 3)) (C := RX4) (T := TX4) (N := 29) hx hb hts iX4 hown hK hP 0 rfl rfl 3 (by decide) (hts _ wd_525) (fun _ h9 => h9) rfl dX4_honey_12 ?_
    refine lv_iconst (v := 2) hx hb dX4_honey_15 (by decide) ?_
    refine lv_iadd hx hb dX4_honey_16 ?_
    refine lv_bipush (v := 9) hx hb dX4_honey_17 (by decide) ?_
    refine lv_icmp_le (tgt := 27) hx hb dX4_honey_19 (by decide) (fun c3 => ?_) (fun c3 => ?_)
    · have hw := ite_t hw c3
      refine lv_aload_n hx hb dX4_honey_27 rfl (lv_at hl 0 rfl) ?_
      refine va_get (D := (dC, dI)) (ci := 4) (v := .int (X.1 0 3)) (C := RX4) (T := TX4) (N := 29) hx hb hts iX4 hown hK hP 0 rfl rfl 3 (by decide) (hts _ wd_525) (fun _ h9 => h9) rfl dX4_honey_28 ?_
      refine lv_iconst (v := 2) hx hb dX4_honey_31 (by decide) ?_
      refine lv_iadd hx hb dX4_honey_32 ?_
      refine lv_topi (fun x4 ex4 => ?_)
      have hw := stp_use hw ex4
      refine va_put (D := (dC, dI)) (ci := 4) (v := .int x4) (ty := .int) (C := RX4) (T := TX4) (N := 29) hx hb hts iX4 tyX4 tyX4_ok nmX4 hown hK hP (wmD hD0) hS 0 rfl rfl 3 (by decide) (hts _ wd_525) (fun _ h9 => h9) rfl (by decide +kernel) rfl rfl (Nat.le_of_ble_eq_true rfl) dX4_honey_33 (fun H locs hP hD_ hS => ?_)
      obtain ⟨X5, eX5⟩ : ∃ y : MS, y = (ups X.1 0 3 x4, X.2) := ⟨_, rfl⟩
      have hw := stp_use hw eX5
      have hP : va_P (dC, dI) classes (wm a cA X5) H := by rw [eX5]; exact hP
      refine lv_aload_n hx hb dX4_honey_36 rfl (lv_at hl 0 rfl) ?_
      refine va_get (D := (dC, dI)) (ci := 4) (v := .int (X5.1 0 3)) (C := RX4) (T := TX4) (N := 29) hx hb hts iX4 hown hK hP 0 rfl rfl 3 (by decide) (hts _ wd_525) (fun _ h9 => h9) rfl dX4_honey_37 ?_
      exact hret _ _ _ _ _ _ (Option.some.inj hw) hP hS dX4_honey_40
    · have hw := ite_f hw c3
      refine lv_bipush (v := 9) hx hb dX4_honey_22 (by decide) ?_
      refine lv_goto (tgt := 33) hx hb dX4_honey_24 (by decide) ?_
      refine va_put (D := (dC, dI)) (ci := 4) (v := .int 9) (ty := .int) (C := RX4) (T := TX4) (N := 29) hx hb hts iX4 tyX4 tyX4_ok nmX4 hown hK hP (wmD hD0) hS 0 rfl rfl 3 (by decide) (hts _ wd_525) (fun _ h9 => h9) rfl (by decide +kernel) rfl rfl (Nat.le_of_ble_eq_true rfl) dX4_honey_33 (fun H locs hP hD_ hS => ?_)
      obtain ⟨X6, eX6⟩ : ∃ y : MS, y = (ups X.1 0 3 9, X.2) := ⟨_, rfl⟩
      have hw := stp_use hw eX6
      have hP : va_P (dC, dI) classes (wm a cA X6) H := by rw [eX6]; exact hP
      refine lv_aload_n hx hb dX4_honey_36 rfl (lv_at hl 0 rfl) ?_
      refine va_get (D := (dC, dI)) (ci := 4) (v := .int (X6.1 0 3)) (C := RX4) (T := TX4) (N := 29) hx hb hts iX4 hown hK hP 0 rfl rfl 3 (by decide) (hts _ wd_525) (fun _ h9 => h9) rfl dX4_honey_37 ?_
      exact hret _ _ _ _ _ _ (Option.some.inj hw) hP hS dX4_honey_40
  · have hw := ite_f hw c2
    refine lv_bipush (v := (-103)) hx hb dX4_honey_7 (by decide) ?_
    exact hret _ _ _ _ _ _ (Option.some.inj hw) hP hS dX4_honey_9
set_option maxHeartbeats 4000000 in
set_option maxRecDepth 100000 in
theorem c_X2_sleep (l : Launch) (dC : Nat → ClassId) (dI : Nat → Nat → Nat) (A : Nat → Prop) (a : Nat → Nat) (cA : ClassId) (X : WS) (out : (Int32 × WS)) (hw : f_X2_sleep X = some out) : Met l yX2_sleep (.code yX2_sleep cX2_sleep 1 (some .int) :: lw_g) ({ frames := 0, cells := 0, slots := 0, locals := 0 }) (PcXD dC dI A a cA X [.ref (a 3)]) (va_Qi (fun (r_ : Int32) (X_ : WS) => out = (r_, X_)) (fun X_ t => va_P (dC, dI) classes (wl a cA X_) t.heap ∧ va_K (dC, dI) classes [(cA, .int)] t) A) 0 0 (A) := by
  unfold f_X2_sleep at hw
  refine Met.ofW (cc := cX2_sleep) (maxL := 1) (ret := (some .int)) (by decide) rfl ?_
  intro p e s m args below meth c s₁ B hml hv
  obtain ⟨rfl, hP, hK, hN, hD0⟩ := hv
  have hx := B.exec
  have hb := B.bytes
  have hr := B.returns
  have hts0 := atoms_spec (ws := (.code yX2_sleep cX2_sleep 1 (some .int) :: lw_g)) B.pre
  have hts : ∀ w ∈ lw_g, w.before (([.ref (a 3)] : List Value).toArray) s = true := fun w h => hts0 w (List.mem_cons_of_mem _ h)
  clear hts0
  have hown : s.vm.findClass RX2 = some m.cls := findClass_of_methodNamed B.named
  have hlocks := B.notSynchronized
  have hret : ∀ (pc : Nat) (ls : Array Slot) (v : Int32) (X_ : WS) (H : Heap) (locs : List Loc), (v, X_) = out → va_P (dC, dI) classes (wl a cA X_) H → va_S A s.heap H locs → decode cX2_sleep pc = .ok (.ireturn, 1) → W p l e ({ frames := 0, cells := 0, slots := 0, locals := 0 }) s m (([.ref (a 3)] : List Value).toArray) below meth c H locs 0 0 (MQ below (va_Qi (fun (r_ : Int32) (X_ : WS) => out = (r_, X_)) (fun X_ t => va_P (dC, dI) classes (wl a cA X_) t.heap ∧ va_K (dC, dI) classes [(cA, .int)] t) A) (([.ref (a 3)] : List Value).toArray) s 0 0 (A)) (F0 m pc ls [.int v]) := fun pc ls v X_ H locs hv hP hS hd => W.iret hx hb hr (fun t ht hW => ⟨⟨v, X_, rfl, hv.symm, by rw [ht]; exact hP, va_K.moved hW.alike hK⟩, hS.F ht⟩) hS.2.2 hd
  show W p l e ({ frames := 0, cells := 0, slots := 0, locals := 0 }) s m (([.ref (a 3)] : List Value).toArray) below meth c s.heap [] 0 0 (MQ below (va_Qi (fun (r_ : Int32) (X_ : WS) => out = (r_, X_)) (fun X_ t => va_P (dC, dI) classes (wl a cA X_) t.heap ∧ va_K (dC, dI) classes [(cA, .int)] t) A) (([.ref (a 3)] : List Value).toArray) s 0 0 (A)) (entryFrame m (([.ref (a 3)] : List Value).toArray) 1)
  generalize MQ below (va_Qi (fun (r_ : Int32) (X_ : WS) => out = (r_, X_)) (fun X_ t => va_P (dC, dI) classes (wl a cA X_) t.heap ∧ va_K (dC, dI) classes [(cA, .int)] t) A) (([.ref (a 3)] : List Value).toArray) s 0 0 (A) = Q at hret ⊢
  have hS : va_S A s.heap s.heap [] := va_S.rf
  have hl := lv_entry ([.ref (a 3)]) (n := 1) (Nat.le_of_ble_eq_true rfl)
  rw [lg_entry_eq]
  generalize (lg_sl ([.ref (a 3)]) ++ List.replicate (1 - (lg_sl ([.ref (a 3)])).length) Slot.unset).toArray = ls at hl ⊢
  have hl : lv_has ls 1 [(0, .ref (a 3))] := hl
  refine lv_aload_n hx hb dX2_sleep_0 rfl (lv_at hl 0 rfl) ?_
  refine lv_dup hx hb dX2_sleep_1 rfl ?_
  refine va_get (D := (dC, dI)) (ci := 2) (v := .int (X 3 13)) (C := RX2) (T := TX2) (N := 17) hx hb hts iX2 hown hK hP 3 rfl rfl 13 (by decide) (hts _ wd_99) (fun _ h9 => h9) rfl dX2_sleep_2 ?_
  refine lv_iconst (v := 1) hx hb dX2_sleep_5 (by decide) ?_
  refine lv_iadd hx hb dX2_sleep_6 ?_
  refine lv_topi (fun x1 ex1 => ?_)
  have hw := stp_use hw ex1
  refine va_put (D := (dC, dI)) (ci := 2) (v := .int x1) (ty := .int) (C := RX2) (T := TX2) (N := 17) hx hb hts iX2 tyX2 tyX2_ok nmX2 hown hK hP (wlD hD0) hS 3 rfl rfl 13 (by decide) (hts _ wd_99) (fun _ h9 => h9) rfl (by decide +kernel) rfl rfl (Nat.le_of_ble_eq_true rfl) dX2_sleep_7 (fun H locs hP hD_ hS => ?_)
  obtain ⟨X2, eX2⟩ : ∃ y : WS, y = (ups X 3 13 x1) := ⟨_, rfl⟩
  have hw := stp_use hw eX2
  have hP : va_P (dC, dI) classes (wl a cA X2) H := by rw [eX2]; exact hP
  refine lv_aload_n hx hb dX2_sleep_10 rfl (lv_at hl 0 rfl) ?_
  refine lv_aload_n hx hb dX2_sleep_11 rfl (lv_at hl 0 rfl) ?_
  refine va_get (D := (dC, dI)) (ci := 2) (v := .int (X2 3 8)) (C := RX2) (T := TX2) (N := 17) hx hb hts iX2 hown hK hP 3 rfl rfl 8 (by decide) (hts _ wd_89) (fun _ h9 => h9) rfl dX2_sleep_12 ?_
  refine lv_topi (fun x3 ex3 => ?_)
  have hw := stp_use hw ex3
  refine va_put (D := (dC, dI)) (ci := 2) (v := .int x3) (ty := .int) (C := RX2) (T := TX2) (N := 17) hx hb hts iX2 tyX2 tyX2_ok nmX2 hown hK hP (wlD hD0) hS 3 rfl rfl 9 (by decide) (hts _ wd_91) (fun _ h9 => h9) rfl (by decide +kernel) rfl rfl (Nat.le_of_ble_eq_true rfl) dX2_sleep_15 (fun H locs hP hD_ hS => ?_)
  obtain ⟨X4, eX4⟩ : ∃ y : WS, y = (ups X2 3 9 x3) := ⟨_, rfl⟩
  have hw := stp_use hw eX4
  have hP : va_P (dC, dI) classes (wl a cA X4) H := by rw [eX4]; exact hP
  refine lv_aload_n hx hb dX2_sleep_18 rfl (lv_at hl 0 rfl) ?_
  refine va_get (D := (dC, dI)) (ci := 2) (v := .int (X4 3 9)) (C := RX2) (T := TX2) (N := 17) hx hb hts iX2 hown hK hP 3 rfl rfl 9 (by decide) (hts _ wd_91) (fun _ h9 => h9) rfl dX2_sleep_19 ?_
  exact hret _ _ _ _ _ _ (Option.some.inj hw) hP hS dX2_sleep_22
set_option maxHeartbeats 4000000 in
set_option maxRecDepth 100000 in
theorem c_X3_day (l : Launch) (dC : Nat → ClassId) (dI : Nat → Nat → Nat) (A : Nat → Prop) (a : Nat → Nat) (cA : ClassId) (X : WS) (out : (Int32 × WS)) (hw : f_X3_day X = some out) : Met l yX3_day (.code yX3_day cX3_day 1 (some .int) :: lw_g) ({ frames := 1, cells := 0, slots := 0, locals := 20 }) (PcXD dC dI A a cA X [.ref (a 0)]) (va_Qi (fun (r_ : Int32) (X_ : WS) => out = (r_, X_)) (fun X_ t => va_P (dC, dI) classes (wl a cA X_) t.heap ∧ va_K (dC, dI) classes [(cA, .int)] t) A) 0 0 (A) := by
  unfold f_X3_day at hw
  refine Met.ofW (cc := cX3_day) (maxL := 1) (ret := (some .int)) (by decide) rfl ?_
  intro p e s m args below meth c s₁ B hml hv
  obtain ⟨rfl, hP, hK, hN, hD0⟩ := hv
  have hx := B.exec
  have hb := B.bytes
  have hr := B.returns
  have hts0 := atoms_spec (ws := (.code yX3_day cX3_day 1 (some .int) :: lw_g)) B.pre
  have hts : ∀ w ∈ lw_g, w.before (([.ref (a 0)] : List Value).toArray) s = true := fun w h => hts0 w (List.mem_cons_of_mem _ h)
  clear hts0
  have hown : s.vm.findClass RX3 = some m.cls := findClass_of_methodNamed B.named
  have hlocks := B.notSynchronized
  have hret : ∀ (pc : Nat) (ls : Array Slot) (v : Int32) (X_ : WS) (H : Heap) (locs : List Loc), (v, X_) = out → va_P (dC, dI) classes (wl a cA X_) H → va_S A s.heap H locs → decode cX3_day pc = .ok (.ireturn, 1) → W p l e ({ frames := 1, cells := 0, slots := 0, locals := 20 }) s m (([.ref (a 0)] : List Value).toArray) below meth c H locs 0 0 (MQ below (va_Qi (fun (r_ : Int32) (X_ : WS) => out = (r_, X_)) (fun X_ t => va_P (dC, dI) classes (wl a cA X_) t.heap ∧ va_K (dC, dI) classes [(cA, .int)] t) A) (([.ref (a 0)] : List Value).toArray) s 0 0 (A)) (F0 m pc ls [.int v]) := fun pc ls v X_ H locs hv hP hS hd => W.iret hx hb hr (fun t ht hW => ⟨⟨v, X_, rfl, hv.symm, by rw [ht]; exact hP, va_K.moved hW.alike hK⟩, hS.F ht⟩) hS.2.2 hd
  show W p l e ({ frames := 1, cells := 0, slots := 0, locals := 20 }) s m (([.ref (a 0)] : List Value).toArray) below meth c s.heap [] 0 0 (MQ below (va_Qi (fun (r_ : Int32) (X_ : WS) => out = (r_, X_)) (fun X_ t => va_P (dC, dI) classes (wl a cA X_) t.heap ∧ va_K (dC, dI) classes [(cA, .int)] t) A) (([.ref (a 0)] : List Value).toArray) s 0 0 (A)) (entryFrame m (([.ref (a 0)] : List Value).toArray) 1)
  generalize MQ below (va_Qi (fun (r_ : Int32) (X_ : WS) => out = (r_, X_)) (fun X_ t => va_P (dC, dI) classes (wl a cA X_) t.heap ∧ va_K (dC, dI) classes [(cA, .int)] t) A) (([.ref (a 0)] : List Value).toArray) s 0 0 (A) = Q at hret ⊢
  have hS : va_S A s.heap s.heap [] := va_S.rf
  have hl := lv_entry ([.ref (a 0)]) (n := 1) (Nat.le_of_ble_eq_true rfl)
  rw [lg_entry_eq]
  generalize (lg_sl ([.ref (a 0)]) ++ List.replicate (1 - (lg_sl ([.ref (a 0)])).length) Slot.unset).toArray = ls at hl ⊢
  have hl : lv_has ls 1 [(0, .ref (a 0))] := hl
  refine lv_aload_n hx hb dX3_day_0 rfl (lv_at hl 0 rfl) ?_
  obtain ⟨r1, er1, hw⟩ := Option.bind_eq_some_iff.mp hw
  refine vp_callSi (va_runV (As := []) (rest := []) ⟨hx, hb, hml, hown, hts⟩ (c_X3_hasTown l dC dI a cA X r1 er1) ⟨callB_of 0 hts gd_X3_hasTown rfl rfl rfl (hts _ wd_35) (hts _ wd_257) hd_X3_hasTown ⟨Nat.le_of_ble_eq_true rfl, Nat.le_of_ble_eq_true rfl⟩, hts _ wd_259, hts _ wd_1⟩ ⟨blX, va_recv hK hP (ci := 3) (q0 := 0) rfl rfl, fun U hU hW => ⟨rfl, by rw [hU]; exact hP, va_K.moved hW.alike hK, nst.warm hW hN⟩⟩ rfl rfl hl.1 rfl (lv_room (Nat.le_of_ble_eq_true rfl)) dX3_day_1 ⟨Nat.zero_le _, Nat.zero_le _⟩).run (fun r_ e_ => ?_)
  subst r_
  refine lv_if_eq (tgt := 17) hx hb dX3_day_4 (by decide) (fun c2 => ?_) (fun c2 => ?_)
  · have hw := ite_t hw c2
    refine lv_bipush (v := (-103)) hx hb dX3_day_17 (by decide) ?_
    exact hret _ _ _ _ _ _ (Option.some.inj hw) hP hS dX3_day_19
  · have hw := ite_f hw c2
    refine lv_aload_n hx hb dX3_day_7 rfl (lv_at hl 0 rfl) ?_
    refine va_get (D := (dC, dI)) (ci := 3) (v := .ref (a 3)) (C := RX3) (T := TX3) (N := 6) hx hb hts iX3 hown hK hP 0 rfl rfl 1 (by decide) (hts _ wd_179) (fun _ h9 => h9) rfl dX3_day_8 ?_
    obtain ⟨r3, X4, er3, hw⟩ := bnd2_use hw
    refine va_calli (va_runV (As := []) (rest := []) ⟨hx, hb, hml, hown, hts⟩ (c_X2_sleep l dC dI A a cA X (r3, X4) er3) ⟨callB_of 0 hts gd_X2_sleep rfl rfl rfl (hts _ wd_37) (hts _ wd_358) hd_X2_sleep ⟨Nat.le_of_ble_eq_true rfl, Nat.le_of_ble_eq_true rfl⟩, hts _ wd_359, hts _ wd_360⟩ ⟨blXD, va_recv hK hP (ci := 2) (q0 := 3) rfl rfl, fun U hU hW => ⟨rfl, by rw [hU]; exact hP, va_K.moved hW.alike hK, nst.warm hW hN, wlD hD0⟩⟩ rfl rfl hl.1 rfl (lv_room (Nat.le_of_ble_eq_true rfl)) dX3_day_11 ⟨Nat.zero_le _, Nat.zero_le _⟩) hS (fun _ _ h => h) (fun _ h => h) (fun r_ u_ t_ H1 locs1 ht hvm hp_ hB hz1 hk1 hS1 => ?_)
    obtain ⟨q1_, q2_⟩ := Prod.mk.inj hp_
    subst q1_
    subst q2_
    obtain ⟨hP1, hK1⟩ := hB
    rw [ht] at hP1
    have hP := hP1
    have hS := hS1
    refine lv_goto (tgt := 19) hx hb dX3_day_14 (by decide) ?_
    exact hret _ _ _ _ _ _ (Option.some.inj hw) hP hS dX3_day_19
set_option maxHeartbeats 4000000 in
set_option maxRecDepth 100000 in
theorem c_X4_day (l : Launch) (dC : Nat → ClassId) (dI : Nat → Nat → Nat) (A : Nat → Prop) (a : Nat → Nat) (cA : ClassId) (X : MS) (out : (Int32 × MS)) (hw : f_X4_day X = some out) : Met l yX4_day (.code yX4_day cX4_day 1 (some .int) :: lw_g) ({ frames := 1, cells := 0, slots := 0, locals := 20 }) (PcMD dC dI A a cA X [.ref (a 0)]) (va_Qi (fun (r_ : Int32) (X_ : MS) => out = (r_, X_)) (fun X_ t => va_P (dC, dI) classes (wm a cA X_) t.heap ∧ va_K (dC, dI) classes [(cA, .int)] t) A) 0 0 (A) := by
  unfold f_X4_day at hw
  refine Met.ofW (cc := cX4_day) (maxL := 1) (ret := (some .int)) (by decide) rfl ?_
  intro p e s m args below meth c s₁ B hml hv
  obtain ⟨rfl, hP, hK, hD0⟩ := hv
  have hx := B.exec
  have hb := B.bytes
  have hr := B.returns
  have hts0 := atoms_spec (ws := (.code yX4_day cX4_day 1 (some .int) :: lw_g)) B.pre
  have hts : ∀ w ∈ lw_g, w.before (([.ref (a 0)] : List Value).toArray) s = true := fun w h => hts0 w (List.mem_cons_of_mem _ h)
  clear hts0
  have hown : s.vm.findClass RX4 = some m.cls := findClass_of_methodNamed B.named
  have hlocks := B.notSynchronized
  have hret : ∀ (pc : Nat) (ls : Array Slot) (v : Int32) (X_ : MS) (H : Heap) (locs : List Loc), (v, X_) = out → va_P (dC, dI) classes (wm a cA X_) H → va_S A s.heap H locs → decode cX4_day pc = .ok (.ireturn, 1) → W p l e ({ frames := 1, cells := 0, slots := 0, locals := 20 }) s m (([.ref (a 0)] : List Value).toArray) below meth c H locs 0 0 (MQ below (va_Qi (fun (r_ : Int32) (X_ : MS) => out = (r_, X_)) (fun X_ t => va_P (dC, dI) classes (wm a cA X_) t.heap ∧ va_K (dC, dI) classes [(cA, .int)] t) A) (([.ref (a 0)] : List Value).toArray) s 0 0 (A)) (F0 m pc ls [.int v]) := fun pc ls v X_ H locs hv hP hS hd => W.iret hx hb hr (fun t ht hW => ⟨⟨v, X_, rfl, hv.symm, by rw [ht]; exact hP, va_K.moved hW.alike hK⟩, hS.F ht⟩) hS.2.2 hd
  show W p l e ({ frames := 1, cells := 0, slots := 0, locals := 20 }) s m (([.ref (a 0)] : List Value).toArray) below meth c s.heap [] 0 0 (MQ below (va_Qi (fun (r_ : Int32) (X_ : MS) => out = (r_, X_)) (fun X_ t => va_P (dC, dI) classes (wm a cA X_) t.heap ∧ va_K (dC, dI) classes [(cA, .int)] t) A) (([.ref (a 0)] : List Value).toArray) s 0 0 (A)) (entryFrame m (([.ref (a 0)] : List Value).toArray) 1)
  generalize MQ below (va_Qi (fun (r_ : Int32) (X_ : MS) => out = (r_, X_)) (fun X_ t => va_P (dC, dI) classes (wm a cA X_) t.heap ∧ va_K (dC, dI) classes [(cA, .int)] t) A) (([.ref (a 0)] : List Value).toArray) s 0 0 (A) = Q at hret ⊢
  have hS : va_S A s.heap s.heap [] := va_S.rf
  have hl := lv_entry ([.ref (a 0)]) (n := 1) (Nat.le_of_ble_eq_true rfl)
  rw [lg_entry_eq]
  generalize (lg_sl ([.ref (a 0)]) ++ List.replicate (1 - (lg_sl ([.ref (a 0)])).length) Slot.unset).toArray = ls at hl ⊢
  have hl : lv_has ls 1 [(0, .ref (a 0))] := hl
  refine lv_aload_n hx hb dX4_day_0 rfl (lv_at hl 0 rfl) ?_
  obtain ⟨r1, er1, hw⟩ := Option.bind_eq_some_iff.mp hw
  refine vp_callSi (va_runV (As := []) (rest := []) ⟨hx, hb, hml, hown, hts⟩ (c_X4_lacks l dC dI a cA X r1 er1) ⟨callB_of 0 hts gd_X4_lacks rfl rfl rfl (hts _ wd_39) (hts _ wd_647) hd_X4_lacks ⟨Nat.le_of_ble_eq_true rfl, Nat.le_of_ble_eq_true rfl⟩, hts _ wd_649, hts _ wd_12⟩ ⟨blM, va_recv hK hP (ci := 4) (q0 := 0) rfl rfl, fun U hU hW => ⟨rfl, by rw [hU]; exact hP, va_K.moved hW.alike hK⟩⟩ rfl rfl hl.1 rfl (lv_room (Nat.le_of_ble_eq_true rfl)) dX4_day_1 ⟨Nat.zero_le _, Nat.zero_le _⟩).run (fun r_ e_ => ?_)
  subst r_
  refine lv_if_eq (tgt := 10) hx hb dX4_day_4 (by decide) (fun c2 => ?_) (fun c2 => ?_)
  · have hw := ite_t hw c2
    refine lv_aload_n hx hb dX4_day_10 rfl (lv_at hl 0 rfl) ?_
    refine lv_aload_n hx hb dX4_day_11 rfl (lv_at hl 0 rfl) ?_
    refine va_get (D := (dC, dI)) (ci := 4) (v := .int (X.1 0 2)) (C := RX4) (T := TX4) (N := 29) hx hb hts iX4 hown hK hP 0 rfl rfl 2 (by decide) (hts _ wd_524) (fun _ h9 => h9) rfl dX4_day_12 ?_
    refine lv_topi (fun x3 ex3 => ?_)
    have hw := stp_use hw ex3
    refine va_put (D := (dC, dI)) (ci := 4) (v := .int x3) (ty := .int) (C := RX4) (T := TX4) (N := 29) hx hb hts iX4 tyX4 tyX4_ok nmX4 hown hK hP (wmD hD0) hS 0 rfl rfl 3 (by decide) (hts _ wd_525) (fun _ h9 => h9) rfl (by decide +kernel) rfl rfl (Nat.le_of_ble_eq_true rfl) dX4_day_15 (fun H locs hP hD_ hS => ?_)
    obtain ⟨X4, eX4⟩ : ∃ y : MS, y = (ups X.1 0 3 x3, X.2) := ⟨_, rfl⟩
    have hw := stp_use hw eX4
    have hP : va_P (dC, dI) classes (wm a cA X4) H := by rw [eX4]; exact hP
    refine lv_aload_n hx hb dX4_day_18 rfl (lv_at hl 0 rfl) ?_
    refine lv_dup hx hb dX4_day_19 rfl ?_
    refine va_get (D := (dC, dI)) (ci := 4) (v := .int (X4.1 0 8)) (C := RX4) (T := TX4) (N := 29) hx hb hts iX4 hown hK hP 0 rfl rfl 8 (by decide) (hts _ wd_530) (fun _ h9 => h9) rfl dX4_day_20 ?_
    refine lv_iconst (v := 1) hx hb dX4_day_23 (by decide) ?_
    refine lv_iadd hx hb dX4_day_24 ?_
    refine lv_topi (fun x5 ex5 => ?_)
    have hw := stp_use hw ex5
    refine va_put (D := (dC, dI)) (ci := 4) (v := .int x5) (ty := .int) (C := RX4) (T := TX4) (N := 29) hx hb hts iX4 tyX4 tyX4_ok nmX4 hown hK hP (wmD hD0) hS 0 rfl rfl 8 (by decide) (hts _ wd_530) (fun _ h9 => h9) rfl (by decide +kernel) rfl rfl (Nat.le_of_ble_eq_true rfl) dX4_day_25 (fun H locs hP hD_ hS => ?_)
    obtain ⟨X6, eX6⟩ : ∃ y : MS, y = (ups X4.1 0 8 x5, X4.2) := ⟨_, rfl⟩
    have hw := stp_use hw eX6
    have hP : va_P (dC, dI) classes (wm a cA X6) H := by rw [eX6]; exact hP
    refine lv_aload_n hx hb dX4_day_28 rfl (lv_at hl 0 rfl) ?_
    refine va_get (D := (dC, dI)) (ci := 4) (v := .int (X6.1 0 3)) (C := RX4) (T := TX4) (N := 29) hx hb hts iX4 hown hK hP 0 rfl rfl 3 (by decide) (hts _ wd_525) (fun _ h9 => h9) rfl dX4_day_29 ?_
    exact hret _ _ _ _ _ _ (Option.some.inj hw) hP hS dX4_day_32
  · have hw := ite_f hw c2
    refine lv_bipush (v := (-103)) hx hb dX4_day_7 (by decide) ?_
    exact hret _ _ _ _ _ _ (Option.some.inj hw) hP hS dX4_day_9
set_option maxHeartbeats 4000000 in
set_option maxRecDepth 100000 in
theorem c_X2_renew (l : Launch) (dC : Nat → ClassId) (dI : Nat → Nat → Nat) (A : Nat → Prop) (a : Nat → Nat) (cA : ClassId) (X : WS) (out : (Int32 × WS)) (hw : f_X2_renew X = some out) : Met l yX2_renew (.code yX2_renew cX2_renew 2 (some .int) :: lw_g) ({ frames := 0, cells := 0, slots := 0, locals := 0 }) (PcXD dC dI A a cA X [.ref (a 3)]) (va_Qi (fun (r_ : Int32) (X_ : WS) => out = (r_, X_)) (fun X_ t => va_P (dC, dI) classes (wl a cA X_) t.heap ∧ va_K (dC, dI) classes [(cA, .int)] t) A) 0 0 (A) := by
  unfold f_X2_renew at hw
  refine Met.ofW (cc := cX2_renew) (maxL := 2) (ret := (some .int)) (by decide) rfl ?_
  intro p e s m args below meth c s₁ B hml hv
  obtain ⟨rfl, hP, hK, hN, hD0⟩ := hv
  have hx := B.exec
  have hb := B.bytes
  have hr := B.returns
  have hts0 := atoms_spec (ws := (.code yX2_renew cX2_renew 2 (some .int) :: lw_g)) B.pre
  have hts : ∀ w ∈ lw_g, w.before (([.ref (a 3)] : List Value).toArray) s = true := fun w h => hts0 w (List.mem_cons_of_mem _ h)
  clear hts0
  have hown : s.vm.findClass RX2 = some m.cls := findClass_of_methodNamed B.named
  have hlocks := B.notSynchronized
  have hret : ∀ (pc : Nat) (ls : Array Slot) (v : Int32) (X_ : WS) (H : Heap) (locs : List Loc), (v, X_) = out → va_P (dC, dI) classes (wl a cA X_) H → va_S A s.heap H locs → decode cX2_renew pc = .ok (.ireturn, 1) → W p l e ({ frames := 0, cells := 0, slots := 0, locals := 0 }) s m (([.ref (a 3)] : List Value).toArray) below meth c H locs 0 0 (MQ below (va_Qi (fun (r_ : Int32) (X_ : WS) => out = (r_, X_)) (fun X_ t => va_P (dC, dI) classes (wl a cA X_) t.heap ∧ va_K (dC, dI) classes [(cA, .int)] t) A) (([.ref (a 3)] : List Value).toArray) s 0 0 (A)) (F0 m pc ls [.int v]) := fun pc ls v X_ H locs hv hP hS hd => W.iret hx hb hr (fun t ht hW => ⟨⟨v, X_, rfl, hv.symm, by rw [ht]; exact hP, va_K.moved hW.alike hK⟩, hS.F ht⟩) hS.2.2 hd
  show W p l e ({ frames := 0, cells := 0, slots := 0, locals := 0 }) s m (([.ref (a 3)] : List Value).toArray) below meth c s.heap [] 0 0 (MQ below (va_Qi (fun (r_ : Int32) (X_ : WS) => out = (r_, X_)) (fun X_ t => va_P (dC, dI) classes (wl a cA X_) t.heap ∧ va_K (dC, dI) classes [(cA, .int)] t) A) (([.ref (a 3)] : List Value).toArray) s 0 0 (A)) (entryFrame m (([.ref (a 3)] : List Value).toArray) 2)
  generalize MQ below (va_Qi (fun (r_ : Int32) (X_ : WS) => out = (r_, X_)) (fun X_ t => va_P (dC, dI) classes (wl a cA X_) t.heap ∧ va_K (dC, dI) classes [(cA, .int)] t) A) (([.ref (a 3)] : List Value).toArray) s 0 0 (A) = Q at hret ⊢
  have hS : va_S A s.heap s.heap [] := va_S.rf
  have hl := lv_entry ([.ref (a 3)]) (n := 2) (Nat.le_of_ble_eq_true rfl)
  rw [lg_entry_eq]
  generalize (lg_sl ([.ref (a 3)]) ++ List.replicate (2 - (lg_sl ([.ref (a 3)])).length) Slot.unset).toArray = ls at hl ⊢
  have hl : lv_has ls 2 [(0, .ref (a 3))] := hl
  refine lv_aload_n hx hb dX2_renew_0 rfl (lv_at hl 0 rfl) ?_
  refine va_get (D := (dC, dI)) (ci := 2) (v := .int (X 3 11)) (C := RX2) (T := TX2) (N := 17) hx hb hts iX2 hown hK hP 3 rfl rfl 11 (by decide) (hts _ wd_95) (fun _ h9 => h9) rfl dX2_renew_1 ?_
  refine lv_aload_n hx hb dX2_renew_4 rfl (lv_at hl 0 rfl) ?_
  refine va_get (D := (dC, dI)) (ci := 2) (v := .int (X 3 10)) (C := RX2) (T := TX2) (N := 17) hx hb hts iX2 hown hK hP 3 rfl rfl 10 (by decide) (hts _ wd_93) (fun _ h9 => h9) rfl dX2_renew_5 ?_
  refine lv_icmp_lt (tgt := 15) hx hb dX2_renew_8 (by decide) (fun c1 => ?_) (fun c1 => ?_)
  · have hw := ite_t hw c1
    refine lv_iconst (v := 0) hx hb dX2_renew_15 (by decide) ?_
    refine lv_istore_n (lv' := [(1, .int 0), (0, .ref (a 3))]) hx hb dX2_renew_16 rfl hl (by decide) rfl (fun ls hl => ?_)
    refine lv_aload_n hx hb dX2_renew_17 rfl (lv_at hl 1 rfl) ?_
    refine lv_iconst (v := 0) hx hb dX2_renew_18 (by decide) ?_
    refine va_put (D := (dC, dI)) (ci := 2) (v := .int 0) (ty := .int) (C := RX2) (T := TX2) (N := 17) hx hb hts iX2 tyX2 tyX2_ok nmX2 hown hK hP (wlD hD0) hS 3 rfl rfl 7 (by decide) (hts _ wd_87) (fun _ h9 => h9) rfl (by decide +kernel) rfl rfl (Nat.le_of_ble_eq_true rfl) dX2_renew_19 (fun H locs hP hD_ hS => ?_)
    obtain ⟨X2, eX2⟩ : ∃ y : WS, y = (ups X 3 7 0) := ⟨_, rfl⟩
    have hw := stp_use hw eX2
    have hP : va_P (dC, dI) classes (wl a cA X2) H := by rw [eX2]; exact hP
    refine lv_aload_n hx hb dX2_renew_22 rfl (lv_at hl 1 rfl) ?_
    refine lv_iconst (v := 0) hx hb dX2_renew_23 (by decide) ?_
    refine va_put (D := (dC, dI)) (ci := 2) (v := .int 0) (ty := .int) (C := RX2) (T := TX2) (N := 17) hx hb hts iX2 tyX2 tyX2_ok nmX2 hown hK hP (wlD hD0) hS 3 rfl rfl 11 (by decide) (hts _ wd_95) (fun _ h9 => h9) rfl (by decide +kernel) rfl rfl (Nat.le_of_ble_eq_true rfl) dX2_renew_24 (fun H locs hP hD_ hS => ?_)
    obtain ⟨X3, eX3⟩ : ∃ y : WS, y = (ups X2 3 11 0) := ⟨_, rfl⟩
    have hw := stp_use hw eX3
    have hP : va_P (dC, dI) classes (wl a cA X3) H := by rw [eX3]; exact hP
    refine lv_aload_n hx hb dX2_renew_27 rfl (lv_at hl 1 rfl) ?_
    refine lv_dup hx hb dX2_renew_28 rfl ?_
    refine va_get (D := (dC, dI)) (ci := 2) (v := .int (X3 3 12)) (C := RX2) (T := TX2) (N := 17) hx hb hts iX2 hown hK hP 3 rfl rfl 12 (by decide) (hts _ wd_97) (fun _ h9 => h9) rfl dX2_renew_29 ?_
    refine lv_iconst (v := 1) hx hb dX2_renew_32 (by decide) ?_
    refine lv_iadd hx hb dX2_renew_33 ?_
    refine lv_topi (fun x4 ex4 => ?_)
    have hw := stp_use hw ex4
    refine va_put (D := (dC, dI)) (ci := 2) (v := .int x4) (ty := .int) (C := RX2) (T := TX2) (N := 17) hx hb hts iX2 tyX2 tyX2_ok nmX2 hown hK hP (wlD hD0) hS 3 rfl rfl 12 (by decide) (hts _ wd_97) (fun _ h9 => h9) rfl (by decide +kernel) rfl rfl (Nat.le_of_ble_eq_true rfl) dX2_renew_34 (fun H locs hP hD_ hS => ?_)
    obtain ⟨X5, eX5⟩ : ∃ y : WS, y = (ups X3 3 12 x4) := ⟨_, rfl⟩
    have hw := stp_use hw eX5
    have hP : va_P (dC, dI) classes (wl a cA X5) H := by rw [eX5]; exact hP
    refine lv_iload_n hx hb dX2_renew_37 rfl (lv_at hl 0 rfl) ?_
    exact hret _ _ _ _ _ _ (Option.some.inj hw) hP hS dX2_renew_38
  · have hw := ite_f hw c1
    refine lv_iconst (v := 1) hx hb dX2_renew_11 (by decide) ?_
    refine lv_goto (tgt := 16) hx hb dX2_renew_12 (by decide) ?_
    refine lv_istore_n (lv' := [(1, .int 1), (0, .ref (a 3))]) hx hb dX2_renew_16 rfl hl (by decide) rfl (fun ls hl => ?_)
    refine lv_aload_n hx hb dX2_renew_17 rfl (lv_at hl 1 rfl) ?_
    refine lv_iconst (v := 0) hx hb dX2_renew_18 (by decide) ?_
    refine va_put (D := (dC, dI)) (ci := 2) (v := .int 0) (ty := .int) (C := RX2) (T := TX2) (N := 17) hx hb hts iX2 tyX2 tyX2_ok nmX2 hown hK hP (wlD hD0) hS 3 rfl rfl 7 (by decide) (hts _ wd_87) (fun _ h9 => h9) rfl (by decide +kernel) rfl rfl (Nat.le_of_ble_eq_true rfl) dX2_renew_19 (fun H locs hP hD_ hS => ?_)
    obtain ⟨X6, eX6⟩ : ∃ y : WS, y = (ups X 3 7 0) := ⟨_, rfl⟩
    have hw := stp_use hw eX6
    have hP : va_P (dC, dI) classes (wl a cA X6) H := by rw [eX6]; exact hP
    refine lv_aload_n hx hb dX2_renew_22 rfl (lv_at hl 1 rfl) ?_
    refine lv_iconst (v := 0) hx hb dX2_renew_23 (by decide) ?_
    refine va_put (D := (dC, dI)) (ci := 2) (v := .int 0) (ty := .int) (C := RX2) (T := TX2) (N := 17) hx hb hts iX2 tyX2 tyX2_ok nmX2 hown hK hP (wlD hD0) hS 3 rfl rfl 11 (by decide) (hts _ wd_95) (fun _ h9 => h9) rfl (by decide +kernel) rfl rfl (Nat.le_of_ble_eq_true rfl) dX2_renew_24 (fun H locs hP hD_ hS => ?_)
    obtain ⟨X7, eX7⟩ : ∃ y : WS, y = (ups X6 3 11 0) := ⟨_, rfl⟩
    have hw := stp_use hw eX7
    have hP : va_P (dC, dI) classes (wl a cA X7) H := by rw [eX7]; exact hP
    refine lv_aload_n hx hb dX2_renew_27 rfl (lv_at hl 1 rfl) ?_
    refine lv_dup hx hb dX2_renew_28 rfl ?_
    refine va_get (D := (dC, dI)) (ci := 2) (v := .int (X7 3 12)) (C := RX2) (T := TX2) (N := 17) hx hb hts iX2 hown hK hP 3 rfl rfl 12 (by decide) (hts _ wd_97) (fun _ h9 => h9) rfl dX2_renew_29 ?_
    refine lv_iconst (v := 1) hx hb dX2_renew_32 (by decide) ?_
    refine lv_iadd hx hb dX2_renew_33 ?_
    refine lv_topi (fun x8 ex8 => ?_)
    have hw := stp_use hw ex8
    refine va_put (D := (dC, dI)) (ci := 2) (v := .int x8) (ty := .int) (C := RX2) (T := TX2) (N := 17) hx hb hts iX2 tyX2 tyX2_ok nmX2 hown hK hP (wlD hD0) hS 3 rfl rfl 12 (by decide) (hts _ wd_97) (fun _ h9 => h9) rfl (by decide +kernel) rfl rfl (Nat.le_of_ble_eq_true rfl) dX2_renew_34 (fun H locs hP hD_ hS => ?_)
    obtain ⟨X9, eX9⟩ : ∃ y : WS, y = (ups X7 3 12 x8) := ⟨_, rfl⟩
    have hw := stp_use hw eX9
    have hP : va_P (dC, dI) classes (wl a cA X9) H := by rw [eX9]; exact hP
    refine lv_iload_n hx hb dX2_renew_37 rfl (lv_at hl 0 rfl) ?_
    exact hret _ _ _ _ _ _ (Option.some.inj hw) hP hS dX2_renew_38
set_option maxHeartbeats 4000000 in
set_option maxRecDepth 100000 in
theorem c_X3_decree (l : Launch) (dC : Nat → ClassId) (dI : Nat → Nat → Nat) (A : Nat → Prop) (a : Nat → Nat) (cA : ClassId) (X : WS) (out : (Int32 × WS)) (hw : f_X3_decree X = some out) : Met l yX3_decree (.code yX3_decree cX3_decree 1 (some .int) :: lw_g) ({ frames := 1, cells := 0, slots := 0, locals := 21 }) (PcXD dC dI A a cA X [.ref (a 0)]) (va_Qi (fun (r_ : Int32) (X_ : WS) => out = (r_, X_)) (fun X_ t => va_P (dC, dI) classes (wl a cA X_) t.heap ∧ va_K (dC, dI) classes [(cA, .int)] t) A) 0 0 (A) := by
  unfold f_X3_decree at hw
  refine Met.ofW (cc := cX3_decree) (maxL := 1) (ret := (some .int)) (by decide) rfl ?_
  intro p e s m args below meth c s₁ B hml hv
  obtain ⟨rfl, hP, hK, hN, hD0⟩ := hv
  have hx := B.exec
  have hb := B.bytes
  have hr := B.returns
  have hts0 := atoms_spec (ws := (.code yX3_decree cX3_decree 1 (some .int) :: lw_g)) B.pre
  have hts : ∀ w ∈ lw_g, w.before (([.ref (a 0)] : List Value).toArray) s = true := fun w h => hts0 w (List.mem_cons_of_mem _ h)
  clear hts0
  have hown : s.vm.findClass RX3 = some m.cls := findClass_of_methodNamed B.named
  have hlocks := B.notSynchronized
  have hret : ∀ (pc : Nat) (ls : Array Slot) (v : Int32) (X_ : WS) (H : Heap) (locs : List Loc), (v, X_) = out → va_P (dC, dI) classes (wl a cA X_) H → va_S A s.heap H locs → decode cX3_decree pc = .ok (.ireturn, 1) → W p l e ({ frames := 1, cells := 0, slots := 0, locals := 21 }) s m (([.ref (a 0)] : List Value).toArray) below meth c H locs 0 0 (MQ below (va_Qi (fun (r_ : Int32) (X_ : WS) => out = (r_, X_)) (fun X_ t => va_P (dC, dI) classes (wl a cA X_) t.heap ∧ va_K (dC, dI) classes [(cA, .int)] t) A) (([.ref (a 0)] : List Value).toArray) s 0 0 (A)) (F0 m pc ls [.int v]) := fun pc ls v X_ H locs hv hP hS hd => W.iret hx hb hr (fun t ht hW => ⟨⟨v, X_, rfl, hv.symm, by rw [ht]; exact hP, va_K.moved hW.alike hK⟩, hS.F ht⟩) hS.2.2 hd
  show W p l e ({ frames := 1, cells := 0, slots := 0, locals := 21 }) s m (([.ref (a 0)] : List Value).toArray) below meth c s.heap [] 0 0 (MQ below (va_Qi (fun (r_ : Int32) (X_ : WS) => out = (r_, X_)) (fun X_ t => va_P (dC, dI) classes (wl a cA X_) t.heap ∧ va_K (dC, dI) classes [(cA, .int)] t) A) (([.ref (a 0)] : List Value).toArray) s 0 0 (A)) (entryFrame m (([.ref (a 0)] : List Value).toArray) 1)
  generalize MQ below (va_Qi (fun (r_ : Int32) (X_ : WS) => out = (r_, X_)) (fun X_ t => va_P (dC, dI) classes (wl a cA X_) t.heap ∧ va_K (dC, dI) classes [(cA, .int)] t) A) (([.ref (a 0)] : List Value).toArray) s 0 0 (A) = Q at hret ⊢
  have hS : va_S A s.heap s.heap [] := va_S.rf
  have hl := lv_entry ([.ref (a 0)]) (n := 1) (Nat.le_of_ble_eq_true rfl)
  rw [lg_entry_eq]
  generalize (lg_sl ([.ref (a 0)]) ++ List.replicate (1 - (lg_sl ([.ref (a 0)])).length) Slot.unset).toArray = ls at hl ⊢
  have hl : lv_has ls 1 [(0, .ref (a 0))] := hl
  refine lv_aload_n hx hb dX3_decree_0 rfl (lv_at hl 0 rfl) ?_
  obtain ⟨r1, er1, hw⟩ := Option.bind_eq_some_iff.mp hw
  refine vp_callSi (va_runV (As := []) (rest := []) ⟨hx, hb, hml, hown, hts⟩ (c_X3_hasTown l dC dI a cA X r1 er1) ⟨callB_of 0 hts gd_X3_hasTown rfl rfl rfl (hts _ wd_35) (hts _ wd_257) hd_X3_hasTown ⟨Nat.le_of_ble_eq_true rfl, Nat.le_of_ble_eq_true rfl⟩, hts _ wd_259, hts _ wd_1⟩ ⟨blX, va_recv hK hP (ci := 3) (q0 := 0) rfl rfl, fun U hU hW => ⟨rfl, by rw [hU]; exact hP, va_K.moved hW.alike hK, nst.warm hW hN⟩⟩ rfl rfl hl.1 rfl (lv_room (Nat.le_of_ble_eq_true rfl)) dX3_decree_1 ⟨Nat.zero_le _, Nat.zero_le _⟩).run (fun r_ e_ => ?_)
  subst r_
  refine lv_if_eq (tgt := 17) hx hb dX3_decree_4 (by decide) (fun c2 => ?_) (fun c2 => ?_)
  · have hw := ite_t hw c2
    refine lv_bipush (v := (-103)) hx hb dX3_decree_17 (by decide) ?_
    exact hret _ _ _ _ _ _ (Option.some.inj hw) hP hS dX3_decree_19
  · have hw := ite_f hw c2
    refine lv_aload_n hx hb dX3_decree_7 rfl (lv_at hl 0 rfl) ?_
    refine va_get (D := (dC, dI)) (ci := 3) (v := .ref (a 3)) (C := RX3) (T := TX3) (N := 6) hx hb hts iX3 hown hK hP 0 rfl rfl 1 (by decide) (hts _ wd_179) (fun _ h9 => h9) rfl dX3_decree_8 ?_
    obtain ⟨r3, X4, er3, hw⟩ := bnd2_use hw
    refine va_calli (va_runV (As := []) (rest := []) ⟨hx, hb, hml, hown, hts⟩ (c_X2_renew l dC dI A a cA X (r3, X4) er3) ⟨callB_of 0 hts gd_X2_renew rfl rfl rfl (hts _ wd_37) (hts _ wd_366) hd_X2_renew ⟨Nat.le_of_ble_eq_true rfl, Nat.le_of_ble_eq_true rfl⟩, hts _ wd_367, hts _ wd_368⟩ ⟨blXD, va_recv hK hP (ci := 2) (q0 := 3) rfl rfl, fun U hU hW => ⟨rfl, by rw [hU]; exact hP, va_K.moved hW.alike hK, nst.warm hW hN, wlD hD0⟩⟩ rfl rfl hl.1 rfl (lv_room (Nat.le_of_ble_eq_true rfl)) dX3_decree_11 ⟨Nat.zero_le _, Nat.zero_le _⟩) hS (fun _ _ h => h) (fun _ h => h) (fun r_ u_ t_ H1 locs1 ht hvm hp_ hB hz1 hk1 hS1 => ?_)
    obtain ⟨q1_, q2_⟩ := Prod.mk.inj hp_
    subst q1_
    subst q2_
    obtain ⟨hP1, hK1⟩ := hB
    rw [ht] at hP1
    have hP := hP1
    have hS := hS1
    refine lv_goto (tgt := 19) hx hb dX3_decree_14 (by decide) ?_
    exact hret _ _ _ _ _ _ (Option.some.inj hw) hP hS dX3_decree_19
set_option maxHeartbeats 4000000 in
set_option maxRecDepth 100000 in
theorem c_X4_decree (l : Launch) (dC : Nat → ClassId) (dI : Nat → Nat → Nat) (A : Nat → Prop) (a : Nat → Nat) (cA : ClassId) (X : MS) (out : (Int32 × MS)) (hw : f_X4_decree X = some out) : Met l yX4_decree (.code yX4_decree cX4_decree 2 (some .int) :: lw_g) ({ frames := 1, cells := 0, slots := 0, locals := 20 }) (PcMD dC dI A a cA X [.ref (a 0)]) (va_Qi (fun (r_ : Int32) (X_ : MS) => out = (r_, X_)) (fun X_ t => va_P (dC, dI) classes (wm a cA X_) t.heap ∧ va_K (dC, dI) classes [(cA, .int)] t) A) 0 0 (A) := by
  unfold f_X4_decree at hw
  refine Met.ofW (cc := cX4_decree) (maxL := 2) (ret := (some .int)) (by decide) rfl ?_
  intro p e s m args below meth c s₁ B hml hv
  obtain ⟨rfl, hP, hK, hD0⟩ := hv
  have hx := B.exec
  have hb := B.bytes
  have hr := B.returns
  have hts0 := atoms_spec (ws := (.code yX4_decree cX4_decree 2 (some .int) :: lw_g)) B.pre
  have hts : ∀ w ∈ lw_g, w.before (([.ref (a 0)] : List Value).toArray) s = true := fun w h => hts0 w (List.mem_cons_of_mem _ h)
  clear hts0
  have hown : s.vm.findClass RX4 = some m.cls := findClass_of_methodNamed B.named
  have hlocks := B.notSynchronized
  have hret : ∀ (pc : Nat) (ls : Array Slot) (v : Int32) (X_ : MS) (H : Heap) (locs : List Loc), (v, X_) = out → va_P (dC, dI) classes (wm a cA X_) H → va_S A s.heap H locs → decode cX4_decree pc = .ok (.ireturn, 1) → W p l e ({ frames := 1, cells := 0, slots := 0, locals := 20 }) s m (([.ref (a 0)] : List Value).toArray) below meth c H locs 0 0 (MQ below (va_Qi (fun (r_ : Int32) (X_ : MS) => out = (r_, X_)) (fun X_ t => va_P (dC, dI) classes (wm a cA X_) t.heap ∧ va_K (dC, dI) classes [(cA, .int)] t) A) (([.ref (a 0)] : List Value).toArray) s 0 0 (A)) (F0 m pc ls [.int v]) := fun pc ls v X_ H locs hv hP hS hd => W.iret hx hb hr (fun t ht hW => ⟨⟨v, X_, rfl, hv.symm, by rw [ht]; exact hP, va_K.moved hW.alike hK⟩, hS.F ht⟩) hS.2.2 hd
  show W p l e ({ frames := 1, cells := 0, slots := 0, locals := 20 }) s m (([.ref (a 0)] : List Value).toArray) below meth c s.heap [] 0 0 (MQ below (va_Qi (fun (r_ : Int32) (X_ : MS) => out = (r_, X_)) (fun X_ t => va_P (dC, dI) classes (wm a cA X_) t.heap ∧ va_K (dC, dI) classes [(cA, .int)] t) A) (([.ref (a 0)] : List Value).toArray) s 0 0 (A)) (entryFrame m (([.ref (a 0)] : List Value).toArray) 2)
  generalize MQ below (va_Qi (fun (r_ : Int32) (X_ : MS) => out = (r_, X_)) (fun X_ t => va_P (dC, dI) classes (wm a cA X_) t.heap ∧ va_K (dC, dI) classes [(cA, .int)] t) A) (([.ref (a 0)] : List Value).toArray) s 0 0 (A) = Q at hret ⊢
  have hS : va_S A s.heap s.heap [] := va_S.rf
  have hl := lv_entry ([.ref (a 0)]) (n := 2) (Nat.le_of_ble_eq_true rfl)
  rw [lg_entry_eq]
  generalize (lg_sl ([.ref (a 0)]) ++ List.replicate (2 - (lg_sl ([.ref (a 0)])).length) Slot.unset).toArray = ls at hl ⊢
  have hl : lv_has ls 2 [(0, .ref (a 0))] := hl
  refine lv_aload_n hx hb dX4_decree_0 rfl (lv_at hl 0 rfl) ?_
  obtain ⟨r1, er1, hw⟩ := Option.bind_eq_some_iff.mp hw
  refine vp_callSi (va_runV (As := []) (rest := []) ⟨hx, hb, hml, hown, hts⟩ (c_X4_lacks l dC dI a cA X r1 er1) ⟨callB_of 0 hts gd_X4_lacks rfl rfl rfl (hts _ wd_39) (hts _ wd_647) hd_X4_lacks ⟨Nat.le_of_ble_eq_true rfl, Nat.le_of_ble_eq_true rfl⟩, hts _ wd_649, hts _ wd_12⟩ ⟨blM, va_recv hK hP (ci := 4) (q0 := 0) rfl rfl, fun U hU hW => ⟨rfl, by rw [hU]; exact hP, va_K.moved hW.alike hK⟩⟩ rfl rfl hl.1 rfl (lv_room (Nat.le_of_ble_eq_true rfl)) dX4_decree_1 ⟨Nat.zero_le _, Nat.zero_le _⟩).run (fun r_ e_ => ?_)
  subst r_
  refine lv_if_eq (tgt := 10) hx hb dX4_decree_4 (by decide) (fun c2 => ?_) (fun c2 => ?_)
  · have hw := ite_t hw c2
    refine lv_aload_n hx hb dX4_decree_10 rfl (lv_at hl 0 rfl) ?_
    refine va_get (D := (dC, dI)) (ci := 4) (v := .int (X.1 0 5)) (C := RX4) (T := TX4) (N := 29) hx hb hts iX4 hown hK hP 0 rfl rfl 5 (by decide) (hts _ wd_527) (fun _ h9 => h9) rfl dX4_decree_11 ?_
    refine lv_aload_n hx hb dX4_decree_14 rfl (lv_at hl 0 rfl) ?_
    refine va_get (D := (dC, dI)) (ci := 4) (v := .int (X.1 0 4)) (C := RX4) (T := TX4) (N := 29) hx hb hts iX4 hown hK hP 0 rfl rfl 4 (by decide) (hts _ wd_526) (fun _ h9 => h9) rfl dX4_decree_15 ?_
    refine lv_icmp_lt (tgt := 25) hx hb dX4_decree_18 (by decide) (fun c3 => ?_) (fun c3 => ?_)
    · have hw := ite_t hw c3
      refine lv_iconst (v := 0) hx hb dX4_decree_25 (by decide) ?_
      refine lv_istore_n (lv' := [(1, .int 0), (0, .ref (a 0))]) hx hb dX4_decree_26 rfl hl (by decide) rfl (fun ls hl => ?_)
      refine lv_aload_n hx hb dX4_decree_27 rfl (lv_at hl 1 rfl) ?_
      refine lv_iconst (v := 0) hx hb dX4_decree_28 (by decide) ?_
      refine va_put (D := (dC, dI)) (ci := 4) (v := .int 0) (ty := .int) (C := RX4) (T := TX4) (N := 29) hx hb hts iX4 tyX4 tyX4_ok nmX4 hown hK hP (wmD hD0) hS 0 rfl rfl 5 (by decide) (hts _ wd_527) (fun _ h9 => h9) rfl (by decide +kernel) rfl rfl (Nat.le_of_ble_eq_true rfl) dX4_decree_29 (fun H locs hP hD_ hS => ?_)
      obtain ⟨X4, eX4⟩ : ∃ y : MS, y = (ups X.1 0 5 0, X.2) := ⟨_, rfl⟩
      have hw := stp_use hw eX4
      have hP : va_P (dC, dI) classes (wm a cA X4) H := by rw [eX4]; exact hP
      refine lv_aload_n hx hb dX4_decree_32 rfl (lv_at hl 1 rfl) ?_
      refine lv_iconst (v := 0) hx hb dX4_decree_33 (by decide) ?_
      refine va_put (D := (dC, dI)) (ci := 4) (v := .int 0) (ty := .int) (C := RX4) (T := TX4) (N := 29) hx hb hts iX4 tyX4 tyX4_ok nmX4 hown hK hP (wmD hD0) hS 0 rfl rfl 6 (by decide) (hts _ wd_528) (fun _ h9 => h9) rfl (by decide +kernel) rfl rfl (Nat.le_of_ble_eq_true rfl) dX4_decree_34 (fun H locs hP hD_ hS => ?_)
      obtain ⟨X5, eX5⟩ : ∃ y : MS, y = (ups X4.1 0 6 0, X4.2) := ⟨_, rfl⟩
      have hw := stp_use hw eX5
      have hP : va_P (dC, dI) classes (wm a cA X5) H := by rw [eX5]; exact hP
      refine lv_aload_n hx hb dX4_decree_37 rfl (lv_at hl 1 rfl) ?_
      refine lv_dup hx hb dX4_decree_38 rfl ?_
      refine va_get (D := (dC, dI)) (ci := 4) (v := .int (X5.1 0 7)) (C := RX4) (T := TX4) (N := 29) hx hb hts iX4 hown hK hP 0 rfl rfl 7 (by decide) (hts _ wd_529) (fun _ h9 => h9) rfl dX4_decree_39 ?_
      refine lv_iconst (v := 1) hx hb dX4_decree_42 (by decide) ?_
      refine lv_iadd hx hb dX4_decree_43 ?_
      refine lv_topi (fun x6 ex6 => ?_)
      have hw := stp_use hw ex6
      refine va_put (D := (dC, dI)) (ci := 4) (v := .int x6) (ty := .int) (C := RX4) (T := TX4) (N := 29) hx hb hts iX4 tyX4 tyX4_ok nmX4 hown hK hP (wmD hD0) hS 0 rfl rfl 7 (by decide) (hts _ wd_529) (fun _ h9 => h9) rfl (by decide +kernel) rfl rfl (Nat.le_of_ble_eq_true rfl) dX4_decree_44 (fun H locs hP hD_ hS => ?_)
      obtain ⟨X7, eX7⟩ : ∃ y : MS, y = (ups X5.1 0 7 x6, X5.2) := ⟨_, rfl⟩
      have hw := stp_use hw eX7
      have hP : va_P (dC, dI) classes (wm a cA X7) H := by rw [eX7]; exact hP
      refine lv_iload_n hx hb dX4_decree_47 rfl (lv_at hl 0 rfl) ?_
      exact hret _ _ _ _ _ _ (Option.some.inj hw) hP hS dX4_decree_48
    · have hw := ite_f hw c3
      refine lv_iconst (v := 1) hx hb dX4_decree_21 (by decide) ?_
      refine lv_goto (tgt := 26) hx hb dX4_decree_22 (by decide) ?_
      refine lv_istore_n (lv' := [(1, .int 1), (0, .ref (a 0))]) hx hb dX4_decree_26 rfl hl (by decide) rfl (fun ls hl => ?_)
      refine lv_aload_n hx hb dX4_decree_27 rfl (lv_at hl 1 rfl) ?_
      refine lv_iconst (v := 0) hx hb dX4_decree_28 (by decide) ?_
      refine va_put (D := (dC, dI)) (ci := 4) (v := .int 0) (ty := .int) (C := RX4) (T := TX4) (N := 29) hx hb hts iX4 tyX4 tyX4_ok nmX4 hown hK hP (wmD hD0) hS 0 rfl rfl 5 (by decide) (hts _ wd_527) (fun _ h9 => h9) rfl (by decide +kernel) rfl rfl (Nat.le_of_ble_eq_true rfl) dX4_decree_29 (fun H locs hP hD_ hS => ?_)
      obtain ⟨X8, eX8⟩ : ∃ y : MS, y = (ups X.1 0 5 0, X.2) := ⟨_, rfl⟩
      have hw := stp_use hw eX8
      have hP : va_P (dC, dI) classes (wm a cA X8) H := by rw [eX8]; exact hP
      refine lv_aload_n hx hb dX4_decree_32 rfl (lv_at hl 1 rfl) ?_
      refine lv_iconst (v := 0) hx hb dX4_decree_33 (by decide) ?_
      refine va_put (D := (dC, dI)) (ci := 4) (v := .int 0) (ty := .int) (C := RX4) (T := TX4) (N := 29) hx hb hts iX4 tyX4 tyX4_ok nmX4 hown hK hP (wmD hD0) hS 0 rfl rfl 6 (by decide) (hts _ wd_528) (fun _ h9 => h9) rfl (by decide +kernel) rfl rfl (Nat.le_of_ble_eq_true rfl) dX4_decree_34 (fun H locs hP hD_ hS => ?_)
      obtain ⟨X9, eX9⟩ : ∃ y : MS, y = (ups X8.1 0 6 0, X8.2) := ⟨_, rfl⟩
      have hw := stp_use hw eX9
      have hP : va_P (dC, dI) classes (wm a cA X9) H := by rw [eX9]; exact hP
      refine lv_aload_n hx hb dX4_decree_37 rfl (lv_at hl 1 rfl) ?_
      refine lv_dup hx hb dX4_decree_38 rfl ?_
      refine va_get (D := (dC, dI)) (ci := 4) (v := .int (X9.1 0 7)) (C := RX4) (T := TX4) (N := 29) hx hb hts iX4 hown hK hP 0 rfl rfl 7 (by decide) (hts _ wd_529) (fun _ h9 => h9) rfl dX4_decree_39 ?_
      refine lv_iconst (v := 1) hx hb dX4_decree_42 (by decide) ?_
      refine lv_iadd hx hb dX4_decree_43 ?_
      refine lv_topi (fun x10 ex10 => ?_)
      have hw := stp_use hw ex10
      refine va_put (D := (dC, dI)) (ci := 4) (v := .int x10) (ty := .int) (C := RX4) (T := TX4) (N := 29) hx hb hts iX4 tyX4 tyX4_ok nmX4 hown hK hP (wmD hD0) hS 0 rfl rfl 7 (by decide) (hts _ wd_529) (fun _ h9 => h9) rfl (by decide +kernel) rfl rfl (Nat.le_of_ble_eq_true rfl) dX4_decree_44 (fun H locs hP hD_ hS => ?_)
      obtain ⟨X11, eX11⟩ : ∃ y : MS, y = (ups X9.1 0 7 x10, X9.2) := ⟨_, rfl⟩
      have hw := stp_use hw eX11
      have hP : va_P (dC, dI) classes (wm a cA X11) H := by rw [eX11]; exact hP
      refine lv_iload_n hx hb dX4_decree_47 rfl (lv_at hl 0 rfl) ?_
      exact hret _ _ _ _ _ _ (Option.some.inj hw) hP hS dX4_decree_48
  · have hw := ite_f hw c2
    refine lv_bipush (v := (-103)) hx hb dX4_decree_7 (by decide) ?_
    exact hret _ _ _ _ _ _ (Option.some.inj hw) hP hS dX4_decree_9
set_option maxHeartbeats 4000000 in
set_option maxRecDepth 100000 in
theorem c_X0_whisper (l : Launch) (dC : Nat → ClassId) (dI : Nat → Nat → Nat) (A : Nat → Prop) (a : Nat → Nat) (cA : ClassId) (X : WS) (out : WS) (hw : f_X0_whisper X = some out) : Met l yX0_whisper (.code yX0_whisper cX0_whisper 5 none :: lw_g) ({ frames := 3, cells := 0, slots := 0, locals := 77 }) (PcXD dC dI A a cA X [.ref (a 15), .ref (a 3)]) (va_Qv (fun X_ : WS => out = X_) (fun X_ t => va_P (dC, dI) classes (wl a cA X_) t.heap ∧ va_K (dC, dI) classes [(cA, .int)] t) A) 0 0 (A) := by
  unfold f_X0_whisper at hw
  refine Met.ofW (cc := cX0_whisper) (maxL := 5) (ret := none) (by decide) rfl ?_
  intro p e s m args below meth c s₁ B hml hv
  obtain ⟨rfl, hP, hK, hN, hD0⟩ := hv
  have hx := B.exec
  have hb := B.bytes
  have hr := B.returns
  have hts0 := atoms_spec (ws := (.code yX0_whisper cX0_whisper 5 none :: lw_g)) B.pre
  have hts : ∀ w ∈ lw_g, w.before (([.ref (a 15), .ref (a 3)] : List Value).toArray) s = true := fun w h => hts0 w (List.mem_cons_of_mem _ h)
  clear hts0
  have hown : s.vm.findClass RX0 = some m.cls := findClass_of_methodNamed B.named
  have hlocks := B.notSynchronized
  have hret : ∀ (pc : Nat) (ls : Array Slot) (X_ : WS) (H : Heap) (locs : List Loc), X_ = out → va_P (dC, dI) classes (wl a cA X_) H → va_S A s.heap H locs → decode cX0_whisper pc = .ok (.return_, 1) → W p l e ({ frames := 3, cells := 0, slots := 0, locals := 77 }) s m (([.ref (a 15), .ref (a 3)] : List Value).toArray) below meth c H locs 0 0 (MQ below (va_Qv (fun X_ : WS => out = X_) (fun X_ t => va_P (dC, dI) classes (wl a cA X_) t.heap ∧ va_K (dC, dI) classes [(cA, .int)] t) A) (([.ref (a 15), .ref (a 3)] : List Value).toArray) s 0 0 (A)) (F0 m pc ls []) := fun pc ls X_ H locs hv hP hS hd => W.vret hx hb hr (fun t ht hW => ⟨⟨X_, rfl, hv.symm, by rw [ht]; exact hP, va_K.moved hW.alike hK⟩, hS.F ht⟩) hS.2.2 hd
  show W p l e ({ frames := 3, cells := 0, slots := 0, locals := 77 }) s m (([.ref (a 15), .ref (a 3)] : List Value).toArray) below meth c s.heap [] 0 0 (MQ below (va_Qv (fun X_ : WS => out = X_) (fun X_ t => va_P (dC, dI) classes (wl a cA X_) t.heap ∧ va_K (dC, dI) classes [(cA, .int)] t) A) (([.ref (a 15), .ref (a 3)] : List Value).toArray) s 0 0 (A)) (entryFrame m (([.ref (a 15), .ref (a 3)] : List Value).toArray) 5)
  generalize MQ below (va_Qv (fun X_ : WS => out = X_) (fun X_ t => va_P (dC, dI) classes (wl a cA X_) t.heap ∧ va_K (dC, dI) classes [(cA, .int)] t) A) (([.ref (a 15), .ref (a 3)] : List Value).toArray) s 0 0 (A) = Q at hret ⊢
  have hS : va_S A s.heap s.heap [] := va_S.rf
  have L12 : ∀ n : Nat, ∀ (X : WS), ∀ (v2 : Int32), g_X0_whisper_12 n X v2 = some out → ∀ (H : Heap) (locs : List Loc), va_P (dC, dI) classes (wl a cA X) H → va_S A s.heap H locs → ∀ ls : Array Slot, lv_has ls 5 [(0, .ref (a 15)), (1, .ref (a 3)), (2, .int v2)] → W p l e ({ frames := 3, cells := 0, slots := 0, locals := 77 }) s m (([.ref (a 15), .ref (a 3)] : List Value).toArray) below meth c H locs 0 0 Q (F0 m 12 ls []) := by
    intro n
    induction n with
    | zero =>
      intro X v2 hw
      rw [g_X0_whisper_12] at hw
      cases hw
    | succ n ih =>
      intro X v2 hw H locs hP hS ls hl
      rw [g_X0_whisper_12] at hw
      refine lv_iload_n hx hb dX0_whisper_12 rfl (lv_at hl 2 rfl) ?_
      refine lv_bipush (v := 6) hx hb dX0_whisper_13 (by decide) ?_
      refine lv_icmp_ge (tgt := 82) hx hb dX0_whisper_15 (by decide) (fun c3 => ?_) (fun c3 => ?_)
      · have hw := ite_t hw c3
        exact hret _ _ _ _ _ (Option.some.inj hw) hP hS dX0_whisper_82
      · have hw := ite_f hw c3
        refine lv_aload_n hx hb dX0_whisper_18 rfl (lv_at hl 1 rfl) ?_
        refine va_getN (D := (dC, dI)) (ci := 2) (v := .int (X 3 9)) (C := RX2) (T := TX2) (N := 17) hx hb hts iX2 hown hK hP 3 rfl rfl 9 (by decide) (va_Nw.use rfl (hN _ nk_90)) (fun _ h9 => h9) rfl dX0_whisper_19 ?_
        refine lv_iconst (v := 1) hx hb dX0_whisper_22 (by decide) ?_
        refine lv_icmp_lt (tgt := 82) hx hb dX0_whisper_23 (by decide) (fun c4 => ?_) (fun c4 => ?_)
        · have hw := ite_t hw c4
          exact hret _ _ _ _ _ (Option.some.inj hw) hP hS dX0_whisper_82
        · have hw := ite_f hw c4
          refine lv_aload_n hx hb dX0_whisper_26 rfl (lv_at hl 1 rfl) ?_
          refine lv_aload_n hx hb dX0_whisper_27 rfl (lv_at hl 1 rfl) ?_
          refine va_getN (D := (dC, dI)) (ci := 2) (v := .int (X 3 7)) (C := RX2) (T := TX2) (N := 17) hx hb hts iX2 hown hK hP 3 rfl rfl 7 (by decide) (va_Nw.use rfl (hN _ nk_86)) (fun _ h9 => h9) rfl dX0_whisper_28 ?_
          refine lv_iload_n hx hb dX0_whisper_31 rfl (lv_at hl 2 rfl) ?_
          refine lv_iconst (v := 1) hx hb dX0_whisper_32 (by decide) ?_
          refine lv_iconst (v := 0) hx hb dX0_whisper_33 (by decide) ?_
          obtain ⟨r5, er5, hw⟩ := Option.bind_eq_some_iff.mp hw
          refine vp_callSi (va_runV (As := [.int (X 3 7), .int v2, .int 1, .int 0]) (rest := []) ⟨hx, hb, hml, hown, hts⟩ (c_X2_spread l dC dI a cA X (X 3 7) v2 1 0 r5 er5) ⟨callB_of 4 hts gd_X2_spread rfl rfl rfl (hts _ wd_37) (hts _ wd_378) hd_X2_spread ⟨Nat.le_of_ble_eq_true rfl, Nat.le_of_ble_eq_true rfl⟩, hts _ wd_320, hts _ wd_321⟩ ⟨blX, va_recv hK hP (ci := 2) (q0 := 3) rfl rfl, fun U hU hW => ⟨rfl, by rw [hU]; exact hP, va_K.moved hW.alike hK, nst.warm hW hN⟩⟩ rfl rfl hl.1 rfl (lv_room (Nat.le_of_ble_eq_true rfl)) dX0_whisper_34 ⟨Nat.zero_le _, Nat.zero_le _⟩).run (fun r_ e_ => ?_)
          subst r_
          refine lv_istore_n (lv' := [(3, .int r5), (0, .ref (a 15)), (1, .ref (a 3)), (2, .int v2)]) hx hb dX0_whisper_37 rfl hl (by decide) rfl (fun ls hl => ?_)
          refine lv_aload_n hx hb dX0_whisper_38 rfl (lv_at hl 2 rfl) ?_
          refine lv_iload_n hx hb dX0_whisper_39 rfl (lv_at hl 0 rfl) ?_
          obtain ⟨r6, er6, hw⟩ := Option.bind_eq_some_iff.mp hw
          refine vp_callSi (va_runV (As := [.int r5]) (rest := []) ⟨hx, hb, hml, hown, hts⟩ (c_X2_knowing l dC dI a cA X r5 r6 er6) ⟨callB_of 1 hts gd_X2_knowing rfl rfl rfl (hts _ wd_37) (hts _ wd_379) hd_X2_knowing ⟨Nat.le_of_ble_eq_true rfl, Nat.le_of_ble_eq_true rfl⟩, hts _ wd_291, hts _ wd_292⟩ ⟨blX, va_recv hK hP (ci := 2) (q0 := 3) rfl rfl, fun U hU hW => ⟨rfl, by rw [hU]; exact hP, va_K.moved hW.alike hK, nst.warm hW hN⟩⟩ rfl rfl hl.1 rfl (lv_room (Nat.le_of_ble_eq_true rfl)) dX0_whisper_40 ⟨Nat.zero_le _, Nat.zero_le _⟩).run (fun r_ e_ => ?_)
          subst r_
          obtain ⟨r7, er7, hw⟩ := Option.bind_eq_some_iff.mp hw
          refine vp_callSi (va_runS (As := [.int r6]) (rest := []) ⟨hx, hb, hml, hown, hts⟩ (c_J6_bitCount_0f7a4 l r6 r7 er7) ⟨callB_of 1 hts gd_J6_bitCount_0f7a4 rfl rfl rfl (hts _ wd_40) (hts _ wd_380) hd_J6_bitCount_0f7a4 ⟨Nat.le_of_ble_eq_true rfl, Nat.le_of_ble_eq_true rfl⟩, hts _ wd_333⟩ ⟨bl0, fun U hU hW => ⟨rfl, trivial⟩⟩ rfl rfl hl.1 rfl (lv_room (Nat.le_of_ble_eq_true rfl)) dX0_whisper_43 ⟨Nat.zero_le _, Nat.zero_le _⟩).run (fun r_ e_ => ?_)
          subst r_
          refine lv_istore (lv' := [(4, .int r7), (3, .int r5), (0, .ref (a 15)), (1, .ref (a 3)), (2, .int v2)]) hx hb dX0_whisper_46 hl (by decide) rfl (fun ls hl => ?_)
          refine lv_aload_n hx hb dX0_whisper_48 rfl (lv_at hl 2 rfl) ?_
          refine va_get (D := (dC, dI)) (ci := 0) (v := .int (X 15 1)) (C := RX0) (T := TX0) (N := 8) hx hb hts iX0 hown hK hP 15 rfl rfl 1 (by decide) (hts _ wd_147) (fun _ h9 => h9) rfl dX0_whisper_49 ?_
          refine lv_iconst (v := (-1)) hx hb dX0_whisper_52 (by decide) ?_
          refine lv_icmp_eq (tgt := 65) hx hb dX0_whisper_53 (by decide) (fun c8 => ?_) (fun c8 => ?_)
          · have hw := ite_t hw c8
            refine lv_aload_n hx hb dX0_whisper_65 rfl (lv_at hl 2 rfl) ?_
            refine lv_iload_n hx hb dX0_whisper_66 rfl (lv_at hl 4 rfl) ?_
            refine va_put (D := (dC, dI)) (ci := 0) (v := .int v2) (ty := .int) (C := RX0) (T := TX0) (N := 8) hx hb hts iX0 tyX0 tyX0_ok nmX0 hown hK hP (wlD hD0) hS 15 rfl rfl 1 (by decide) (hts _ wd_147) (fun _ h9 => h9) rfl (by decide +kernel) rfl rfl (Nat.le_of_ble_eq_true rfl) dX0_whisper_67 (fun H locs hP hD_ hS => ?_)
            obtain ⟨X9, eX9⟩ : ∃ y : WS, y = (ups X 15 1 v2) := ⟨_, rfl⟩
            have hw := stp_use hw eX9
            have hP : va_P (dC, dI) classes (wl a cA X9) H := by rw [eX9]; exact hP
            refine lv_aload_n hx hb dX0_whisper_70 rfl (lv_at hl 2 rfl) ?_
            refine lv_iload hx hb dX0_whisper_71 (lv_at hl 0 rfl) ?_
            refine va_put (D := (dC, dI)) (ci := 0) (v := .int r7) (ty := .int) (C := RX0) (T := TX0) (N := 8) hx hb hts iX0 tyX0 tyX0_ok nmX0 hown hK hP (wlD hD0) hS 15 rfl rfl 2 (by decide) (hts _ wd_149) (fun _ h9 => h9) rfl (by decide +kernel) rfl rfl (Nat.le_of_ble_eq_true rfl) dX0_whisper_73 (fun H locs hP hD_ hS => ?_)
            obtain ⟨X10, eX10⟩ : ∃ y : WS, y = (ups X9 15 2 r7) := ⟨_, rfl⟩
            have hw := stp_use hw eX10
            have hP : va_P (dC, dI) classes (wl a cA X10) H := by rw [eX10]; exact hP
            obtain ⟨x11, ex11⟩ : ∃ y : Int32, y = (v2 + 1) := ⟨_, rfl⟩
            have hw := stp_use hw ex11
            refine lv_iinc (v := x11) (lv' := [(2, .int x11), (4, .int r7), (3, .int r5), (0, .ref (a 15)), (1, .ref (a 3))]) hx hb dX0_whisper_76 hl (k := 4) rfl (by rw [ex11]; rfl) (by decide) rfl (fun ls hl => ?_)
            refine lv_goto (tgt := 12) hx hb dX0_whisper_79 (by decide) ?_
            exact ih X10 x11 hw _ _ hP hS ls (lv_sub hl [3, 4, 0] rfl)
          · have hw := ite_f hw c8
            refine lv_iload hx hb dX0_whisper_56 (lv_at hl 0 rfl) ?_
            refine lv_aload_n hx hb dX0_whisper_58 rfl (lv_at hl 2 rfl) ?_
            refine va_get (D := (dC, dI)) (ci := 0) (v := .int (X 15 2)) (C := RX0) (T := TX0) (N := 8) hx hb hts iX0 hown hK hP 15 rfl rfl 2 (by decide) (hts _ wd_149) (fun _ h9 => h9) rfl dX0_whisper_59 ?_
            refine lv_icmp_ge (tgt := 76) hx hb dX0_whisper_62 (by decide) (fun c12 => ?_) (fun c12 => ?_)
            · have hw := ite_t hw c12
              obtain ⟨x13, ex13⟩ : ∃ y : Int32, y = (v2 + 1) := ⟨_, rfl⟩
              have hw := stp_use hw ex13
              refine lv_iinc (v := x13) (lv' := [(2, .int x13), (4, .int r7), (3, .int r5), (0, .ref (a 15)), (1, .ref (a 3))]) hx hb dX0_whisper_76 hl (k := 4) rfl (by rw [ex13]; rfl) (by decide) rfl (fun ls hl => ?_)
              refine lv_goto (tgt := 12) hx hb dX0_whisper_79 (by decide) ?_
              exact ih X x13 hw _ _ hP hS ls (lv_sub hl [3, 4, 0] rfl)
            · have hw := ite_f hw c12
              refine lv_aload_n hx hb dX0_whisper_65 rfl (lv_at hl 2 rfl) ?_
              refine lv_iload_n hx hb dX0_whisper_66 rfl (lv_at hl 4 rfl) ?_
              refine va_put (D := (dC, dI)) (ci := 0) (v := .int v2) (ty := .int) (C := RX0) (T := TX0) (N := 8) hx hb hts iX0 tyX0 tyX0_ok nmX0 hown hK hP (wlD hD0) hS 15 rfl rfl 1 (by decide) (hts _ wd_147) (fun _ h9 => h9) rfl (by decide +kernel) rfl rfl (Nat.le_of_ble_eq_true rfl) dX0_whisper_67 (fun H locs hP hD_ hS => ?_)
              obtain ⟨X14, eX14⟩ : ∃ y : WS, y = (ups X 15 1 v2) := ⟨_, rfl⟩
              have hw := stp_use hw eX14
              have hP : va_P (dC, dI) classes (wl a cA X14) H := by rw [eX14]; exact hP
              refine lv_aload_n hx hb dX0_whisper_70 rfl (lv_at hl 2 rfl) ?_
              refine lv_iload hx hb dX0_whisper_71 (lv_at hl 0 rfl) ?_
              refine va_put (D := (dC, dI)) (ci := 0) (v := .int r7) (ty := .int) (C := RX0) (T := TX0) (N := 8) hx hb hts iX0 tyX0 tyX0_ok nmX0 hown hK hP (wlD hD0) hS 15 rfl rfl 2 (by decide) (hts _ wd_149) (fun _ h9 => h9) rfl (by decide +kernel) rfl rfl (Nat.le_of_ble_eq_true rfl) dX0_whisper_73 (fun H locs hP hD_ hS => ?_)
              obtain ⟨X15, eX15⟩ : ∃ y : WS, y = (ups X14 15 2 r7) := ⟨_, rfl⟩
              have hw := stp_use hw eX15
              have hP : va_P (dC, dI) classes (wl a cA X15) H := by rw [eX15]; exact hP
              obtain ⟨x16, ex16⟩ : ∃ y : Int32, y = (v2 + 1) := ⟨_, rfl⟩
              have hw := stp_use hw ex16
              refine lv_iinc (v := x16) (lv' := [(2, .int x16), (4, .int r7), (3, .int r5), (0, .ref (a 15)), (1, .ref (a 3))]) hx hb dX0_whisper_76 hl (k := 4) rfl (by rw [ex16]; rfl) (by decide) rfl (fun ls hl => ?_)
              refine lv_goto (tgt := 12) hx hb dX0_whisper_79 (by decide) ?_
              exact ih X15 x16 hw _ _ hP hS ls (lv_sub hl [3, 4, 0] rfl)
  have hl := lv_entry ([.ref (a 15), .ref (a 3)]) (n := 5) (Nat.le_of_ble_eq_true rfl)
  rw [lg_entry_eq]
  generalize (lg_sl ([.ref (a 15), .ref (a 3)]) ++ List.replicate (5 - (lg_sl ([.ref (a 15), .ref (a 3)])).length) Slot.unset).toArray = ls at hl ⊢
  have hl : lv_has ls 5 [(0, .ref (a 15)), (1, .ref (a 3))] := hl
  refine lv_aload_n hx hb dX0_whisper_0 rfl (lv_at hl 0 rfl) ?_
  refine lv_iconst (v := (-1)) hx hb dX0_whisper_1 (by decide) ?_
  refine va_put (D := (dC, dI)) (ci := 0) (v := .int (-1)) (ty := .int) (C := RX0) (T := TX0) (N := 8) hx hb hts iX0 tyX0 tyX0_ok nmX0 hown hK hP (wlD hD0) hS 15 rfl rfl 1 (by decide) (hts _ wd_147) (fun _ h9 => h9) rfl (by decide +kernel) rfl rfl (Nat.le_of_ble_eq_true rfl) dX0_whisper_2 (fun H locs hP hD_ hS => ?_)
  obtain ⟨X1, eX1⟩ : ∃ y : WS, y = (ups X 15 1 (-1)) := ⟨_, rfl⟩
  have hw := stp_use hw eX1
  have hP : va_P (dC, dI) classes (wl a cA X1) H := by rw [eX1]; exact hP
  refine lv_aload_n hx hb dX0_whisper_5 rfl (lv_at hl 0 rfl) ?_
  refine lv_iconst (v := (-1)) hx hb dX0_whisper_6 (by decide) ?_
  refine va_put (D := (dC, dI)) (ci := 0) (v := .int (-1)) (ty := .int) (C := RX0) (T := TX0) (N := 8) hx hb hts iX0 tyX0 tyX0_ok nmX0 hown hK hP (wlD hD0) hS 15 rfl rfl 2 (by decide) (hts _ wd_149) (fun _ h9 => h9) rfl (by decide +kernel) rfl rfl (Nat.le_of_ble_eq_true rfl) dX0_whisper_7 (fun H locs hP hD_ hS => ?_)
  obtain ⟨X2, eX2⟩ : ∃ y : WS, y = (ups X1 15 2 (-1)) := ⟨_, rfl⟩
  have hw := stp_use hw eX2
  have hP : va_P (dC, dI) classes (wl a cA X2) H := by rw [eX2]; exact hP
  refine lv_iconst (v := 0) hx hb dX0_whisper_10 (by decide) ?_
  refine lv_istore_n (lv' := [(2, .int 0), (0, .ref (a 15)), (1, .ref (a 3))]) hx hb dX0_whisper_11 rfl hl (by decide) rfl (fun ls hl => ?_)
  exact L12 NF X2 0 hw _ _ hP hS ls (lv_sub hl [1, 2, 0] rfl)
set_option maxHeartbeats 4000000 in
set_option maxRecDepth 100000 in
theorem c_X3_least (l : Launch) (dC : Nat → ClassId) (dI : Nat → Nat → Nat) (A : Nat → Prop) (a : Nat → Nat) (cA : ClassId) (X : WS) (p1 : Int32) (out : (Int32 × WS)) (hw : f_X3_least X p1 = some out) : Met l yX3_least (.code yX3_least cX3_least 2 (some .int) :: lw_g) ({ frames := 4, cells := 0, slots := 0, locals := 101 }) (PcXD dC dI A a cA X [.ref (a 0), .int p1]) (va_Qi (fun (r_ : Int32) (X_ : WS) => out = (r_, X_)) (fun X_ t => va_P (dC, dI) classes (wl a cA X_) t.heap ∧ va_K (dC, dI) classes [(cA, .int)] t) A) 0 0 (A) := by
  unfold f_X3_least at hw
  refine Met.ofW (cc := cX3_least) (maxL := 2) (ret := (some .int)) (by decide) rfl ?_
  intro p e s m args below meth c s₁ B hml hv
  obtain ⟨rfl, hP, hK, hN, hD0⟩ := hv
  have hx := B.exec
  have hb := B.bytes
  have hr := B.returns
  have hts0 := atoms_spec (ws := (.code yX3_least cX3_least 2 (some .int) :: lw_g)) B.pre
  have hts : ∀ w ∈ lw_g, w.before (([.ref (a 0), .int p1] : List Value).toArray) s = true := fun w h => hts0 w (List.mem_cons_of_mem _ h)
  clear hts0
  have hown : s.vm.findClass RX3 = some m.cls := findClass_of_methodNamed B.named
  have hlocks := B.notSynchronized
  have hret : ∀ (pc : Nat) (ls : Array Slot) (v : Int32) (X_ : WS) (H : Heap) (locs : List Loc), (v, X_) = out → va_P (dC, dI) classes (wl a cA X_) H → va_S A s.heap H locs → decode cX3_least pc = .ok (.ireturn, 1) → W p l e ({ frames := 4, cells := 0, slots := 0, locals := 101 }) s m (([.ref (a 0), .int p1] : List Value).toArray) below meth c H locs 0 0 (MQ below (va_Qi (fun (r_ : Int32) (X_ : WS) => out = (r_, X_)) (fun X_ t => va_P (dC, dI) classes (wl a cA X_) t.heap ∧ va_K (dC, dI) classes [(cA, .int)] t) A) (([.ref (a 0), .int p1] : List Value).toArray) s 0 0 (A)) (F0 m pc ls [.int v]) := fun pc ls v X_ H locs hv hP hS hd => W.iret hx hb hr (fun t ht hW => ⟨⟨v, X_, rfl, hv.symm, by rw [ht]; exact hP, va_K.moved hW.alike hK⟩, hS.F ht⟩) hS.2.2 hd
  show W p l e ({ frames := 4, cells := 0, slots := 0, locals := 101 }) s m (([.ref (a 0), .int p1] : List Value).toArray) below meth c s.heap [] 0 0 (MQ below (va_Qi (fun (r_ : Int32) (X_ : WS) => out = (r_, X_)) (fun X_ t => va_P (dC, dI) classes (wl a cA X_) t.heap ∧ va_K (dC, dI) classes [(cA, .int)] t) A) (([.ref (a 0), .int p1] : List Value).toArray) s 0 0 (A)) (entryFrame m (([.ref (a 0), .int p1] : List Value).toArray) 2)
  generalize MQ below (va_Qi (fun (r_ : Int32) (X_ : WS) => out = (r_, X_)) (fun X_ t => va_P (dC, dI) classes (wl a cA X_) t.heap ∧ va_K (dC, dI) classes [(cA, .int)] t) A) (([.ref (a 0), .int p1] : List Value).toArray) s 0 0 (A) = Q at hret ⊢
  have hS : va_S A s.heap s.heap [] := va_S.rf
  have hl := lv_entry ([.ref (a 0), .int p1]) (n := 2) (Nat.le_of_ble_eq_true rfl)
  rw [lg_entry_eq]
  generalize (lg_sl ([.ref (a 0), .int p1]) ++ List.replicate (2 - (lg_sl ([.ref (a 0), .int p1])).length) Slot.unset).toArray = ls at hl ⊢
  have hl : lv_has ls 2 [(0, .ref (a 0)), (1, .int p1)] := hl
  refine lv_iload_n hx hb dX3_least_0 rfl (lv_at hl 1 rfl) ?_
  refine lv_if_lt (tgt := 9) hx hb dX3_least_1 (by decide) (fun c1 => ?_) (fun c1 => ?_)
  · have hw := ite_t hw c1
    refine lv_bipush (v := (-102)) hx hb dX3_least_9 (by decide) ?_
    exact hret _ _ _ _ _ _ (Option.some.inj hw) hP hS dX3_least_11
  · have hw := ite_f hw c1
    refine lv_iload_n hx hb dX3_least_4 rfl (lv_at hl 1 rfl) ?_
    refine lv_iconst (v := 1) hx hb dX3_least_5 (by decide) ?_
    refine lv_icmp_le (tgt := 12) hx hb dX3_least_6 (by decide) (fun c2 => ?_) (fun c2 => ?_)
    · have hw := ite_t hw c2
      refine lv_aload_n hx hb dX3_least_12 rfl (lv_at hl 0 rfl) ?_
      obtain ⟨r3, er3, hw⟩ := Option.bind_eq_some_iff.mp hw
      refine vp_callSi (va_runV (As := []) (rest := []) ⟨hx, hb, hml, hown, hts⟩ (c_X3_hasTown l dC dI a cA X r3 er3) ⟨callB_of 0 hts gd_X3_hasTown rfl rfl rfl (hts _ wd_35) (hts _ wd_257) hd_X3_hasTown ⟨Nat.le_of_ble_eq_true rfl, Nat.le_of_ble_eq_true rfl⟩, hts _ wd_259, hts _ wd_1⟩ ⟨blX, va_recv hK hP (ci := 3) (q0 := 0) rfl rfl, fun U hU hW => ⟨rfl, by rw [hU]; exact hP, va_K.moved hW.alike hK, nst.warm hW hN⟩⟩ rfl rfl hl.1 rfl (lv_room (Nat.le_of_ble_eq_true rfl)) dX3_least_13 ⟨Nat.zero_le _, Nat.zero_le _⟩).run (fun r_ e_ => ?_)
      subst r_
      refine lv_if_ne (tgt := 22) hx hb dX3_least_16 (by decide) (fun c4 => ?_) (fun c4 => ?_)
      · have hw := ite_f hw c4
        refine lv_aload_n hx hb dX3_least_22 rfl (lv_at hl 0 rfl) ?_
        refine va_get (D := (dC, dI)) (ci := 3) (v := .ref (a 15)) (C := RX3) (T := TX3) (N := 6) hx hb hts iX3 hown hK hP 0 rfl rfl 3 (by decide) (hts _ wd_181) (fun _ h9 => h9) rfl dX3_least_23 ?_
        refine lv_aload_n hx hb dX3_least_26 rfl (lv_at hl 0 rfl) ?_
        refine va_get (D := (dC, dI)) (ci := 3) (v := .ref (a 3)) (C := RX3) (T := TX3) (N := 6) hx hb hts iX3 hown hK hP 0 rfl rfl 1 (by decide) (hts _ wd_179) (fun _ h9 => h9) rfl dX3_least_27 ?_
        obtain ⟨X5, eX5, hw⟩ := Option.bind_eq_some_iff.mp hw
        refine va_callv (va_runV (As := [.ref (a 3)]) (rest := []) ⟨hx, hb, hml, hown, hts⟩ (c_X0_whisper l dC dI A a cA X X5 eX5) ⟨callB_of 1 hts gd_X0_whisper rfl rfl rfl (hts _ wd_38) (hts _ wd_374) hd_X0_whisper ⟨Nat.le_of_ble_eq_true rfl, Nat.le_of_ble_eq_true rfl⟩, hts _ wd_375, hts _ wd_376⟩ ⟨blXD, va_recv hK hP (ci := 0) (q0 := 15) rfl rfl, fun U hU hW => ⟨rfl, by rw [hU]; exact hP, va_K.moved hW.alike hK, nst.warm hW hN, wlD hD0⟩⟩ rfl rfl hl.1 rfl (lv_room (Nat.le_of_ble_eq_true rfl)) dX3_least_30 ⟨Nat.zero_le _, Nat.zero_le _⟩) hS (fun _ _ h => h) (fun _ h => h) (fun u_ t_ H1 locs1 ht hvm hp_ hB hz1 hk1 hS1 => ?_)
        subst hp_
        obtain ⟨hP1, hK1⟩ := hB
        rw [ht] at hP1
        have hP := hP1
        have hS := hS1
        refine lv_iload_n hx hb dX3_least_33 rfl (lv_at hl 1 rfl) ?_
        refine lv_if_ne (tgt := 47) hx hb dX3_least_34 (by decide) (fun c6 => ?_) (fun c6 => ?_)
        · have hw := ite_f hw c6
          refine lv_aload_n hx hb dX3_least_47 rfl (lv_at hl 0 rfl) ?_
          refine va_get (D := (dC, dI)) (ci := 3) (v := .ref (a 15)) (C := RX3) (T := TX3) (N := 6) hx hb hts iX3 hown hK hP 0 rfl rfl 3 (by decide) (hts _ wd_181) (fun _ h9 => h9) rfl dX3_least_48 ?_
          refine va_getN (D := (dC, dI)) (ci := 0) (v := .int (X5 15 2)) (C := RX0) (T := TX0) (N := 8) hx hb hts iX0 hown hK hP 15 rfl rfl 2 (by decide) (va_Nw.use rfl (hN _ nk_150)) (fun _ h9 => h9) rfl dX3_least_51 ?_
          exact hret _ _ _ _ _ _ (Option.some.inj hw) hP hS dX3_least_54
        · have hw := ite_t hw c6
          refine lv_aload_n hx hb dX3_least_37 rfl (lv_at hl 0 rfl) ?_
          refine va_get (D := (dC, dI)) (ci := 3) (v := .ref (a 15)) (C := RX3) (T := TX3) (N := 6) hx hb hts iX3 hown hK hP 0 rfl rfl 3 (by decide) (hts _ wd_181) (fun _ h9 => h9) rfl dX3_least_38 ?_
          refine va_getN (D := (dC, dI)) (ci := 0) (v := .int (X5 15 1)) (C := RX0) (T := TX0) (N := 8) hx hb hts iX0 hown hK hP 15 rfl rfl 1 (by decide) (va_Nw.use rfl (hN _ nk_148)) (fun _ h9 => h9) rfl dX3_least_41 ?_
          refine lv_goto (tgt := 54) hx hb dX3_least_44 (by decide) ?_
          exact hret _ _ _ _ _ _ (Option.some.inj hw) hP hS dX3_least_54
      · have hw := ite_t hw c4
        refine lv_bipush (v := (-103)) hx hb dX3_least_19 (by decide) ?_
        exact hret _ _ _ _ _ _ (Option.some.inj hw) hP hS dX3_least_21
    · have hw := ite_f hw c2
      refine lv_bipush (v := (-102)) hx hb dX3_least_9 (by decide) ?_
      exact hret _ _ _ _ _ _ (Option.some.inj hw) hP hS dX3_least_11
set_option maxHeartbeats 4000000 in
set_option maxRecDepth 100000 in
theorem c_X4_leastOf (l : Launch) (dC : Nat → ClassId) (dI : Nat → Nat → Nat) (a : Nat → Nat) (cA : ClassId) (X : MS) (p1 : Int32) (out : Int32) (hw : f_X4_leastOf X p1 = some out) : Met l yX4_leastOf (.code yX4_leastOf cX4_leastOf 6 (some .int) :: lw_g) ({ frames := 4, cells := 0, slots := 0, locals := 101 }) (PcM dC dI a cA X [.ref (a 0), .int p1]) (vp_Si (fun r_ => r_ = out)) 0 0 (fun _ => False) := by
  unfold f_X4_leastOf at hw
  refine Met.ofW (cc := cX4_leastOf) (maxL := 6) (ret := (some .int)) (by decide) rfl ?_
  intro p e s m args below meth c s₁ B hml hv
  obtain ⟨rfl, hP, hK⟩ := hv
  have hx := B.exec
  have hb := B.bytes
  have hr := B.returns
  have hts0 := atoms_spec (ws := (.code yX4_leastOf cX4_leastOf 6 (some .int) :: lw_g)) B.pre
  have hts : ∀ w ∈ lw_g, w.before (([.ref (a 0), .int p1] : List Value).toArray) s = true := fun w h => hts0 w (List.mem_cons_of_mem _ h)
  clear hts0
  have hown : s.vm.findClass RX4 = some m.cls := findClass_of_methodNamed B.named
  have hlocks := B.notSynchronized
  have hret : ∀ (pc : Nat) (ls : Array Slot) (v : Int32), v = out → decode cX4_leastOf pc = .ok (.ireturn, 1) → W p l e ({ frames := 4, cells := 0, slots := 0, locals := 101 }) s m (([.ref (a 0), .int p1] : List Value).toArray) below meth c s.heap [] 0 0 (MQ below (vp_Si (fun r_ => r_ = out)) (([.ref (a 0), .int p1] : List Value).toArray) s 0 0 (fun _ => False)) (F0 m pc ls [.int v]) := fun pc ls v hv hd => W.iret hx hb hr (fun t ht hW => ⟨v, rfl, hv, ht⟩) (fun q hq => absurd hq List.not_mem_nil) hd
  show W p l e ({ frames := 4, cells := 0, slots := 0, locals := 101 }) s m (([.ref (a 0), .int p1] : List Value).toArray) below meth c s.heap [] 0 0 (MQ below (vp_Si (fun r_ => r_ = out)) (([.ref (a 0), .int p1] : List Value).toArray) s 0 0 (fun _ => False)) (entryFrame m (([.ref (a 0), .int p1] : List Value).toArray) 6)
  generalize MQ below (vp_Si (fun r_ => r_ = out)) (([.ref (a 0), .int p1] : List Value).toArray) s 0 0 (fun _ => False) = Q at hret ⊢
  have L7 : ∀ (v1 : Int32), ∀ n : Nat, ∀ (v2 : Int32), ∀ (v3 : Int32), ∀ (v4 : Int32), g_X4_leastOf_7 X v1 n v2 v3 v4 = some out → ∀ ls : Array Slot, lv_has ls 6 [(0, .ref (a 0)), (1, .int v1), (2, .int v2), (3, .int v3), (4, .int v4)] → W p l e ({ frames := 4, cells := 0, slots := 0, locals := 101 }) s m (([.ref (a 0), .int p1] : List Value).toArray) below meth c s.heap [] 0 0 Q (F0 m 7 ls []) := by
    intro v1 n
    induction n with
    | zero =>
      intro v2 v3 v4 hw
      rw [g_X4_leastOf_7] at hw
      cases hw
    | succ n ih =>
      intro v2 v3 v4 hw ls hl
      rw [g_X4_leastOf_7] at hw
      refine lv_iload hx hb dX4_leastOf_7 (lv_at hl 4 rfl) ?_
      refine lv_if_lt (tgt := 77) hx hb dX4_leastOf_9 (by decide) (fun c1 => ?_) (fun c1 => ?_)
      · have hw := ite_t hw c1
        refine lv_iload_n hx hb dX4_leastOf_77 rfl (lv_at hl 1 rfl) ?_
        refine lv_if_ne (tgt := 85) hx hb dX4_leastOf_78 (by decide) (fun c2 => ?_) (fun c2 => ?_)
        · have hw := ite_f hw c2
          refine lv_iload_n hx hb dX4_leastOf_85 rfl (lv_at hl 3 rfl) ?_
          exact hret _ _ _ (Option.some.inj hw) dX4_leastOf_86
        · have hw := ite_t hw c2
          refine lv_iload_n hx hb dX4_leastOf_81 rfl (lv_at hl 2 rfl) ?_
          refine lv_goto (tgt := 86) hx hb dX4_leastOf_82 (by decide) ?_
          exact hret _ _ _ (Option.some.inj hw) dX4_leastOf_86
      · have hw := ite_f hw c1
        refine lv_aload_n hx hb dX4_leastOf_12 rfl (lv_at hl 0 rfl) ?_
        refine va_get (D := (dC, dI)) (ci := 4) (v := .int (X.1 0 3)) (C := RX4) (T := TX4) (N := 29) hx hb hts iX4 hown hK hP 0 rfl rfl 3 (by decide) (hts _ wd_525) (fun _ h9 => h9) rfl dX4_leastOf_13 ?_
        refine lv_if_le (tgt := 77) hx hb dX4_leastOf_16 (by decide) (fun c3 => ?_) (fun c3 => ?_)
        · have hw := ite_t hw c3
          refine lv_iload_n hx hb dX4_leastOf_77 rfl (lv_at hl 1 rfl) ?_
          refine lv_if_ne (tgt := 85) hx hb dX4_leastOf_78 (by decide) (fun c4 => ?_) (fun c4 => ?_)
          · have hw := ite_f hw c4
            refine lv_iload_n hx hb dX4_leastOf_85 rfl (lv_at hl 3 rfl) ?_
            exact hret _ _ _ (Option.some.inj hw) dX4_leastOf_86
          · have hw := ite_t hw c4
            refine lv_iload_n hx hb dX4_leastOf_81 rfl (lv_at hl 2 rfl) ?_
            refine lv_goto (tgt := 86) hx hb dX4_leastOf_82 (by decide) ?_
            exact hret _ _ _ (Option.some.inj hw) dX4_leastOf_86
        · have hw := ite_f hw c3
          refine lv_aload_n hx hb dX4_leastOf_19 rfl (lv_at hl 0 rfl) ?_
          refine lv_iload hx hb dX4_leastOf_20 (lv_at hl 4 rfl) ?_
          refine lv_iconst (v := 1) hx hb dX4_leastOf_22 (by decide) ?_
          refine lv_aload_n hx hb dX4_leastOf_23 rfl (lv_at hl 0 rfl) ?_
          refine va_get (D := (dC, dI)) (ci := 4) (v := .int (X.1 0 6)) (C := RX4) (T := TX4) (N := 29) hx hb hts iX4 hown hK hP 0 rfl rfl 6 (by decide) (hts _ wd_528) (fun _ h9 => h9) rfl dX4_leastOf_24 ?_
          obtain ⟨r5, er5, hw⟩ := Option.bind_eq_some_iff.mp hw
          refine vp_callSi (va_runV (As := [.int v4, .int 1, .int (X.1 0 6)]) (rest := []) ⟨hx, hb, hml, hown, hts⟩ (c_X4_knowThen l dC dI a cA X v4 1 (X.1 0 6) r5 er5) ⟨callB_of 3 hts gd_X4_knowThen rfl rfl rfl (hts _ wd_39) (hts _ wd_715) hd_X4_knowThen ⟨Nat.le_of_ble_eq_true rfl, Nat.le_of_ble_eq_true rfl⟩, hts _ wd_717, hts _ wd_21⟩ ⟨blM, va_recv hK hP (ci := 4) (q0 := 0) rfl rfl, fun U hU hW => ⟨rfl, by rw [hU]; exact hP, va_K.moved hW.alike hK⟩⟩ rfl rfl hl.1 rfl (lv_room (Nat.le_of_ble_eq_true rfl)) dX4_leastOf_27 ⟨Nat.zero_le _, Nat.zero_le _⟩).run (fun r_ e_ => ?_)
          subst r_
          obtain ⟨r6, er6, hw⟩ := Option.bind_eq_some_iff.mp hw
          refine vp_callSi (va_runS (As := [.int r5]) (rest := []) ⟨hx, hb, hml, hown, hts⟩ (c_X4_ones l r5 r6 er6) ⟨callB_of 1 hts gd_X4_ones rfl rfl rfl (hts _ wd_39) (hts _ wd_696) hd_X4_ones ⟨Nat.le_of_ble_eq_true rfl, Nat.le_of_ble_eq_true rfl⟩, hts _ wd_697⟩ ⟨bl0, fun U hU hW => ⟨rfl, trivial⟩⟩ rfl rfl hl.1 rfl (lv_room (Nat.le_of_ble_eq_true rfl)) dX4_leastOf_30 ⟨Nat.zero_le _, Nat.zero_le _⟩).run (fun r_ e_ => ?_)
          subst r_
          refine lv_istore (lv' := [(5, .int r6), (0, .ref (a 0)), (1, .int v1), (2, .int v2), (3, .int v3), (4, .int v4)]) hx hb dX4_leastOf_33 hl (by decide) rfl (fun ls hl => ?_)
          refine lv_iload_n hx hb dX4_leastOf_35 rfl (lv_at hl 4 rfl) ?_
          refine lv_iconst (v := (-1)) hx hb dX4_leastOf_36 (by decide) ?_
          refine lv_icmp_eq (tgt := 46) hx hb dX4_leastOf_37 (by decide) (fun c7 => ?_) (fun c7 => ?_)
          · have hw := ite_t hw c7
            refine lv_iload hx hb dX4_leastOf_46 (lv_at hl 5 rfl) ?_
            refine lv_goto (tgt := 52) hx hb dX4_leastOf_48 (by decide) ?_
            refine lv_istore_n (lv' := [(2, .int v4), (5, .int r6), (0, .ref (a 0)), (1, .int v1), (3, .int v3), (4, .int v4)]) hx hb dX4_leastOf_52 rfl hl (by decide) rfl (fun ls hl => ?_)
            refine lv_iload_n hx hb dX4_leastOf_53 rfl (lv_at hl 4 rfl) ?_
            refine lv_iconst (v := (-1)) hx hb dX4_leastOf_54 (by decide) ?_
            refine lv_icmp_eq (tgt := 64) hx hb dX4_leastOf_55 (by decide) (fun c8 => ?_) (fun c8 => ?_)
            · have hw := ite_t hw c8
              refine lv_iload hx hb dX4_leastOf_64 (lv_at hl 1 rfl) ?_
              refine lv_goto (tgt := 70) hx hb dX4_leastOf_66 (by decide) ?_
              refine lv_istore_n (lv' := [(3, .int r6), (2, .int v4), (5, .int r6), (0, .ref (a 0)), (1, .int v1), (4, .int v4)]) hx hb dX4_leastOf_70 rfl hl (by decide) rfl (fun ls hl => ?_)
              obtain ⟨x9, ex9⟩ : ∃ y : Int32, y = (v4 + (-1)) := ⟨_, rfl⟩
              have hw := stp_use hw ex9
              refine lv_iinc (v := x9) (lv' := [(4, .int x9), (3, .int r6), (2, .int v4), (5, .int r6), (0, .ref (a 0)), (1, .int v1)]) hx hb dX4_leastOf_71 hl (k := 5) rfl (by rw [ex9]; rfl) (by decide) rfl (fun ls hl => ?_)
              refine lv_goto (tgt := 7) hx hb dX4_leastOf_74 (by decide) ?_
              exact ih v4 r6 x9 hw ls (lv_sub hl [4, 5, 2, 1, 0] rfl)
            · have hw := ite_f hw c8
              refine lv_iload hx hb dX4_leastOf_58 (lv_at hl 1 rfl) ?_
              refine lv_iload_n hx hb dX4_leastOf_60 rfl (lv_at hl 4 rfl) ?_
              refine lv_icmp_ge (tgt := 69) hx hb dX4_leastOf_61 (by decide) (fun c10 => ?_) (fun c10 => ?_)
              · have hw := ite_t hw c10
                refine lv_iload_n hx hb dX4_leastOf_69 rfl (lv_at hl 4 rfl) ?_
                refine lv_istore_n (lv' := [(3, .int v3), (2, .int v4), (5, .int r6), (0, .ref (a 0)), (1, .int v1), (4, .int v4)]) hx hb dX4_leastOf_70 rfl hl (by decide) rfl (fun ls hl => ?_)
                obtain ⟨x11, ex11⟩ : ∃ y : Int32, y = (v4 + (-1)) := ⟨_, rfl⟩
                have hw := stp_use hw ex11
                refine lv_iinc (v := x11) (lv' := [(4, .int x11), (3, .int v3), (2, .int v4), (5, .int r6), (0, .ref (a 0)), (1, .int v1)]) hx hb dX4_leastOf_71 hl (k := 5) rfl (by rw [ex11]; rfl) (by decide) rfl (fun ls hl => ?_)
                refine lv_goto (tgt := 7) hx hb dX4_leastOf_74 (by decide) ?_
                exact ih v4 v3 x11 hw ls (lv_sub hl [4, 5, 2, 1, 0] rfl)
              · have hw := ite_f hw c10
                refine lv_iload hx hb dX4_leastOf_64 (lv_at hl 1 rfl) ?_
                refine lv_goto (tgt := 70) hx hb dX4_leastOf_66 (by decide) ?_
                refine lv_istore_n (lv' := [(3, .int r6), (2, .int v4), (5, .int r6), (0, .ref (a 0)), (1, .int v1), (4, .int v4)]) hx hb dX4_leastOf_70 rfl hl (by decide) rfl (fun ls hl => ?_)
                obtain ⟨x12, ex12⟩ : ∃ y : Int32, y = (v4 + (-1)) := ⟨_, rfl⟩
                have hw := stp_use hw ex12
                refine lv_iinc (v := x12) (lv' := [(4, .int x12), (3, .int r6), (2, .int v4), (5, .int r6), (0, .ref (a 0)), (1, .int v1)]) hx hb dX4_leastOf_71 hl (k := 5) rfl (by rw [ex12]; rfl) (by decide) rfl (fun ls hl => ?_)
                refine lv_goto (tgt := 7) hx hb dX4_leastOf_74 (by decide) ?_
                exact ih v4 r6 x12 hw ls (lv_sub hl [4, 5, 2, 1, 0] rfl)
          · have hw := ite_f hw c7
            refine lv_iload hx hb dX4_leastOf_40 (lv_at hl 0 rfl) ?_
            refine lv_iload_n hx hb dX4_leastOf_42 rfl (lv_at hl 4 rfl) ?_
            refine lv_icmp_gt (tgt := 51) hx hb dX4_leastOf_43 (by decide) (fun c13 => ?_) (fun c13 => ?_)
            · have hw := ite_t hw c13
              refine lv_iload_n hx hb dX4_leastOf_51 rfl (lv_at hl 3 rfl) ?_
              refine lv_istore_n (lv' := [(2, .int v2), (5, .int r6), (0, .ref (a 0)), (1, .int v1), (3, .int v3), (4, .int v4)]) hx hb dX4_leastOf_52 rfl hl (by decide) rfl (fun ls hl => ?_)
              refine lv_iload_n hx hb dX4_leastOf_53 rfl (lv_at hl 4 rfl) ?_
              refine lv_iconst (v := (-1)) hx hb dX4_leastOf_54 (by decide) ?_
              refine lv_icmp_eq (tgt := 64) hx hb dX4_leastOf_55 (by decide) (fun c14 => ?_) (fun c14 => ?_)
              · have hw := ite_t hw c14
                refine lv_iload hx hb dX4_leastOf_64 (lv_at hl 1 rfl) ?_
                refine lv_goto (tgt := 70) hx hb dX4_leastOf_66 (by decide) ?_
                refine lv_istore_n (lv' := [(3, .int r6), (2, .int v2), (5, .int r6), (0, .ref (a 0)), (1, .int v1), (4, .int v4)]) hx hb dX4_leastOf_70 rfl hl (by decide) rfl (fun ls hl => ?_)
                obtain ⟨x15, ex15⟩ : ∃ y : Int32, y = (v4 + (-1)) := ⟨_, rfl⟩
                have hw := stp_use hw ex15
                refine lv_iinc (v := x15) (lv' := [(4, .int x15), (3, .int r6), (2, .int v2), (5, .int r6), (0, .ref (a 0)), (1, .int v1)]) hx hb dX4_leastOf_71 hl (k := 5) rfl (by rw [ex15]; rfl) (by decide) rfl (fun ls hl => ?_)
                refine lv_goto (tgt := 7) hx hb dX4_leastOf_74 (by decide) ?_
                exact ih v2 r6 x15 hw ls (lv_sub hl [4, 5, 2, 1, 0] rfl)
              · have hw := ite_f hw c14
                refine lv_iload hx hb dX4_leastOf_58 (lv_at hl 1 rfl) ?_
                refine lv_iload_n hx hb dX4_leastOf_60 rfl (lv_at hl 4 rfl) ?_
                refine lv_icmp_ge (tgt := 69) hx hb dX4_leastOf_61 (by decide) (fun c16 => ?_) (fun c16 => ?_)
                · have hw := ite_t hw c16
                  refine lv_iload_n hx hb dX4_leastOf_69 rfl (lv_at hl 4 rfl) ?_
                  refine lv_istore_n (lv' := [(3, .int v3), (2, .int v2), (5, .int r6), (0, .ref (a 0)), (1, .int v1), (4, .int v4)]) hx hb dX4_leastOf_70 rfl hl (by decide) rfl (fun ls hl => ?_)
                  obtain ⟨x17, ex17⟩ : ∃ y : Int32, y = (v4 + (-1)) := ⟨_, rfl⟩
                  have hw := stp_use hw ex17
                  refine lv_iinc (v := x17) (lv' := [(4, .int x17), (3, .int v3), (2, .int v2), (5, .int r6), (0, .ref (a 0)), (1, .int v1)]) hx hb dX4_leastOf_71 hl (k := 5) rfl (by rw [ex17]; rfl) (by decide) rfl (fun ls hl => ?_)
                  refine lv_goto (tgt := 7) hx hb dX4_leastOf_74 (by decide) ?_
                  exact ih v2 v3 x17 hw ls (lv_sub hl [4, 5, 2, 1, 0] rfl)
                · have hw := ite_f hw c16
                  refine lv_iload hx hb dX4_leastOf_64 (lv_at hl 1 rfl) ?_
                  refine lv_goto (tgt := 70) hx hb dX4_leastOf_66 (by decide) ?_
                  refine lv_istore_n (lv' := [(3, .int r6), (2, .int v2), (5, .int r6), (0, .ref (a 0)), (1, .int v1), (4, .int v4)]) hx hb dX4_leastOf_70 rfl hl (by decide) rfl (fun ls hl => ?_)
                  obtain ⟨x18, ex18⟩ : ∃ y : Int32, y = (v4 + (-1)) := ⟨_, rfl⟩
                  have hw := stp_use hw ex18
                  refine lv_iinc (v := x18) (lv' := [(4, .int x18), (3, .int r6), (2, .int v2), (5, .int r6), (0, .ref (a 0)), (1, .int v1)]) hx hb dX4_leastOf_71 hl (k := 5) rfl (by rw [ex18]; rfl) (by decide) rfl (fun ls hl => ?_)
                  refine lv_goto (tgt := 7) hx hb dX4_leastOf_74 (by decide) ?_
                  exact ih v2 r6 x18 hw ls (lv_sub hl [4, 5, 2, 1, 0] rfl)
            · have hw := ite_f hw c13
              refine lv_iload hx hb dX4_leastOf_46 (lv_at hl 5 rfl) ?_
              refine lv_goto (tgt := 52) hx hb dX4_leastOf_48 (by decide) ?_
              refine lv_istore_n (lv' := [(2, .int v4), (5, .int r6), (0, .ref (a 0)), (1, .int v1), (3, .int v3), (4, .int v4)]) hx hb dX4_leastOf_52 rfl hl (by decide) rfl (fun ls hl => ?_)
              refine lv_iload_n hx hb dX4_leastOf_53 rfl (lv_at hl 4 rfl) ?_
              refine lv_iconst (v := (-1)) hx hb dX4_leastOf_54 (by decide) ?_
              refine lv_icmp_eq (tgt := 64) hx hb dX4_leastOf_55 (by decide) (fun c19 => ?_) (fun c19 => ?_)
              · have hw := ite_t hw c19
                refine lv_iload hx hb dX4_leastOf_64 (lv_at hl 1 rfl) ?_
                refine lv_goto (tgt := 70) hx hb dX4_leastOf_66 (by decide) ?_
                refine lv_istore_n (lv' := [(3, .int r6), (2, .int v4), (5, .int r6), (0, .ref (a 0)), (1, .int v1), (4, .int v4)]) hx hb dX4_leastOf_70 rfl hl (by decide) rfl (fun ls hl => ?_)
                obtain ⟨x20, ex20⟩ : ∃ y : Int32, y = (v4 + (-1)) := ⟨_, rfl⟩
                have hw := stp_use hw ex20
                refine lv_iinc (v := x20) (lv' := [(4, .int x20), (3, .int r6), (2, .int v4), (5, .int r6), (0, .ref (a 0)), (1, .int v1)]) hx hb dX4_leastOf_71 hl (k := 5) rfl (by rw [ex20]; rfl) (by decide) rfl (fun ls hl => ?_)
                refine lv_goto (tgt := 7) hx hb dX4_leastOf_74 (by decide) ?_
                exact ih v4 r6 x20 hw ls (lv_sub hl [4, 5, 2, 1, 0] rfl)
              · have hw := ite_f hw c19
                refine lv_iload hx hb dX4_leastOf_58 (lv_at hl 1 rfl) ?_
                refine lv_iload_n hx hb dX4_leastOf_60 rfl (lv_at hl 4 rfl) ?_
                refine lv_icmp_ge (tgt := 69) hx hb dX4_leastOf_61 (by decide) (fun c21 => ?_) (fun c21 => ?_)
                · have hw := ite_t hw c21
                  refine lv_iload_n hx hb dX4_leastOf_69 rfl (lv_at hl 4 rfl) ?_
                  refine lv_istore_n (lv' := [(3, .int v3), (2, .int v4), (5, .int r6), (0, .ref (a 0)), (1, .int v1), (4, .int v4)]) hx hb dX4_leastOf_70 rfl hl (by decide) rfl (fun ls hl => ?_)
                  obtain ⟨x22, ex22⟩ : ∃ y : Int32, y = (v4 + (-1)) := ⟨_, rfl⟩
                  have hw := stp_use hw ex22
                  refine lv_iinc (v := x22) (lv' := [(4, .int x22), (3, .int v3), (2, .int v4), (5, .int r6), (0, .ref (a 0)), (1, .int v1)]) hx hb dX4_leastOf_71 hl (k := 5) rfl (by rw [ex22]; rfl) (by decide) rfl (fun ls hl => ?_)
                  refine lv_goto (tgt := 7) hx hb dX4_leastOf_74 (by decide) ?_
                  exact ih v4 v3 x22 hw ls (lv_sub hl [4, 5, 2, 1, 0] rfl)
                · have hw := ite_f hw c21
                  refine lv_iload hx hb dX4_leastOf_64 (lv_at hl 1 rfl) ?_
                  refine lv_goto (tgt := 70) hx hb dX4_leastOf_66 (by decide) ?_
                  refine lv_istore_n (lv' := [(3, .int r6), (2, .int v4), (5, .int r6), (0, .ref (a 0)), (1, .int v1), (4, .int v4)]) hx hb dX4_leastOf_70 rfl hl (by decide) rfl (fun ls hl => ?_)
                  obtain ⟨x23, ex23⟩ : ∃ y : Int32, y = (v4 + (-1)) := ⟨_, rfl⟩
                  have hw := stp_use hw ex23
                  refine lv_iinc (v := x23) (lv' := [(4, .int x23), (3, .int r6), (2, .int v4), (5, .int r6), (0, .ref (a 0)), (1, .int v1)]) hx hb dX4_leastOf_71 hl (k := 5) rfl (by rw [ex23]; rfl) (by decide) rfl (fun ls hl => ?_)
                  refine lv_goto (tgt := 7) hx hb dX4_leastOf_74 (by decide) ?_
                  exact ih v4 r6 x23 hw ls (lv_sub hl [4, 5, 2, 1, 0] rfl)
  have hl := lv_entry ([.ref (a 0), .int p1]) (n := 6) (Nat.le_of_ble_eq_true rfl)
  rw [lg_entry_eq]
  generalize (lg_sl ([.ref (a 0), .int p1]) ++ List.replicate (6 - (lg_sl ([.ref (a 0), .int p1])).length) Slot.unset).toArray = ls at hl ⊢
  have hl : lv_has ls 6 [(0, .ref (a 0)), (1, .int p1)] := hl
  refine lv_iconst (v := (-1)) hx hb dX4_leastOf_0 (by decide) ?_
  refine lv_istore_n (lv' := [(2, .int (-1)), (0, .ref (a 0)), (1, .int p1)]) hx hb dX4_leastOf_1 rfl hl (by decide) rfl (fun ls hl => ?_)
  refine lv_iconst (v := (-1)) hx hb dX4_leastOf_2 (by decide) ?_
  refine lv_istore_n (lv' := [(3, .int (-1)), (2, .int (-1)), (0, .ref (a 0)), (1, .int p1)]) hx hb dX4_leastOf_3 rfl hl (by decide) rfl (fun ls hl => ?_)
  refine lv_iconst (v := 5) hx hb dX4_leastOf_4 (by decide) ?_
  refine lv_istore (lv' := [(4, .int 5), (3, .int (-1)), (2, .int (-1)), (0, .ref (a 0)), (1, .int p1)]) hx hb dX4_leastOf_5 hl (by decide) rfl (fun ls hl => ?_)
  exact L7 p1 NF (-1) (-1) 5 hw ls (lv_sub hl [3, 4, 2, 1, 0] rfl)
set_option maxHeartbeats 4000000 in
set_option maxRecDepth 100000 in
theorem c_X4_least (l : Launch) (dC : Nat → ClassId) (dI : Nat → Nat → Nat) (a : Nat → Nat) (cA : ClassId) (X : MS) (p1 : Int32) (out : Int32) (hw : f_X4_least X p1 = some out) : Met l yX4_least (.code yX4_least cX4_least 2 (some .int) :: lw_g) ({ frames := 5, cells := 0, slots := 0, locals := 126 }) (PcM dC dI a cA X [.ref (a 0), .int p1]) (vp_Si (fun r_ => r_ = out)) 0 0 (fun _ => False) := by
  unfold f_X4_least at hw
  refine Met.ofW (cc := cX4_least) (maxL := 2) (ret := (some .int)) (by decide) rfl ?_
  intro p e s m args below meth c s₁ B hml hv
  obtain ⟨rfl, hP, hK⟩ := hv
  have hx := B.exec
  have hb := B.bytes
  have hr := B.returns
  have hts0 := atoms_spec (ws := (.code yX4_least cX4_least 2 (some .int) :: lw_g)) B.pre
  have hts : ∀ w ∈ lw_g, w.before (([.ref (a 0), .int p1] : List Value).toArray) s = true := fun w h => hts0 w (List.mem_cons_of_mem _ h)
  clear hts0
  have hown : s.vm.findClass RX4 = some m.cls := findClass_of_methodNamed B.named
  have hlocks := B.notSynchronized
  have hret : ∀ (pc : Nat) (ls : Array Slot) (v : Int32), v = out → decode cX4_least pc = .ok (.ireturn, 1) → W p l e ({ frames := 5, cells := 0, slots := 0, locals := 126 }) s m (([.ref (a 0), .int p1] : List Value).toArray) below meth c s.heap [] 0 0 (MQ below (vp_Si (fun r_ => r_ = out)) (([.ref (a 0), .int p1] : List Value).toArray) s 0 0 (fun _ => False)) (F0 m pc ls [.int v]) := fun pc ls v hv hd => W.iret hx hb hr (fun t ht hW => ⟨v, rfl, hv, ht⟩) (fun q hq => absurd hq List.not_mem_nil) hd
  show W p l e ({ frames := 5, cells := 0, slots := 0, locals := 126 }) s m (([.ref (a 0), .int p1] : List Value).toArray) below meth c s.heap [] 0 0 (MQ below (vp_Si (fun r_ => r_ = out)) (([.ref (a 0), .int p1] : List Value).toArray) s 0 0 (fun _ => False)) (entryFrame m (([.ref (a 0), .int p1] : List Value).toArray) 2)
  generalize MQ below (vp_Si (fun r_ => r_ = out)) (([.ref (a 0), .int p1] : List Value).toArray) s 0 0 (fun _ => False) = Q at hret ⊢
  have hl := lv_entry ([.ref (a 0), .int p1]) (n := 2) (Nat.le_of_ble_eq_true rfl)
  rw [lg_entry_eq]
  generalize (lg_sl ([.ref (a 0), .int p1]) ++ List.replicate (2 - (lg_sl ([.ref (a 0), .int p1])).length) Slot.unset).toArray = ls at hl ⊢
  have hl : lv_has ls 2 [(0, .ref (a 0)), (1, .int p1)] := hl
  refine lv_iload_n hx hb dX4_least_0 rfl (lv_at hl 1 rfl) ?_
  refine lv_i2l hx hb dX4_least_1 rfl ?_
  refine lv_lconst (v := 0) hx hb dX4_least_2 (by decide) ?_
  refine lv_lconst (v := 1) hx hb dX4_least_3 (by decide) ?_
  obtain ⟨r1, er1, hw⟩ := Option.bind_eq_some_iff.mp hw
  refine vp_callSi (va_runS (As := [.long (Int32.toInt64 p1), .long 0, .long 1]) (rest := []) ⟨hx, hb, hml, hown, hts⟩ (c_X4_in l (Int32.toInt64 p1) 0 1 r1 er1) ⟨callB_of 3 hts gd_X4_in rfl rfl rfl (hts _ wd_39) (hts _ wd_615) hd_X4_in ⟨Nat.le_of_ble_eq_true rfl, Nat.le_of_ble_eq_true rfl⟩, hts _ wd_616⟩ ⟨bl0, fun U hU hW => ⟨rfl, trivial⟩⟩ rfl rfl hl.1 rfl (lv_room (Nat.le_of_ble_eq_true rfl)) dX4_least_4 ⟨Nat.zero_le _, Nat.zero_le _⟩).run (fun r_ e_ => ?_)
  subst r_
  refine lv_if_ne (tgt := 13) hx hb dX4_least_7 (by decide) (fun c2 => ?_) (fun c2 => ?_)
  · have hw := ite_f hw c2
    refine lv_aload_n hx hb dX4_least_13 rfl (lv_at hl 0 rfl) ?_
    obtain ⟨r3, er3, hw⟩ := Option.bind_eq_some_iff.mp hw
    refine vp_callSi (va_runV (As := []) (rest := []) ⟨hx, hb, hml, hown, hts⟩ (c_X4_lacks l dC dI a cA X r3 er3) ⟨callB_of 0 hts gd_X4_lacks rfl rfl rfl (hts _ wd_39) (hts _ wd_647) hd_X4_lacks ⟨Nat.le_of_ble_eq_true rfl, Nat.le_of_ble_eq_true rfl⟩, hts _ wd_649, hts _ wd_12⟩ ⟨blM, va_recv hK hP (ci := 4) (q0 := 0) rfl rfl, fun U hU hW => ⟨rfl, by rw [hU]; exact hP, va_K.moved hW.alike hK⟩⟩ rfl rfl hl.1 rfl (lv_room (Nat.le_of_ble_eq_true rfl)) dX4_least_14 ⟨Nat.zero_le _, Nat.zero_le _⟩).run (fun r_ e_ => ?_)
    subst r_
    refine lv_if_eq (tgt := 25) hx hb dX4_least_17 (by decide) (fun c4 => ?_) (fun c4 => ?_)
    · have hw := ite_t hw c4
      refine lv_aload_n hx hb dX4_least_25 rfl (lv_at hl 0 rfl) ?_
      refine lv_iload_n hx hb dX4_least_26 rfl (lv_at hl 1 rfl) ?_
      obtain ⟨r5, er5, hw⟩ := Option.bind_eq_some_iff.mp hw
      refine vp_callSi (va_runV (As := [.int p1]) (rest := []) ⟨hx, hb, hml, hown, hts⟩ (c_X4_leastOf l dC dI a cA X p1 r5 er5) ⟨callB_of 1 hts gd_X4_leastOf rfl rfl rfl (hts _ wd_39) (hts _ wd_735) hd_X4_leastOf ⟨Nat.le_of_ble_eq_true rfl, Nat.le_of_ble_eq_true rfl⟩, hts _ wd_737, hts _ wd_22⟩ ⟨blM, va_recv hK hP (ci := 4) (q0 := 0) rfl rfl, fun U hU hW => ⟨rfl, by rw [hU]; exact hP, va_K.moved hW.alike hK⟩⟩ rfl rfl hl.1 rfl (lv_room (Nat.le_of_ble_eq_true rfl)) dX4_least_27 ⟨Nat.zero_le _, Nat.zero_le _⟩).run (fun r_ e_ => ?_)
      subst r_
      exact hret _ _ _ (Option.some.inj hw) dX4_least_30
    · have hw := ite_f hw c4
      refine lv_bipush (v := (-103)) hx hb dX4_least_20 (by decide) ?_
      refine lv_goto (tgt := 30) hx hb dX4_least_22 (by decide) ?_
      exact hret _ _ _ (Option.some.inj hw) dX4_least_30
  · have hw := ite_t hw c2
    refine lv_bipush (v := (-102)) hx hb dX4_least_10 (by decide) ?_
    exact hret _ _ _ (Option.some.inj hw) dX4_least_12
