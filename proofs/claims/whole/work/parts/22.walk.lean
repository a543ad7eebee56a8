set_option maxHeartbeats 4000000 in
set_option maxRecDepth 100000 in
theorem c_X4_as (l : Launch) (dC : Nat → ClassId) (dI : Nat → Nat → Nat) (a : Nat → Nat) (cA : ClassId) (X : MS) (p1 : Int32) (p2 : Int32) (out : Int32) (hw : f_X4_as X p1 p2 = some out) : Met l yX4_as (.code yX4_as cX4_as 5 (some .int) :: lw_g) ({ frames := 2, cells := 0, slots := 0, locals := 46 }) (PcM dC dI a cA X [.ref (a 0), .int p1, .int p2]) (vp_Si (fun r_ => r_ = out)) 0 0 (fun _ => False) := by
  unfold f_X4_as at hw
  refine Met.ofW (cc := cX4_as) (maxL := 5) (ret := (some .int)) (by decide) rfl ?_
  intro p e s m args below meth c s₁ B hml hv
  obtain ⟨rfl, hP, hK⟩ := hv
  have hx := B.exec
  have hb := B.bytes
  have hr := B.returns
  have hts0 := atoms_spec (ws := (.code yX4_as cX4_as 5 (some .int) :: lw_g)) B.pre
  have hts : ∀ w ∈ lw_g, w.before (([.ref (a 0), .int p1, .int p2] : List Value).toArray) s = true := fun w h => hts0 w (List.mem_cons_of_mem _ h)
  clear hts0
  have hown : s.vm.findClass RX4 = some m.cls := findClass_of_methodNamed B.named
  have hlocks := B.notSynchronized
  have hret : ∀ (pc : Nat) (ls : Array Slot) (v : Int32), v = out → decode cX4_as pc = .ok (.ireturn, 1) → W p l e ({ frames := 2, cells := 0, slots := 0, locals := 46 }) s m (([.ref (a 0), .int p1, .int p2] : List Value).toArray) below meth c s.heap [] 0 0 (MQ below (vp_Si (fun r_ => r_ = out)) (([.ref (a 0), .int p1, .int p2] : List Value).toArray) s 0 0 (fun _ => False)) (F0 m pc ls [.int v]) := fun pc ls v hv hd => W.iret hx hb hr (fun t ht hW => ⟨v, rfl, hv, ht⟩) (fun q hq => absurd hq List.not_mem_nil) hd
  show W p l e ({ frames := 2, cells := 0, slots := 0, locals := 46 }) s m (([.ref (a 0), .int p1, .int p2] : List Value).toArray) below meth c s.heap [] 0 0 (MQ below (vp_Si (fun r_ => r_ = out)) (([.ref (a 0), .int p1, .int p2] : List Value).toArray) s 0 0 (fun _ => False)) (entryFrame m (([.ref (a 0), .int p1, .int p2] : List Value).toArray) 5)
  generalize MQ below (vp_Si (fun r_ => r_ = out)) (([.ref (a 0), .int p1, .int p2] : List Value).toArray) s 0 0 (fun _ => False) = Q at hret ⊢
  have hl := lv_entry ([.ref (a 0), .int p1, .int p2]) (n := 5) (Nat.le_of_ble_eq_true rfl)
  rw [lg_entry_eq]
  generalize (lg_sl ([.ref (a 0), .int p1, .int p2]) ++ List.replicate (5 - (lg_sl ([.ref (a 0), .int p1, .int p2])).length) Slot.unset).toArray = ls at hl ⊢
  have hl : lv_has ls 5 [(0, .ref (a 0)), (1, .int p1), (2, .int p2)] := hl
  refine lv_aload_n hx hb dX4_as_0 rfl (lv_at hl 0 rfl) ?_
  refine lv_iload_n hx hb dX4_as_1 rfl (lv_at hl 1 rfl) ?_
  obtain ⟨r1, er1, hw⟩ := Option.bind_eq_some_iff.mp hw
  refine vp_callSi (va_runV (As := [.int p1]) (rest := []) ⟨hx, hb, hml, hown, hts⟩ (c_X4_isListener l dC dI a cA X p1 r1 er1) ⟨callB_of 1 hts gd_X4_isListener rfl rfl rfl (hts _ wd_39) (hts _ wd_664) hd_X4_isListener ⟨Nat.le_of_ble_eq_true rfl, Nat.le_of_ble_eq_true rfl⟩, hts _ wd_666, hts _ wd_13⟩ ⟨blM, va_recv hK hP (ci := 4) (q0 := 0) rfl rfl, fun U hU hW => ⟨rfl, by rw [hU]; exact hP, va_K.moved hW.alike hK⟩⟩ rfl rfl hl.1 rfl (lv_room (Nat.le_of_ble_eq_true rfl)) dX4_as_2 ⟨Nat.zero_le _, Nat.zero_le _⟩).run (fun r_ e_ => ?_)
  subst r_
  refine lv_if_ne (tgt := 11) hx hb dX4_as_5 (by decide) (fun c2 => ?_) (fun c2 => ?_)
  · have hw := ite_f hw c2
    refine lv_iload_n hx hb dX4_as_11 rfl (lv_at hl 2 rfl) ?_
    refine lv_i2l hx hb dX4_as_12 rfl ?_
    refine lv_lconst (v := 0) hx hb dX4_as_13 (by decide) ?_
    refine lv_ldc2 hx hb hown (hts _ wd_659) dX4_as_14 ?_
    obtain ⟨r3, er3, hw⟩ := Option.bind_eq_some_iff.mp hw
    refine vp_callSi (va_runS (As := [.long (Int32.toInt64 p2), .long 0, .long 4]) (rest := []) ⟨hx, hb, hml, hown, hts⟩ (c_X4_in l (Int32.toInt64 p2) 0 4 r3 er3) ⟨callB_of 3 hts gd_X4_in rfl rfl rfl (hts _ wd_39) (hts _ wd_615) hd_X4_in ⟨Nat.le_of_ble_eq_true rfl, Nat.le_of_ble_eq_true rfl⟩, hts _ wd_616⟩ ⟨bl0, fun U hU hW => ⟨rfl, trivial⟩⟩ rfl rfl hl.1 rfl (lv_room (Nat.le_of_ble_eq_true rfl)) dX4_as_17 ⟨Nat.zero_le _, Nat.zero_le _⟩).run (fun r_ e_ => ?_)
    subst r_
    refine lv_if_ne (tgt := 26) hx hb dX4_as_20 (by decide) (fun c4 => ?_) (fun c4 => ?_)
    · have hw := ite_f hw c4
      refine lv_aload_n hx hb dX4_as_26 rfl (lv_at hl 0 rfl) ?_
      refine va_get (D := (dC, dI)) (ci := 4) (v := .ref (a 3)) (C := RX4) (T := TX4) (N := 29) hx hb hts iX4 hown hK hP 0 rfl rfl 12 (by decide) (hts _ wd_534) (fun _ h9 => h9) rfl dX4_as_27 ?_
      refine lv_iconst (v := 2) hx hb dX4_as_30 (by decide) ?_
      refine lv_iload_n hx hb dX4_as_31 rfl (lv_at hl 1 rfl) ?_
      refine lv_imul hx hb dX4_as_32 ?_
      obtain ⟨h5, hw⟩ := ixc_use hw
      refine va_iald hx hb hK hP 3 0 rfl rfl h5 dX4_as_33 ?_
      refine lv_topi (fun x6 ex6 => ?_)
      have hw := stp_use hw ex6
      refine lv_istore_n (lv' := [(3, .int x6), (0, .ref (a 0)), (1, .int p1), (2, .int p2)]) hx hb dX4_as_34 rfl hl (by decide) rfl (fun ls hl => ?_)
      refine lv_iload_n hx hb dX4_as_35 rfl (lv_at hl 3 rfl) ?_
      refine lv_if_eq (tgt := 54) hx hb dX4_as_36 (by decide) (fun c7 => ?_) (fun c7 => ?_)
      · have hw := ite_t hw c7
        refine lv_iconst (v := 1) hx hb dX4_as_54 (by decide) ?_
        refine lv_goto (tgt := 59) hx hb dX4_as_55 (by decide) ?_
        refine lv_istore (lv' := [(4, .int 1), (3, .int x6), (0, .ref (a 0)), (1, .int p1), (2, .int p2)]) hx hb dX4_as_59 hl (by decide) rfl (fun ls hl => ?_)
        refine lv_iload hx hb dX4_as_61 (lv_at hl 0 rfl) ?_
        refine lv_if_eq (tgt := 70) hx hb dX4_as_63 (by decide) (fun c8 => absurd c8 (by decide)) (fun c8 => ?_)
        refine lv_iload_n hx hb dX4_as_66 rfl (lv_at hl 3 rfl) ?_
        refine lv_goto (tgt := 71) hx hb dX4_as_67 (by decide) ?_
        exact hret _ _ _ (Option.some.inj hw) dX4_as_71
      · have hw := ite_f hw c7
        refine lv_iload_n hx hb dX4_as_39 rfl (lv_at hl 3 rfl) ?_
        refine lv_iload_n hx hb dX4_as_40 rfl (lv_at hl 0 rfl) ?_
        refine lv_icmp_eq (tgt := 54) hx hb dX4_as_41 (by decide) (fun c9 => ?_) (fun c9 => ?_)
        · have hw := ite_t hw c9
          refine lv_iconst (v := 1) hx hb dX4_as_54 (by decide) ?_
          refine lv_goto (tgt := 59) hx hb dX4_as_55 (by decide) ?_
          refine lv_istore (lv' := [(4, .int 1), (3, .int x6), (0, .ref (a 0)), (1, .int p1), (2, .int p2)]) hx hb dX4_as_59 hl (by decide) rfl (fun ls hl => ?_)
          refine lv_iload hx hb dX4_as_61 (lv_at hl 0 rfl) ?_
          refine lv_if_eq (tgt := 70) hx hb dX4_as_63 (by decide) (fun c10 => absurd c10 (by decide)) (fun c10 => ?_)
          refine lv_iload_n hx hb dX4_as_66 rfl (lv_at hl 3 rfl) ?_
          refine lv_goto (tgt := 71) hx hb dX4_as_67 (by decide) ?_
          exact hret _ _ _ (Option.some.inj hw) dX4_as_71
        · have hw := ite_f hw c9
          refine lv_iload_n hx hb dX4_as_44 rfl (lv_at hl 3 rfl) ?_
          refine lv_iconst (v := 3) hx hb dX4_as_45 (by decide) ?_
          refine lv_icmp_ne (tgt := 58) hx hb dX4_as_46 (by decide) (fun c11 => ?_) (fun c11 => ?_)
          · have hw := ite_f hw c11
            refine lv_iconst (v := 0) hx hb dX4_as_58 (by decide) ?_
            refine lv_istore (lv' := [(4, .int 0), (3, .int x6), (0, .ref (a 0)), (1, .int p1), (2, .int p2)]) hx hb dX4_as_59 hl (by decide) rfl (fun ls hl => ?_)
            refine lv_iload hx hb dX4_as_61 (lv_at hl 0 rfl) ?_
            refine lv_if_eq (tgt := 70) hx hb dX4_as_63 (by decide) (fun c12 => ?_) (fun c12 => absurd c12 (by decide))
            refine lv_iconst (v := (-1)) hx hb dX4_as_70 (by decide) ?_
            exact hret _ _ _ (Option.some.inj hw) dX4_as_71
          · have hw := ite_t hw c11
            refine lv_iload_n hx hb dX4_as_49 rfl (lv_at hl 0 rfl) ?_
            refine lv_iconst (v := 4) hx hb dX4_as_50 (by decide) ?_
            refine lv_icmp_ne (tgt := 58) hx hb dX4_as_51 (by decide) (fun c13 => ?_) (fun c13 => ?_)
            · have hw := ite_f hw c13
              refine lv_iconst (v := 0) hx hb dX4_as_58 (by decide) ?_
              refine lv_istore (lv' := [(4, .int 0), (3, .int x6), (0, .ref (a 0)), (1, .int p1), (2, .int p2)]) hx hb dX4_as_59 hl (by decide) rfl (fun ls hl => ?_)
              refine lv_iload hx hb dX4_as_61 (lv_at hl 0 rfl) ?_
              refine lv_if_eq (tgt := 70) hx hb dX4_as_63 (by decide) (fun c14 => ?_) (fun c14 => absurd c14 (by decide))
              refine lv_iconst (v := (-1)) hx hb dX4_as_70 (by decide) ?_
              exact hret _ _ _ (Option.some.inj hw) dX4_as_71
            · have hw := ite_t hw c13
              refine lv_iconst (v := 1) hx hb dX4_as_54 (by decide) ?_
              refine lv_goto (tgt := 59) hx hb dX4_as_55 (by decide) ?_
              refine lv_istore (lv' := [(4, .int 1), (3, .int x6), (0, .ref (a 0)), (1, .int p1), (2, .int p2)]) hx hb dX4_as_59 hl (by decide) rfl (fun ls hl => ?_)
              refine lv_iload hx hb dX4_as_61 (lv_at hl 0 rfl) ?_
              refine lv_if_eq (tgt := 70) hx hb dX4_as_63 (by decide) (fun c15 => absurd c15 (by decide)) (fun c15 => ?_)
              refine lv_iload_n hx hb dX4_as_66 rfl (lv_at hl 3 rfl) ?_
              refine lv_goto (tgt := 71) hx hb dX4_as_67 (by decide) ?_
              exact hret _ _ _ (Option.some.inj hw) dX4_as_71
    · have hw := ite_t hw c4
      refine lv_bipush (v := (-102)) hx hb dX4_as_23 (by decide) ?_
      exact hret _ _ _ (Option.some.inj hw) dX4_as_25
  · have hw := ite_t hw c2
    refine lv_bipush (v := (-101)) hx hb dX4_as_8 (by decide) ?_
    exact hret _ _ _ (Option.some.inj hw) dX4_as_10
set_option maxHeartbeats 4000000 in
set_option maxRecDepth 100000 in
theorem c_X3_move (l : Launch) (dC : Nat → ClassId) (dI : Nat → Nat → Nat) (A : Nat → Prop) (a : Nat → Nat) (cA : ClassId) (X : WS) (p1 : Int32) (p2 : Int32) (out : (Int32 × WS)) (hw : f_X3_move X p1 p2 = some out) : Met l yX3_move (.code yX3_move cX3_move 4 (some .int) :: lw_g) ({ frames := 2, cells := 0, slots := 0, locals := 41 }) (PcXD dC dI A a cA X [.ref (a 0), .int p1, .int p2]) (va_Qi (fun (r_ : Int32) (X_ : WS) => out = (r_, X_)) (fun X_ t => va_P (dC, dI) classes (wl a cA X_) t.heap ∧ va_K (dC, dI) classes [(cA, .int)] t) A) 0 0 (A) := by
  unfold f_X3_move at hw
  refine Met.ofW (cc := cX3_move) (maxL := 4) (ret := (some .int)) (by decide) rfl ?_
  intro p e s m args below meth c s₁ B hml hv
  obtain ⟨rfl, hP, hK, hN, hD0⟩ := hv
  have hx := B.exec
  have hb := B.bytes
  have hr := B.returns
  have hts0 := atoms_spec (ws := (.code yX3_move cX3_move 4 (some .int) :: lw_g)) B.pre
  have hts : ∀ w ∈ lw_g, w.before (([.ref (a 0), .int p1, .int p2] : List Value).toArray) s = true := fun w h => hts0 w (List.mem_cons_of_mem _ h)
  clear hts0
  have hown : s.vm.findClass RX3 = some m.cls := findClass_of_methodNamed B.named
  have hlocks := B.notSynchronized
  have hret : ∀ (pc : Nat) (ls : Array Slot) (v : Int32) (X_ : WS) (H : Heap) (locs : List Loc), (v, X_) = out → va_P (dC, dI) classes (wl a cA X_) H → va_S A s.heap H locs → decode cX3_move pc = .ok (.ireturn, 1) → W p l e ({ frames := 2, cells := 0, slots := 0, locals := 41 }) s m (([.ref (a 0), .int p1, .int p2] : List Value).toArray) below meth c H locs 0 0 (MQ below (va_Qi (fun (r_ : Int32) (X_ : WS) => out = (r_, X_)) (fun X_ t => va_P (dC, dI) classes (wl a cA X_) t.heap ∧ va_K (dC, dI) classes [(cA, .int)] t) A) (([.ref (a 0), .int p1, .int p2] : List Value).toArray) s 0 0 (A)) (F0 m pc ls [.int v]) := fun pc ls v X_ H locs hv hP hS hd => W.iret hx hb hr (fun t ht hW => ⟨⟨v, X_, rfl, hv.symm, by rw [ht]; exact hP, va_K.moved hW.alike hK⟩, hS.F ht⟩) hS.2.2 hd
  show W p l e ({ frames := 2, cells := 0, slots := 0, locals := 41 }) s m (([.ref (a 0), .int p1, .int p2] : List Value).toArray) below meth c s.heap [] 0 0 (MQ below (va_Qi (fun (r_ : Int32) (X_ : WS) => out = (r_, X_)) (fun X_ t => va_P (dC, dI) classes (wl a cA X_) t.heap ∧ va_K (dC, dI) classes [(cA, .int)] t) A) (([.ref (a 0), .int p1, .int p2] : List Value).toArray) s 0 0 (A)) (entryFrame m (([.ref (a 0), .int p1, .int p2] : List Value).toArray) 4)
  generalize MQ below (va_Qi (fun (r_ : Int32) (X_ : WS) => out = (r_, X_)) (fun X_ t => va_P (dC, dI) classes (wl a cA X_) t.heap ∧ va_K (dC, dI) classes [(cA, .int)] t) A) (([.ref (a 0), .int p1, .int p2] : List Value).toArray) s 0 0 (A) = Q at hret ⊢
  have hS : va_S A s.heap s.heap [] := va_S.rf
  have hl := lv_entry ([.ref (a 0), .int p1, .int p2]) (n := 4) (Nat.le_of_ble_eq_true rfl)
  rw [lg_entry_eq]
  generalize (lg_sl ([.ref (a 0), .int p1, .int p2]) ++ List.replicate (4 - (lg_sl ([.ref (a 0), .int p1, .int p2])).length) Slot.unset).toArray = ls at hl ⊢
  have hl : lv_has ls 4 [(0, .ref (a 0)), (1, .int p1), (2, .int p2)] := hl
  refine lv_aload_n hx hb dX3_move_0 rfl (lv_at hl 0 rfl) ?_
  refine lv_iload_n hx hb dX3_move_1 rfl (lv_at hl 1 rfl) ?_
  obtain ⟨r1, er1, hw⟩ := Option.bind_eq_some_iff.mp hw
  refine vp_callSi (va_runV (As := [.int p1]) (rest := []) ⟨hx, hb, hml, hown, hts⟩ (c_X3_isListener l dC dI a cA X p1 r1 er1) ⟨callB_of 1 hts gd_X3_isListener rfl rfl rfl (hts _ wd_35) (hts _ wd_286) hd_X3_isListener ⟨Nat.le_of_ble_eq_true rfl, Nat.le_of_ble_eq_true rfl⟩, hts _ wd_288, hts _ wd_2⟩ ⟨blX, va_recv hK hP (ci := 3) (q0 := 0) rfl rfl, fun U hU hW => ⟨rfl, by rw [hU]; exact hP, va_K.moved hW.alike hK, nst.warm hW hN⟩⟩ rfl rfl hl.1 rfl (lv_room (Nat.le_of_ble_eq_true rfl)) dX3_move_2 ⟨Nat.zero_le _, Nat.zero_le _⟩).run (fun r_ e_ => ?_)
  subst r_
  refine lv_if_eq (tgt := 16) hx hb dX3_move_5 (by decide) (fun c2 => ?_) (fun c2 => ?_)
  · have hw := ite_t hw c2
    refine lv_bipush (v := (-101)) hx hb dX3_move_16 (by decide) ?_
    exact hret _ _ _ _ _ _ (Option.some.inj hw) hP hS dX3_move_18
  · have hw := ite_f hw c2
    refine lv_aload_n hx hb dX3_move_8 rfl (lv_at hl 0 rfl) ?_
    refine lv_iload_n hx hb dX3_move_9 rfl (lv_at hl 2 rfl) ?_
    obtain ⟨r3, er3, hw⟩ := Option.bind_eq_some_iff.mp hw
    refine vp_callSi (va_runV (As := [.int p2]) (rest := []) ⟨hx, hb, hml, hown, hts⟩ (c_X3_isPlace l dC dI a cA X p2 r3 er3) ⟨callB_of 1 hts gd_X3_isPlace rfl rfl rfl (hts _ wd_35) (hts _ wd_253) hd_X3_isPlace ⟨Nat.le_of_ble_eq_true rfl, Nat.le_of_ble_eq_true rfl⟩, hts _ wd_255, hts _ wd_0⟩ ⟨blX, va_recv hK hP (ci := 3) (q0 := 0) rfl rfl, fun U hU hW => ⟨rfl, by rw [hU]; exact hP, va_K.moved hW.alike hK, nst.warm hW hN⟩⟩ rfl rfl hl.1 rfl (lv_room (Nat.le_of_ble_eq_true rfl)) dX3_move_10 ⟨Nat.zero_le _, Nat.zero_le _⟩).run (fun r_ e_ => ?_)
    subst r_
    refine lv_if_ne (tgt := 19) hx hb dX3_move_13 (by decide) (fun c4 => ?_) (fun c4 => ?_)
    · have hw := ite_f hw c4
      refine lv_aload_n hx hb dX3_move_19 rfl (lv_at hl 0 rfl) ?_
      refine va_get (D := (dC, dI)) (ci := 3) (v := .ref (a 3)) (C := RX3) (T := TX3) (N := 6) hx hb hts iX3 hown hK hP 0 rfl rfl 1 (by decide) (hts _ wd_179) (fun _ h9 => h9) rfl dX3_move_20 ?_
      refine va_getN (D := (dC, dI)) (ci := 2) (v := .ref (a 8)) (C := RX2) (T := TX2) (N := 17) hx hb hts iX2 hown hK hP 3 rfl rfl 4 (by decide) (va_Nw.use rfl (hN _ nk_82)) (fun _ h9 => h9) rfl dX3_move_23 ?_
      refine lv_iload_n hx hb dX3_move_26 rfl (lv_at hl 1 rfl) ?_
      obtain ⟨h5, hw⟩ := ixc_use hw
      refine va_iald hx hb hK hP 8 0 rfl rfl h5 dX3_move_27 ?_
      refine lv_topi (fun x6 ex6 => ?_)
      have hw := stp_use hw ex6
      refine lv_istore_n (lv' := [(3, .int x6), (0, .ref (a 0)), (1, .int p1), (2, .int p2)]) hx hb dX3_move_28 rfl hl (by decide) rfl (fun ls hl => ?_)
      refine lv_aload_n hx hb dX3_move_29 rfl (lv_at hl 1 rfl) ?_
      refine va_get (D := (dC, dI)) (ci := 3) (v := .ref (a 3)) (C := RX3) (T := TX3) (N := 6) hx hb hts iX3 hown hK hP 0 rfl rfl 1 (by decide) (hts _ wd_179) (fun _ h9 => h9) rfl dX3_move_30 ?_
      refine va_getN (D := (dC, dI)) (ci := 2) (v := .ref (a 8)) (C := RX2) (T := TX2) (N := 17) hx hb hts iX2 hown hK hP 3 rfl rfl 4 (by decide) (va_Nw.use rfl (hN _ nk_82)) (fun _ h9 => h9) rfl dX3_move_33 ?_
      refine lv_iload_n hx hb dX3_move_36 rfl (lv_at hl 2 rfl) ?_
      refine lv_iload_n hx hb dX3_move_37 rfl (lv_at hl 3 rfl) ?_
      obtain ⟨h7, hw⟩ := ixc_use hw
      refine va_iast hx hb hK hP (wlD hD0) hS 8 0 rfl rfl h7 dX3_move_38 (fun H locs hP hD_ hS => ?_)
      obtain ⟨X8, eX8⟩ : ∃ y : WS, y = (ups X 8 (Int32.toNatClampNeg p1) p2) := ⟨_, rfl⟩
      have hw := stp_use hw eX8
      have hP : va_P (dC, dI) classes (wl a cA X8) H := by rw [eX8]; exact hP
      refine lv_iload_n hx hb dX3_move_39 rfl (lv_at hl 0 rfl) ?_
      exact hret _ _ _ _ _ _ (Option.some.inj hw) hP hS dX3_move_40
    · have hw := ite_t hw c4
      refine lv_bipush (v := (-101)) hx hb dX3_move_16 (by decide) ?_
      exact hret _ _ _ _ _ _ (Option.some.inj hw) hP hS dX3_move_18
set_option maxHeartbeats 4000000 in
set_option maxRecDepth 100000 in
theorem c_X4_move (l : Launch) (dC : Nat → ClassId) (dI : Nat → Nat → Nat) (A : Nat → Prop) (a : Nat → Nat) (cA : ClassId) (X : MS) (p1 : Int32) (p2 : Int32) (out : (Int32 × MS)) (hw : f_X4_move X p1 p2 = some out) : Met l yX4_move (.code yX4_move cX4_move 4 (some .int) :: lw_g) ({ frames := 2, cells := 0, slots := 0, locals := 46 }) (PcMD dC dI A a cA X [.ref (a 0), .int p1, .int p2]) (va_Qi (fun (r_ : Int32) (X_ : MS) => out = (r_, X_)) (fun X_ t => va_P (dC, dI) classes (wm a cA X_) t.heap ∧ va_K (dC, dI) classes [(cA, .int)] t) A) 0 0 (A) := by
  unfold f_X4_move at hw
  refine Met.ofW (cc := cX4_move) (maxL := 4) (ret := (some .int)) (by decide) rfl ?_
  intro p e s m args below meth c s₁ B hml hv
  obtain ⟨rfl, hP, hK, hD0⟩ := hv
  have hx := B.exec
  have hb := B.bytes
  have hr := B.returns
  have hts0 := atoms_spec (ws := (.code yX4_move cX4_move 4 (some .int) :: lw_g)) B.pre
  have hts : ∀ w ∈ lw_g, w.before (([.ref (a 0), .int p1, .int p2] : List Value).toArray) s = true := fun w h => hts0 w (List.mem_cons_of_mem _ h)
  clear hts0
  have hown : s.vm.findClass RX4 = some m.cls := findClass_of_methodNamed B.named
  have hlocks := B.notSynchronized
  have hret : ∀ (pc : Nat) (ls : Array Slot) (v : Int32) (X_ : MS) (H : Heap) (locs : List Loc), (v, X_) = out → va_P (dC, dI) classes (wm a cA X_) H → va_S A s.heap H locs → decode cX4_move pc = .ok (.ireturn, 1) → W p l e ({ frames := 2, cells := 0, slots := 0, locals := 46 }) s m (([.ref (a 0), .int p1, .int p2] : List Value).toArray) below meth c H locs 0 0 (MQ below (va_Qi (fun (r_ : Int32) (X_ : MS) => out = (r_, X_)) (fun X_ t => va_P (dC, dI) classes (wm a cA X_) t.heap ∧ va_K (dC, dI) classes [(cA, .int)] t) A) (([.ref (a 0), .int p1, .int p2] : List Value).toArray) s 0 0 (A)) (F0 m pc ls [.int v]) := fun pc ls v X_ H locs hv hP hS hd => W.iret hx hb hr (fun t ht hW => ⟨⟨v, X_, rfl, hv.symm, by rw [ht]; exact hP, va_K.moved hW.alike hK⟩, hS.F ht⟩) hS.2.2 hd
  show W p l e ({ frames := 2, cells := 0, slots := 0, locals := 46 }) s m (([.ref (a 0), .int p1, .int p2] : List Value).toArray) below meth c s.heap [] 0 0 (MQ below (va_Qi (fun (r_ : Int32) (X_ : MS) => out = (r_, X_)) (fun X_ t => va_P (dC, dI) classes (wm a cA X_) t.heap ∧ va_K (dC, dI) classes [(cA, .int)] t) A) (([.ref (a 0), .int p1, .int p2] : List Value).toArray) s 0 0 (A)) (entryFrame m (([.ref (a 0), .int p1, .int p2] : List Value).toArray) 4)
  generalize MQ below (va_Qi (fun (r_ : Int32) (X_ : MS) => out = (r_, X_)) (fun X_ t => va_P (dC, dI) classes (wm a cA X_) t.heap ∧ va_K (dC, dI) classes [(cA, .int)] t) A) (([.ref (a 0), .int p1, .int p2] : List Value).toArray) s 0 0 (A) = Q at hret ⊢
  have hS : va_S A s.heap s.heap [] := va_S.rf
  have hl := lv_entry ([.ref (a 0), .int p1, .int p2]) (n := 4) (Nat.le_of_ble_eq_true rfl)
  rw [lg_entry_eq]
  generalize (lg_sl ([.ref (a 0), .int p1, .int p2]) ++ List.replicate (4 - (lg_sl ([.ref (a 0), .int p1, .int p2])).length) Slot.unset).toArray = ls at hl ⊢
  have hl : lv_has ls 4 [(0, .ref (a 0)), (1, .int p1), (2, .int p2)] := hl
  refine lv_aload_n hx hb dX4_move_0 rfl (lv_at hl 0 rfl) ?_
  refine lv_iload_n hx hb dX4_move_1 rfl (lv_at hl 1 rfl) ?_
  obtain ⟨r1, er1, hw⟩ := Option.bind_eq_some_iff.mp hw
  refine vp_callSi (va_runV (As := [.int p1]) (rest := []) ⟨hx, hb, hml, hown, hts⟩ (c_X4_isListener l dC dI a cA X p1 r1 er1) ⟨callB_of 1 hts gd_X4_isListener rfl rfl rfl (hts _ wd_39) (hts _ wd_664) hd_X4_isListener ⟨Nat.le_of_ble_eq_true rfl, Nat.le_of_ble_eq_true rfl⟩, hts _ wd_666, hts _ wd_13⟩ ⟨blM, va_recv hK hP (ci := 4) (q0 := 0) rfl rfl, fun U hU hW => ⟨rfl, by rw [hU]; exact hP, va_K.moved hW.alike hK⟩⟩ rfl rfl hl.1 rfl (lv_room (Nat.le_of_ble_eq_true rfl)) dX4_move_2 ⟨Nat.zero_le _, Nat.zero_le _⟩).run (fun r_ e_ => ?_)
  subst r_
  refine lv_if_eq (tgt := 16) hx hb dX4_move_5 (by decide) (fun c2 => ?_) (fun c2 => ?_)
  · have hw := ite_t hw c2
    refine lv_bipush (v := (-101)) hx hb dX4_move_16 (by decide) ?_
    exact hret _ _ _ _ _ _ (Option.some.inj hw) hP hS dX4_move_18
  · have hw := ite_f hw c2
    refine lv_aload_n hx hb dX4_move_8 rfl (lv_at hl 0 rfl) ?_
    refine lv_iload_n hx hb dX4_move_9 rfl (lv_at hl 2 rfl) ?_
    obtain ⟨r3, er3, hw⟩ := Option.bind_eq_some_iff.mp hw
    refine vp_callSi (va_runV (As := [.int p2]) (rest := []) ⟨hx, hb, hml, hown, hts⟩ (c_X4_isPlace l dC dI a cA X p2 r3 er3) ⟨callB_of 1 hts gd_X4_isPlace rfl rfl rfl (hts _ wd_39) (hts _ wd_643) hd_X4_isPlace ⟨Nat.le_of_ble_eq_true rfl, Nat.le_of_ble_eq_true rfl⟩, hts _ wd_645, hts _ wd_11⟩ ⟨blM, va_recv hK hP (ci := 4) (q0 := 0) rfl rfl, fun U hU hW => ⟨rfl, by rw [hU]; exact hP, va_K.moved hW.alike hK⟩⟩ rfl rfl hl.1 rfl (lv_room (Nat.le_of_ble_eq_true rfl)) dX4_move_10 ⟨Nat.zero_le _, Nat.zero_le _⟩).run (fun r_ e_ => ?_)
    subst r_
    refine lv_if_ne (tgt := 19) hx hb dX4_move_13 (by decide) (fun c4 => ?_) (fun c4 => ?_)
    · have hw := ite_f hw c4
      refine lv_aload_n hx hb dX4_move_19 rfl (lv_at hl 0 rfl) ?_
      refine va_get (D := (dC, dI)) (ci := 4) (v := .ref (a 3)) (C := RX4) (T := TX4) (N := 29) hx hb hts iX4 hown hK hP 0 rfl rfl 12 (by decide) (hts _ wd_534) (fun _ h9 => h9) rfl dX4_move_20 ?_
      refine lv_iconst (v := 2) hx hb dX4_move_23 (by decide) ?_
      refine lv_iload_n hx hb dX4_move_24 rfl (lv_at hl 1 rfl) ?_
      refine lv_imul hx hb dX4_move_25 ?_
      refine lv_iconst (v := 1) hx hb dX4_move_26 (by decide) ?_
      refine lv_iadd hx hb dX4_move_27 ?_
      obtain ⟨h5, hw⟩ := ixc_use hw
      refine va_iald hx hb hK hP 3 0 rfl rfl h5 dX4_move_28 ?_
      refine lv_topi (fun x6 ex6 => ?_)
      have hw := stp_use hw ex6
      refine lv_istore_n (lv' := [(3, .int x6), (0, .ref (a 0)), (1, .int p1), (2, .int p2)]) hx hb dX4_move_29 rfl hl (by decide) rfl (fun ls hl => ?_)
      refine lv_aload_n hx hb dX4_move_30 rfl (lv_at hl 1 rfl) ?_
      refine va_get (D := (dC, dI)) (ci := 4) (v := .ref (a 3)) (C := RX4) (T := TX4) (N := 29) hx hb hts iX4 hown hK hP 0 rfl rfl 12 (by decide) (hts _ wd_534) (fun _ h9 => h9) rfl dX4_move_31 ?_
      refine lv_iconst (v := 2) hx hb dX4_move_34 (by decide) ?_
      refine lv_iload_n hx hb dX4_move_35 rfl (lv_at hl 2 rfl) ?_
      refine lv_imul hx hb dX4_move_36 ?_
      refine lv_iconst (v := 1) hx hb dX4_move_37 (by decide) ?_
      refine lv_iadd hx hb dX4_move_38 ?_
      refine lv_iload_n hx hb dX4_move_39 rfl (lv_at hl 3 rfl) ?_
      obtain ⟨h7, hw⟩ := ixc_use hw
      refine va_iast hx hb hK hP (wmD hD0) hS 3 0 rfl rfl h7 dX4_move_40 (fun H locs hP hD_ hS => ?_)
      obtain ⟨X8, eX8⟩ : ∃ y : MS, y = (ups X.1 3 (Int32.toNatClampNeg ((2 * p1) + 1)) p2, X.2) := ⟨_, rfl⟩
      have hw := stp_use hw eX8
      have hP : va_P (dC, dI) classes (wm a cA X8) H := by rw [eX8]; exact hP
      refine lv_iload_n hx hb dX4_move_41 rfl (lv_at hl 0 rfl) ?_
      exact hret _ _ _ _ _ _ (Option.some.inj hw) hP hS dX4_move_42
    · have hw := ite_t hw c4
      refine lv_bipush (v := (-101)) hx hb dX4_move_16 (by decide) ?_
      exact hret _ _ _ _ _ _ (Option.some.inj hw) hP hS dX4_move_18
set_option maxHeartbeats 4000000 in
set_option maxRecDepth 100000 in
theorem c_X3_isLoud (l : Launch) (p0 : Int32) (out : Int32) (hw : f_X3_isLoud p0 = some out) : Met l yX3_isLoud (.code yX3_isLoud cX3_isLoud 1 (some .boolean) :: lw_g) ({ frames := 0, cells := 0, slots := 0, locals := 0 }) (Pc0 [.int p0]) (vp_Si (fun r_ => r_ = out)) 0 0 (fun _ => False) := by
  unfold f_X3_isLoud at hw
  refine Met.ofW (cc := cX3_isLoud) (maxL := 1) (ret := (some .boolean)) (by decide) rfl ?_
  intro p e s m args below meth c s₁ B hml hv
  obtain ⟨rfl, -⟩ := hv
  have hx := B.exec
  have hb := B.bytes
  have hr := B.returns
  have hts0 := atoms_spec (ws := (.code yX3_isLoud cX3_isLoud 1 (some .boolean) :: lw_g)) B.pre
  have hts : ∀ w ∈ lw_g, w.before (([.int p0] : List Value).toArray) s = true := fun w h => hts0 w (List.mem_cons_of_mem _ h)
  clear hts0
  have hown : s.vm.findClass RX3 = some m.cls := findClass_of_methodNamed B.named
  have hlocks := B.notSynchronized
  have hret : ∀ (pc : Nat) (ls : Array Slot) (v : Int32), v = out → (hz : narrow .boolean (.int v) = .int v) → decode cX3_isLoud pc = .ok (.ireturn, 1) → W p l e ({ frames := 0, cells := 0, slots := 0, locals := 0 }) s m (([.int p0] : List Value).toArray) below meth c s.heap [] 0 0 (MQ below (vp_Si (fun r_ => r_ = out)) (([.int p0] : List Value).toArray) s 0 0 (fun _ => False)) (F0 m pc ls [.int v]) := fun pc ls v hv hz hd => W.zret hx hb hr hz (fun t ht hW => ⟨v, rfl, hv, ht⟩) (fun q hq => absurd hq List.not_mem_nil) hd
  show W p l e ({ frames := 0, cells := 0, slots := 0, locals := 0 }) s m (([.int p0] : List Value).toArray) below meth c s.heap [] 0 0 (MQ below (vp_Si (fun r_ => r_ = out)) (([.int p0] : List Value).toArray) s 0 0 (fun _ => False)) (entryFrame m (([.int p0] : List Value).toArray) 1)
  generalize MQ below (vp_Si (fun r_ => r_ = out)) (([.int p0] : List Value).toArray) s 0 0 (fun _ => False) = Q at hret ⊢
  have hl := lv_entry ([.int p0]) (n := 1) (Nat.le_of_ble_eq_true rfl)
  rw [lg_entry_eq]
  generalize (lg_sl ([.int p0]) ++ List.replicate (1 - (lg_sl ([.int p0])).length) Slot.unset).toArray = ls at hl ⊢
  have hl : lv_has ls 1 [(0, .int p0)] := hl
  refine lv_iload_n hx hb dX3_isLoud_0 rfl (lv_at hl 0 rfl) ?_
  refine lv_iconst (v := 1) hx hb dX3_isLoud_1 (by decide) ?_
  refine lv_icmp_lt (tgt := 15) hx hb dX3_isLoud_2 (by decide) (fun c1 => ?_) (fun c1 => ?_)
  · have hw := ite_t hw c1
    refine lv_iconst (v := 0) hx hb dX3_isLoud_15 (by decide) ?_
    exact hret _ _ _ (Option.some.inj hw) rfl dX3_isLoud_16
  · have hw := ite_f hw c1
    refine lv_iload_n hx hb dX3_isLoud_5 rfl (lv_at hl 0 rfl) ?_
    refine lv_bipush (v := 9) hx hb dX3_isLoud_6 (by decide) ?_
    refine lv_icmp_gt (tgt := 15) hx hb dX3_isLoud_8 (by decide) (fun c2 => ?_) (fun c2 => ?_)
    · have hw := ite_t hw c2
      refine lv_iconst (v := 0) hx hb dX3_isLoud_15 (by decide) ?_
      exact hret _ _ _ (Option.some.inj hw) rfl dX3_isLoud_16
    · have hw := ite_f hw c2
      refine lv_iconst (v := 1) hx hb dX3_isLoud_11 (by decide) ?_
      refine lv_goto (tgt := 16) hx hb dX3_isLoud_12 (by decide) ?_
      exact hret _ _ _ (Option.some.inj hw) rfl dX3_isLoud_16
set_option maxHeartbeats 4000000 in
set_option maxRecDepth 100000 in
theorem c_X2_hearing (l : Launch) (dC : Nat → ClassId) (dI : Nat → Nat → Nat) (a : Nat → Nat) (cA : ClassId) (X : WS) (p1 : Int32) (p2 : Int32) (out : Int32) (hw : f_X2_hearing X p1 p2 = some out) : Met l yX2_hearing (.code yX2_hearing cX2_hearing 7 (some .int) :: lw_g) ({ frames := 0, cells := 0, slots := 0, locals := 0 }) (PcX dC dI a cA X [.ref (a 3), .int p1, .int p2]) (vp_Si (fun r_ => r_ = out)) 0 0 (fun _ => False) := by
  unfold f_X2_hearing at hw
  refine Met.ofW (cc := cX2_hearing) (maxL := 7) (ret := (some .int)) (by decide) rfl ?_
  intro p e s m args below meth c s₁ B hml hv
  obtain ⟨rfl, hP, hK, hN⟩ := hv
  have hx := B.exec
  have hb := B.bytes
  have hr := B.returns
  have hts0 := atoms_spec (ws := (.code yX2_hearing cX2_hearing 7 (some .int) :: lw_g)) B.pre
  have hts : ∀ w ∈ lw_g, w.before (([.ref (a 3), .int p1, .int p2] : List Value).toArray) s = true := fun w h => hts0 w (List.mem_cons_of_mem _ h)
  clear hts0
  have hown : s.vm.findClass RX2 = some m.cls := findClass_of_methodNamed B.named
  have hlocks := B.notSynchronized
  have hret : ∀ (pc : Nat) (ls : Array Slot) (v : Int32), v = out → decode cX2_hearing pc = .ok (.ireturn, 1) → W p l e ({ frames := 0, cells := 0, slots := 0, locals := 0 }) s m (([.ref (a 3), .int p1, .int p2] : List Value).toArray) below meth c s.heap [] 0 0 (MQ below (vp_Si (fun r_ => r_ = out)) (([.ref (a 3), .int p1, .int p2] : List Value).toArray) s 0 0 (fun _ => False)) (F0 m pc ls [.int v]) := fun pc ls v hv hd => W.iret hx hb hr (fun t ht hW => ⟨v, rfl, hv, ht⟩) (fun q hq => absurd hq List.not_mem_nil) hd
  show W p l e ({ frames := 0, cells := 0, slots := 0, locals := 0 }) s m (([.ref (a 3), .int p1, .int p2] : List Value).toArray) below meth c s.heap [] 0 0 (MQ below (vp_Si (fun r_ => r_ = out)) (([.ref (a 3), .int p1, .int p2] : List Value).toArray) s 0 0 (fun _ => False)) (entryFrame m (([.ref (a 3), .int p1, .int p2] : List Value).toArray) 7)
  generalize MQ below (vp_Si (fun r_ => r_ = out)) (([.ref (a 3), .int p1, .int p2] : List Value).toArray) s 0 0 (fun _ => False) = Q at hret ⊢
  have L5 : ∀ (v1 : Int32), ∀ (v2 : Int32), ∀ n : Nat, ∀ (v3 : Int32), ∀ (v4 : Int32), g_X2_hearing_5 X v1 v2 n v3 v4 = some out → ∀ ls : Array Slot, lv_has ls 7 [(0, .ref (a 3)), (1, .int v1), (2, .int v2), (3, .int v3), (4, .int v4)] → W p l e ({ frames := 0, cells := 0, slots := 0, locals := 0 }) s m (([.ref (a 3), .int p1, .int p2] : List Value).toArray) below meth c s.heap [] 0 0 Q (F0 m 5 ls []) := by
    intro v1 v2 n
    induction n with
    | zero =>
      intro v3 v4 hw
      rw [g_X2_hearing_5] at hw
      cases hw
    | succ n ih =>
      intro v3 v4 hw ls hl
      rw [g_X2_hearing_5] at hw
      refine lv_iload hx hb dX2_hearing_5 (lv_at hl 4 rfl) ?_
      refine lv_aload_n hx hb dX2_hearing_7 rfl (lv_at hl 0 rfl) ?_
      refine va_get (D := (dC, dI)) (ci := 2) (v := .int (X 3 5)) (C := RX2) (T := TX2) (N := 17) hx hb hts iX2 hown hK hP 3 rfl rfl 5 (by decide) (hts _ wd_83) (fun _ h9 => h9) rfl dX2_hearing_8 ?_
      refine lv_icmp_ge (tgt := 79) hx hb dX2_hearing_11 (by decide) (fun c1 => ?_) (fun c1 => ?_)
      · have hw := ite_t hw c1
        refine lv_iload_n hx hb dX2_hearing_79 rfl (lv_at hl 3 rfl) ?_
        exact hret _ _ _ (Option.some.inj hw) dX2_hearing_80
      · have hw := ite_f hw c1
        refine lv_aload_n hx hb dX2_hearing_14 rfl (lv_at hl 0 rfl) ?_
        refine va_get (D := (dC, dI)) (ci := 2) (v := .ref (a 8)) (C := RX2) (T := TX2) (N := 17) hx hb hts iX2 hown hK hP 3 rfl rfl 4 (by decide) (hts _ wd_81) (fun _ h9 => h9) rfl dX2_hearing_15 ?_
        refine lv_iload hx hb dX2_hearing_18 (lv_at hl 4 rfl) ?_
        obtain ⟨h2, hw⟩ := ixc_use hw
        refine va_iald hx hb hK hP 8 0 rfl rfl h2 dX2_hearing_20 ?_
        refine lv_topi (fun x3 ex3 => ?_)
        have hw := stp_use hw ex3
        refine lv_istore (lv' := [(5, .int x3), (0, .ref (a 3)), (1, .int v1), (2, .int v2), (3, .int v3), (4, .int v4)]) hx hb dX2_hearing_21 hl (by decide) rfl (fun ls hl => ?_)
        refine lv_iload hx hb dX2_hearing_23 (lv_at hl 0 rfl) ?_
        refine lv_iload_n hx hb dX2_hearing_25 rfl (lv_at hl 2 rfl) ?_
        refine lv_icmp_ge (tgt := 36) hx hb dX2_hearing_26 (by decide) (fun c4 => ?_) (fun c4 => ?_)
        · have hw := ite_t hw c4
          refine lv_iload hx hb dX2_hearing_36 (lv_at hl 0 rfl) ?_
          refine lv_iload_n hx hb dX2_hearing_38 rfl (lv_at hl 2 rfl) ?_
          refine lv_isub hx hb dX2_hearing_39 ?_
          refine lv_topi (fun x5 ex5 => ?_)
          have hw := stp_use hw ex5
          refine lv_istore (lv' := [(6, .int x5), (5, .int x3), (0, .ref (a 3)), (1, .int v1), (2, .int v2), (3, .int v3), (4, .int v4)]) hx hb dX2_hearing_40 hl (by decide) rfl (fun ls hl => ?_)
          refine lv_iload_n hx hb dX2_hearing_42 rfl (lv_at hl 4 rfl) ?_
          refine lv_iconst (v := 2) hx hb dX2_hearing_43 (by decide) ?_
          refine lv_iload hx hb dX2_hearing_44 (lv_at hl 0 rfl) ?_
          refine lv_imul hx hb dX2_hearing_46 ?_
          refine lv_isub hx hb dX2_hearing_47 ?_
          refine lv_aload_n hx hb dX2_hearing_48 rfl (lv_at hl 2 rfl) ?_
          refine va_get (D := (dC, dI)) (ci := 2) (v := .ref (a 4)) (C := RX2) (T := TX2) (N := 17) hx hb hts iX2 hown hK hP 3 rfl rfl 0 (by decide) (hts _ wd_73) (fun _ h9 => h9) rfl dX2_hearing_49 ?_
          refine lv_iload hx hb dX2_hearing_52 (lv_at hl 1 rfl) ?_
          obtain ⟨h6, hw⟩ := ixc_use hw
          refine va_iald hx hb hK hP 4 0 rfl rfl h6 dX2_hearing_54 ?_
          refine lv_isub hx hb dX2_hearing_55 ?_
          refine lv_aload_n hx hb dX2_hearing_56 rfl (lv_at hl 2 rfl) ?_
          refine va_get (D := (dC, dI)) (ci := 2) (v := .ref (a 6)) (C := RX2) (T := TX2) (N := 17) hx hb hts iX2 hown hK hP 3 rfl rfl 2 (by decide) (hts _ wd_77) (fun _ h9 => h9) rfl dX2_hearing_57 ?_
          refine lv_iload hx hb dX2_hearing_60 (lv_at hl 6 rfl) ?_
          obtain ⟨h7, hw⟩ := ixc_use hw
          refine va_iald hx hb hK hP 6 0 rfl rfl h7 dX2_hearing_62 ?_
          refine lv_icmp_lt (tgt := 73) hx hb dX2_hearing_63 (by decide) (fun c8 => ?_) (fun c8 => ?_)
          · have hw := ite_t hw c8
            obtain ⟨x9, ex9⟩ : ∃ y : Int32, y = (v4 + 1) := ⟨_, rfl⟩
            have hw := stp_use hw ex9
            refine lv_iinc (v := x9) (lv' := [(4, .int x9), (6, .int x5), (5, .int x3), (0, .ref (a 3)), (1, .int v1), (2, .int v2), (3, .int v3)]) hx hb dX2_hearing_73 hl (k := 6) rfl (by rw [ex9]; rfl) (by decide) rfl (fun ls hl => ?_)
            refine lv_goto (tgt := 5) hx hb dX2_hearing_76 (by decide) ?_
            exact ih v3 x9 hw ls (lv_sub hl [3, 4, 5, 6, 0] rfl)
          · have hw := ite_f hw c8
            refine lv_iload_n hx hb dX2_hearing_66 rfl (lv_at hl 5 rfl) ?_
            refine lv_iconst (v := 1) hx hb dX2_hearing_67 (by decide) ?_
            refine lv_iload hx hb dX2_hearing_68 (lv_at hl 6 rfl) ?_
            refine lv_ishl hx hb dX2_hearing_70 ?_
            refine lv_ior hx hb dX2_hearing_71 ?_
            refine lv_topi (fun x10 ex10 => ?_)
            have hw := stp_use hw ex10
            refine lv_istore_n (lv' := [(3, .int x10), (6, .int x5), (5, .int x3), (0, .ref (a 3)), (1, .int v1), (2, .int v2), (4, .int v4)]) hx hb dX2_hearing_72 rfl hl (by decide) rfl (fun ls hl => ?_)
            obtain ⟨x11, ex11⟩ : ∃ y : Int32, y = (v4 + 1) := ⟨_, rfl⟩
            have hw := stp_use hw ex11
            refine lv_iinc (v := x11) (lv' := [(4, .int x11), (3, .int x10), (6, .int x5), (5, .int x3), (0, .ref (a 3)), (1, .int v1), (2, .int v2)]) hx hb dX2_hearing_73 hl (k := 6) rfl (by rw [ex11]; rfl) (by decide) rfl (fun ls hl => ?_)
            refine lv_goto (tgt := 5) hx hb dX2_hearing_76 (by decide) ?_
            exact ih x10 x11 hw ls (lv_sub hl [4, 5, 6, 1, 0] rfl)
        · have hw := ite_f hw c4
          refine lv_iload_n hx hb dX2_hearing_29 rfl (lv_at hl 2 rfl) ?_
          refine lv_iload hx hb dX2_hearing_30 (lv_at hl 0 rfl) ?_
          refine lv_isub hx hb dX2_hearing_32 ?_
          refine lv_goto (tgt := 40) hx hb dX2_hearing_33 (by decide) ?_
          refine lv_topi (fun x12 ex12 => ?_)
          have hw := stp_use hw ex12
          refine lv_istore (lv' := [(6, .int x12), (5, .int x3), (0, .ref (a 3)), (1, .int v1), (2, .int v2), (3, .int v3), (4, .int v4)]) hx hb dX2_hearing_40 hl (by decide) rfl (fun ls hl => ?_)
          refine lv_iload_n hx hb dX2_hearing_42 rfl (lv_at hl 4 rfl) ?_
          refine lv_iconst (v := 2) hx hb dX2_hearing_43 (by decide) ?_
          refine lv_iload hx hb dX2_hearing_44 (lv_at hl 0 rfl) ?_
          refine lv_imul hx hb dX2_hearing_46 ?_
          refine lv_isub hx hb dX2_hearing_47 ?_
          refine lv_aload_n hx hb dX2_hearing_48 rfl (lv_at hl 2 rfl) ?_
          refine va_get (D := (dC, dI)) (ci := 2) (v := .ref (a 4)) (C := RX2) (T := TX2) (N := 17) hx hb hts iX2 hown hK hP 3 rfl rfl 0 (by decide) (hts _ wd_73) (fun _ h9 => h9) rfl dX2_hearing_49 ?_
          refine lv_iload hx hb dX2_hearing_52 (lv_at hl 1 rfl) ?_
          obtain ⟨h13, hw⟩ := ixc_use hw
          refine va_iald hx hb hK hP 4 0 rfl rfl h13 dX2_hearing_54 ?_
          refine lv_isub hx hb dX2_hearing_55 ?_
          refine lv_aload_n hx hb dX2_hearing_56 rfl (lv_at hl 2 rfl) ?_
          refine va_get (D := (dC, dI)) (ci := 2) (v := .ref (a 6)) (C := RX2) (T := TX2) (N := 17) hx hb hts iX2 hown hK hP 3 rfl rfl 2 (by decide) (hts _ wd_77) (fun _ h9 => h9) rfl dX2_hearing_57 ?_
          refine lv_iload hx hb dX2_hearing_60 (lv_at hl 6 rfl) ?_
          obtain ⟨h14, hw⟩ := ixc_use hw
          refine va_iald hx hb hK hP 6 0 rfl rfl h14 dX2_hearing_62 ?_
          refine lv_icmp_lt (tgt := 73) hx hb dX2_hearing_63 (by decide) (fun c15 => ?_) (fun c15 => ?_)
          · have hw := ite_t hw c15
            obtain ⟨x16, ex16⟩ : ∃ y : Int32, y = (v4 + 1) := ⟨_, rfl⟩
            have hw := stp_use hw ex16
            refine lv_iinc (v := x16) (lv' := [(4, .int x16), (6, .int x12), (5, .int x3), (0, .ref (a 3)), (1, .int v1), (2, .int v2), (3, .int v3)]) hx hb dX2_hearing_73 hl (k := 6) rfl (by rw [ex16]; rfl) (by decide) rfl (fun ls hl => ?_)
            refine lv_goto (tgt := 5) hx hb dX2_hearing_76 (by decide) ?_
            exact ih v3 x16 hw ls (lv_sub hl [3, 4, 5, 6, 0] rfl)
          · have hw := ite_f hw c15
            refine lv_iload_n hx hb dX2_hearing_66 rfl (lv_at hl 5 rfl) ?_
            refine lv_iconst (v := 1) hx hb dX2_hearing_67 (by decide) ?_
            refine lv_iload hx hb dX2_hearing_68 (lv_at hl 6 rfl) ?_
            refine lv_ishl hx hb dX2_hearing_70 ?_
            refine lv_ior hx hb dX2_hearing_71 ?_
            refine lv_topi (fun x17 ex17 => ?_)
            have hw := stp_use hw ex17
            refine lv_istore_n (lv' := [(3, .int x17), (6, .int x12), (5, .int x3), (0, .ref (a 3)), (1, .int v1), (2, .int v2), (4, .int v4)]) hx hb dX2_hearing_72 rfl hl (by decide) rfl (fun ls hl => ?_)
            obtain ⟨x18, ex18⟩ : ∃ y : Int32, y = (v4 + 1) := ⟨_, rfl⟩
            have hw := stp_use hw ex18
            refine lv_iinc (v := x18) (lv' := [(4, .int x18), (3, .int x17), (6, .int x12), (5, .int x3), (0, .ref (a 3)), (1, .int v1), (2, .int v2)]) hx hb dX2_hearing_73 hl (k := 6) rfl (by rw [ex18]; rfl) (by decide) rfl (fun ls hl => ?_)
            refine lv_goto (tgt := 5) hx hb dX2_hearing_76 (by decide) ?_
            exact ih x17 x18 hw ls (lv_sub hl [4, 5, 6, 1, 0] rfl)
  have hl := lv_entry ([.ref (a 3), .int p1, .int p2]) (n := 7) (Nat.le_of_ble_eq_true rfl)
  rw [lg_entry_eq]
  generalize (lg_sl ([.ref (a 3), .int p1, .int p2]) ++ List.replicate (7 - (lg_sl ([.ref (a 3), .int p1, .int p2])).length) Slot.unset).toArray = ls at hl ⊢
  have hl : lv_has ls 7 [(0, .ref (a 3)), (1, .int p1), (2, .int p2)] := hl
  refine lv_iconst (v := 0) hx hb dX2_hearing_0 (by decide) ?_
  refine lv_istore_n (lv' := [(3, .int 0), (0, .ref (a 3)), (1, .int p1), (2, .int p2)]) hx hb dX2_hearing_1 rfl hl (by decide) rfl (fun ls hl => ?_)
  refine lv_iconst (v := 0) hx hb dX2_hearing_2 (by decide) ?_
  refine lv_istore (lv' := [(4, .int 0), (3, .int 0), (0, .ref (a 3)), (1, .int p1), (2, .int p2)]) hx hb dX2_hearing_3 hl (by decide) rfl (fun ls hl => ?_)
  exact L5 p1 p2 NF 0 0 hw ls (lv_sub hl [2, 3, 4, 1, 0] rfl)
set_option maxHeartbeats 4000000 in
set_option maxRecDepth 100000 in
theorem c_X2_repeatedBy (l : Launch) (dC : Nat → ClassId) (dI : Nat → Nat → Nat) (a : Nat → Nat) (cA : ClassId) (X : WS) (p1 : Int32) (out : Int32) (hw : f_X2_repeatedBy X p1 = some out) : Met l yX2_repeatedBy (.code yX2_repeatedBy cX2_repeatedBy 4 (some .int) :: lw_g) ({ frames := 1, cells := 0, slots := 0, locals := 26 }) (PcX dC dI a cA X [.ref (a 3), .int p1]) (vp_Si (fun r_ => r_ = out)) 0 0 (fun _ => False) := by
  unfold f_X2_repeatedBy at hw
  refine Met.ofW (cc := cX2_repeatedBy) (maxL := 4) (ret := (some .int)) (by decide) rfl ?_
  intro p e s m args below meth c s₁ B hml hv
  obtain ⟨rfl, hP, hK, hN⟩ := hv
  have hx := B.exec
  have hb := B.bytes
  have hr := B.returns
  have hts0 := atoms_spec (ws := (.code yX2_repeatedBy cX2_repeatedBy 4 (some .int) :: lw_g)) B.pre
  have hts : ∀ w ∈ lw_g, w.before (([.ref (a 3), .int p1] : List Value).toArray) s = true := fun w h => hts0 w (List.mem_cons_of_mem _ h)
  clear hts0
  have hown : s.vm.findClass RX2 = some m.cls := findClass_of_methodNamed B.named
  have hlocks := B.notSynchronized
  have hret : ∀ (pc : Nat) (ls : Array Slot) (v : Int32), v = out → decode cX2_repeatedBy pc = .ok (.ireturn, 1) → W p l e ({ frames := 1, cells := 0, slots := 0, locals := 26 }) s m (([.ref (a 3), .int p1] : List Value).toArray) below meth c s.heap [] 0 0 (MQ below (vp_Si (fun r_ => r_ = out)) (([.ref (a 3), .int p1] : List Value).toArray) s 0 0 (fun _ => False)) (F0 m pc ls [.int v]) := fun pc ls v hv hd => W.iret hx hb hr (fun t ht hW => ⟨v, rfl, hv, ht⟩) (fun q hq => absurd hq List.not_mem_nil) hd
  show W p l e ({ frames := 1, cells := 0, slots := 0, locals := 26 }) s m (([.ref (a 3), .int p1] : List Value).toArray) below meth c s.heap [] 0 0 (MQ below (vp_Si (fun r_ => r_ = out)) (([.ref (a 3), .int p1] : List Value).toArray) s 0 0 (fun _ => False)) (entryFrame m (([.ref (a 3), .int p1] : List Value).toArray) 4)
  generalize MQ below (vp_Si (fun r_ => r_ = out)) (([.ref (a 3), .int p1] : List Value).toArray) s 0 0 (fun _ => False) = Q at hret ⊢
  have L4 : ∀ (v1 : Int32), ∀ n : Nat, ∀ (v2 : Int32), ∀ (v3 : Int32), g_X2_repeatedBy_4 X v1 n v2 v3 = some out → ∀ ls : Array Slot, lv_has ls 4 [(0, .ref (a 3)), (1, .int v1), (2, .int v2), (3, .int v3)] → W p l e ({ frames := 1, cells := 0, slots := 0, locals := 26 }) s m (([.ref (a 3), .int p1] : List Value).toArray) below meth c s.heap [] 0 0 Q (F0 m 4 ls []) := by
    intro v1 n
    induction n with
    | zero =>
      intro v2 v3 hw
      rw [g_X2_repeatedBy_4] at hw
      cases hw
    | succ n ih =>
      intro v2 v3 hw ls hl
      rw [g_X2_repeatedBy_4] at hw
      refine lv_iload_n hx hb dX2_repeatedBy_4 rfl (lv_at hl 3 rfl) ?_
      refine lv_aload_n hx hb dX2_repeatedBy_5 rfl (lv_at hl 0 rfl) ?_
      refine va_get (D := (dC, dI)) (ci := 2) (v := .int (X 3 5)) (C := RX2) (T := TX2) (N := 17) hx hb hts iX2 hown hK hP 3 rfl rfl 5 (by decide) (hts _ wd_83) (fun _ h9 => h9) rfl dX2_repeatedBy_6 ?_
      refine lv_icmp_ge (tgt := 55) hx hb dX2_repeatedBy_9 (by decide) (fun c1 => ?_) (fun c1 => ?_)
      · have hw := ite_t hw c1
        refine lv_iload_n hx hb dX2_repeatedBy_55 rfl (lv_at hl 2 rfl) ?_
        exact hret _ _ _ (Option.some.inj hw) dX2_repeatedBy_56
      · have hw := ite_f hw c1
        refine lv_iload_n hx hb dX2_repeatedBy_12 rfl (lv_at hl 1 rfl) ?_
        refine lv_iload_n hx hb dX2_repeatedBy_13 rfl (lv_at hl 3 rfl) ?_
        refine lv_ishr hx hb dX2_repeatedBy_14 ?_
        refine lv_iconst (v := 1) hx hb dX2_repeatedBy_15 (by decide) ?_
        refine lv_iand hx hb dX2_repeatedBy_16 ?_
        refine lv_iconst (v := 1) hx hb dX2_repeatedBy_17 (by decide) ?_
        refine lv_icmp_ne (tgt := 49) hx hb dX2_repeatedBy_18 (by decide) (fun c2 => ?_) (fun c2 => ?_)
        · have hw := ite_f hw c2
          obtain ⟨x3, ex3⟩ : ∃ y : Int32, y = (v3 + 1) := ⟨_, rfl⟩
          have hw := stp_use hw ex3
          refine lv_iinc (v := x3) (lv' := [(3, .int x3), (0, .ref (a 3)), (1, .int v1), (2, .int v2)]) hx hb dX2_repeatedBy_49 hl (k := 3) rfl (by rw [ex3]; rfl) (by decide) rfl (fun ls hl => ?_)
          refine lv_goto (tgt := 4) hx hb dX2_repeatedBy_52 (by decide) ?_
          exact ih v2 x3 hw ls (lv_sub hl [1, 2, 3, 0] rfl)
        · have hw := ite_t hw c2
          refine lv_aload_n hx hb dX2_repeatedBy_21 rfl (lv_at hl 0 rfl) ?_
          refine va_get (D := (dC, dI)) (ci := 2) (v := .ref (a 7)) (C := RX2) (T := TX2) (N := 17) hx hb hts iX2 hown hK hP 3 rfl rfl 3 (by decide) (hts _ wd_79) (fun _ h9 => h9) rfl dX2_repeatedBy_22 ?_
          refine lv_iload_n hx hb dX2_repeatedBy_25 rfl (lv_at hl 3 rfl) ?_
          obtain ⟨h4, hw⟩ := ixc_use hw
          refine va_iald hx hb hK hP 7 0 rfl rfl h4 dX2_repeatedBy_26 ?_
          refine lv_if_le (tgt := 49) hx hb dX2_repeatedBy_27 (by decide) (fun c5 => ?_) (fun c5 => ?_)
          · have hw := ite_t hw c5
            obtain ⟨x6, ex6⟩ : ∃ y : Int32, y = (v3 + 1) := ⟨_, rfl⟩
            have hw := stp_use hw ex6
            refine lv_iinc (v := x6) (lv' := [(3, .int x6), (0, .ref (a 3)), (1, .int v1), (2, .int v2)]) hx hb dX2_repeatedBy_49 hl (k := 3) rfl (by rw [ex6]; rfl) (by decide) rfl (fun ls hl => ?_)
            refine lv_goto (tgt := 4) hx hb dX2_repeatedBy_52 (by decide) ?_
            exact ih v2 x6 hw ls (lv_sub hl [1, 2, 3, 0] rfl)
          · have hw := ite_f hw c5
            refine lv_iload_n hx hb dX2_repeatedBy_30 rfl (lv_at hl 2 rfl) ?_
            refine lv_aload_n hx hb dX2_repeatedBy_31 rfl (lv_at hl 0 rfl) ?_
            refine lv_aload_n hx hb dX2_repeatedBy_32 rfl (lv_at hl 0 rfl) ?_
            refine va_get (D := (dC, dI)) (ci := 2) (v := .ref (a 8)) (C := RX2) (T := TX2) (N := 17) hx hb hts iX2 hown hK hP 3 rfl rfl 4 (by decide) (hts _ wd_81) (fun _ h9 => h9) rfl dX2_repeatedBy_33 ?_
            refine lv_iload_n hx hb dX2_repeatedBy_36 rfl (lv_at hl 3 rfl) ?_
            obtain ⟨h7, hw⟩ := ixc_use hw
            refine va_iald hx hb hK hP 8 0 rfl rfl h7 dX2_repeatedBy_37 ?_
            refine lv_aload_n hx hb dX2_repeatedBy_38 rfl (lv_at hl 0 rfl) ?_
            refine va_get (D := (dC, dI)) (ci := 2) (v := .ref (a 7)) (C := RX2) (T := TX2) (N := 17) hx hb hts iX2 hown hK hP 3 rfl rfl 3 (by decide) (hts _ wd_79) (fun _ h9 => h9) rfl dX2_repeatedBy_39 ?_
            refine lv_iload_n hx hb dX2_repeatedBy_42 rfl (lv_at hl 3 rfl) ?_
            obtain ⟨h8, hw⟩ := ixc_use hw
            refine va_iald hx hb hK hP 7 0 rfl rfl h8 dX2_repeatedBy_43 ?_
            obtain ⟨r9, er9, hw⟩ := Option.bind_eq_some_iff.mp hw
            refine vp_callSi (va_runV (As := [.int (X 8 (Int32.toNatClampNeg v3)), .int (X 7 (Int32.toNatClampNeg v3))]) (rest := [.int v2]) ⟨hx, hb, hml, hown, hts⟩ (c_X2_hearing l dC dI a cA X (X 8 (Int32.toNatClampNeg v3)) (X 7 (Int32.toNatClampNeg v3)) r9 er9) ⟨callB_of 2 hts gd_X2_hearing rfl rfl rfl (hts _ wd_37) (hts _ wd_323) hd_X2_hearing ⟨Nat.le_of_ble_eq_true rfl, Nat.le_of_ble_eq_true rfl⟩, hts _ wd_325, hts _ wd_3⟩ ⟨blX, va_recv hK hP (ci := 2) (q0 := 3) rfl rfl, fun U hU hW => ⟨rfl, by rw [hU]; exact hP, va_K.moved hW.alike hK, nst.warm hW hN⟩⟩ rfl rfl hl.1 rfl (lv_room (Nat.le_of_ble_eq_true rfl)) dX2_repeatedBy_44 ⟨Nat.zero_le _, Nat.zero_le _⟩).run (fun r_ e_ => ?_)
            subst r_
            refine lv_ior hx hb dX2_repeatedBy_47 ?_
            refine lv_topi (fun x10 ex10 => ?_)
            have hw := stp_use hw ex10
            refine lv_istore_n (lv' := [(2, .int x10), (0, .ref (a 3)), (1, .int v1), (3, .int v3)]) hx hb dX2_repeatedBy_48 rfl hl (by decide) rfl (fun ls hl => ?_)
            obtain ⟨x11, ex11⟩ : ∃ y : Int32, y = (v3 + 1) := ⟨_, rfl⟩
            have hw := stp_use hw ex11
            refine lv_iinc (v := x11) (lv' := [(3, .int x11), (2, .int x10), (0, .ref (a 3)), (1, .int v1)]) hx hb dX2_repeatedBy_49 hl (k := 3) rfl (by rw [ex11]; rfl) (by decide) rfl (fun ls hl => ?_)
            refine lv_goto (tgt := 4) hx hb dX2_repeatedBy_52 (by decide) ?_
            exact ih x10 x11 hw ls (lv_sub hl [2, 3, 1, 0] rfl)
  have hl := lv_entry ([.ref (a 3), .int p1]) (n := 4) (Nat.le_of_ble_eq_true rfl)
  rw [lg_entry_eq]
  generalize (lg_sl ([.ref (a 3), .int p1]) ++ List.replicate (4 - (lg_sl ([.ref (a 3), .int p1])).length) Slot.unset).toArray = ls at hl ⊢
  have hl : lv_has ls 4 [(0, .ref (a 3)), (1, .int p1)] := hl
  refine lv_iconst (v := 0) hx hb dX2_repeatedBy_0 (by decide) ?_
  refine lv_istore_n (lv' := [(2, .int 0), (0, .ref (a 3)), (1, .int p1)]) hx hb dX2_repeatedBy_1 rfl hl (by decide) rfl (fun ls hl => ?_)
  refine lv_iconst (v := 0) hx hb dX2_repeatedBy_2 (by decide) ?_
  refine lv_istore_n (lv' := [(3, .int 0), (2, .int 0), (0, .ref (a 3)), (1, .int p1)]) hx hb dX2_repeatedBy_3 rfl hl (by decide) rfl (fun ls hl => ?_)
  exact L4 p1 NF 0 0 hw ls (lv_sub hl [2, 3, 1, 0] rfl)
set_option maxHeartbeats 4000000 in
set_option maxRecDepth 100000 in
theorem c_X2_spread (l : Launch) (dC : Nat → ClassId) (dI : Nat → Nat → Nat) (a : Nat → Nat) (cA : ClassId) (X : WS) (p1 : Int32) (p2 : Int32) (p3 : Int32) (p4 : Int32) (out : Int32) (hw : f_X2_spread X p1 p2 p3 p4 = some out) : Met l yX2_spread (.code yX2_spread cX2_spread 9 (some .int) :: lw_g) ({ frames := 2, cells := 0, slots := 0, locals := 49 }) (PcX dC dI a cA X [.ref (a 3), .int p1, .int p2, .int p3, .int p4]) (vp_Si (fun r_ => r_ = out)) 0 0 (fun _ => False) := by
  unfold f_X2_spread at hw
  refine Met.ofW (cc := cX2_spread) (maxL := 9) (ret := (some .int)) (by decide) rfl ?_
  intro p e s m args below meth c s₁ B hml hv
  obtain ⟨rfl, hP, hK, hN⟩ := hv
  have hx := B.exec
  have hb := B.bytes
  have hr := B.returns
  have hts0 := atoms_spec (ws := (.code yX2_spread cX2_spread 9 (some .int) :: lw_g)) B.pre
  have hts : ∀ w ∈ lw_g, w.before (([.ref (a 3), .int p1, .int p2, .int p3, .int p4] : List Value).toArray) s = true := fun w h => hts0 w (List.mem_cons_of_mem _ h)
  clear hts0
  have hown : s.vm.findClass RX2 = some m.cls := findClass_of_methodNamed B.named
  have hlocks := B.notSynchronized
  have hret : ∀ (pc : Nat) (ls : Array Slot) (v : Int32), v = out → decode cX2_spread pc = .ok (.ireturn, 1) → W p l e ({ frames := 2, cells := 0, slots := 0, locals := 49 }) s m (([.ref (a 3), .int p1, .int p2, .int p3, .int p4] : List Value).toArray) below meth c s.heap [] 0 0 (MQ below (vp_Si (fun r_ => r_ = out)) (([.ref (a 3), .int p1, .int p2, .int p3, .int p4] : List Value).toArray) s 0 0 (fun _ => False)) (F0 m pc ls [.int v]) := fun pc ls v hv hd => W.iret hx hb hr (fun t ht hW => ⟨v, rfl, hv, ht⟩) (fun q hq => absurd hq List.not_mem_nil) hd
  show W p l e ({ frames := 2, cells := 0, slots := 0, locals := 49 }) s m (([.ref (a 3), .int p1, .int p2, .int p3, .int p4] : List Value).toArray) below meth c s.heap [] 0 0 (MQ below (vp_Si (fun r_ => r_ = out)) (([.ref (a 3), .int p1, .int p2, .int p3, .int p4] : List Value).toArray) s 0 0 (fun _ => False)) (entryFrame m (([.ref (a 3), .int p1, .int p2, .int p3, .int p4] : List Value).toArray) 9)
  generalize MQ below (vp_Si (fun r_ => r_ = out)) (([.ref (a 3), .int p1, .int p2, .int p3, .int p4] : List Value).toArray) s 0 0 (fun _ => False) = Q at hret ⊢
  have L26 : ∀ (v4 : Int32), ∀ n : Nat, ∀ (v5 : Int32), ∀ (v6 : Int32), ∀ (v7 : Int32), g_X2_spread_26 X v4 n v5 v6 v7 = some out → ∀ ls : Array Slot, lv_has ls 9 [(0, .ref (a 3)), (4, .int v4), (5, .int v5), (6, .int v6), (7, .int v7)] → W p l e ({ frames := 2, cells := 0, slots := 0, locals := 49 }) s m (([.ref (a 3), .int p1, .int p2, .int p3, .int p4] : List Value).toArray) below meth c s.heap [] 0 0 Q (F0 m 26 ls []) := by
    intro v4 n
    induction n with
    | zero =>
      intro v5 v6 v7 hw
      rw [g_X2_spread_26] at hw
      cases hw
    | succ n ih =>
      intro v5 v6 v7 hw ls hl
      rw [g_X2_spread_26] at hw
      refine lv_iload hx hb dX2_spread_26 (lv_at hl 4 rfl) ?_
      refine lv_aload_n hx hb dX2_spread_28 rfl (lv_at hl 0 rfl) ?_
      refine va_get (D := (dC, dI)) (ci := 2) (v := .int (X 3 5)) (C := RX2) (T := TX2) (N := 17) hx hb hts iX2 hown hK hP 3 rfl rfl 5 (by decide) (hts _ wd_83) (fun _ h9 => h9) rfl dX2_spread_29 ?_
      refine lv_icmp_ge (tgt := 75) hx hb dX2_spread_32 (by decide) (fun c4 => ?_) (fun c4 => ?_)
      · have hw := ite_t hw c4
        refine lv_iload hx hb dX2_spread_75 (lv_at hl 2 rfl) ?_
        exact hret _ _ _ (Option.some.inj hw) dX2_spread_77
      · have hw := ite_f hw c4
        refine lv_iload hx hb dX2_spread_35 (lv_at hl 3 rfl) ?_
        refine lv_if_eq (tgt := 75) hx hb dX2_spread_37 (by decide) (fun c5 => ?_) (fun c5 => ?_)
        · have hw := ite_t hw c5
          refine lv_iload hx hb dX2_spread_75 (lv_at hl 2 rfl) ?_
          exact hret _ _ _ (Option.some.inj hw) dX2_spread_77
        · have hw := ite_f hw c5
          refine lv_aload_n hx hb dX2_spread_40 rfl (lv_at hl 0 rfl) ?_
          refine lv_iload hx hb dX2_spread_41 (lv_at hl 3 rfl) ?_
          obtain ⟨r6, er6, hw⟩ := Option.bind_eq_some_iff.mp hw
          refine vp_callSi (va_runV (As := [.int v6]) (rest := []) ⟨hx, hb, hml, hown, hts⟩ (c_X2_repeatedBy l dC dI a cA X v6 r6 er6) ⟨callB_of 1 hts gd_X2_repeatedBy rfl rfl rfl (hts _ wd_37) (hts _ wd_327) hd_X2_repeatedBy ⟨Nat.le_of_ble_eq_true rfl, Nat.le_of_ble_eq_true rfl⟩, hts _ wd_329, hts _ wd_4⟩ ⟨blX, va_recv hK hP (ci := 2) (q0 := 3) rfl rfl, fun U hU hW => ⟨rfl, by rw [hU]; exact hP, va_K.moved hW.alike hK, nst.warm hW hN⟩⟩ rfl rfl hl.1 rfl (lv_room (Nat.le_of_ble_eq_true rfl)) dX2_spread_43 ⟨Nat.zero_le _, Nat.zero_le _⟩).run (fun r_ e_ => ?_)
          subst r_
          refine lv_iload hx hb dX2_spread_46 (lv_at hl 1 rfl) ?_
          refine lv_iconst (v := (-1)) hx hb dX2_spread_48 (by decide) ?_
          refine lv_ixor hx hb dX2_spread_49 ?_
          refine lv_iand hx hb dX2_spread_50 ?_
          refine lv_topi (fun x7 ex7 => ?_)
          have hw := stp_use hw ex7
          refine lv_istore (lv' := [(8, .int x7), (0, .ref (a 3)), (4, .int v4), (5, .int v5), (6, .int v6), (7, .int v7)]) hx hb dX2_spread_51 hl (by decide) rfl (fun ls hl => ?_)
          refine lv_iload hx hb dX2_spread_53 (lv_at hl 0 rfl) ?_
          refine lv_iload hx hb dX2_spread_55 (lv_at hl 3 rfl) ?_
          refine lv_iconst (v := (-1)) hx hb dX2_spread_57 (by decide) ?_
          refine lv_ixor hx hb dX2_spread_58 ?_
          refine lv_iand hx hb dX2_spread_59 ?_
          refine lv_topi (fun x8 ex8 => ?_)
          have hw := stp_use hw ex8
          refine lv_istore (lv' := [(6, .int x8), (8, .int x7), (0, .ref (a 3)), (4, .int v4), (5, .int v5), (7, .int v7)]) hx hb dX2_spread_60 hl (by decide) rfl (fun ls hl => ?_)
          refine lv_iload hx hb dX2_spread_62 (lv_at hl 4 rfl) ?_
          refine lv_iload hx hb dX2_spread_64 (lv_at hl 1 rfl) ?_
          refine lv_ior hx hb dX2_spread_66 ?_
          refine lv_topi (fun x9 ex9 => ?_)
          have hw := stp_use hw ex9
          refine lv_istore (lv' := [(5, .int x9), (6, .int x8), (8, .int x7), (0, .ref (a 3)), (4, .int v4), (7, .int v7)]) hx hb dX2_spread_67 hl (by decide) rfl (fun ls hl => ?_)
          obtain ⟨x10, ex10⟩ : ∃ y : Int32, y = (v7 + 1) := ⟨_, rfl⟩
          have hw := stp_use hw ex10
          refine lv_iinc (v := x10) (lv' := [(7, .int x10), (5, .int x9), (6, .int x8), (8, .int x7), (0, .ref (a 3)), (4, .int v4)]) hx hb dX2_spread_69 hl (k := 5) rfl (by rw [ex10]; rfl) (by decide) rfl (fun ls hl => ?_)
          refine lv_goto (tgt := 26) hx hb dX2_spread_72 (by decide) ?_
          exact ih x9 x8 x10 hw ls (lv_sub hl [4, 5, 1, 2, 0] rfl)
  have hl := lv_entry ([.ref (a 3), .int p1, .int p2, .int p3, .int p4]) (n := 9) (Nat.le_of_ble_eq_true rfl)
  rw [lg_entry_eq]
  generalize (lg_sl ([.ref (a 3), .int p1, .int p2, .int p3, .int p4]) ++ List.replicate (9 - (lg_sl ([.ref (a 3), .int p1, .int p2, .int p3, .int p4])).length) Slot.unset).toArray = ls at hl ⊢
  have hl : lv_has ls 9 [(0, .ref (a 3)), (1, .int p1), (2, .int p2), (3, .int p3), (4, .int p4)] := hl
  refine lv_iload_n hx hb dX2_spread_0 rfl (lv_at hl 1 rfl) ?_
  refine lv_aload_n hx hb dX2_spread_1 rfl (lv_at hl 0 rfl) ?_
  refine lv_iload_n hx hb dX2_spread_2 rfl (lv_at hl 2 rfl) ?_
  refine lv_iload_n hx hb dX2_spread_3 rfl (lv_at hl 3 rfl) ?_
  obtain ⟨r1, er1, hw⟩ := Option.bind_eq_some_iff.mp hw
  refine vp_callSi (va_runV (As := [.int p2, .int p3]) (rest := [.int p1]) ⟨hx, hb, hml, hown, hts⟩ (c_X2_hearing l dC dI a cA X p2 p3 r1 er1) ⟨callB_of 2 hts gd_X2_hearing rfl rfl rfl (hts _ wd_37) (hts _ wd_323) hd_X2_hearing ⟨Nat.le_of_ble_eq_true rfl, Nat.le_of_ble_eq_true rfl⟩, hts _ wd_325, hts _ wd_3⟩ ⟨blX, va_recv hK hP (ci := 2) (q0 := 3) rfl rfl, fun U hU hW => ⟨rfl, by rw [hU]; exact hP, va_K.moved hW.alike hK, nst.warm hW hN⟩⟩ rfl rfl hl.1 rfl (lv_room (Nat.le_of_ble_eq_true rfl)) dX2_spread_4 ⟨Nat.zero_le _, Nat.zero_le _⟩).run (fun r_ e_ => ?_)
  subst r_
  refine lv_iload hx hb dX2_spread_7 (lv_at hl 4 rfl) ?_
  refine lv_iconst (v := (-1)) hx hb dX2_spread_9 (by decide) ?_
  refine lv_ixor hx hb dX2_spread_10 ?_
  refine lv_iand hx hb dX2_spread_11 ?_
  refine lv_ior hx hb dX2_spread_12 ?_
  refine lv_topi (fun x2 ex2 => ?_)
  have hw := stp_use hw ex2
  refine lv_istore (lv' := [(5, .int x2), (0, .ref (a 3)), (1, .int p1), (2, .int p2), (3, .int p3), (4, .int p4)]) hx hb dX2_spread_13 hl (by decide) rfl (fun ls hl => ?_)
  refine lv_iload hx hb dX2_spread_15 (lv_at hl 0 rfl) ?_
  refine lv_iload_n hx hb dX2_spread_17 rfl (lv_at hl 2 rfl) ?_
  refine lv_iconst (v := (-1)) hx hb dX2_spread_18 (by decide) ?_
  refine lv_ixor hx hb dX2_spread_19 ?_
  refine lv_iand hx hb dX2_spread_20 ?_
  refine lv_topi (fun x3 ex3 => ?_)
  have hw := stp_use hw ex3
  refine lv_istore (lv' := [(6, .int x3), (5, .int x2), (0, .ref (a 3)), (1, .int p1), (2, .int p2), (3, .int p3), (4, .int p4)]) hx hb dX2_spread_21 hl (by decide) rfl (fun ls hl => ?_)
  refine lv_iconst (v := 0) hx hb dX2_spread_23 (by decide) ?_
  refine lv_istore (lv' := [(7, .int 0), (6, .int x3), (5, .int x2), (0, .ref (a 3)), (1, .int p1), (2, .int p2), (3, .int p3), (4, .int p4)]) hx hb dX2_spread_24 hl (by decide) rfl (fun ls hl => ?_)
  exact L26 p4 NF x2 x3 0 hw ls (lv_sub hl [3, 7, 2, 1, 0] rfl)
set_option maxHeartbeats 4000000 in
set_option maxRecDepth 100000 in
theorem c_J6_bitCount_0f7a4 (l : Launch) (p0 : Int32) (out : Int32) (hw : f_J6_bitCount_0f7a4 p0 = some out) : Met l yJ6_bitCount_0f7a4 (.code yJ6_bitCount_0f7a4 cJ6_bitCount_0f7a4 1 (some .int) :: lw_g) ({ frames := 0, cells := 0, slots := 0, locals := 0 }) (Pc0 [.int p0]) (vp_Si (fun r_ => r_ = out)) 0 0 (fun _ => False) := by
  unfold f_J6_bitCount_0f7a4 at hw
  refine Met.ofW (cc := cJ6_bitCount_0f7a4) (maxL := 1) (ret := (some .int)) (by decide) rfl ?_
  intro p e s m args below meth c s₁ B hml hv
  obtain ⟨rfl, -⟩ := hv
  have hx := B.exec
  have hb := B.bytes
  have hr := B.returns
  have hts0 := atoms_spec (ws := (.code yJ6_bitCount_0f7a4 cJ6_bitCount_0f7a4 1 (some .int) :: lw_g)) B.pre
  have hts : ∀ w ∈ lw_g, w.before (([.int p0] : List Value).toArray) s = true := fun w h => hts0 w (List.mem_cons_of_mem _ h)
  clear hts0
  have hown : s.vm.findClass RJ6 = some m.cls := findClass_of_methodNamed B.named
  have hlocks := B.notSynchronized
  have hret : ∀ (pc : Nat) (ls : Array Slot) (v : Int32), v = out → decode cJ6_bitCount_0f7a4 pc = .ok (.ireturn, 1) → W p l e ({ frames := 0, cells := 0, slots := 0, locals := 0 }) s m (([.int p0] : List Value).toArray) below meth c s.heap [] 0 0 (MQ below (vp_Si (fun r_ => r_ = out)) (([.int p0] : List Value).toArray) s 0 0 (fun _ => False)) (F0 m pc ls [.int v]) := fun pc ls v hv hd => W.iret hx hb hr (fun t ht hW => ⟨v, rfl, hv, ht⟩) (fun q hq => absurd hq List.not_mem_nil) hd
  show W p l e ({ frames := 0, cells := 0, slots := 0, locals := 0 }) s m (([.int p0] : List Value).toArray) below meth c s.heap [] 0 0 (MQ below (vp_Si (fun r_ => r_ = out)) (([.int p0] : List Value).toArray) s 0 0 (fun _ => False)) (entryFrame m (([.int p0] : List Value).toArray) 1)
  generalize MQ below (vp_Si (fun r_ => r_ = out)) (([.int p0] : List Value).toArray) s 0 0 (fun _ => False) = Q at hret ⊢
  have hl := lv_entry ([.int p0]) (n := 1) (Nat.le_of_ble_eq_true rfl)
  rw [lg_entry_eq]
  generalize (lg_sl ([.int p0]) ++ List.replicate (1 - (lg_sl ([.int p0])).length) Slot.unset).toArray = ls at hl ⊢
  have hl : lv_has ls 1 [(0, .int p0)] := hl
  refine lv_iload_n hx hb dJ6_bitCount_0f7a4_0 rfl (lv_at hl 0 rfl) ?_
  refine lv_iload_n hx hb dJ6_bitCount_0f7a4_1 rfl (lv_at hl 0 rfl) ?_
  refine lv_iconst (v := 1) hx hb dJ6_bitCount_0f7a4_2 (by decide) ?_
  refine lv_iushr (v := (UInt32.toInt32 (Int32.toUInt32 p0 >>> (Int32.toUInt32 1 &&& Int32.toUInt32 31)))) hx hb dJ6_bitCount_0f7a4_3 rfl ?_
  refine lv_ldcw hx hb hown (hts _ wd_335) dJ6_bitCount_0f7a4_4 ?_
  refine lv_iand hx hb dJ6_bitCount_0f7a4_7 ?_
  refine lv_isub hx hb dJ6_bitCount_0f7a4_8 ?_
  refine lv_topi (fun x1 ex1 => ?_)
  have hw := stp_use hw ex1
  refine lv_istore_n (lv' := [(0, .int x1)]) hx hb dJ6_bitCount_0f7a4_9 rfl hl (by decide) rfl (fun ls hl => ?_)
  refine lv_iload_n hx hb dJ6_bitCount_0f7a4_10 rfl (lv_at hl 0 rfl) ?_
  refine lv_ldcw hx hb hown (hts _ wd_336) dJ6_bitCount_0f7a4_11 ?_
  refine lv_iand hx hb dJ6_bitCount_0f7a4_14 ?_
  refine lv_iload_n hx hb dJ6_bitCount_0f7a4_15 rfl (lv_at hl 0 rfl) ?_
  refine lv_iconst (v := 2) hx hb dJ6_bitCount_0f7a4_16 (by decide) ?_
  refine lv_iushr (v := (UInt32.toInt32 (Int32.toUInt32 x1 >>> (Int32.toUInt32 2 &&& Int32.toUInt32 31)))) hx hb dJ6_bitCount_0f7a4_17 rfl ?_
  refine lv_ldcw hx hb hown (hts _ wd_336) dJ6_bitCount_0f7a4_18 ?_
  refine lv_iand hx hb dJ6_bitCount_0f7a4_21 ?_
  refine lv_iadd hx hb dJ6_bitCount_0f7a4_22 ?_
  refine lv_topi (fun x2 ex2 => ?_)
  have hw := stp_use hw ex2
  refine lv_istore_n (lv' := [(0, .int x2)]) hx hb dJ6_bitCount_0f7a4_23 rfl hl (by decide) rfl (fun ls hl => ?_)
  refine lv_iload_n hx hb dJ6_bitCount_0f7a4_24 rfl (lv_at hl 0 rfl) ?_
  refine lv_iload_n hx hb dJ6_bitCount_0f7a4_25 rfl (lv_at hl 0 rfl) ?_
  refine lv_iconst (v := 4) hx hb dJ6_bitCount_0f7a4_26 (by decide) ?_
  refine lv_iushr (v := (UInt32.toInt32 (Int32.toUInt32 x2 >>> (Int32.toUInt32 4 &&& Int32.toUInt32 31)))) hx hb dJ6_bitCount_0f7a4_27 rfl ?_
  refine lv_iadd hx hb dJ6_bitCount_0f7a4_28 ?_
  refine lv_ldcw hx hb hown (hts _ wd_337) dJ6_bitCount_0f7a4_29 ?_
  refine lv_iand hx hb dJ6_bitCount_0f7a4_32 ?_
  refine lv_topi (fun x3 ex3 => ?_)
  have hw := stp_use hw ex3
  refine lv_istore_n (lv' := [(0, .int x3)]) hx hb dJ6_bitCount_0f7a4_33 rfl hl (by decide) rfl (fun ls hl => ?_)
  refine lv_iload_n hx hb dJ6_bitCount_0f7a4_34 rfl (lv_at hl 0 rfl) ?_
  refine lv_iload_n hx hb dJ6_bitCount_0f7a4_35 rfl (lv_at hl 0 rfl) ?_
  refine lv_bipush (v := 8) hx hb dJ6_bitCount_0f7a4_36 (by decide) ?_
  refine lv_iushr (v := (UInt32.toInt32 (Int32.toUInt32 x3 >>> (Int32.toUInt32 8 &&& Int32.toUInt32 31)))) hx hb dJ6_bitCount_0f7a4_38 rfl ?_
  refine lv_iadd hx hb dJ6_bitCount_0f7a4_39 ?_
  refine lv_topi (fun x4 ex4 => ?_)
  have hw := stp_use hw ex4
  refine lv_istore_n (lv' := [(0, .int x4)]) hx hb dJ6_bitCount_0f7a4_40 rfl hl (by decide) rfl (fun ls hl => ?_)
  refine lv_iload_n hx hb dJ6_bitCount_0f7a4_41 rfl (lv_at hl 0 rfl) ?_
  refine lv_iload_n hx hb dJ6_bitCount_0f7a4_42 rfl (lv_at hl 0 rfl) ?_
  refine lv_bipush (v := 16) hx hb dJ6_bitCount_0f7a4_43 (by decide) ?_
  refine lv_iushr (v := (UInt32.toInt32 (Int32.toUInt32 x4 >>> (Int32.toUInt32 16 &&& Int32.toUInt32 31)))) hx hb dJ6_bitCount_0f7a4_45 rfl ?_
  refine lv_iadd hx hb dJ6_bitCount_0f7a4_46 ?_
  refine lv_topi (fun x5 ex5 => ?_)
  have hw := stp_use hw ex5
  refine lv_istore_n (lv' := [(0, .int x5)]) hx hb dJ6_bitCount_0f7a4_47 rfl hl (by decide) rfl (fun ls hl => ?_)
  refine lv_iload_n hx hb dJ6_bitCount_0f7a4_48 rfl (lv_at hl 0 rfl) ?_
  refine lv_bipush (v := 63) hx hb dJ6_bitCount_0f7a4_49 (by decide) ?_
  refine lv_iand hx hb dJ6_bitCount_0f7a4_51 ?_
  exact hret _ _ _ (Option.some.inj hw) dJ6_bitCount_0f7a4_52
set_option maxHeartbeats 4000000 in
set_option maxRecDepth 100000 in
theorem c_X2_proclaim (l : Launch) (dC : Nat → ClassId) (dI : Nat → Nat → Nat) (A : Nat → Prop) (a : Nat → Nat) (cA : ClassId) (X : WS) (p1 : Int32) (p2 : Int32) (out : (Int32 × WS)) (hw : f_X2_proclaim X p1 p2 = some out) : Met l yX2_proclaim (.code yX2_proclaim cX2_proclaim 5 (some .int) :: lw_g) ({ frames := 3, cells := 0, slots := 0, locals := 77 }) (PcXD dC dI A a cA X [.ref (a 3), .int p1, .int p2]) (va_Qi (fun (r_ : Int32) (X_ : WS) => out = (r_, X_)) (fun X_ t => va_P (dC, dI) classes (wl a cA X_) t.heap ∧ va_K (dC, dI) classes [(cA, .int)] t) A) 0 0 (A) := by
  unfold f_X2_proclaim at hw
  refine Met.ofW (cc := cX2_proclaim) (maxL := 5) (ret := (some .int)) (by decide) rfl ?_
  intro p e s m args below meth c s₁ B hml hv
  obtain ⟨rfl, hP, hK, hN, hD0⟩ := hv
  have hx := B.exec
  have hb := B.bytes
  have hr := B.returns
  have hts0 := atoms_spec (ws := (.code yX2_proclaim cX2_proclaim 5 (some .int) :: lw_g)) B.pre
  have hts : ∀ w ∈ lw_g, w.before (([.ref (a 3), .int p1, .int p2] : List Value).toArray) s = true := fun w h => hts0 w (List.mem_cons_of_mem _ h)
  clear hts0
  have hown : s.vm.findClass RX2 = some m.cls := findClass_of_methodNamed B.named
  have hlocks := B.notSynchronized
  have hret : ∀ (pc : Nat) (ls : Array Slot) (v : Int32) (X_ : WS) (H : Heap) (locs : List Loc), (v, X_) = out → va_P (dC, dI) classes (wl a cA X_) H → va_S A s.heap H locs → decode cX2_proclaim pc = .ok (.ireturn, 1) → W p l e ({ frames := 3, cells := 0, slots := 0, locals := 77 }) s m (([.ref (a 3), .int p1, .int p2] : List Value).toArray) below meth c H locs 0 0 (MQ below (va_Qi (fun (r_ : Int32) (X_ : WS) => out = (r_, X_)) (fun X_ t => va_P (dC, dI) classes (wl a cA X_) t.heap ∧ va_K (dC, dI) classes [(cA, .int)] t) A) (([.ref (a 3), .int p1, .int p2] : List Value).toArray) s 0 0 (A)) (F0 m pc ls [.int v]) := fun pc ls v X_ H locs hv hP hS hd => W.iret hx hb hr (fun t ht hW => ⟨⟨v, X_, rfl, hv.symm, by rw [ht]; exact hP, va_K.moved hW.alike hK⟩, hS.F ht⟩) hS.2.2 hd
  show W p l e ({ frames := 3, cells := 0, slots := 0, locals := 77 }) s m (([.ref (a 3), .int p1, .int p2] : List Value).toArray) below meth c s.heap [] 0 0 (MQ below (va_Qi (fun (r_ : Int32) (X_ : WS) => out = (r_, X_)) (fun X_ t => va_P (dC, dI) classes (wl a cA X_) t.heap ∧ va_K (dC, dI) classes [(cA, .int)] t) A) (([.ref (a 3), .int p1, .int p2] : List Value).toArray) s 0 0 (A)) (entryFrame m (([.ref (a 3), .int p1, .int p2] : List Value).toArray) 5)
  generalize MQ below (va_Qi (fun (r_ : Int32) (X_ : WS) => out = (r_, X_)) (fun X_ t => va_P (dC, dI) classes (wl a cA X_) t.heap ∧ va_K (dC, dI) classes [(cA, .int)] t) A) (([.ref (a 3), .int p1, .int p2] : List Value).toArray) s 0 0 (A) = Q at hret ⊢
  have hS : va_S A s.heap s.heap [] := va_S.rf
  have hl := lv_entry ([.ref (a 3), .int p1, .int p2]) (n := 5) (Nat.le_of_ble_eq_true rfl)
  rw [lg_entry_eq]
  generalize (lg_sl ([.ref (a 3), .int p1, .int p2]) ++ List.replicate (5 - (lg_sl ([.ref (a 3), .int p1, .int p2])).length) Slot.unset).toArray = ls at hl ⊢
  have hl : lv_has ls 5 [(0, .ref (a 3)), (1, .int p1), (2, .int p2)] := hl
  refine lv_aload_n hx hb dX2_proclaim_0 rfl (lv_at hl 0 rfl) ?_
  refine lv_aload_n hx hb dX2_proclaim_1 rfl (lv_at hl 0 rfl) ?_
  refine va_get (D := (dC, dI)) (ci := 2) (v := .int (X 3 7)) (C := RX2) (T := TX2) (N := 17) hx hb hts iX2 hown hK hP 3 rfl rfl 7 (by decide) (hts _ wd_87) (fun _ h9 => h9) rfl dX2_proclaim_2 ?_
  refine lv_iload_n hx hb dX2_proclaim_5 rfl (lv_at hl 1 rfl) ?_
  refine lv_iload_n hx hb dX2_proclaim_6 rfl (lv_at hl 2 rfl) ?_
  refine lv_iconst (v := 0) hx hb dX2_proclaim_7 (by decide) ?_
  obtain ⟨r1, er1, hw⟩ := Option.bind_eq_some_iff.mp hw
  refine vp_callSi (va_runV (As := [.int (X 3 7), .int p1, .int p2, .int 0]) (rest := []) ⟨hx, hb, hml, hown, hts⟩ (c_X2_spread l dC dI a cA X (X 3 7) p1 p2 0 r1 er1) ⟨callB_of 4 hts gd_X2_spread rfl rfl rfl (hts _ wd_37) (hts _ wd_319) hd_X2_spread ⟨Nat.le_of_ble_eq_true rfl, Nat.le_of_ble_eq_true rfl⟩, hts _ wd_320, hts _ wd_321⟩ ⟨blX, va_recv hK hP (ci := 2) (q0 := 3) rfl rfl, fun U hU hW => ⟨rfl, by rw [hU]; exact hP, va_K.moved hW.alike hK, nst.warm hW hN⟩⟩ rfl rfl hl.1 rfl (lv_room (Nat.le_of_ble_eq_true rfl)) dX2_proclaim_8 ⟨Nat.zero_le _, Nat.zero_le _⟩).run (fun r_ e_ => ?_)
  subst r_
  refine lv_istore_n (lv' := [(3, .int r1), (0, .ref (a 3)), (1, .int p1), (2, .int p2)]) hx hb dX2_proclaim_11 rfl hl (by decide) rfl (fun ls hl => ?_)
  refine lv_aload_n hx hb dX2_proclaim_12 rfl (lv_at hl 1 rfl) ?_
  refine lv_iload_n hx hb dX2_proclaim_13 rfl (lv_at hl 0 rfl) ?_
  refine lv_aload_n hx hb dX2_proclaim_14 rfl (lv_at hl 1 rfl) ?_
  refine va_get (D := (dC, dI)) (ci := 2) (v := .int (X 3 7)) (C := RX2) (T := TX2) (N := 17) hx hb hts iX2 hown hK hP 3 rfl rfl 7 (by decide) (hts _ wd_87) (fun _ h9 => h9) rfl dX2_proclaim_15 ?_
  refine lv_iconst (v := (-1)) hx hb dX2_proclaim_18 (by decide) ?_
  refine lv_ixor hx hb dX2_proclaim_19 ?_
  refine lv_iand hx hb dX2_proclaim_20 ?_
  obtain ⟨r2, er2, hw⟩ := Option.bind_eq_some_iff.mp hw
  refine vp_callSi (va_runV (As := [.int (r1 &&& ((X 3 7) ^^^ (-1)))]) (rest := []) ⟨hx, hb, hml, hown, hts⟩ (c_X2_knowing l dC dI a cA X (r1 &&& ((X 3 7) ^^^ (-1))) r2 er2) ⟨callB_of 1 hts gd_X2_knowing rfl rfl rfl (hts _ wd_37) (hts _ wd_331) hd_X2_knowing ⟨Nat.le_of_ble_eq_true rfl, Nat.le_of_ble_eq_true rfl⟩, hts _ wd_291, hts _ wd_292⟩ ⟨blX, va_recv hK hP (ci := 2) (q0 := 3) rfl rfl, fun U hU hW => ⟨rfl, by rw [hU]; exact hP, va_K.moved hW.alike hK, nst.warm hW hN⟩⟩ rfl rfl hl.1 rfl (lv_room (Nat.le_of_ble_eq_true rfl)) dX2_proclaim_21 ⟨Nat.zero_le _, Nat.zero_le _⟩).run (fun r_ e_ => ?_)
  subst r_
  refine lv_istore (lv' := [(4, .int r2), (3, .int r1), (0, .ref (a 3)), (1, .int p1), (2, .int p2)]) hx hb dX2_proclaim_24 hl (by decide) rfl (fun ls hl => ?_)
  refine lv_aload_n hx hb dX2_proclaim_26 rfl (lv_at hl 2 rfl) ?_
  refine lv_iload_n hx hb dX2_proclaim_27 rfl (lv_at hl 1 rfl) ?_
  refine va_put (D := (dC, dI)) (ci := 2) (v := .int r1) (ty := .int) (C := RX2) (T := TX2) (N := 17) hx hb hts iX2 tyX2 tyX2_ok nmX2 hown hK hP (wlD hD0) hS 3 rfl rfl 7 (by decide) (hts _ wd_87) (fun _ h9 => h9) rfl (by decide +kernel) rfl rfl (Nat.le_of_ble_eq_true rfl) dX2_proclaim_28 (fun H locs hP hD_ hS => ?_)
  obtain ⟨X3, eX3⟩ : ∃ y : WS, y = (ups X 3 7 r1) := ⟨_, rfl⟩
  have hw := stp_use hw eX3
  have hP : va_P (dC, dI) classes (wl a cA X3) H := by rw [eX3]; exact hP
  refine lv_aload_n hx hb dX2_proclaim_31 rfl (lv_at hl 2 rfl) ?_
  refine lv_dup hx hb dX2_proclaim_32 rfl ?_
  refine va_get (D := (dC, dI)) (ci := 2) (v := .int (X3 3 9)) (C := RX2) (T := TX2) (N := 17) hx hb hts iX2 hown hK hP 3 rfl rfl 9 (by decide) (hts _ wd_91) (fun _ h9 => h9) rfl dX2_proclaim_33 ?_
  refine lv_iconst (v := 1) hx hb dX2_proclaim_36 (by decide) ?_
  refine lv_isub hx hb dX2_proclaim_37 ?_
  refine lv_topi (fun x4 ex4 => ?_)
  have hw := stp_use hw ex4
  refine va_put (D := (dC, dI)) (ci := 2) (v := .int x4) (ty := .int) (C := RX2) (T := TX2) (N := 17) hx hb hts iX2 tyX2 tyX2_ok nmX2 hown hK hP (wlD hD0) hS 3 rfl rfl 9 (by decide) (hts _ wd_91) (fun _ h9 => h9) rfl (by decide +kernel) rfl rfl (Nat.le_of_ble_eq_true rfl) dX2_proclaim_38 (fun H locs hP hD_ hS => ?_)
  obtain ⟨X5, eX5⟩ : ∃ y : WS, y = (ups X3 3 9 x4) := ⟨_, rfl⟩
  have hw := stp_use hw eX5
  have hP : va_P (dC, dI) classes (wl a cA X5) H := by rw [eX5]; exact hP
  refine lv_aload_n hx hb dX2_proclaim_41 rfl (lv_at hl 2 rfl) ?_
  refine lv_dup hx hb dX2_proclaim_42 rfl ?_
  refine va_get (D := (dC, dI)) (ci := 2) (v := .int (X5 3 11)) (C := RX2) (T := TX2) (N := 17) hx hb hts iX2 hown hK hP 3 rfl rfl 11 (by decide) (hts _ wd_95) (fun _ h9 => h9) rfl dX2_proclaim_43 ?_
  refine lv_iconst (v := 1) hx hb dX2_proclaim_46 (by decide) ?_
  refine lv_iadd hx hb dX2_proclaim_47 ?_
  refine lv_topi (fun x6 ex6 => ?_)
  have hw := stp_use hw ex6
  refine va_put (D := (dC, dI)) (ci := 2) (v := .int x6) (ty := .int) (C := RX2) (T := TX2) (N := 17) hx hb hts iX2 tyX2 tyX2_ok nmX2 hown hK hP (wlD hD0) hS 3 rfl rfl 11 (by decide) (hts _ wd_95) (fun _ h9 => h9) rfl (by decide +kernel) rfl rfl (Nat.le_of_ble_eq_true rfl) dX2_proclaim_48 (fun H locs hP hD_ hS => ?_)
  obtain ⟨X7, eX7⟩ : ∃ y : WS, y = (ups X5 3 11 x6) := ⟨_, rfl⟩
  have hw := stp_use hw eX7
  have hP : va_P (dC, dI) classes (wl a cA X7) H := by rw [eX7]; exact hP
  refine lv_iload hx hb dX2_proclaim_51 (lv_at hl 0 rfl) ?_
  obtain ⟨r8, er8, hw⟩ := Option.bind_eq_some_iff.mp hw
  refine vp_callSi (va_runS (As := [.int r2]) (rest := []) ⟨hx, hb, hml, hown, hts⟩ (c_J6_bitCount_0f7a4 l r2 r8 er8) ⟨callB_of 1 hts gd_J6_bitCount_0f7a4 rfl rfl rfl (hts _ wd_40) (hts _ wd_332) hd_J6_bitCount_0f7a4 ⟨Nat.le_of_ble_eq_true rfl, Nat.le_of_ble_eq_true rfl⟩, hts _ wd_333⟩ ⟨bl0, fun U hU hW => ⟨rfl, trivial⟩⟩ rfl rfl hl.1 rfl (lv_room (Nat.le_of_ble_eq_true rfl)) dX2_proclaim_53 ⟨Nat.zero_le _, Nat.zero_le _⟩).run (fun r_ e_ => ?_)
  subst r_
  exact hret _ _ _ _ _ _ (Option.some.inj hw) hP hS dX2_proclaim_56
set_option maxHeartbeats 4000000 in
set_option maxRecDepth 100000 in
theorem c_X3_cry (l : Launch) (dC : Nat → ClassId) (dI : Nat → Nat → Nat) (A : Nat → Prop) (a : Nat → Nat) (cA : ClassId) (X : WS) (p1 : Int32) (p2 : Int32) (out : (Int32 × WS)) (hw : f_X3_cry X p1 p2 = some out) : Met l yX3_cry (.code yX3_cry cX3_cry 3 (some .int) :: lw_g) ({ frames := 4, cells := 0, slots := 0, locals := 101 }) (PcXD dC dI A a cA X [.ref (a 0), .int p1, .int p2]) (va_Qi (fun (r_ : Int32) (X_ : WS) => out = (r_, X_)) (fun X_ t => va_P (dC, dI) classes (wl a cA X_) t.heap ∧ va_K (dC, dI) classes [(cA, .int)] t) A) 0 0 (A) := by
  unfold f_X3_cry at hw
  refine Met.ofW (cc := cX3_cry) (maxL := 3) (ret := (some .int)) (by decide) rfl ?_
  intro p e s m args below meth c s₁ B hml hv
  obtain ⟨rfl, hP, hK, hN, hD0⟩ := hv
  have hx := B.exec
  have hb := B.bytes
  have hr := B.returns
  have hts0 := atoms_spec (ws := (.code yX3_cry cX3_cry 3 (some .int) :: lw_g)) B.pre
  have hts : ∀ w ∈ lw_g, w.before (([.ref (a 0), .int p1, .int p2] : List Value).toArray) s = true := fun w h => hts0 w (List.mem_cons_of_mem _ h)
  clear hts0
  have hown : s.vm.findClass RX3 = some m.cls := findClass_of_methodNamed B.named
  have hlocks := B.notSynchronized
  have hret : ∀ (pc : Nat) (ls : Array Slot) (v : Int32) (X_ : WS) (H : Heap) (locs : List Loc), (v, X_) = out → va_P (dC, dI) classes (wl a cA X_) H → va_S A s.heap H locs → decode cX3_cry pc = .ok (.ireturn, 1) → W p l e ({ frames := 4, cells := 0, slots := 0, locals := 101 }) s m (([.ref (a 0), .int p1, .int p2] : List Value).toArray) below meth c H locs 0 0 (MQ below (va_Qi (fun (r_ : Int32) (X_ : WS) => out = (r_, X_)) (fun X_ t => va_P (dC, dI) classes (wl a cA X_) t.heap ∧ va_K (dC, dI) classes [(cA, .int)] t) A) (([.ref (a 0), .int p1, .int p2] : List Value).toArray) s 0 0 (A)) (F0 m pc ls [.int v]) := fun pc ls v X_ H locs hv hP hS hd => W.iret hx hb hr (fun t ht hW => ⟨⟨v, X_, rfl, hv.symm, by rw [ht]; exact hP, va_K.moved hW.alike hK⟩, hS.F ht⟩) hS.2.2 hd
  show W p l e ({ frames := 4, cells := 0, slots := 0, locals := 101 }) s m (([.ref (a 0), .int p1, .int p2] : List Value).toArray) below meth c s.heap [] 0 0 (MQ below (va_Qi (fun (r_ : Int32) (X_ : WS) => out = (r_, X_)) (fun X_ t => va_P (dC, dI) classes (wl a cA X_) t.heap ∧ va_K (dC, dI) classes [(cA, .int)] t) A) (([.ref (a 0), .int p1, .int p2] : List Value).toArray) s 0 0 (A)) (entryFrame m (([.ref (a 0), .int p1, .int p2] : List Value).toArray) 3)
  generalize MQ below (va_Qi (fun (r_ : Int32) (X_ : WS) => out = (r_, X_)) (fun X_ t => va_P (dC, dI) classes (wl a cA X_) t.heap ∧ va_K (dC, dI) classes [(cA, .int)] t) A) (([.ref (a 0), .int p1, .int p2] : List Value).toArray) s 0 0 (A) = Q at hret ⊢
  have hS : va_S A s.heap s.heap [] := va_S.rf
  have hl := lv_entry ([.ref (a 0), .int p1, .int p2]) (n := 3) (Nat.le_of_ble_eq_true rfl)
  rw [lg_entry_eq]
  generalize (lg_sl ([.ref (a 0), .int p1, .int p2]) ++ List.replicate (3 - (lg_sl ([.ref (a 0), .int p1, .int p2])).length) Slot.unset).toArray = ls at hl ⊢
  have hl : lv_has ls 3 [(0, .ref (a 0)), (1, .int p1), (2, .int p2)] := hl
  refine lv_aload_n hx hb dX3_cry_0 rfl (lv_at hl 0 rfl) ?_
  refine lv_iload_n hx hb dX3_cry_1 rfl (lv_at hl 1 rfl) ?_
  obtain ⟨r1, er1, hw⟩ := Option.bind_eq_some_iff.mp hw
  refine vp_callSi (va_runV (As := [.int p1]) (rest := []) ⟨hx, hb, hml, hown, hts⟩ (c_X3_isPlace l dC dI a cA X p1 r1 er1) ⟨callB_of 1 hts gd_X3_isPlace rfl rfl rfl (hts _ wd_35) (hts _ wd_253) hd_X3_isPlace ⟨Nat.le_of_ble_eq_true rfl, Nat.le_of_ble_eq_true rfl⟩, hts _ wd_255, hts _ wd_0⟩ ⟨blX, va_recv hK hP (ci := 3) (q0 := 0) rfl rfl, fun U hU hW => ⟨rfl, by rw [hU]; exact hP, va_K.moved hW.alike hK, nst.warm hW hN⟩⟩ rfl rfl hl.1 rfl (lv_room (Nat.le_of_ble_eq_true rfl)) dX3_cry_2 ⟨Nat.zero_le _, Nat.zero_le _⟩).run (fun r_ e_ => ?_)
  subst r_
  refine lv_if_ne (tgt := 11) hx hb dX3_cry_5 (by decide) (fun c2 => ?_) (fun c2 => ?_)
  · have hw := ite_f hw c2
    refine lv_iload_n hx hb dX3_cry_11 rfl (lv_at hl 2 rfl) ?_
    obtain ⟨r3, er3, hw⟩ := Option.bind_eq_some_iff.mp hw
    refine vp_callSi (va_runS (As := [.int p2]) (rest := []) ⟨hx, hb, hml, hown, hts⟩ (c_X3_isLoud l p2 r3 er3) ⟨callB_of 1 hts gd_X3_isLoud rfl rfl rfl (hts _ wd_35) (hts _ wd_312) hd_X3_isLoud ⟨Nat.le_of_ble_eq_true rfl, Nat.le_of_ble_eq_true rfl⟩, hts _ wd_313⟩ ⟨bl0, fun U hU hW => ⟨rfl, trivial⟩⟩ rfl rfl hl.1 rfl (lv_room (Nat.le_of_ble_eq_true rfl)) dX3_cry_12 ⟨Nat.zero_le _, Nat.zero_le _⟩).run (fun r_ e_ => ?_)
    subst r_
    refine lv_if_ne (tgt := 21) hx hb dX3_cry_15 (by decide) (fun c4 => ?_) (fun c4 => ?_)
    · have hw := ite_f hw c4
      refine lv_aload_n hx hb dX3_cry_21 rfl (lv_at hl 0 rfl) ?_
      refine va_get (D := (dC, dI)) (ci := 3) (v := .ref (a 3)) (C := RX3) (T := TX3) (N := 6) hx hb hts iX3 hown hK hP 0 rfl rfl 1 (by decide) (hts _ wd_179) (fun _ h9 => h9) rfl dX3_cry_22 ?_
      refine va_getN (D := (dC, dI)) (ci := 2) (v := .int (X 3 9)) (C := RX2) (T := TX2) (N := 17) hx hb hts iX2 hown hK hP 3 rfl rfl 9 (by decide) (va_Nw.use rfl (hN _ nk_92)) (fun _ h9 => h9) rfl dX3_cry_25 ?_
      refine lv_iload_n hx hb dX3_cry_28 rfl (lv_at hl 2 rfl) ?_
      refine lv_icmp_ge (tgt := 37) hx hb dX3_cry_29 (by decide) (fun c5 => ?_) (fun c5 => ?_)
      · have hw := ite_t hw c5
        refine lv_aload_n hx hb dX3_cry_37 rfl (lv_at hl 0 rfl) ?_
        refine va_get (D := (dC, dI)) (ci := 3) (v := .ref (a 3)) (C := RX3) (T := TX3) (N := 6) hx hb hts iX3 hown hK hP 0 rfl rfl 1 (by decide) (hts _ wd_179) (fun _ h9 => h9) rfl dX3_cry_38 ?_
        refine lv_iload_n hx hb dX3_cry_41 rfl (lv_at hl 1 rfl) ?_
        refine lv_iload_n hx hb dX3_cry_42 rfl (lv_at hl 2 rfl) ?_
        obtain ⟨r6, X7, er6, hw⟩ := bnd2_use hw
        refine va_calli (va_runV (As := [.int p1, .int p2]) (rest := []) ⟨hx, hb, hml, hown, hts⟩ (c_X2_proclaim l dC dI A a cA X p1 p2 (r6, X7) er6) ⟨callB_of 2 hts gd_X2_proclaim rfl rfl rfl (hts _ wd_37) (hts _ wd_315) hd_X2_proclaim ⟨Nat.le_of_ble_eq_true rfl, Nat.le_of_ble_eq_true rfl⟩, hts _ wd_316, hts _ wd_317⟩ ⟨blXD, va_recv hK hP (ci := 2) (q0 := 3) rfl rfl, fun U hU hW => ⟨rfl, by rw [hU]; exact hP, va_K.moved hW.alike hK, nst.warm hW hN, wlD hD0⟩⟩ rfl rfl hl.1 rfl (lv_room (Nat.le_of_ble_eq_true rfl)) dX3_cry_43 ⟨Nat.zero_le _, Nat.zero_le _⟩) hS (fun _ _ h => h) (fun _ h => h) (fun r_ u_ t_ H1 locs1 ht hvm hp_ hB hz1 hk1 hS1 => ?_)
        obtain ⟨q1_, q2_⟩ := Prod.mk.inj hp_
        subst q1_
        subst q2_
        obtain ⟨hP1, hK1⟩ := hB
        rw [ht] at hP1
        have hP := hP1
        have hS := hS1
        exact hret _ _ _ _ _ _ (Option.some.inj hw) hP hS dX3_cry_46
      · have hw := ite_f hw c5
        refine lv_bipush (v := (-103)) hx hb dX3_cry_32 (by decide) ?_
        refine lv_goto (tgt := 46) hx hb dX3_cry_34 (by decide) ?_
        exact hret _ _ _ _ _ _ (Option.some.inj hw) hP hS dX3_cry_46
    · have hw := ite_t hw c4
      refine lv_bipush (v := (-102)) hx hb dX3_cry_18 (by decide) ?_
      exact hret _ _ _ _ _ _ (Option.some.inj hw) hP hS dX3_cry_20
  · have hw := ite_t hw c2
    refine lv_bipush (v := (-101)) hx hb dX3_cry_8 (by decide) ?_
    exact hret _ _ _ _ _ _ (Option.some.inj hw) hP hS dX3_cry_10
set_option maxHeartbeats 4000000 in
set_option maxRecDepth 100000 in
theorem c_X4_ones (l : Launch) (p0 : Int32) (out : Int32) (hw : f_X4_ones p0 = some out) : Met l yX4_ones (.code yX4_ones cX4_ones 3 (some .int) :: lw_g) ({ frames := 0, cells := 0, slots := 0, locals := 0 }) (Pc0 [.int p0]) (vp_Si (fun r_ => r_ = out)) 0 0 (fun _ => False) := by
  unfold f_X4_ones at hw
  refine Met.ofW (cc := cX4_ones) (maxL := 3) (ret := (some .int)) (by decide) rfl ?_
  intro p e s m args below meth c s₁ B hml hv
  obtain ⟨rfl, -⟩ := hv
  have hx := B.exec
  have hb := B.bytes
  have hr := B.returns
  have hts0 := atoms_spec (ws := (.code yX4_ones cX4_ones 3 (some .int) :: lw_g)) B.pre
  have hts : ∀ w ∈ lw_g, w.before (([.int p0] : List Value).toArray) s = true := fun w h => hts0 w (List.mem_cons_of_mem _ h)
  clear hts0
  have hown : s.vm.findClass RX4 = some m.cls := findClass_of_methodNamed B.named
  have hlocks := B.notSynchronized
  have hret : ∀ (pc : Nat) (ls : Array Slot) (v : Int32), v = out → decode cX4_ones pc = .ok (.ireturn, 1) → W p l e ({ frames := 0, cells := 0, slots := 0, locals := 0 }) s m (([.int p0] : List Value).toArray) below meth c s.heap [] 0 0 (MQ below (vp_Si (fun r_ => r_ = out)) (([.int p0] : List Value).toArray) s 0 0 (fun _ => False)) (F0 m pc ls [.int v]) := fun pc ls v hv hd => W.iret hx hb hr (fun t ht hW => ⟨v, rfl, hv, ht⟩) (fun q hq => absurd hq List.not_mem_nil) hd
  show W p l e ({ frames := 0, cells := 0, slots := 0, locals := 0 }) s m (([.int p0] : List Value).toArray) below meth c s.heap [] 0 0 (MQ below (vp_Si (fun r_ => r_ = out)) (([.int p0] : List Value).toArray) s 0 0 (fun _ => False)) (entryFrame m (([.int p0] : List Value).toArray) 3)
  generalize MQ below (vp_Si (fun r_ => r_ = out)) (([.int p0] : List Value).toArray) s 0 0 (fun _ => False) = Q at hret ⊢
  have L4 : ∀ (v0 : Int32), ∀ n : Nat, ∀ (v1 : Int32), ∀ (v2 : Int32), g_X4_ones_4 v0 n v1 v2 = some out → ∀ ls : Array Slot, lv_has ls 3 [(0, .int v0), (1, .int v1), (2, .int v2)] → W p l e ({ frames := 0, cells := 0, slots := 0, locals := 0 }) s m (([.int p0] : List Value).toArray) below meth c s.heap [] 0 0 Q (F0 m 4 ls []) := by
    intro v0 n
    induction n with
    | zero =>
      intro v1 v2 hw
      rw [g_X4_ones_4] at hw
      cases hw
    | succ n ih =>
      intro v1 v2 hw ls hl
      rw [g_X4_ones_4] at hw
      refine lv_iload_n hx hb dX4_ones_4 rfl (lv_at hl 2 rfl) ?_
      refine lv_bipush (v := 6) hx hb dX4_ones_5 (by decide) ?_
      refine lv_icmp_ge (tgt := 24) hx hb dX4_ones_7 (by decide) (fun c1 => ?_) (fun c1 => ?_)
      · have hw := ite_t hw c1
        refine lv_iload_n hx hb dX4_ones_24 rfl (lv_at hl 1 rfl) ?_
        exact hret _ _ _ (Option.some.inj hw) dX4_ones_25
      · have hw := ite_f hw c1
        refine lv_iload_n hx hb dX4_ones_10 rfl (lv_at hl 1 rfl) ?_
        refine lv_iload_n hx hb dX4_ones_11 rfl (lv_at hl 0 rfl) ?_
        refine lv_iload_n hx hb dX4_ones_12 rfl (lv_at hl 2 rfl) ?_
        refine lv_ishr hx hb dX4_ones_13 ?_
        refine lv_iconst (v := 1) hx hb dX4_ones_14 (by decide) ?_
        refine lv_iand hx hb dX4_ones_15 ?_
        refine lv_iadd hx hb dX4_ones_16 ?_
        refine lv_topi (fun x2 ex2 => ?_)
        have hw := stp_use hw ex2
        refine lv_istore_n (lv' := [(1, .int x2), (0, .int v0), (2, .int v2)]) hx hb dX4_ones_17 rfl hl (by decide) rfl (fun ls hl => ?_)
        obtain ⟨x3, ex3⟩ : ∃ y : Int32, y = (v2 + 1) := ⟨_, rfl⟩
        have hw := stp_use hw ex3
        refine lv_iinc (v := x3) (lv' := [(2, .int x3), (1, .int x2), (0, .int v0)]) hx hb dX4_ones_18 hl (k := 2) rfl (by rw [ex3]; rfl) (by decide) rfl (fun ls hl => ?_)
        refine lv_goto (tgt := 4) hx hb dX4_ones_21 (by decide) ?_
        exact ih x2 x3 hw ls (lv_sub hl [2, 1, 0] rfl)
  have hl := lv_entry ([.int p0]) (n := 3) (Nat.le_of_ble_eq_true rfl)
  rw [lg_entry_eq]
  generalize (lg_sl ([.int p0]) ++ List.replicate (3 - (lg_sl ([.int p0])).length) Slot.unset).toArray = ls at hl ⊢
  have hl : lv_has ls 3 [(0, .int p0)] := hl
  refine lv_iconst (v := 0) hx hb dX4_ones_0 (by decide) ?_
  refine lv_istore_n (lv' := [(1, .int 0), (0, .int p0)]) hx hb dX4_ones_1 rfl hl (by decide) rfl (fun ls hl => ?_)
  refine lv_iconst (v := 0) hx hb dX4_ones_2 (by decide) ?_
  refine lv_istore_n (lv' := [(2, .int 0), (1, .int 0), (0, .int p0)]) hx hb dX4_ones_3 rfl hl (by decide) rfl (fun ls hl => ?_)
  exact L4 p0 NF 0 0 hw ls (lv_sub hl [2, 1, 0] rfl)
set_option maxHeartbeats 4000000 in
set_option maxRecDepth 100000 in
theorem c_X4_allListeners (l : Launch) (dC : Nat → ClassId) (dI : Nat → Nat → Nat) (a : Nat → Nat) (cA : ClassId) (X : MS) (out : Int32) (hw : f_X4_allListeners X = some out) : Met l yX4_allListeners (.code yX4_allListeners cX4_allListeners 1 (some .int) :: lw_g) ({ frames := 0, cells := 0, slots := 0, locals := 0 }) (PcM dC dI a cA X [.ref (a 0)]) (vp_Si (fun r_ => r_ = out)) 0 0 (fun _ => False) := by
  unfold f_X4_allListeners at hw
  refine Met.ofW (cc := cX4_allListeners) (maxL := 1) (ret := (some .int)) (by decide) rfl ?_
  intro p e s m args below meth c s₁ B hml hv
  obtain ⟨rfl, hP, hK⟩ := hv
  have hx := B.exec
  have hb := B.bytes
  have hr := B.returns
  have hts0 := atoms_spec (ws := (.code yX4_allListeners cX4_allListeners 1 (some .int) :: lw_g)) B.pre
  have hts : ∀ w ∈ lw_g, w.before (([.ref (a 0)] : List Value).toArray) s = true := fun w h => hts0 w (List.mem_cons_of_mem _ h)
  clear hts0
  have hown : s.vm.findClass RX4 = some m.cls := findClass_of_methodNamed B.named
  have hlocks := B.notSynchronized
  have hret : ∀ (pc : Nat) (ls : Array Slot) (v : Int32), v = out → decode cX4_allListeners pc = .ok (.ireturn, 1) → W p l e ({ frames := 0, cells := 0, slots := 0, locals := 0 }) s m (([.ref (a 0)] : List Value).toArray) below meth c s.heap [] 0 0 (MQ below (vp_Si (fun r_ => r_ = out)) (([.ref (a 0)] : List Value).toArray) s 0 0 (fun _ => False)) (F0 m pc ls [.int v]) := fun pc ls v hv hd => W.iret hx hb hr (fun t ht hW => ⟨v, rfl, hv, ht⟩) (fun q hq => absurd hq List.not_mem_nil) hd
  show W p l e ({ frames := 0, cells := 0, slots := 0, locals := 0 }) s m (([.ref (a 0)] : List Value).toArray) below meth c s.heap [] 0 0 (MQ below (vp_Si (fun r_ => r_ = out)) (([.ref (a 0)] : List Value).toArray) s 0 0 (fun _ => False)) (entryFrame m (([.ref (a 0)] : List Value).toArray) 1)
  generalize MQ below (vp_Si (fun r_ => r_ = out)) (([.ref (a 0)] : List Value).toArray) s 0 0 (fun _ => False) = Q at hret ⊢
  have hl := lv_entry ([.ref (a 0)]) (n := 1) (Nat.le_of_ble_eq_true rfl)
  rw [lg_entry_eq]
  generalize (lg_sl ([.ref (a 0)]) ++ List.replicate (1 - (lg_sl ([.ref (a 0)])).length) Slot.unset).toArray = ls at hl ⊢
  have hl : lv_has ls 1 [(0, .ref (a 0))] := hl
  refine lv_iconst (v := 1) hx hb dX4_allListeners_0 (by decide) ?_
  refine lv_aload_n hx hb dX4_allListeners_1 rfl (lv_at hl 0 rfl) ?_
  refine va_get (D := (dC, dI)) (ci := 4) (v := .int (X.1 0 11)) (C := RX4) (T := TX4) (N := 29) hx hb hts iX4 hown hK hP 0 rfl rfl 11 (by decide) (hts _ wd_533) (fun _ h9 => h9) rfl dX4_allListeners_2 ?_
  refine lv_ishl hx hb dX4_allListeners_5 ?_
  refine lv_iconst (v := 1) hx hb dX4_allListeners_6 (by decide) ?_
  refine lv_isub hx hb dX4_allListeners_7 ?_
  exact hret _ _ _ (Option.some.inj hw) dX4_allListeners_8
set_option maxHeartbeats 4000000 in
set_option maxRecDepth 100000 in
theorem c_X4_hearing (l : Launch) (dC : Nat → ClassId) (dI : Nat → Nat → Nat) (a : Nat → Nat) (cA : ClassId) (X : MS) (p1 : Int32) (p2 : Int32) (p3 : Int32) (out : Int32) (hw : f_X4_hearing X p1 p2 p3 = some out) : Met l yX4_hearing (.code yX4_hearing cX4_hearing 9 (some .int) :: lw_g) ({ frames := 1, cells := 0, slots := 0, locals := 21 }) (PcM dC dI a cA X [.ref (a 0), .int p1, .int p2, .int p3]) (vp_Si (fun r_ => r_ = out)) 0 0 (fun _ => False) := by
  unfold f_X4_hearing at hw
  refine Met.ofW (cc := cX4_hearing) (maxL := 9) (ret := (some .int)) (by decide) rfl ?_
  intro p e s m args below meth c s₁ B hml hv
  obtain ⟨rfl, hP, hK⟩ := hv
  have hx := B.exec
  have hb := B.bytes
  have hr := B.returns
  have hts0 := atoms_spec (ws := (.code yX4_hearing cX4_hearing 9 (some .int) :: lw_g)) B.pre
  have hts : ∀ w ∈ lw_g, w.before (([.ref (a 0), .int p1, .int p2, .int p3] : List Value).toArray) s = true := fun w h => hts0 w (List.mem_cons_of_mem _ h)
  clear hts0
  have hown : s.vm.findClass RX4 = some m.cls := findClass_of_methodNamed B.named
  have hlocks := B.notSynchronized
  have hret : ∀ (pc : Nat) (ls : Array Slot) (v : Int32), v = out → decode cX4_hearing pc = .ok (.ireturn, 1) → W p l e ({ frames := 1, cells := 0, slots := 0, locals := 21 }) s m (([.ref (a 0), .int p1, .int p2, .int p3] : List Value).toArray) below meth c s.heap [] 0 0 (MQ below (vp_Si (fun r_ => r_ = out)) (([.ref (a 0), .int p1, .int p2, .int p3] : List Value).toArray) s 0 0 (fun _ => False)) (F0 m pc ls [.int v]) := fun pc ls v hv hd => W.iret hx hb hr (fun t ht hW => ⟨v, rfl, hv, ht⟩) (fun q hq => absurd hq List.not_mem_nil) hd
  show W p l e ({ frames := 1, cells := 0, slots := 0, locals := 21 }) s m (([.ref (a 0), .int p1, .int p2, .int p3] : List Value).toArray) below meth c s.heap [] 0 0 (MQ below (vp_Si (fun r_ => r_ = out)) (([.ref (a 0), .int p1, .int p2, .int p3] : List Value).toArray) s 0 0 (fun _ => False)) (entryFrame m (([.ref (a 0), .int p1, .int p2, .int p3] : List Value).toArray) 9)
  generalize MQ below (vp_Si (fun r_ => r_ = out)) (([.ref (a 0), .int p1, .int p2, .int p3] : List Value).toArray) s 0 0 (fun _ => False) = Q at hret ⊢
  have L6 : ∀ (v1 : Int32), ∀ (v2 : Int32), ∀ (v3 : Int32), ∀ n : Nat, ∀ (v4 : Int32), ∀ (v5 : Int32), g_X4_hearing_6 X v1 v2 v3 n v4 v5 = some out → ∀ ls : Array Slot, lv_has ls 9 [(0, .ref (a 0)), (1, .int v1), (2, .int v2), (3, .int v3), (4, .int v4), (5, .int v5)] → W p l e ({ frames := 1, cells := 0, slots := 0, locals := 21 }) s m (([.ref (a 0), .int p1, .int p2, .int p3] : List Value).toArray) below meth c s.heap [] 0 0 Q (F0 m 6 ls []) := by
    intro v1 v2 v3 n
    induction n with
    | zero =>
      intro v4 v5 hw
      rw [g_X4_hearing_6] at hw
      cases hw
    | succ n ih =>
      intro v4 v5 hw ls hl
      rw [g_X4_hearing_6] at hw
      refine lv_iload hx hb dX4_hearing_6 (lv_at hl 5 rfl) ?_
      refine lv_aload_n hx hb dX4_hearing_8 rfl (lv_at hl 0 rfl) ?_
      refine va_get (D := (dC, dI)) (ci := 4) (v := .int (X.1 0 11)) (C := RX4) (T := TX4) (N := 29) hx hb hts iX4 hown hK hP 0 rfl rfl 11 (by decide) (hts _ wd_533) (fun _ h9 => h9) rfl dX4_hearing_9 ?_
      refine lv_icmp_ge (tgt := 103) hx hb dX4_hearing_12 (by decide) (fun c1 => ?_) (fun c1 => ?_)
      · have hw := ite_t hw c1
        refine lv_iload hx hb dX4_hearing_103 (lv_at hl 4 rfl) ?_
        exact hret _ _ _ (Option.some.inj hw) dX4_hearing_105
      · have hw := ite_f hw c1
        refine lv_aload_n hx hb dX4_hearing_15 rfl (lv_at hl 0 rfl) ?_
        refine va_get (D := (dC, dI)) (ci := 4) (v := .ref (a 3)) (C := RX4) (T := TX4) (N := 29) hx hb hts iX4 hown hK hP 0 rfl rfl 12 (by decide) (hts _ wd_534) (fun _ h9 => h9) rfl dX4_hearing_16 ?_
        refine lv_iconst (v := 2) hx hb dX4_hearing_19 (by decide) ?_
        refine lv_iload hx hb dX4_hearing_20 (lv_at hl 5 rfl) ?_
        refine lv_imul hx hb dX4_hearing_22 ?_
        refine lv_iconst (v := 1) hx hb dX4_hearing_23 (by decide) ?_
        refine lv_iadd hx hb dX4_hearing_24 ?_
        obtain ⟨h2, hw⟩ := ixc_use hw
        refine va_iald hx hb hK hP 3 0 rfl rfl h2 dX4_hearing_25 ?_
        refine lv_topi (fun x3 ex3 => ?_)
        have hw := stp_use hw ex3
        refine lv_istore (lv' := [(6, .int x3), (0, .ref (a 0)), (1, .int v1), (2, .int v2), (3, .int v3), (4, .int v4), (5, .int v5)]) hx hb dX4_hearing_26 hl (by decide) rfl (fun ls hl => ?_)
        refine lv_iload hx hb dX4_hearing_28 (lv_at hl 0 rfl) ?_
        refine lv_iload_n hx hb dX4_hearing_30 rfl (lv_at hl 2 rfl) ?_
        refine lv_icmp_le (tgt := 41) hx hb dX4_hearing_31 (by decide) (fun c4 => ?_) (fun c4 => ?_)
        · have hw := ite_t hw c4
          refine lv_iload_n hx hb dX4_hearing_41 rfl (lv_at hl 2 rfl) ?_
          refine lv_iload hx hb dX4_hearing_42 (lv_at hl 0 rfl) ?_
          refine lv_isub hx hb dX4_hearing_44 ?_
          refine lv_topi (fun x5 ex5 => ?_)
          have hw := stp_use hw ex5
          refine lv_istore (lv' := [(7, .int x5), (6, .int x3), (0, .ref (a 0)), (1, .int v1), (2, .int v2), (3, .int v3), (4, .int v4), (5, .int v5)]) hx hb dX4_hearing_45 hl (by decide) rfl (fun ls hl => ?_)
          refine lv_iload_n hx hb dX4_hearing_47 rfl (lv_at hl 4 rfl) ?_
          refine lv_iconst (v := 2) hx hb dX4_hearing_48 (by decide) ?_
          refine lv_iload hx hb dX4_hearing_49 (lv_at hl 0 rfl) ?_
          refine lv_imul hx hb dX4_hearing_51 ?_
          refine lv_isub hx hb dX4_hearing_52 ?_
          refine lv_aload_n hx hb dX4_hearing_53 rfl (lv_at hl 2 rfl) ?_
          refine va_get (D := (dC, dI)) (ci := 4) (v := .ref (a 2)) (C := RX4) (T := TX4) (N := 29) hx hb hts iX4 hown hK hP 0 rfl rfl 10 (by decide) (hts _ wd_532) (fun _ h9 => h9) rfl dX4_hearing_54 ?_
          refine lv_iload hx hb dX4_hearing_57 (lv_at hl 1 rfl) ?_
          obtain ⟨h6, hw⟩ := ixc_use hw
          refine va_iald hx hb hK hP 2 0 rfl rfl h6 dX4_hearing_59 ?_
          refine lv_isub hx hb dX4_hearing_60 ?_
          refine lv_aload_n hx hb dX4_hearing_61 rfl (lv_at hl 2 rfl) ?_
          refine lv_iload hx hb dX4_hearing_62 (lv_at hl 7 rfl) ?_
          obtain ⟨r7, er7, hw⟩ := Option.bind_eq_some_iff.mp hw
          refine vp_callSi (va_runV (As := [.int v5]) (rest := [.int ((v2 - (2 * x5)) - (X.1 2 (Int32.toNatClampNeg x3)))]) ⟨hx, hb, hml, hown, hts⟩ (c_X4_needsOf l dC dI a cA X v5 r7 er7) ⟨callB_of 1 hts gd_X4_needsOf rfl rfl rfl (hts _ wd_39) (hts _ wd_676) hd_X4_needsOf ⟨Nat.le_of_ble_eq_true rfl, Nat.le_of_ble_eq_true rfl⟩, hts _ wd_678, hts _ wd_16⟩ ⟨blM, va_recv hK hP (ci := 4) (q0 := 0) rfl rfl, fun U hU hW => ⟨rfl, by rw [hU]; exact hP, va_K.moved hW.alike hK⟩⟩ rfl rfl hl.1 rfl (lv_room (Nat.le_of_ble_eq_true rfl)) dX4_hearing_64 ⟨Nat.zero_le _, Nat.zero_le _⟩).run (fun r_ e_ => ?_)
          subst r_
          refine lv_icmp_lt (tgt := 74) hx hb dX4_hearing_67 (by decide) (fun c8 => ?_) (fun c8 => ?_)
          · have hw := ite_t hw c8
            refine lv_iconst (v := 0) hx hb dX4_hearing_74 (by decide) ?_
            refine lv_istore (lv' := [(8, .int 0), (7, .int x5), (6, .int x3), (0, .ref (a 0)), (1, .int v1), (2, .int v2), (3, .int v3), (4, .int v4), (5, .int v5)]) hx hb dX4_hearing_75 hl (by decide) rfl (fun ls hl => ?_)
            refine lv_iload hx hb dX4_hearing_77 (lv_at hl 7 rfl) ?_
            refine lv_iload hx hb dX4_hearing_79 (lv_at hl 0 rfl) ?_
            refine lv_if_eq (tgt := 93) hx hb dX4_hearing_81 (by decide) (fun c9 => ?_) (fun c9 => absurd c9 (by decide))
            refine lv_iconst (v := 0) hx hb dX4_hearing_93 (by decide) ?_
            refine lv_ior hx hb dX4_hearing_94 ?_
            refine lv_topi (fun x10 ex10 => ?_)
            have hw := stp_use hw ex10
            refine lv_istore (lv' := [(4, .int x10), (8, .int 0), (7, .int x5), (6, .int x3), (0, .ref (a 0)), (1, .int v1), (2, .int v2), (3, .int v3), (5, .int v5)]) hx hb dX4_hearing_95 hl (by decide) rfl (fun ls hl => ?_)
            obtain ⟨x11, ex11⟩ : ∃ y : Int32, y = (v5 + 1) := ⟨_, rfl⟩
            have hw := stp_use hw ex11
            refine lv_iinc (v := x11) (lv' := [(5, .int x11), (4, .int x10), (8, .int 0), (7, .int x5), (6, .int x3), (0, .ref (a 0)), (1, .int v1), (2, .int v2), (3, .int v3)]) hx hb dX4_hearing_97 hl (k := 8) rfl (by rw [ex11]; rfl) (by decide) rfl (fun ls hl => ?_)
            refine lv_goto (tgt := 6) hx hb dX4_hearing_100 (by decide) ?_
            exact ih x10 x11 hw ls (lv_sub hl [5, 6, 7, 8, 1, 0] rfl)
          · have hw := ite_f hw c8
            refine lv_iconst (v := 1) hx hb dX4_hearing_70 (by decide) ?_
            refine lv_goto (tgt := 75) hx hb dX4_hearing_71 (by decide) ?_
            refine lv_istore (lv' := [(8, .int 1), (7, .int x5), (6, .int x3), (0, .ref (a 0)), (1, .int v1), (2, .int v2), (3, .int v3), (4, .int v4), (5, .int v5)]) hx hb dX4_hearing_75 hl (by decide) rfl (fun ls hl => ?_)
            refine lv_iload hx hb dX4_hearing_77 (lv_at hl 7 rfl) ?_
            refine lv_iload hx hb dX4_hearing_79 (lv_at hl 0 rfl) ?_
            refine lv_if_eq (tgt := 93) hx hb dX4_hearing_81 (by decide) (fun c12 => absurd c12 (by decide)) (fun c12 => ?_)
            refine lv_iload_n hx hb dX4_hearing_84 rfl (lv_at hl 6 rfl) ?_
            refine lv_iconst (v := 1) hx hb dX4_hearing_85 (by decide) ?_
            refine lv_iload hx hb dX4_hearing_86 (lv_at hl 8 rfl) ?_
            refine lv_ishl hx hb dX4_hearing_88 ?_
            refine lv_iand hx hb dX4_hearing_89 ?_
            refine lv_goto (tgt := 94) hx hb dX4_hearing_90 (by decide) ?_
            refine lv_ior hx hb dX4_hearing_94 ?_
            refine lv_topi (fun x13 ex13 => ?_)
            have hw := stp_use hw ex13
            refine lv_istore (lv' := [(4, .int x13), (8, .int 1), (7, .int x5), (6, .int x3), (0, .ref (a 0)), (1, .int v1), (2, .int v2), (3, .int v3), (5, .int v5)]) hx hb dX4_hearing_95 hl (by decide) rfl (fun ls hl => ?_)
            obtain ⟨x14, ex14⟩ : ∃ y : Int32, y = (v5 + 1) := ⟨_, rfl⟩
            have hw := stp_use hw ex14
            refine lv_iinc (v := x14) (lv' := [(5, .int x14), (4, .int x13), (8, .int 1), (7, .int x5), (6, .int x3), (0, .ref (a 0)), (1, .int v1), (2, .int v2), (3, .int v3)]) hx hb dX4_hearing_97 hl (k := 8) rfl (by rw [ex14]; rfl) (by decide) rfl (fun ls hl => ?_)
            refine lv_goto (tgt := 6) hx hb dX4_hearing_100 (by decide) ?_
            exact ih x13 x14 hw ls (lv_sub hl [5, 6, 7, 8, 1, 0] rfl)
        · have hw := ite_f hw c4
          refine lv_iload hx hb dX4_hearing_34 (lv_at hl 0 rfl) ?_
          refine lv_iload_n hx hb dX4_hearing_36 rfl (lv_at hl 2 rfl) ?_
          refine lv_isub hx hb dX4_hearing_37 ?_
          refine lv_goto (tgt := 45) hx hb dX4_hearing_38 (by decide) ?_
          refine lv_topi (fun x15 ex15 => ?_)
          have hw := stp_use hw ex15
          refine lv_istore (lv' := [(7, .int x15), (6, .int x3), (0, .ref (a 0)), (1, .int v1), (2, .int v2), (3, .int v3), (4, .int v4), (5, .int v5)]) hx hb dX4_hearing_45 hl (by decide) rfl (fun ls hl => ?_)
          refine lv_iload_n hx hb dX4_hearing_47 rfl (lv_at hl 4 rfl) ?_
          refine lv_iconst (v := 2) hx hb dX4_hearing_48 (by decide) ?_
          refine lv_iload hx hb dX4_hearing_49 (lv_at hl 0 rfl) ?_
          refine lv_imul hx hb dX4_hearing_51 ?_
          refine lv_isub hx hb dX4_hearing_52 ?_
          refine lv_aload_n hx hb dX4_hearing_53 rfl (lv_at hl 2 rfl) ?_
          refine va_get (D := (dC, dI)) (ci := 4) (v := .ref (a 2)) (C := RX4) (T := TX4) (N := 29) hx hb hts iX4 hown hK hP 0 rfl rfl 10 (by decide) (hts _ wd_532) (fun _ h9 => h9) rfl dX4_hearing_54 ?_
          refine lv_iload hx hb dX4_hearing_57 (lv_at hl 1 rfl) ?_
          obtain ⟨h16, hw⟩ := ixc_use hw
          refine va_iald hx hb hK hP 2 0 rfl rfl h16 dX4_hearing_59 ?_
          refine lv_isub hx hb dX4_hearing_60 ?_
          refine lv_aload_n hx hb dX4_hearing_61 rfl (lv_at hl 2 rfl) ?_
          refine lv_iload hx hb dX4_hearing_62 (lv_at hl 7 rfl) ?_
          obtain ⟨r17, er17, hw⟩ := Option.bind_eq_some_iff.mp hw
          refine vp_callSi (va_runV (As := [.int v5]) (rest := [.int ((v2 - (2 * x15)) - (X.1 2 (Int32.toNatClampNeg x3)))]) ⟨hx, hb, hml, hown, hts⟩ (c_X4_needsOf l dC dI a cA X v5 r17 er17) ⟨callB_of 1 hts gd_X4_needsOf rfl rfl rfl (hts _ wd_39) (hts _ wd_676) hd_X4_needsOf ⟨Nat.le_of_ble_eq_true rfl, Nat.le_of_ble_eq_true rfl⟩, hts _ wd_678, hts _ wd_16⟩ ⟨blM, va_recv hK hP (ci := 4) (q0 := 0) rfl rfl, fun U hU hW => ⟨rfl, by rw [hU]; exact hP, va_K.moved hW.alike hK⟩⟩ rfl rfl hl.1 rfl (lv_room (Nat.le_of_ble_eq_true rfl)) dX4_hearing_64 ⟨Nat.zero_le _, Nat.zero_le _⟩).run (fun r_ e_ => ?_)
          subst r_
          refine lv_icmp_lt (tgt := 74) hx hb dX4_hearing_67 (by decide) (fun c18 => ?_) (fun c18 => ?_)
          · have hw := ite_t hw c18
            refine lv_iconst (v := 0) hx hb dX4_hearing_74 (by decide) ?_
            refine lv_istore (lv' := [(8, .int 0), (7, .int x15), (6, .int x3), (0, .ref (a 0)), (1, .int v1), (2, .int v2), (3, .int v3), (4, .int v4), (5, .int v5)]) hx hb dX4_hearing_75 hl (by decide) rfl (fun ls hl => ?_)
            refine lv_iload hx hb dX4_hearing_77 (lv_at hl 7 rfl) ?_
            refine lv_iload hx hb dX4_hearing_79 (lv_at hl 0 rfl) ?_
            refine lv_if_eq (tgt := 93) hx hb dX4_hearing_81 (by decide) (fun c19 => ?_) (fun c19 => absurd c19 (by decide))
            refine lv_iconst (v := 0) hx hb dX4_hearing_93 (by decide) ?_
            refine lv_ior hx hb dX4_hearing_94 ?_
            refine lv_topi (fun x20 ex20 => ?_)
            have hw := stp_use hw ex20
            refine lv_istore (lv' := [(4, .int x20), (8, .int 0), (7, .int x15), (6, .int x3), (0, .ref (a 0)), (1, .int v1), (2, .int v2), (3, .int v3), (5, .int v5)]) hx hb dX4_hearing_95 hl (by decide) rfl (fun ls hl => ?_)
            obtain ⟨x21, ex21⟩ : ∃ y : Int32, y = (v5 + 1) := ⟨_, rfl⟩
            have hw := stp_use hw ex21
            refine lv_iinc (v := x21) (lv' := [(5, .int x21), (4, .int x20), (8, .int 0), (7, .int x15), (6, .int x3), (0, .ref (a 0)), (1, .int v1), (2, .int v2), (3, .int v3)]) hx hb dX4_hearing_97 hl (k := 8) rfl (by rw [ex21]; rfl) (by decide) rfl (fun ls hl => ?_)
            refine lv_goto (tgt := 6) hx hb dX4_hearing_100 (by decide) ?_
            exact ih x20 x21 hw ls (lv_sub hl [5, 6, 7, 8, 1, 0] rfl)
          · have hw := ite_f hw c18
            refine lv_iconst (v := 1) hx hb dX4_hearing_70 (by decide) ?_
            refine lv_goto (tgt := 75) hx hb dX4_hearing_71 (by decide) ?_
            refine lv_istore (lv' := [(8, .int 1), (7, .int x15), (6, .int x3), (0, .ref (a 0)), (1, .int v1), (2, .int v2), (3, .int v3), (4, .int v4), (5, .int v5)]) hx hb dX4_hearing_75 hl (by decide) rfl (fun ls hl => ?_)
            refine lv_iload hx hb dX4_hearing_77 (lv_at hl 7 rfl) ?_
            refine lv_iload hx hb dX4_hearing_79 (lv_at hl 0 rfl) ?_
            refine lv_if_eq (tgt := 93) hx hb dX4_hearing_81 (by decide) (fun c22 => absurd c22 (by decide)) (fun c22 => ?_)
            refine lv_iload_n hx hb dX4_hearing_84 rfl (lv_at hl 6 rfl) ?_
            refine lv_iconst (v := 1) hx hb dX4_hearing_85 (by decide) ?_
            refine lv_iload hx hb dX4_hearing_86 (lv_at hl 8 rfl) ?_
            refine lv_ishl hx hb dX4_hearing_88 ?_
            refine lv_iand hx hb dX4_hearing_89 ?_
            refine lv_goto (tgt := 94) hx hb dX4_hearing_90 (by decide) ?_
            refine lv_ior hx hb dX4_hearing_94 ?_
            refine lv_topi (fun x23 ex23 => ?_)
            have hw := stp_use hw ex23
            refine lv_istore (lv' := [(4, .int x23), (8, .int 1), (7, .int x15), (6, .int x3), (0, .ref (a 0)), (1, .int v1), (2, .int v2), (3, .int v3), (5, .int v5)]) hx hb dX4_hearing_95 hl (by decide) rfl (fun ls hl => ?_)
            obtain ⟨x24, ex24⟩ : ∃ y : Int32, y = (v5 + 1) := ⟨_, rfl⟩
            have hw := stp_use hw ex24
            refine lv_iinc (v := x24) (lv' := [(5, .int x24), (4, .int x23), (8, .int 1), (7, .int x15), (6, .int x3), (0, .ref (a 0)), (1, .int v1), (2, .int v2), (3, .int v3)]) hx hb dX4_hearing_97 hl (k := 8) rfl (by rw [ex24]; rfl) (by decide) rfl (fun ls hl => ?_)
            refine lv_goto (tgt := 6) hx hb dX4_hearing_100 (by decide) ?_
            exact ih x23 x24 hw ls (lv_sub hl [5, 6, 7, 8, 1, 0] rfl)
  have hl := lv_entry ([.ref (a 0), .int p1, .int p2, .int p3]) (n := 9) (Nat.le_of_ble_eq_true rfl)
  rw [lg_entry_eq]
  generalize (lg_sl ([.ref (a 0), .int p1, .int p2, .int p3]) ++ List.replicate (9 - (lg_sl ([.ref (a 0), .int p1, .int p2, .int p3])).length) Slot.unset).toArray = ls at hl ⊢
  have hl : lv_has ls 9 [(0, .ref (a 0)), (1, .int p1), (2, .int p2), (3, .int p3)] := hl
  refine lv_iconst (v := 0) hx hb dX4_hearing_0 (by decide) ?_
  refine lv_istore (lv' := [(4, .int 0), (0, .ref (a 0)), (1, .int p1), (2, .int p2), (3, .int p3)]) hx hb dX4_hearing_1 hl (by decide) rfl (fun ls hl => ?_)
  refine lv_iconst (v := 0) hx hb dX4_hearing_3 (by decide) ?_
  refine lv_istore (lv' := [(5, .int 0), (4, .int 0), (0, .ref (a 0)), (1, .int p1), (2, .int p2), (3, .int p3)]) hx hb dX4_hearing_4 hl (by decide) rfl (fun ls hl => ?_)
  exact L6 p1 p2 p3 NF 0 0 hw ls (lv_sub hl [2, 3, 4, 5, 1, 0] rfl)
set_option maxHeartbeats 4000000 in
set_option maxRecDepth 100000 in
theorem c_X4_heardBy (l : Launch) (dC : Nat → ClassId) (dI : Nat → Nat → Nat) (a : Nat → Nat) (cA : ClassId) (X : MS) (p1 : Int32) (p2 : Int32) (p3 : Int32) (p4 : Int32) (out : Int32) (hw : f_X4_heardBy X p1 p2 p3 p4 = some out) : Met l yX4_heardBy (.code yX4_heardBy cX4_heardBy 10 (some .int) :: lw_g) ({ frames := 2, cells := 0, slots := 0, locals := 49 }) (PcM dC dI a cA X [.ref (a 0), .int p1, .int p2, .int p3, .int p4]) (vp_Si (fun r_ => r_ = out)) 0 0 (fun _ => False) := by
  unfold f_X4_heardBy at hw
  refine Met.ofW (cc := cX4_heardBy) (maxL := 10) (ret := (some .int)) (by decide) rfl ?_
  intro p e s m args below meth c s₁ B hml hv
  obtain ⟨rfl, hP, hK⟩ := hv
  have hx := B.exec
  have hb := B.bytes
  have hr := B.returns
  have hts0 := atoms_spec (ws := (.code yX4_heardBy cX4_heardBy 10 (some .int) :: lw_g)) B.pre
  have hts : ∀ w ∈ lw_g, w.before (([.ref (a 0), .int p1, .int p2, .int p3, .int p4] : List Value).toArray) s = true := fun w h => hts0 w (List.mem_cons_of_mem _ h)
  clear hts0
  have hown : s.vm.findClass RX4 = some m.cls := findClass_of_methodNamed B.named
  have hlocks := B.notSynchronized
  have hret : ∀ (pc : Nat) (ls : Array Slot) (v : Int32), v = out → decode cX4_heardBy pc = .ok (.ireturn, 1) → W p l e ({ frames := 2, cells := 0, slots := 0, locals := 49 }) s m (([.ref (a 0), .int p1, .int p2, .int p3, .int p4] : List Value).toArray) below meth c s.heap [] 0 0 (MQ below (vp_Si (fun r_ => r_ = out)) (([.ref (a 0), .int p1, .int p2, .int p3, .int p4] : List Value).toArray) s 0 0 (fun _ => False)) (F0 m pc ls [.int v]) := fun pc ls v hv hd => W.iret hx hb hr (fun t ht hW => ⟨v, rfl, hv, ht⟩) (fun q hq => absurd hq List.not_mem_nil) hd
  show W p l e ({ frames := 2, cells := 0, slots := 0, locals := 49 }) s m (([.ref (a 0), .int p1, .int p2, .int p3, .int p4] : List Value).toArray) below meth c s.heap [] 0 0 (MQ below (vp_Si (fun r_ => r_ = out)) (([.ref (a 0), .int p1, .int p2, .int p3, .int p4] : List Value).toArray) s 0 0 (fun _ => False)) (entryFrame m (([.ref (a 0), .int p1, .int p2, .int p3, .int p4] : List Value).toArray) 10)
  generalize MQ below (vp_Si (fun r_ => r_ = out)) (([.ref (a 0), .int p1, .int p2, .int p3, .int p4] : List Value).toArray) s 0 0 (fun _ => False) = Q at hret ⊢
  have L30 : ∀ (v3 : Int32), ∀ (k16 : Int32 → Int32 → Option Int32), (∀ (v5 : Int32), ∀ (v6 : Int32), k16 v5 v6 = some out → ∀ ls : Array Slot, lv_has ls 10 [(0, .ref (a 0)), (3, .int v3), (5, .int v5), (6, .int v6)] → W p l e ({ frames := 2, cells := 0, slots := 0, locals := 49 }) s m (([.ref (a 0), .int p1, .int p2, .int p3, .int p4] : List Value).toArray) below meth c s.heap [] 0 0 Q (F0 m 16 ls [])) → ∀ n : Nat, ∀ (v5 : Int32), ∀ (v6 : Int32), ∀ (v7 : Int32), ∀ (v8 : Int32), g_X4_heardBy_30 X k16 v3 n v5 v6 v7 v8 = some out → ∀ ls : Array Slot, lv_has ls 10 [(0, .ref (a 0)), (3, .int v3), (5, .int v5), (6, .int v6), (7, .int v7), (8, .int v8)] → W p l e ({ frames := 2, cells := 0, slots := 0, locals := 49 }) s m (([.ref (a 0), .int p1, .int p2, .int p3, .int p4] : List Value).toArray) below meth c s.heap [] 0 0 Q (F0 m 30 ls []) := by
    intro v3 k16 hk16 n
    induction n with
    | zero =>
      intro v5 v6 v7 v8 hw
      rw [g_X4_heardBy_30] at hw
      cases hw
    | succ n ih =>
      intro v5 v6 v7 v8 hw ls hl
      rw [g_X4_heardBy_30] at hw
      refine lv_iload hx hb dX4_heardBy_30 (lv_at hl 5 rfl) ?_
      refine lv_aload_n hx hb dX4_heardBy_32 rfl (lv_at hl 0 rfl) ?_
      refine va_get (D := (dC, dI)) (ci := 4) (v := .int (X.1 0 11)) (C := RX4) (T := TX4) (N := 29) hx hb hts iX4 hown hK hP 0 rfl rfl 11 (by decide) (hts _ wd_533) (fun _ h9 => h9) rfl dX4_heardBy_33 ?_
      refine lv_icmp_ge (tgt := 118) hx hb dX4_heardBy_36 (by decide) (fun c4 => ?_) (fun c4 => ?_)
      · have hw := ite_t hw c4
        refine lv_iload hx hb dX4_heardBy_118 (lv_at hl 2 rfl) ?_
        refine lv_istore (lv' := [(6, .int v5), (0, .ref (a 0)), (3, .int v3), (5, .int v5), (7, .int v7), (8, .int v8)]) hx hb dX4_heardBy_120 hl (by decide) rfl (fun ls hl => ?_)
        refine lv_iload hx hb dX4_heardBy_122 (lv_at hl 4 rfl) ?_
        refine lv_istore (lv' := [(5, .int v7), (6, .int v5), (0, .ref (a 0)), (3, .int v3), (7, .int v7), (8, .int v8)]) hx hb dX4_heardBy_124 hl (by decide) rfl (fun ls hl => ?_)
        refine lv_goto (tgt := 16) hx hb dX4_heardBy_126 (by decide) ?_
        exact hk16 v7 v5 hw ls (lv_sub hl [2, 3, 0, 1] rfl)
      · have hw := ite_f hw c4
        refine lv_iload hx hb dX4_heardBy_39 (lv_at hl 2 rfl) ?_
        refine lv_iload hx hb dX4_heardBy_41 (lv_at hl 5 rfl) ?_
        refine lv_ishr hx hb dX4_heardBy_43 ?_
        refine lv_iconst (v := 1) hx hb dX4_heardBy_44 (by decide) ?_
        refine lv_iand hx hb dX4_heardBy_45 ?_
        refine lv_iconst (v := 1) hx hb dX4_heardBy_46 (by decide) ?_
        refine lv_icmp_ne (tgt := 73) hx hb dX4_heardBy_47 (by decide) (fun c5 => ?_) (fun c5 => ?_)
        · have hw := ite_f hw c5
          refine lv_iconst (v := 0) hx hb dX4_heardBy_73 (by decide) ?_
          refine lv_istore (lv' := [(9, .int 0), (0, .ref (a 0)), (3, .int v3), (5, .int v5), (6, .int v6), (7, .int v7), (8, .int v8)]) hx hb dX4_heardBy_74 hl (by decide) rfl (fun ls hl => ?_)
          refine lv_iload hx hb dX4_heardBy_76 (lv_at hl 5 rfl) ?_
          refine lv_iload hx hb dX4_heardBy_78 (lv_at hl 0 rfl) ?_
          refine lv_if_eq (tgt := 108) hx hb dX4_heardBy_80 (by decide) (fun c6 => ?_) (fun c6 => absurd c6 (by decide))
          refine lv_iconst (v := 0) hx hb dX4_heardBy_108 (by decide) ?_
          refine lv_ior hx hb dX4_heardBy_109 ?_
          refine lv_topi (fun x7 ex7 => ?_)
          have hw := stp_use hw ex7
          refine lv_istore (lv' := [(7, .int x7), (9, .int 0), (0, .ref (a 0)), (3, .int v3), (5, .int v5), (6, .int v6), (8, .int v8)]) hx hb dX4_heardBy_110 hl (by decide) rfl (fun ls hl => ?_)
          obtain ⟨x8, ex8⟩ : ∃ y : Int32, y = (v8 + 1) := ⟨_, rfl⟩
          have hw := stp_use hw ex8
          refine lv_iinc (v := x8) (lv' := [(8, .int x8), (7, .int x7), (9, .int 0), (0, .ref (a 0)), (3, .int v3), (5, .int v5), (6, .int v6)]) hx hb dX4_heardBy_112 hl (k := 6) rfl (by rw [ex8]; rfl) (by decide) rfl (fun ls hl => ?_)
          refine lv_goto (tgt := 30) hx hb dX4_heardBy_115 (by decide) ?_
          exact ih v5 v6 x7 x8 hw ls (lv_sub hl [3, 4, 5, 6, 1, 0] rfl)
        · have hw := ite_t hw c5
          refine lv_iload hx hb dX4_heardBy_50 (lv_at hl 3 rfl) ?_
          refine lv_iload hx hb dX4_heardBy_52 (lv_at hl 5 rfl) ?_
          refine lv_ishr hx hb dX4_heardBy_54 ?_
          refine lv_iconst (v := 1) hx hb dX4_heardBy_55 (by decide) ?_
          refine lv_iand hx hb dX4_heardBy_56 ?_
          refine lv_if_ne (tgt := 73) hx hb dX4_heardBy_57 (by decide) (fun c9 => ?_) (fun c9 => ?_)
          · have hw := ite_f hw c9
            refine lv_iconst (v := 0) hx hb dX4_heardBy_73 (by decide) ?_
            refine lv_istore (lv' := [(9, .int 0), (0, .ref (a 0)), (3, .int v3), (5, .int v5), (6, .int v6), (7, .int v7), (8, .int v8)]) hx hb dX4_heardBy_74 hl (by decide) rfl (fun ls hl => ?_)
            refine lv_iload hx hb dX4_heardBy_76 (lv_at hl 5 rfl) ?_
            refine lv_iload hx hb dX4_heardBy_78 (lv_at hl 0 rfl) ?_
            refine lv_if_eq (tgt := 108) hx hb dX4_heardBy_80 (by decide) (fun c10 => ?_) (fun c10 => absurd c10 (by decide))
            refine lv_iconst (v := 0) hx hb dX4_heardBy_108 (by decide) ?_
            refine lv_ior hx hb dX4_heardBy_109 ?_
            refine lv_topi (fun x11 ex11 => ?_)
            have hw := stp_use hw ex11
            refine lv_istore (lv' := [(7, .int x11), (9, .int 0), (0, .ref (a 0)), (3, .int v3), (5, .int v5), (6, .int v6), (8, .int v8)]) hx hb dX4_heardBy_110 hl (by decide) rfl (fun ls hl => ?_)
            obtain ⟨x12, ex12⟩ : ∃ y : Int32, y = (v8 + 1) := ⟨_, rfl⟩
            have hw := stp_use hw ex12
            refine lv_iinc (v := x12) (lv' := [(8, .int x12), (7, .int x11), (9, .int 0), (0, .ref (a 0)), (3, .int v3), (5, .int v5), (6, .int v6)]) hx hb dX4_heardBy_112 hl (k := 6) rfl (by rw [ex12]; rfl) (by decide) rfl (fun ls hl => ?_)
            refine lv_goto (tgt := 30) hx hb dX4_heardBy_115 (by decide) ?_
            exact ih v5 v6 x11 x12 hw ls (lv_sub hl [3, 4, 5, 6, 1, 0] rfl)
          · have hw := ite_t hw c9
            refine lv_aload_n hx hb dX4_heardBy_60 rfl (lv_at hl 0 rfl) ?_
            refine lv_iload hx hb dX4_heardBy_61 (lv_at hl 5 rfl) ?_
            obtain ⟨r13, er13, hw⟩ := Option.bind_eq_some_iff.mp hw
            refine vp_callSi (va_runV (As := [.int v8]) (rest := []) ⟨hx, hb, hml, hown, hts⟩ (c_X4_criesOf l dC dI a cA X v8 r13 er13) ⟨callB_of 1 hts gd_X4_criesOf rfl rfl rfl (hts _ wd_39) (hts _ wd_680) hd_X4_criesOf ⟨Nat.le_of_ble_eq_true rfl, Nat.le_of_ble_eq_true rfl⟩, hts _ wd_682, hts _ wd_17⟩ ⟨blM, va_recv hK hP (ci := 4) (q0 := 0) rfl rfl, fun U hU hW => ⟨rfl, by rw [hU]; exact hP, va_K.moved hW.alike hK⟩⟩ rfl rfl hl.1 rfl (lv_room (Nat.le_of_ble_eq_true rfl)) dX4_heardBy_63 ⟨Nat.zero_le _, Nat.zero_le _⟩).run (fun r_ e_ => ?_)
            subst r_
            refine lv_if_le (tgt := 73) hx hb dX4_heardBy_66 (by decide) (fun c14 => ?_) (fun c14 => ?_)
            · have hw := ite_t hw c14
              refine lv_iconst (v := 0) hx hb dX4_heardBy_73 (by decide) ?_
              refine lv_istore (lv' := [(9, .int 0), (0, .ref (a 0)), (3, .int v3), (5, .int v5), (6, .int v6), (7, .int v7), (8, .int v8)]) hx hb dX4_heardBy_74 hl (by decide) rfl (fun ls hl => ?_)
              refine lv_iload hx hb dX4_heardBy_76 (lv_at hl 5 rfl) ?_
              refine lv_iload hx hb dX4_heardBy_78 (lv_at hl 0 rfl) ?_
              refine lv_if_eq (tgt := 108) hx hb dX4_heardBy_80 (by decide) (fun c15 => ?_) (fun c15 => absurd c15 (by decide))
              refine lv_iconst (v := 0) hx hb dX4_heardBy_108 (by decide) ?_
              refine lv_ior hx hb dX4_heardBy_109 ?_
              refine lv_topi (fun x16 ex16 => ?_)
              have hw := stp_use hw ex16
              refine lv_istore (lv' := [(7, .int x16), (9, .int 0), (0, .ref (a 0)), (3, .int v3), (5, .int v5), (6, .int v6), (8, .int v8)]) hx hb dX4_heardBy_110 hl (by decide) rfl (fun ls hl => ?_)
              obtain ⟨x17, ex17⟩ : ∃ y : Int32, y = (v8 + 1) := ⟨_, rfl⟩
              have hw := stp_use hw ex17
              refine lv_iinc (v := x17) (lv' := [(8, .int x17), (7, .int x16), (9, .int 0), (0, .ref (a 0)), (3, .int v3), (5, .int v5), (6, .int v6)]) hx hb dX4_heardBy_112 hl (k := 6) rfl (by rw [ex17]; rfl) (by decide) rfl (fun ls hl => ?_)
              refine lv_goto (tgt := 30) hx hb dX4_heardBy_115 (by decide) ?_
              exact ih v5 v6 x16 x17 hw ls (lv_sub hl [3, 4, 5, 6, 1, 0] rfl)
            · have hw := ite_f hw c14
              refine lv_iconst (v := 1) hx hb dX4_heardBy_69 (by decide) ?_
              refine lv_goto (tgt := 74) hx hb dX4_heardBy_70 (by decide) ?_
              refine lv_istore (lv' := [(9, .int 1), (0, .ref (a 0)), (3, .int v3), (5, .int v5), (6, .int v6), (7, .int v7), (8, .int v8)]) hx hb dX4_heardBy_74 hl (by decide) rfl (fun ls hl => ?_)
              refine lv_iload hx hb dX4_heardBy_76 (lv_at hl 5 rfl) ?_
              refine lv_iload hx hb dX4_heardBy_78 (lv_at hl 0 rfl) ?_
              refine lv_if_eq (tgt := 108) hx hb dX4_heardBy_80 (by decide) (fun c18 => absurd c18 (by decide)) (fun c18 => ?_)
              refine lv_aload_n hx hb dX4_heardBy_83 rfl (lv_at hl 1 rfl) ?_
              refine lv_aload_n hx hb dX4_heardBy_84 rfl (lv_at hl 1 rfl) ?_
              refine va_get (D := (dC, dI)) (ci := 4) (v := .ref (a 3)) (C := RX4) (T := TX4) (N := 29) hx hb hts iX4 hown hK hP 0 rfl rfl 12 (by decide) (hts _ wd_534) (fun _ h9 => h9) rfl dX4_heardBy_85 ?_
              refine lv_iconst (v := 2) hx hb dX4_heardBy_88 (by decide) ?_
              refine lv_iload hx hb dX4_heardBy_89 (lv_at hl 6 rfl) ?_
              refine lv_imul hx hb dX4_heardBy_91 ?_
              refine lv_iconst (v := 1) hx hb dX4_heardBy_92 (by decide) ?_
              refine lv_iadd hx hb dX4_heardBy_93 ?_
              obtain ⟨h19, hw⟩ := ixc_use hw
              refine va_iald hx hb hK hP 3 0 rfl rfl h19 dX4_heardBy_94 ?_
              refine lv_aload_n hx hb dX4_heardBy_95 rfl (lv_at hl 1 rfl) ?_
              refine lv_iload hx hb dX4_heardBy_96 (lv_at hl 6 rfl) ?_
              obtain ⟨r20, er20, hw⟩ := Option.bind_eq_some_iff.mp hw
              refine vp_callSi (va_runV (As := [.int v8]) (rest := [.int (X.1 3 (Int32.toNatClampNeg ((2 * v8) + 1))), .ref (a 0), .int v7]) ⟨hx, hb, hml, hown, hts⟩ (c_X4_criesOf l dC dI a cA X v8 r20 er20) ⟨callB_of 1 hts gd_X4_criesOf rfl rfl rfl (hts _ wd_39) (hts _ wd_680) hd_X4_criesOf ⟨Nat.le_of_ble_eq_true rfl, Nat.le_of_ble_eq_true rfl⟩, hts _ wd_682, hts _ wd_17⟩ ⟨blM, va_recv hK hP (ci := 4) (q0 := 0) rfl rfl, fun U hU hW => ⟨rfl, by rw [hU]; exact hP, va_K.moved hW.alike hK⟩⟩ rfl rfl hl.1 rfl (lv_room (Nat.le_of_ble_eq_true rfl)) dX4_heardBy_98 ⟨Nat.zero_le _, Nat.zero_le _⟩).run (fun r_ e_ => ?_)
              subst r_
              refine lv_iload_n hx hb dX4_heardBy_101 rfl (lv_at hl 2 rfl) ?_
              obtain ⟨r21, er21, hw⟩ := Option.bind_eq_some_iff.mp hw
              refine vp_callSi (va_runV (As := [.int (X.1 3 (Int32.toNatClampNeg ((2 * v8) + 1))), .int r20, .int v3]) (rest := [.int v7]) ⟨hx, hb, hml, hown, hts⟩ (c_X4_hearing l dC dI a cA X (X.1 3 (Int32.toNatClampNeg ((2 * v8) + 1))) r20 v3 r21 er21) ⟨callB_of 3 hts gd_X4_hearing rfl rfl rfl (hts _ wd_39) (hts _ wd_707) hd_X4_hearing ⟨Nat.le_of_ble_eq_true rfl, Nat.le_of_ble_eq_true rfl⟩, hts _ wd_709, hts _ wd_20⟩ ⟨blM, va_recv hK hP (ci := 4) (q0 := 0) rfl rfl, fun U hU hW => ⟨rfl, by rw [hU]; exact hP, va_K.moved hW.alike hK⟩⟩ rfl rfl hl.1 rfl (lv_room (Nat.le_of_ble_eq_true rfl)) dX4_heardBy_102 ⟨Nat.zero_le _, Nat.zero_le _⟩).run (fun r_ e_ => ?_)
              subst r_
              refine lv_goto (tgt := 109) hx hb dX4_heardBy_105 (by decide) ?_
              refine lv_ior hx hb dX4_heardBy_109 ?_
              refine lv_topi (fun x22 ex22 => ?_)
              have hw := stp_use hw ex22
              refine lv_istore (lv' := [(7, .int x22), (9, .int 1), (0, .ref (a 0)), (3, .int v3), (5, .int v5), (6, .int v6), (8, .int v8)]) hx hb dX4_heardBy_110 hl (by decide) rfl (fun ls hl => ?_)
              obtain ⟨x23, ex23⟩ : ∃ y : Int32, y = (v8 + 1) := ⟨_, rfl⟩
              have hw := stp_use hw ex23
              refine lv_iinc (v := x23) (lv' := [(8, .int x23), (7, .int x22), (9, .int 1), (0, .ref (a 0)), (3, .int v3), (5, .int v5), (6, .int v6)]) hx hb dX4_heardBy_112 hl (k := 6) rfl (by rw [ex23]; rfl) (by decide) rfl (fun ls hl => ?_)
              refine lv_goto (tgt := 30) hx hb dX4_heardBy_115 (by decide) ?_
              exact ih v5 v6 x22 x23 hw ls (lv_sub hl [3, 4, 5, 6, 1, 0] rfl)
  have L16 : ∀ (v3 : Int32), ∀ n : Nat, ∀ (v5 : Int32), ∀ (v6 : Int32), g_X4_heardBy_16 X v3 n v5 v6 = some out → ∀ ls : Array Slot, lv_has ls 10 [(0, .ref (a 0)), (3, .int v3), (5, .int v5), (6, .int v6)] → W p l e ({ frames := 2, cells := 0, slots := 0, locals := 49 }) s m (([.ref (a 0), .int p1, .int p2, .int p3, .int p4] : List Value).toArray) below meth c s.heap [] 0 0 Q (F0 m 16 ls []) := by
    intro v3 n
    induction n with
    | zero =>
      intro v5 v6 hw
      rw [g_X4_heardBy_16] at hw
      cases hw
    | succ n ih =>
      intro v5 v6 hw ls hl
      rw [g_X4_heardBy_16] at hw
      refine lv_iload hx hb dX4_heardBy_16 (lv_at hl 3 rfl) ?_
      refine lv_iload hx hb dX4_heardBy_18 (lv_at hl 2 rfl) ?_
      refine lv_icmp_eq (tgt := 129) hx hb dX4_heardBy_20 (by decide) (fun c3 => ?_) (fun c3 => ?_)
      · have hw := ite_t hw c3
        refine lv_iload hx hb dX4_heardBy_129 (lv_at hl 2 rfl) ?_
        exact hret _ _ _ (Option.some.inj hw) dX4_heardBy_131
      · have hw := ite_f hw c3
        refine lv_iload hx hb dX4_heardBy_23 (lv_at hl 2 rfl) ?_
        refine lv_istore (lv' := [(7, .int v5), (0, .ref (a 0)), (3, .int v3), (5, .int v5), (6, .int v6)]) hx hb dX4_heardBy_25 hl (by decide) rfl (fun ls hl => ?_)
        refine lv_iconst (v := 0) hx hb dX4_heardBy_27 (by decide) ?_
        refine lv_istore (lv' := [(8, .int 0), (7, .int v5), (0, .ref (a 0)), (3, .int v3), (5, .int v5), (6, .int v6)]) hx hb dX4_heardBy_28 hl (by decide) rfl (fun ls hl => ?_)
        exact L30 v3 _ ih NF v5 v6 v5 0 hw ls (lv_sub hl [2, 3, 4, 5, 1, 0] rfl)
  have hl := lv_entry ([.ref (a 0), .int p1, .int p2, .int p3, .int p4]) (n := 10) (Nat.le_of_ble_eq_true rfl)
  rw [lg_entry_eq]
  generalize (lg_sl ([.ref (a 0), .int p1, .int p2, .int p3, .int p4]) ++ List.replicate (10 - (lg_sl ([.ref (a 0), .int p1, .int p2, .int p3, .int p4])).length) Slot.unset).toArray = ls at hl ⊢
  have hl : lv_has ls 10 [(0, .ref (a 0)), (1, .int p1), (2, .int p2), (3, .int p3), (4, .int p4)] := hl
  refine lv_iload hx hb dX4_heardBy_0 (lv_at hl 4 rfl) ?_
  refine lv_aload_n hx hb dX4_heardBy_2 rfl (lv_at hl 0 rfl) ?_
  refine lv_iload_n hx hb dX4_heardBy_3 rfl (lv_at hl 1 rfl) ?_
  refine lv_iload_n hx hb dX4_heardBy_4 rfl (lv_at hl 2 rfl) ?_
  refine lv_iload_n hx hb dX4_heardBy_5 rfl (lv_at hl 3 rfl) ?_
  obtain ⟨r1, er1, hw⟩ := Option.bind_eq_some_iff.mp hw
  refine vp_callSi (va_runV (As := [.int p1, .int p2, .int p3]) (rest := [.int p4]) ⟨hx, hb, hml, hown, hts⟩ (c_X4_hearing l dC dI a cA X p1 p2 p3 r1 er1) ⟨callB_of 3 hts gd_X4_hearing rfl rfl rfl (hts _ wd_39) (hts _ wd_707) hd_X4_hearing ⟨Nat.le_of_ble_eq_true rfl, Nat.le_of_ble_eq_true rfl⟩, hts _ wd_709, hts _ wd_20⟩ ⟨blM, va_recv hK hP (ci := 4) (q0 := 0) rfl rfl, fun U hU hW => ⟨rfl, by rw [hU]; exact hP, va_K.moved hW.alike hK⟩⟩ rfl rfl hl.1 rfl (lv_room (Nat.le_of_ble_eq_true rfl)) dX4_heardBy_6 ⟨Nat.zero_le _, Nat.zero_le _⟩).run (fun r_ e_ => ?_)
  subst r_
  refine lv_ior hx hb dX4_heardBy_9 ?_
  refine lv_topi (fun x2 ex2 => ?_)
  have hw := stp_use hw ex2
  refine lv_istore (lv' := [(5, .int x2), (0, .ref (a 0)), (1, .int p1), (2, .int p2), (3, .int p3), (4, .int p4)]) hx hb dX4_heardBy_10 hl (by decide) rfl (fun ls hl => ?_)
  refine lv_iload hx hb dX4_heardBy_12 (lv_at hl 5 rfl) ?_
  refine lv_istore (lv' := [(6, .int p4), (5, .int x2), (0, .ref (a 0)), (1, .int p1), (2, .int p2), (3, .int p3), (4, .int p4)]) hx hb dX4_heardBy_14 hl (by decide) rfl (fun ls hl => ?_)
  exact L16 p3 NF x2 p4 hw ls (lv_sub hl [2, 5, 1, 0] rfl)
