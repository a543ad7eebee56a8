set_option maxHeartbeats 4000000 in
set_option maxRecDepth 100000 in
theorem c_X0_bestAsked (l : Launch) (dC : Nat → ClassId) (dI : Nat → Nat → Nat) (a : Nat → Nat) (cA : ClassId) (X : WS) (p1 : Int32) (out : Int32) (hw : f_X0_bestAsked X p1 = some out) : Met l yX0_bestAsked (.code yX0_bestAsked cX0_bestAsked 6 (some .int) :: lw_g) ({ frames := 1, cells := 0, slots := 0, locals := 60 }) (PcX dC dI a cA X [.ref (a 15), .int p1]) (vp_Si (fun r_ => r_ = out)) 0 0 (fun _ => False) := by
  unfold f_X0_bestAsked at hw
  refine Met.ofW (cc := cX0_bestAsked) (maxL := 6) (ret := (some .int)) (by decide) rfl ?_
  intro p e s m args below meth c s₁ B hml hv
  obtain ⟨rfl, hP, hK, hN⟩ := hv
  have hx := B.exec
  have hb := B.bytes
  have hr := B.returns
  have hts0 := atoms_spec (ws := (.code yX0_bestAsked cX0_bestAsked 6 (some .int) :: lw_g)) B.pre
  have hts : ∀ w ∈ lw_g, w.before (([.ref (a 15), .int p1] : List Value).toArray) s = true := fun w h => hts0 w (List.mem_cons_of_mem _ h)
  clear hts0
  have hown : s.vm.findClass RX0 = some m.cls := findClass_of_methodNamed B.named
  have hlocks := B.notSynchronized
  have hret : ∀ (pc : Nat) (ls : Array Slot) (v : Int32), v = out → decode cX0_bestAsked pc = .ok (.ireturn, 1) → W p l e ({ frames := 1, cells := 0, slots := 0, locals := 60 }) s m (([.ref (a 15), .int p1] : List Value).toArray) below meth c s.heap [] 0 0 (MQ below (vp_Si (fun r_ => r_ = out)) (([.ref (a 15), .int p1] : List Value).toArray) s 0 0 (fun _ => False)) (F0 m pc ls [.int v]) := fun pc ls v hv hd => W.iret hx hb hr (fun t ht hW => ⟨v, rfl, hv, ht⟩) (fun q hq => absurd hq List.not_mem_nil) hd
  show W p l e ({ frames := 1, cells := 0, slots := 0, locals := 60 }) s m (([.ref (a 15), .int p1] : List Value).toArray) below meth c s.heap [] 0 0 (MQ below (vp_Si (fun r_ => r_ = out)) (([.ref (a 15), .int p1] : List Value).toArray) s 0 0 (fun _ => False)) (entryFrame m (([.ref (a 15), .int p1] : List Value).toArray) 6)
  generalize MQ below (vp_Si (fun r_ => r_ = out)) (([.ref (a 15), .int p1] : List Value).toArray) s 0 0 (fun _ => False) = Q at hret ⊢
  have L10 : ∀ (v1 : Int32), ∀ n : Nat, ∀ (v2 : Int32), ∀ (v3 : Int32), ∀ (v4 : Int32), g_X0_bestAsked_10 X v1 n v2 v3 v4 = some out → ∀ ls : Array Slot, lv_has ls 6 [(0, .ref (a 15)), (1, .int v1), (2, .int v2), (3, .int v3), (4, .int v4)] → W p l e ({ frames := 1, cells := 0, slots := 0, locals := 60 }) s m (([.ref (a 15), .int p1] : List Value).toArray) below meth c s.heap [] 0 0 Q (F0 m 10 ls []) := by
    intro v1 n
    induction n with
    | zero =>
      intro v2 v3 v4 hw
      rw [g_X0_bestAsked_10] at hw
      cases hw
    | succ n ih =>
      intro v2 v3 v4 hw ls hl
      rw [g_X0_bestAsked_10] at hw
      refine lv_iload hx hb dX0_bestAsked_10 (lv_at hl 4 rfl) ?_
      refine lv_iload_n hx hb dX0_bestAsked_12 rfl (lv_at hl 1 rfl) ?_
      refine lv_icmp_ge (tgt := 77) hx hb dX0_bestAsked_13 (by decide) (fun c2 => ?_) (fun c2 => ?_)
      · have hw := ite_t hw c2
        refine lv_iload_n hx hb dX0_bestAsked_77 rfl (lv_at hl 2 rfl) ?_
        exact hret _ _ _ (Option.some.inj hw) dX0_bestAsked_78
      · have hw := ite_f hw c2
        refine lv_iload hx hb dX0_bestAsked_16 (lv_at hl 4 rfl) ?_
        refine lv_bipush (v := 6) hx hb dX0_bestAsked_18 (by decide) ?_
        refine lv_icmp_ge (tgt := 77) hx hb dX0_bestAsked_20 (by decide) (fun c3 => ?_) (fun c3 => ?_)
        · have hw := ite_t hw c3
          refine lv_iload_n hx hb dX0_bestAsked_77 rfl (lv_at hl 2 rfl) ?_
          exact hret _ _ _ (Option.some.inj hw) dX0_bestAsked_78
        · have hw := ite_f hw c3
          refine lv_aload_n hx hb dX0_bestAsked_23 rfl (lv_at hl 0 rfl) ?_
          refine va_get (D := (dC, dI)) (ci := 0) (v := .int (X 15 3)) (C := RX0) (T := TX0) (N := 8) hx hb hts iX0 hown hK hP 15 rfl rfl 3 (by decide) (hts _ wd_151) (fun _ h9 => h9) rfl dX0_bestAsked_24 ?_
          refine lv_if_le (tgt := 77) hx hb dX0_bestAsked_27 (by decide) (fun c4 => ?_) (fun c4 => ?_)
          · have hw := ite_t hw c4
            refine lv_iload_n hx hb dX0_bestAsked_77 rfl (lv_at hl 2 rfl) ?_
            exact hret _ _ _ (Option.some.inj hw) dX0_bestAsked_78
          · have hw := ite_f hw c4
            refine lv_aload_n hx hb dX0_bestAsked_30 rfl (lv_at hl 0 rfl) ?_
            refine va_get (D := (dC, dI)) (ci := 0) (v := .ref (a 16)) (C := RX0) (T := TX0) (N := 8) hx hb hts iX0 hown hK hP 15 rfl rfl 0 (by decide) (hts _ wd_146) (fun _ h9 => h9) rfl dX0_bestAsked_31 ?_
            refine lv_iload hx hb dX0_bestAsked_34 (lv_at hl 4 rfl) ?_
            obtain ⟨h5, hw⟩ := ixc_use hw
            refine va_iald hx hb hK hP 16 0 rfl rfl h5 dX0_bestAsked_36 ?_
            refine lv_aload_n hx hb dX0_bestAsked_37 rfl (lv_at hl 0 rfl) ?_
            refine va_get (D := (dC, dI)) (ci := 0) (v := .int (X 15 3)) (C := RX0) (T := TX0) (N := 8) hx hb hts iX0 hown hK hP 15 rfl rfl 3 (by decide) (hts _ wd_151) (fun _ h9 => h9) rfl dX0_bestAsked_38 ?_
            refine lv_aload_n hx hb dX0_bestAsked_41 rfl (lv_at hl 0 rfl) ?_
            refine va_get (D := (dC, dI)) (ci := 0) (v := .ref (a 16)) (C := RX0) (T := TX0) (N := 8) hx hb hts iX0 hown hK hP 15 rfl rfl 0 (by decide) (hts _ wd_146) (fun _ h9 => h9) rfl dX0_bestAsked_42 ?_
            refine lv_iload hx hb dX0_bestAsked_45 (lv_at hl 4 rfl) ?_
            obtain ⟨h6, hw⟩ := ixc_use hw
            refine va_iald hx hb hK hP 16 0 rfl rfl h6 dX0_bestAsked_47 ?_
            refine lv_isub hx hb dX0_bestAsked_48 ?_
            obtain ⟨r7, er7, hw⟩ := Option.bind_eq_some_iff.mp hw
            have er7 : (if (X 16 (Int32.toNatClampNeg v4)) < ((X 15 3) - (X 16 (Int32.toNatClampNeg v4))) then ((X 15 3) - (X 16 (Int32.toNatClampNeg v4))) else (X 16 (Int32.toNatClampNeg v4))) = r7 := mm_use er7
            refine va_mmax hx hb (by rw [hml]; exact hl.1.symm) hown (hts _ wd_450) (hts _ wd_451) (hts _ wd_41) (hts _ wd_452) (Nat.le_of_ble_eq_true rfl) (Nat.le_of_ble_eq_true rfl) (Nat.zero_le _) (Nat.zero_le _) dX0_bestAsked_49 ?_
            rw [er7]
            refine lv_istore (lv' := [(5, .int r7), (0, .ref (a 15)), (1, .int v1), (2, .int v2), (3, .int v3), (4, .int v4)]) hx hb dX0_bestAsked_52 hl (by decide) rfl (fun ls hl => ?_)
            refine lv_iload_n hx hb dX0_bestAsked_54 rfl (lv_at hl 3 rfl) ?_
            refine lv_iconst (v := (-1)) hx hb dX0_bestAsked_55 (by decide) ?_
            refine lv_icmp_eq (tgt := 65) hx hb dX0_bestAsked_56 (by decide) (fun c8 => ?_) (fun c8 => ?_)
            · have hw := ite_t hw c8
              refine lv_iload hx hb dX0_bestAsked_65 (lv_at hl 5 rfl) ?_
              refine lv_istore_n (lv' := [(2, .int v4), (5, .int r7), (0, .ref (a 15)), (1, .int v1), (3, .int v3), (4, .int v4)]) hx hb dX0_bestAsked_67 rfl hl (by decide) rfl (fun ls hl => ?_)
              refine lv_iload hx hb dX0_bestAsked_68 (lv_at hl 1 rfl) ?_
              refine lv_istore_n (lv' := [(3, .int r7), (2, .int v4), (5, .int r7), (0, .ref (a 15)), (1, .int v1), (4, .int v4)]) hx hb dX0_bestAsked_70 rfl hl (by decide) rfl (fun ls hl => ?_)
              obtain ⟨x9, ex9⟩ : ∃ y : Int32, y = (v4 + 1) := ⟨_, rfl⟩
              have hw := stp_use hw ex9
              refine lv_iinc (v := x9) (lv' := [(4, .int x9), (3, .int r7), (2, .int v4), (5, .int r7), (0, .ref (a 15)), (1, .int v1)]) hx hb dX0_bestAsked_71 hl (k := 5) rfl (by rw [ex9]; rfl) (by decide) rfl (fun ls hl => ?_)
              refine lv_goto (tgt := 10) hx hb dX0_bestAsked_74 (by decide) ?_
              exact ih v4 r7 x9 hw ls (lv_sub hl [4, 5, 2, 1, 0] rfl)
            · have hw := ite_f hw c8
              refine lv_iload hx hb dX0_bestAsked_59 (lv_at hl 0 rfl) ?_
              refine lv_iload_n hx hb dX0_bestAsked_61 rfl (lv_at hl 4 rfl) ?_
              refine lv_icmp_ge (tgt := 71) hx hb dX0_bestAsked_62 (by decide) (fun c10 => ?_) (fun c10 => ?_)
              · have hw := ite_t hw c10
                obtain ⟨x11, ex11⟩ : ∃ y : Int32, y = (v4 + 1) := ⟨_, rfl⟩
                have hw := stp_use hw ex11
                refine lv_iinc (v := x11) (lv' := [(4, .int x11), (5, .int r7), (0, .ref (a 15)), (1, .int v1), (2, .int v2), (3, .int v3)]) hx hb dX0_bestAsked_71 hl (k := 5) rfl (by rw [ex11]; rfl) (by decide) rfl (fun ls hl => ?_)
                refine lv_goto (tgt := 10) hx hb dX0_bestAsked_74 (by decide) ?_
                exact ih v2 v3 x11 hw ls (lv_sub hl [2, 3, 4, 5, 0] rfl)
              · have hw := ite_f hw c10
                refine lv_iload hx hb dX0_bestAsked_65 (lv_at hl 5 rfl) ?_
                refine lv_istore_n (lv' := [(2, .int v4), (5, .int r7), (0, .ref (a 15)), (1, .int v1), (3, .int v3), (4, .int v4)]) hx hb dX0_bestAsked_67 rfl hl (by decide) rfl (fun ls hl => ?_)
                refine lv_iload hx hb dX0_bestAsked_68 (lv_at hl 1 rfl) ?_
                refine lv_istore_n (lv' := [(3, .int r7), (2, .int v4), (5, .int r7), (0, .ref (a 15)), (1, .int v1), (4, .int v4)]) hx hb dX0_bestAsked_70 rfl hl (by decide) rfl (fun ls hl => ?_)
                obtain ⟨x12, ex12⟩ : ∃ y : Int32, y = (v4 + 1) := ⟨_, rfl⟩
                have hw := stp_use hw ex12
                refine lv_iinc (v := x12) (lv' := [(4, .int x12), (3, .int r7), (2, .int v4), (5, .int r7), (0, .ref (a 15)), (1, .int v1)]) hx hb dX0_bestAsked_71 hl (k := 5) rfl (by rw [ex12]; rfl) (by decide) rfl (fun ls hl => ?_)
                refine lv_goto (tgt := 10) hx hb dX0_bestAsked_74 (by decide) ?_
                exact ih v4 r7 x12 hw ls (lv_sub hl [4, 5, 2, 1, 0] rfl)
  have hl := lv_entry ([.ref (a 15), .int p1]) (n := 6) (Nat.le_of_ble_eq_true rfl)
  rw [lg_entry_eq]
  generalize (lg_sl ([.ref (a 15), .int p1]) ++ List.replicate (6 - (lg_sl ([.ref (a 15), .int p1])).length) Slot.unset).toArray = ls at hl ⊢
  have hl : lv_has ls 6 [(0, .ref (a 15)), (1, .int p1)] := hl
  refine lv_iconst (v := (-1)) hx hb dX0_bestAsked_0 (by decide) ?_
  refine lv_istore_n (lv' := [(2, .int (-1)), (0, .ref (a 15)), (1, .int p1)]) hx hb dX0_bestAsked_1 rfl hl (by decide) rfl (fun ls hl => ?_)
  refine lv_aload_n hx hb dX0_bestAsked_2 rfl (lv_at hl 1 rfl) ?_
  refine va_get (D := (dC, dI)) (ci := 0) (v := .int (X 15 3)) (C := RX0) (T := TX0) (N := 8) hx hb hts iX0 hown hK hP 15 rfl rfl 3 (by decide) (hts _ wd_151) (fun _ h9 => h9) rfl dX0_bestAsked_3 ?_
  refine lv_topi (fun x1 ex1 => ?_)
  have hw := stp_use hw ex1
  refine lv_istore_n (lv' := [(3, .int x1), (2, .int (-1)), (0, .ref (a 15)), (1, .int p1)]) hx hb dX0_bestAsked_6 rfl hl (by decide) rfl (fun ls hl => ?_)
  refine lv_iconst (v := 0) hx hb dX0_bestAsked_7 (by decide) ?_
  refine lv_istore (lv' := [(4, .int 0), (3, .int x1), (2, .int (-1)), (0, .ref (a 15)), (1, .int p1)]) hx hb dX0_bestAsked_8 hl (by decide) rfl (fun ls hl => ?_)
  exact L10 p1 NF (-1) x1 0 hw ls (lv_sub hl [3, 4, 2, 1, 0] rfl)
set_option maxHeartbeats 4000000 in
set_option maxRecDepth 100000 in
theorem c_X3_ask (l : Launch) (dC : Nat → ClassId) (dI : Nat → Nat → Nat) (A : Nat → Prop) (a : Nat → Nat) (cA : ClassId) (X : WS) (out : (Int32 × WS)) (hw : f_X3_ask X = some out) : Met l yX3_ask (.code yX3_ask cX3_ask 1 (some .int) :: lw_g) ({ frames := 4, cells := 0, slots := 0, locals := 101 }) (PcXD dC dI A a cA X [.ref (a 0)]) (va_Qi (fun (r_ : Int32) (X_ : WS) => out = (r_, X_)) (fun X_ t => va_P (dC, dI) classes (wl a cA X_) t.heap ∧ va_K (dC, dI) classes [(cA, .int)] t) A) 0 0 (A) := by
  unfold f_X3_ask at hw
  refine Met.ofW (cc := cX3_ask) (maxL := 1) (ret := (some .int)) (by decide) rfl ?_
  intro p e s m args below meth c s₁ B hml hv
  obtain ⟨rfl, hP, hK, hN, hD0⟩ := hv
  have hx := B.exec
  have hb := B.bytes
  have hr := B.returns
  have hts0 := atoms_spec (ws := (.code yX3_ask cX3_ask 1 (some .int) :: lw_g)) B.pre
  have hts : ∀ w ∈ lw_g, w.before (([.ref (a 0)] : List Value).toArray) s = true := fun w h => hts0 w (List.mem_cons_of_mem _ h)
  clear hts0
  have hown : s.vm.findClass RX3 = some m.cls := findClass_of_methodNamed B.named
  have hlocks := B.notSynchronized
  have hret : ∀ (pc : Nat) (ls : Array Slot) (v : Int32) (X_ : WS) (H : Heap) (locs : List Loc), (v, X_) = out → va_P (dC, dI) classes (wl a cA X_) H → va_S A s.heap H locs → decode cX3_ask pc = .ok (.ireturn, 1) → W p l e ({ frames := 4, cells := 0, slots := 0, locals := 101 }) s m (([.ref (a 0)] : List Value).toArray) below meth c H locs 0 0 (MQ below (va_Qi (fun (r_ : Int32) (X_ : WS) => out = (r_, X_)) (fun X_ t => va_P (dC, dI) classes (wl a cA X_) t.heap ∧ va_K (dC, dI) classes [(cA, .int)] t) A) (([.ref (a 0)] : List Value).toArray) s 0 0 (A)) (F0 m pc ls [.int v]) := fun pc ls v X_ H locs hv hP hS hd => W.iret hx hb hr (fun t ht hW => ⟨⟨v, X_, rfl, hv.symm, by rw [ht]; exact hP, va_K.moved hW.alike hK⟩, hS.F ht⟩) hS.2.2 hd
  show W p l e ({ frames := 4, cells := 0, slots := 0, locals := 101 }) s m (([.ref (a 0)] : List Value).toArray) below meth c s.heap [] 0 0 (MQ below (va_Qi (fun (r_ : Int32) (X_ : WS) => out = (r_, X_)) (fun X_ t => va_P (dC, dI) classes (wl a cA X_) t.heap ∧ va_K (dC, dI) classes [(cA, .int)] t) A) (([.ref (a 0)] : List Value).toArray) s 0 0 (A)) (entryFrame m (([.ref (a 0)] : List Value).toArray) 1)
  generalize MQ below (va_Qi (fun (r_ : Int32) (X_ : WS) => out = (r_, X_)) (fun X_ t => va_P (dC, dI) classes (wl a cA X_) t.heap ∧ va_K (dC, dI) classes [(cA, .int)] t) A) (([.ref (a 0)] : List Value).toArray) s 0 0 (A) = Q at hret ⊢
  have hS : va_S A s.heap s.heap [] := va_S.rf
  have hl := lv_entry ([.ref (a 0)]) (n := 1) (Nat.le_of_ble_eq_true rfl)
  rw [lg_entry_eq]
  generalize (lg_sl ([.ref (a 0)]) ++ List.replicate (1 - (lg_sl ([.ref (a 0)])).length) Slot.unset).toArray = ls at hl ⊢
  have hl : lv_has ls 1 [(0, .ref (a 0))] := hl
  refine lv_aload_n hx hb dX3_ask_0 rfl (lv_at hl 0 rfl) ?_
  obtain ⟨r1, er1, hw⟩ := Option.bind_eq_some_iff.mp hw
  refine vp_callSi (va_runV (As := []) (rest := []) ⟨hx, hb, hml, hown, hts⟩ (c_X3_hasTown l dC dI a cA X r1 er1) ⟨callB_of 0 hts gd_X3_hasTown rfl rfl rfl (hts _ wd_35) (hts _ wd_257) hd_X3_hasTown ⟨Nat.le_of_ble_eq_true rfl, Nat.le_of_ble_eq_true rfl⟩, hts _ wd_259, hts _ wd_1⟩ ⟨blX, va_recv hK hP (ci := 3) (q0 := 0) rfl rfl, fun U hU hW => ⟨rfl, by rw [hU]; exact hP, va_K.moved hW.alike hK, nst.warm hW hN⟩⟩ rfl rfl hl.1 rfl (lv_room (Nat.le_of_ble_eq_true rfl)) dX3_ask_1 ⟨Nat.zero_le _, Nat.zero_le _⟩).run (fun r_ e_ => ?_)
  subst r_
  refine lv_if_ne (tgt := 10) hx hb dX3_ask_4 (by decide) (fun c2 => ?_) (fun c2 => ?_)
  · have hw := ite_f hw c2
    refine lv_aload_n hx hb dX3_ask_10 rfl (lv_at hl 0 rfl) ?_
    refine va_get (D := (dC, dI)) (ci := 3) (v := .ref (a 15)) (C := RX3) (T := TX3) (N := 6) hx hb hts iX3 hown hK hP 0 rfl rfl 3 (by decide) (hts _ wd_181) (fun _ h9 => h9) rfl dX3_ask_11 ?_
    refine lv_aload_n hx hb dX3_ask_14 rfl (lv_at hl 0 rfl) ?_
    refine va_get (D := (dC, dI)) (ci := 3) (v := .ref (a 3)) (C := RX3) (T := TX3) (N := 6) hx hb hts iX3 hown hK hP 0 rfl rfl 1 (by decide) (hts _ wd_179) (fun _ h9 => h9) rfl dX3_ask_15 ?_
    obtain ⟨X3, eX3, hw⟩ := Option.bind_eq_some_iff.mp hw
    refine va_callv (va_runV (As := [.ref (a 3)]) (rest := []) ⟨hx, hb, hml, hown, hts⟩ (c_X0_seek l dC dI A a cA X X3 eX3) ⟨callB_of 1 hts gd_X0_seek rfl rfl rfl (hts _ wd_38) (hts _ wd_430) hd_X0_seek ⟨Nat.le_of_ble_eq_true rfl, Nat.le_of_ble_eq_true rfl⟩, hts _ wd_431, hts _ wd_432⟩ ⟨blXD, va_recv hK hP (ci := 0) (q0 := 15) rfl rfl, fun U hU hW => ⟨rfl, by rw [hU]; exact hP, va_K.moved hW.alike hK, nst.warm hW hN, wlD hD0⟩⟩ rfl rfl hl.1 rfl (lv_room (Nat.le_of_ble_eq_true rfl)) dX3_ask_18 ⟨Nat.zero_le _, Nat.zero_le _⟩) hS (fun _ _ h => h) (fun _ h => h) (fun u_ t_ H1 locs1 ht hvm hp_ hB hz1 hk1 hS1 => ?_)
    subst hp_
    obtain ⟨hP1, hK1⟩ := hB
    rw [ht] at hP1
    have hP := hP1
    have hS := hS1
    refine lv_aload_n hx hb dX3_ask_21 rfl (lv_at hl 0 rfl) ?_
    refine va_get (D := (dC, dI)) (ci := 3) (v := .ref (a 15)) (C := RX3) (T := TX3) (N := 6) hx hb hts iX3 hown hK hP 0 rfl rfl 3 (by decide) (hts _ wd_181) (fun _ h9 => h9) rfl dX3_ask_22 ?_
    refine lv_aload_n hx hb dX3_ask_25 rfl (lv_at hl 0 rfl) ?_
    refine va_get (D := (dC, dI)) (ci := 3) (v := .ref (a 3)) (C := RX3) (T := TX3) (N := 6) hx hb hts iX3 hown hK hP 0 rfl rfl 1 (by decide) (hts _ wd_179) (fun _ h9 => h9) rfl dX3_ask_26 ?_
    refine va_getN (D := (dC, dI)) (ci := 2) (v := .int (X3 3 5)) (C := RX2) (T := TX2) (N := 17) hx hb hts iX2 hown hK hP 3 rfl rfl 5 (by decide) (va_Nw.use rfl (hN _ nk_84)) (fun _ h9 => h9) rfl dX3_ask_29 ?_
    obtain ⟨r4, er4, hw⟩ := Option.bind_eq_some_iff.mp hw
    refine vp_callSi (va_runV (As := [.int (X3 3 5)]) (rest := []) ⟨hx, hb, hml, hown, hts⟩ (c_X0_bestAsked l dC dI a cA X3 (X3 3 5) r4 er4) ⟨callB_of 1 hts gd_X0_bestAsked rfl rfl rfl (hts _ wd_38) (hts _ wd_446) hd_X0_bestAsked ⟨Nat.le_of_ble_eq_true rfl, Nat.le_of_ble_eq_true rfl⟩, hts _ wd_447, hts _ wd_448⟩ ⟨blX, va_recv hK hP (ci := 0) (q0 := 15) rfl rfl, fun U hU hW => ⟨rfl, by rw [hU]; exact hP, va_K.moved hW.alike hK, nst.warm hW hN⟩⟩ rfl rfl hl.1 rfl (lv_room (Nat.le_of_ble_eq_true rfl)) dX3_ask_32 ⟨Nat.zero_le _, Nat.zero_le _⟩).run (fun r_ e_ => ?_)
    subst r_
    exact hret _ _ _ _ _ _ (Option.some.inj hw) hP hS dX3_ask_35
  · have hw := ite_t hw c2
    refine lv_bipush (v := (-103)) hx hb dX3_ask_7 (by decide) ?_
    exact hret _ _ _ _ _ _ (Option.some.inj hw) hP hS dX3_ask_9
set_option maxHeartbeats 4000000 in
set_option maxRecDepth 100000 in
theorem c_X4_askOf (l : Launch) (dC : Nat → ClassId) (dI : Nat → Nat → Nat) (a : Nat → Nat) (cA : ClassId) (X : MS) (out : Int32) (hw : f_X4_askOf X = some out) : Met l yX4_askOf (.code yX4_askOf cX4_askOf 8 (some .int) :: lw_g) ({ frames := 6, cells := 0, slots := 0, locals := 149 }) (PcM dC dI a cA X [.ref (a 0)]) (vp_Si (fun r_ => r_ = out)) 0 0 (fun _ => False) := by
  unfold f_X4_askOf at hw
  refine Met.ofW (cc := cX4_askOf) (maxL := 8) (ret := (some .int)) (by decide) rfl ?_
  intro p e s m args below meth c s₁ B hml hv
  obtain ⟨rfl, hP, hK⟩ := hv
  have hx := B.exec
  have hb := B.bytes
  have hr := B.returns
  have hts0 := atoms_spec (ws := (.code yX4_askOf cX4_askOf 8 (some .int) :: lw_g)) B.pre
  have hts : ∀ w ∈ lw_g, w.before (([.ref (a 0)] : List Value).toArray) s = true := fun w h => hts0 w (List.mem_cons_of_mem _ h)
  clear hts0
  have hown : s.vm.findClass RX4 = some m.cls := findClass_of_methodNamed B.named
  have hlocks := B.notSynchronized
  have hret : ∀ (pc : Nat) (ls : Array Slot) (v : Int32), v = out → decode cX4_askOf pc = .ok (.ireturn, 1) → W p l e ({ frames := 6, cells := 0, slots := 0, locals := 149 }) s m (([.ref (a 0)] : List Value).toArray) below meth c s.heap [] 0 0 (MQ below (vp_Si (fun r_ => r_ = out)) (([.ref (a 0)] : List Value).toArray) s 0 0 (fun _ => False)) (F0 m pc ls [.int v]) := fun pc ls v hv hd => W.iret hx hb hr (fun t ht hW => ⟨v, rfl, hv, ht⟩) (fun q hq => absurd hq List.not_mem_nil) hd
  show W p l e ({ frames := 6, cells := 0, slots := 0, locals := 149 }) s m (([.ref (a 0)] : List Value).toArray) below meth c s.heap [] 0 0 (MQ below (vp_Si (fun r_ => r_ = out)) (([.ref (a 0)] : List Value).toArray) s 0 0 (fun _ => False)) (entryFrame m (([.ref (a 0)] : List Value).toArray) 8)
  generalize MQ below (vp_Si (fun r_ => r_ = out)) (([.ref (a 0)] : List Value).toArray) s 0 0 (fun _ => False) = Q at hret ⊢
  have L33 : ∀ (v1 : Int32), ∀ (k14 : Int32 → Int32 → Int32 → Option Int32), (∀ (v2 : Int32), ∀ (v3 : Int32), ∀ (v4 : Int32), k14 v2 v3 v4 = some out → ∀ ls : Array Slot, lv_has ls 8 [(0, .ref (a 0)), (1, .int v1), (2, .int v2), (3, .int v3), (4, .int v4)] → W p l e ({ frames := 6, cells := 0, slots := 0, locals := 149 }) s m (([.ref (a 0)] : List Value).toArray) below meth c s.heap [] 0 0 Q (F0 m 14 ls [])) → ∀ n : Nat, ∀ (v2 : Int32), ∀ (v3 : Int32), ∀ (v4 : Int32), ∀ (v5 : Int32), ∀ (v6 : Int32), g_X4_askOf_33 X k14 v1 n v2 v3 v4 v5 v6 = some out → ∀ ls : Array Slot, lv_has ls 8 [(0, .ref (a 0)), (1, .int v1), (2, .int v2), (3, .int v3), (4, .int v4), (5, .int v5), (6, .int v6)] → W p l e ({ frames := 6, cells := 0, slots := 0, locals := 149 }) s m (([.ref (a 0)] : List Value).toArray) below meth c s.heap [] 0 0 Q (F0 m 33 ls []) := by
    intro v1 k14 hk14 n
    induction n with
    | zero =>
      intro v2 v3 v4 v5 v6 hw
      rw [g_X4_askOf_33] at hw
      cases hw
    | succ n ih =>
      intro v2 v3 v4 v5 v6 hw ls hl
      rw [g_X4_askOf_33] at hw
      refine lv_iload hx hb dX4_askOf_33 (lv_at hl 6 rfl) ?_
      refine lv_bipush (v := 60) hx hb dX4_askOf_35 (by decide) ?_
      refine lv_icmp_ge (tgt := 104) hx hb dX4_askOf_37 (by decide) (fun c4 => ?_) (fun c4 => ?_)
      · have hw := ite_t hw c4
        refine lv_iload hx hb dX4_askOf_104 (lv_at hl 5 rfl) ?_
        refine lv_iload_n hx hb dX4_askOf_106 rfl (lv_at hl 1 rfl) ?_
        refine lv_iload hx hb dX4_askOf_107 (lv_at hl 5 rfl) ?_
        refine lv_isub hx hb dX4_askOf_109 ?_
        refine lv_icmp_le (tgt := 118) hx hb dX4_askOf_110 (by decide) (fun c5 => ?_) (fun c5 => ?_)
        · have hw := ite_t hw c5
          refine lv_iload_n hx hb dX4_askOf_118 rfl (lv_at hl 1 rfl) ?_
          refine lv_iload hx hb dX4_askOf_119 (lv_at hl 5 rfl) ?_
          refine lv_isub hx hb dX4_askOf_121 ?_
          refine lv_topi (fun x6 ex6 => ?_)
          have hw := stp_use hw ex6
          refine lv_istore (lv' := [(6, .int x6), (0, .ref (a 0)), (1, .int v1), (2, .int v2), (3, .int v3), (4, .int v4), (5, .int v5)]) hx hb dX4_askOf_122 hl (by decide) rfl (fun ls hl => ?_)
          refine lv_iload hx hb dX4_askOf_124 (lv_at hl 0 rfl) ?_
          refine lv_iload_n hx hb dX4_askOf_126 rfl (lv_at hl 4 rfl) ?_
          refine lv_icmp_ge (tgt := 135) hx hb dX4_askOf_127 (by decide) (fun c7 => ?_) (fun c7 => ?_)
          · have hw := ite_t hw c7
            refine lv_iload_n hx hb dX4_askOf_135 rfl (lv_at hl 3 rfl) ?_
            refine lv_istore_n (lv' := [(2, .int v2), (6, .int x6), (0, .ref (a 0)), (1, .int v1), (3, .int v3), (4, .int v4), (5, .int v5)]) hx hb dX4_askOf_136 rfl hl (by decide) rfl (fun ls hl => ?_)
            refine lv_iload hx hb dX4_askOf_137 (lv_at hl 1 rfl) ?_
            refine lv_iload_n hx hb dX4_askOf_139 rfl (lv_at hl 4 rfl) ?_
            refine lv_icmp_ge (tgt := 148) hx hb dX4_askOf_140 (by decide) (fun c8 => ?_) (fun c8 => ?_)
            · have hw := ite_t hw c8
              refine lv_iload_n hx hb dX4_askOf_148 rfl (lv_at hl 4 rfl) ?_
              refine lv_istore_n (lv' := [(3, .int v3), (2, .int v2), (6, .int x6), (0, .ref (a 0)), (1, .int v1), (4, .int v4), (5, .int v5)]) hx hb dX4_askOf_149 rfl hl (by decide) rfl (fun ls hl => ?_)
              obtain ⟨x9, ex9⟩ : ∃ y : Int32, y = (v4 + 1) := ⟨_, rfl⟩
              have hw := stp_use hw ex9
              refine lv_iinc (v := x9) (lv' := [(4, .int x9), (3, .int v3), (2, .int v2), (6, .int x6), (0, .ref (a 0)), (1, .int v1), (5, .int v5)]) hx hb dX4_askOf_150 hl (k := 5) rfl (by rw [ex9]; rfl) (by decide) rfl (fun ls hl => ?_)
              refine lv_goto (tgt := 14) hx hb dX4_askOf_153 (by decide) ?_
              exact hk14 v2 v3 x9 hw ls (lv_sub hl [4, 5, 2, 1, 0] rfl)
            · have hw := ite_f hw c8
              refine lv_iload hx hb dX4_askOf_143 (lv_at hl 1 rfl) ?_
              refine lv_goto (tgt := 149) hx hb dX4_askOf_145 (by decide) ?_
              refine lv_istore_n (lv' := [(3, .int x6), (2, .int v2), (6, .int x6), (0, .ref (a 0)), (1, .int v1), (4, .int v4), (5, .int v5)]) hx hb dX4_askOf_149 rfl hl (by decide) rfl (fun ls hl => ?_)
              obtain ⟨x10, ex10⟩ : ∃ y : Int32, y = (v4 + 1) := ⟨_, rfl⟩
              have hw := stp_use hw ex10
              refine lv_iinc (v := x10) (lv' := [(4, .int x10), (3, .int x6), (2, .int v2), (6, .int x6), (0, .ref (a 0)), (1, .int v1), (5, .int v5)]) hx hb dX4_askOf_150 hl (k := 5) rfl (by rw [ex10]; rfl) (by decide) rfl (fun ls hl => ?_)
              refine lv_goto (tgt := 14) hx hb dX4_askOf_153 (by decide) ?_
              exact hk14 v2 x6 x10 hw ls (lv_sub hl [4, 5, 2, 1, 0] rfl)
          · have hw := ite_f hw c7
            refine lv_iload hx hb dX4_askOf_130 (lv_at hl 5 rfl) ?_
            refine lv_goto (tgt := 136) hx hb dX4_askOf_132 (by decide) ?_
            refine lv_istore_n (lv' := [(2, .int v4), (6, .int x6), (0, .ref (a 0)), (1, .int v1), (3, .int v3), (4, .int v4), (5, .int v5)]) hx hb dX4_askOf_136 rfl hl (by decide) rfl (fun ls hl => ?_)
            refine lv_iload hx hb dX4_askOf_137 (lv_at hl 1 rfl) ?_
            refine lv_iload_n hx hb dX4_askOf_139 rfl (lv_at hl 4 rfl) ?_
            refine lv_icmp_ge (tgt := 148) hx hb dX4_askOf_140 (by decide) (fun c11 => ?_) (fun c11 => ?_)
            · have hw := ite_t hw c11
              refine lv_iload_n hx hb dX4_askOf_148 rfl (lv_at hl 4 rfl) ?_
              refine lv_istore_n (lv' := [(3, .int v3), (2, .int v4), (6, .int x6), (0, .ref (a 0)), (1, .int v1), (4, .int v4), (5, .int v5)]) hx hb dX4_askOf_149 rfl hl (by decide) rfl (fun ls hl => ?_)
              obtain ⟨x12, ex12⟩ : ∃ y : Int32, y = (v4 + 1) := ⟨_, rfl⟩
              have hw := stp_use hw ex12
              refine lv_iinc (v := x12) (lv' := [(4, .int x12), (3, .int v3), (2, .int v4), (6, .int x6), (0, .ref (a 0)), (1, .int v1), (5, .int v5)]) hx hb dX4_askOf_150 hl (k := 5) rfl (by rw [ex12]; rfl) (by decide) rfl (fun ls hl => ?_)
              refine lv_goto (tgt := 14) hx hb dX4_askOf_153 (by decide) ?_
              exact hk14 v4 v3 x12 hw ls (lv_sub hl [4, 5, 2, 1, 0] rfl)
            · have hw := ite_f hw c11
              refine lv_iload hx hb dX4_askOf_143 (lv_at hl 1 rfl) ?_
              refine lv_goto (tgt := 149) hx hb dX4_askOf_145 (by decide) ?_
              refine lv_istore_n (lv' := [(3, .int x6), (2, .int v4), (6, .int x6), (0, .ref (a 0)), (1, .int v1), (4, .int v4), (5, .int v5)]) hx hb dX4_askOf_149 rfl hl (by decide) rfl (fun ls hl => ?_)
              obtain ⟨x13, ex13⟩ : ∃ y : Int32, y = (v4 + 1) := ⟨_, rfl⟩
              have hw := stp_use hw ex13
              refine lv_iinc (v := x13) (lv' := [(4, .int x13), (3, .int x6), (2, .int v4), (6, .int x6), (0, .ref (a 0)), (1, .int v1), (5, .int v5)]) hx hb dX4_askOf_150 hl (k := 5) rfl (by rw [ex13]; rfl) (by decide) rfl (fun ls hl => ?_)
              refine lv_goto (tgt := 14) hx hb dX4_askOf_153 (by decide) ?_
              exact hk14 v4 x6 x13 hw ls (lv_sub hl [4, 5, 2, 1, 0] rfl)
        · have hw := ite_f hw c5
          refine lv_iload hx hb dX4_askOf_113 (lv_at hl 5 rfl) ?_
          refine lv_goto (tgt := 122) hx hb dX4_askOf_115 (by decide) ?_
          refine lv_istore (lv' := [(6, .int v5), (0, .ref (a 0)), (1, .int v1), (2, .int v2), (3, .int v3), (4, .int v4), (5, .int v5)]) hx hb dX4_askOf_122 hl (by decide) rfl (fun ls hl => ?_)
          refine lv_iload hx hb dX4_askOf_124 (lv_at hl 0 rfl) ?_
          refine lv_iload_n hx hb dX4_askOf_126 rfl (lv_at hl 4 rfl) ?_
          refine lv_icmp_ge (tgt := 135) hx hb dX4_askOf_127 (by decide) (fun c14 => ?_) (fun c14 => ?_)
          · have hw := ite_t hw c14
            refine lv_iload_n hx hb dX4_askOf_135 rfl (lv_at hl 3 rfl) ?_
            refine lv_istore_n (lv' := [(2, .int v2), (6, .int v5), (0, .ref (a 0)), (1, .int v1), (3, .int v3), (4, .int v4), (5, .int v5)]) hx hb dX4_askOf_136 rfl hl (by decide) rfl (fun ls hl => ?_)
            refine lv_iload hx hb dX4_askOf_137 (lv_at hl 1 rfl) ?_
            refine lv_iload_n hx hb dX4_askOf_139 rfl (lv_at hl 4 rfl) ?_
            refine lv_icmp_ge (tgt := 148) hx hb dX4_askOf_140 (by decide) (fun c15 => ?_) (fun c15 => ?_)
            · have hw := ite_t hw c15
              refine lv_iload_n hx hb dX4_askOf_148 rfl (lv_at hl 4 rfl) ?_
              refine lv_istore_n (lv' := [(3, .int v3), (2, .int v2), (6, .int v5), (0, .ref (a 0)), (1, .int v1), (4, .int v4), (5, .int v5)]) hx hb dX4_askOf_149 rfl hl (by decide) rfl (fun ls hl => ?_)
              obtain ⟨x16, ex16⟩ : ∃ y : Int32, y = (v4 + 1) := ⟨_, rfl⟩
              have hw := stp_use hw ex16
              refine lv_iinc (v := x16) (lv' := [(4, .int x16), (3, .int v3), (2, .int v2), (6, .int v5), (0, .ref (a 0)), (1, .int v1), (5, .int v5)]) hx hb dX4_askOf_150 hl (k := 5) rfl (by rw [ex16]; rfl) (by decide) rfl (fun ls hl => ?_)
              refine lv_goto (tgt := 14) hx hb dX4_askOf_153 (by decide) ?_
              exact hk14 v2 v3 x16 hw ls (lv_sub hl [4, 5, 2, 1, 0] rfl)
            · have hw := ite_f hw c15
              refine lv_iload hx hb dX4_askOf_143 (lv_at hl 1 rfl) ?_
              refine lv_goto (tgt := 149) hx hb dX4_askOf_145 (by decide) ?_
              refine lv_istore_n (lv' := [(3, .int v5), (2, .int v2), (6, .int v5), (0, .ref (a 0)), (1, .int v1), (4, .int v4), (5, .int v5)]) hx hb dX4_askOf_149 rfl hl (by decide) rfl (fun ls hl => ?_)
              obtain ⟨x17, ex17⟩ : ∃ y : Int32, y = (v4 + 1) := ⟨_, rfl⟩
              have hw := stp_use hw ex17
              refine lv_iinc (v := x17) (lv' := [(4, .int x17), (3, .int v5), (2, .int v2), (6, .int v5), (0, .ref (a 0)), (1, .int v1), (5, .int v5)]) hx hb dX4_askOf_150 hl (k := 5) rfl (by rw [ex17]; rfl) (by decide) rfl (fun ls hl => ?_)
              refine lv_goto (tgt := 14) hx hb dX4_askOf_153 (by decide) ?_
              exact hk14 v2 v5 x17 hw ls (lv_sub hl [4, 5, 2, 1, 0] rfl)
          · have hw := ite_f hw c14
            refine lv_iload hx hb dX4_askOf_130 (lv_at hl 5 rfl) ?_
            refine lv_goto (tgt := 136) hx hb dX4_askOf_132 (by decide) ?_
            refine lv_istore_n (lv' := [(2, .int v4), (6, .int v5), (0, .ref (a 0)), (1, .int v1), (3, .int v3), (4, .int v4), (5, .int v5)]) hx hb dX4_askOf_136 rfl hl (by decide) rfl (fun ls hl => ?_)
            refine lv_iload hx hb dX4_askOf_137 (lv_at hl 1 rfl) ?_
            refine lv_iload_n hx hb dX4_askOf_139 rfl (lv_at hl 4 rfl) ?_
            refine lv_icmp_ge (tgt := 148) hx hb dX4_askOf_140 (by decide) (fun c18 => ?_) (fun c18 => ?_)
            · have hw := ite_t hw c18
              refine lv_iload_n hx hb dX4_askOf_148 rfl (lv_at hl 4 rfl) ?_
              refine lv_istore_n (lv' := [(3, .int v3), (2, .int v4), (6, .int v5), (0, .ref (a 0)), (1, .int v1), (4, .int v4), (5, .int v5)]) hx hb dX4_askOf_149 rfl hl (by decide) rfl (fun ls hl => ?_)
              obtain ⟨x19, ex19⟩ : ∃ y : Int32, y = (v4 + 1) := ⟨_, rfl⟩
              have hw := stp_use hw ex19
              refine lv_iinc (v := x19) (lv' := [(4, .int x19), (3, .int v3), (2, .int v4), (6, .int v5), (0, .ref (a 0)), (1, .int v1), (5, .int v5)]) hx hb dX4_askOf_150 hl (k := 5) rfl (by rw [ex19]; rfl) (by decide) rfl (fun ls hl => ?_)
              refine lv_goto (tgt := 14) hx hb dX4_askOf_153 (by decide) ?_
              exact hk14 v4 v3 x19 hw ls (lv_sub hl [4, 5, 2, 1, 0] rfl)
            · have hw := ite_f hw c18
              refine lv_iload hx hb dX4_askOf_143 (lv_at hl 1 rfl) ?_
              refine lv_goto (tgt := 149) hx hb dX4_askOf_145 (by decide) ?_
              refine lv_istore_n (lv' := [(3, .int v5), (2, .int v4), (6, .int v5), (0, .ref (a 0)), (1, .int v1), (4, .int v4), (5, .int v5)]) hx hb dX4_askOf_149 rfl hl (by decide) rfl (fun ls hl => ?_)
              obtain ⟨x20, ex20⟩ : ∃ y : Int32, y = (v4 + 1) := ⟨_, rfl⟩
              have hw := stp_use hw ex20
              refine lv_iinc (v := x20) (lv' := [(4, .int x20), (3, .int v5), (2, .int v4), (6, .int v5), (0, .ref (a 0)), (1, .int v1), (5, .int v5)]) hx hb dX4_askOf_150 hl (k := 5) rfl (by rw [ex20]; rfl) (by decide) rfl (fun ls hl => ?_)
              refine lv_goto (tgt := 14) hx hb dX4_askOf_153 (by decide) ?_
              exact hk14 v4 v5 x20 hw ls (lv_sub hl [4, 5, 2, 1, 0] rfl)
      · have hw := ite_f hw c4
        refine lv_iload hx hb dX4_askOf_40 (lv_at hl 6 rfl) ?_
        refine lv_bipush (v := 10) hx hb dX4_askOf_42 (by decide) ?_
        refine lv_irem hx hb dX4_askOf_44 (by decide) ?_
        refine lv_if_le (tgt := 61) hx hb dX4_askOf_45 (by decide) (fun c21 => ?_) (fun c21 => ?_)
        · have hw := ite_t hw c21
          refine lv_iconst (v := 0) hx hb dX4_askOf_61 (by decide) ?_
          refine lv_istore (lv' := [(7, .int 0), (0, .ref (a 0)), (1, .int v1), (2, .int v2), (3, .int v3), (4, .int v4), (5, .int v5), (6, .int v6)]) hx hb dX4_askOf_62 hl (by decide) rfl (fun ls hl => ?_)
          refine lv_iload hx hb dX4_askOf_64 (lv_at hl 6 rfl) ?_
          refine lv_iload hx hb dX4_askOf_66 (lv_at hl 0 rfl) ?_
          refine lv_if_eq (tgt := 94) hx hb dX4_askOf_68 (by decide) (fun c22 => ?_) (fun c22 => absurd c22 (by decide))
          refine lv_iconst (v := 0) hx hb dX4_askOf_94 (by decide) ?_
          refine lv_iadd hx hb dX4_askOf_95 ?_
          refine lv_topi (fun x23 ex23 => ?_)
          have hw := stp_use hw ex23
          refine lv_istore (lv' := [(5, .int x23), (7, .int 0), (0, .ref (a 0)), (1, .int v1), (2, .int v2), (3, .int v3), (4, .int v4), (6, .int v6)]) hx hb dX4_askOf_96 hl (by decide) rfl (fun ls hl => ?_)
          obtain ⟨x24, ex24⟩ : ∃ y : Int32, y = (v6 + 1) := ⟨_, rfl⟩
          have hw := stp_use hw ex24
          refine lv_iinc (v := x24) (lv' := [(6, .int x24), (5, .int x23), (7, .int 0), (0, .ref (a 0)), (1, .int v1), (2, .int v2), (3, .int v3), (4, .int v4)]) hx hb dX4_askOf_98 hl (k := 7) rfl (by rw [ex24]; rfl) (by decide) rfl (fun ls hl => ?_)
          refine lv_goto (tgt := 33) hx hb dX4_askOf_101 (by decide) ?_
          exact ih v2 v3 v4 x23 x24 hw ls (lv_sub hl [3, 4, 5, 6, 7, 1, 0] rfl)
        · have hw := ite_f hw c21
          refine lv_aload_n hx hb dX4_askOf_48 rfl (lv_at hl 0 rfl) ?_
          refine lv_iload hx hb dX4_askOf_49 (lv_at hl 6 rfl) ?_
          obtain ⟨r25, er25, hw⟩ := Option.bind_eq_some_iff.mp hw
          refine vp_callSi (va_runV (As := [.int v6]) (rest := []) ⟨hx, hb, hml, hown, hts⟩ (c_X4_isTold l dC dI a cA X v6 r25 er25) ⟨callB_of 1 hts gd_X4_isTold rfl rfl rfl (hts _ wd_39) (hts _ wd_781) hd_X4_isTold ⟨Nat.le_of_ble_eq_true rfl, Nat.le_of_ble_eq_true rfl⟩, hts _ wd_783, hts _ wd_28⟩ ⟨blM, va_recv hK hP (ci := 4) (q0 := 0) rfl rfl, fun U hU hW => ⟨rfl, by rw [hU]; exact hP, va_K.moved hW.alike hK⟩⟩ rfl rfl hl.1 rfl (lv_room (Nat.le_of_ble_eq_true rfl)) dX4_askOf_51 ⟨Nat.zero_le _, Nat.zero_le _⟩).run (fun r_ e_ => ?_)
          subst r_
          refine lv_if_eq (tgt := 61) hx hb dX4_askOf_54 (by decide) (fun c26 => ?_) (fun c26 => ?_)
          · have hw := ite_t hw c26
            refine lv_iconst (v := 0) hx hb dX4_askOf_61 (by decide) ?_
            refine lv_istore (lv' := [(7, .int 0), (0, .ref (a 0)), (1, .int v1), (2, .int v2), (3, .int v3), (4, .int v4), (5, .int v5), (6, .int v6)]) hx hb dX4_askOf_62 hl (by decide) rfl (fun ls hl => ?_)
            refine lv_iload hx hb dX4_askOf_64 (lv_at hl 6 rfl) ?_
            refine lv_iload hx hb dX4_askOf_66 (lv_at hl 0 rfl) ?_
            refine lv_if_eq (tgt := 94) hx hb dX4_askOf_68 (by decide) (fun c27 => ?_) (fun c27 => absurd c27 (by decide))
            refine lv_iconst (v := 0) hx hb dX4_askOf_94 (by decide) ?_
            refine lv_iadd hx hb dX4_askOf_95 ?_
            refine lv_topi (fun x28 ex28 => ?_)
            have hw := stp_use hw ex28
            refine lv_istore (lv' := [(5, .int x28), (7, .int 0), (0, .ref (a 0)), (1, .int v1), (2, .int v2), (3, .int v3), (4, .int v4), (6, .int v6)]) hx hb dX4_askOf_96 hl (by decide) rfl (fun ls hl => ?_)
            obtain ⟨x29, ex29⟩ : ∃ y : Int32, y = (v6 + 1) := ⟨_, rfl⟩
            have hw := stp_use hw ex29
            refine lv_iinc (v := x29) (lv' := [(6, .int x29), (5, .int x28), (7, .int 0), (0, .ref (a 0)), (1, .int v1), (2, .int v2), (3, .int v3), (4, .int v4)]) hx hb dX4_askOf_98 hl (k := 7) rfl (by rw [ex29]; rfl) (by decide) rfl (fun ls hl => ?_)
            refine lv_goto (tgt := 33) hx hb dX4_askOf_101 (by decide) ?_
            exact ih v2 v3 v4 x28 x29 hw ls (lv_sub hl [3, 4, 5, 6, 7, 1, 0] rfl)
          · have hw := ite_f hw c26
            refine lv_iconst (v := 1) hx hb dX4_askOf_57 (by decide) ?_
            refine lv_goto (tgt := 62) hx hb dX4_askOf_58 (by decide) ?_
            refine lv_istore (lv' := [(7, .int 1), (0, .ref (a 0)), (1, .int v1), (2, .int v2), (3, .int v3), (4, .int v4), (5, .int v5), (6, .int v6)]) hx hb dX4_askOf_62 hl (by decide) rfl (fun ls hl => ?_)
            refine lv_iload hx hb dX4_askOf_64 (lv_at hl 6 rfl) ?_
            refine lv_iload hx hb dX4_askOf_66 (lv_at hl 0 rfl) ?_
            refine lv_if_eq (tgt := 94) hx hb dX4_askOf_68 (by decide) (fun c30 => absurd c30 (by decide)) (fun c30 => ?_)
            refine lv_aload_n hx hb dX4_askOf_71 rfl (lv_at hl 1 rfl) ?_
            refine lv_iload hx hb dX4_askOf_72 (lv_at hl 7 rfl) ?_
            refine lv_bipush (v := 10) hx hb dX4_askOf_74 (by decide) ?_
            refine lv_idiv hx hb dX4_askOf_76 (by decide) ?_
            refine lv_iload hx hb dX4_askOf_77 (lv_at hl 7 rfl) ?_
            refine lv_bipush (v := 10) hx hb dX4_askOf_79 (by decide) ?_
            refine lv_irem hx hb dX4_askOf_81 (by decide) ?_
            refine lv_iconst (v := 0) hx hb dX4_askOf_82 (by decide) ?_
            obtain ⟨r31, er31, hw⟩ := Option.bind_eq_some_iff.mp hw
            refine vp_callSi (va_runV (As := [.int (v6 / 10), .int (v6 - v6 / 10 * 10), .int 0]) (rest := [.int v5]) ⟨hx, hb, hml, hown, hts⟩ (c_X4_knowThen l dC dI a cA X (v6 / 10) (v6 - v6 / 10 * 10) 0 r31 er31) ⟨callB_of 3 hts gd_X4_knowThen rfl rfl rfl (hts _ wd_39) (hts _ wd_715) hd_X4_knowThen ⟨Nat.le_of_ble_eq_true rfl, Nat.le_of_ble_eq_true rfl⟩, hts _ wd_717, hts _ wd_21⟩ ⟨blM, va_recv hK hP (ci := 4) (q0 := 0) rfl rfl, fun U hU hW => ⟨rfl, by rw [hU]; exact hP, va_K.moved hW.alike hK⟩⟩ rfl rfl hl.1 rfl (lv_room (Nat.le_of_ble_eq_true rfl)) dX4_askOf_83 ⟨Nat.zero_le _, Nat.zero_le _⟩).run (fun r_ e_ => ?_)
            subst r_
            refine lv_iload hx hb dX4_askOf_86 (lv_at hl 5 rfl) ?_
            refine lv_ishr hx hb dX4_askOf_88 ?_
            refine lv_iconst (v := 1) hx hb dX4_askOf_89 (by decide) ?_
            refine lv_iand hx hb dX4_askOf_90 ?_
            refine lv_goto (tgt := 95) hx hb dX4_askOf_91 (by decide) ?_
            refine lv_iadd hx hb dX4_askOf_95 ?_
            refine lv_topi (fun x32 ex32 => ?_)
            have hw := stp_use hw ex32
            refine lv_istore (lv' := [(5, .int x32), (7, .int 1), (0, .ref (a 0)), (1, .int v1), (2, .int v2), (3, .int v3), (4, .int v4), (6, .int v6)]) hx hb dX4_askOf_96 hl (by decide) rfl (fun ls hl => ?_)
            obtain ⟨x33, ex33⟩ : ∃ y : Int32, y = (v6 + 1) := ⟨_, rfl⟩
            have hw := stp_use hw ex33
            refine lv_iinc (v := x33) (lv' := [(6, .int x33), (5, .int x32), (7, .int 1), (0, .ref (a 0)), (1, .int v1), (2, .int v2), (3, .int v3), (4, .int v4)]) hx hb dX4_askOf_98 hl (k := 7) rfl (by rw [ex33]; rfl) (by decide) rfl (fun ls hl => ?_)
            refine lv_goto (tgt := 33) hx hb dX4_askOf_101 (by decide) ?_
            exact ih v2 v3 v4 x32 x33 hw ls (lv_sub hl [3, 4, 5, 6, 7, 1, 0] rfl)
  have L14 : ∀ (v1 : Int32), ∀ n : Nat, ∀ (v2 : Int32), ∀ (v3 : Int32), ∀ (v4 : Int32), g_X4_askOf_14 X v1 n v2 v3 v4 = some out → ∀ ls : Array Slot, lv_has ls 8 [(0, .ref (a 0)), (1, .int v1), (2, .int v2), (3, .int v3), (4, .int v4)] → W p l e ({ frames := 6, cells := 0, slots := 0, locals := 149 }) s m (([.ref (a 0)] : List Value).toArray) below meth c s.heap [] 0 0 Q (F0 m 14 ls []) := by
    intro v1 n
    induction n with
    | zero =>
      intro v2 v3 v4 hw
      rw [g_X4_askOf_14] at hw
      cases hw
    | succ n ih =>
      intro v2 v3 v4 hw ls hl
      rw [g_X4_askOf_14] at hw
      refine lv_iload hx hb dX4_askOf_14 (lv_at hl 4 rfl) ?_
      refine lv_aload_n hx hb dX4_askOf_16 rfl (lv_at hl 0 rfl) ?_
      refine va_get (D := (dC, dI)) (ci := 4) (v := .int (X.1 0 11)) (C := RX4) (T := TX4) (N := 29) hx hb hts iX4 hown hK hP 0 rfl rfl 11 (by decide) (hts _ wd_533) (fun _ h9 => h9) rfl dX4_askOf_17 ?_
      refine lv_icmp_ge (tgt := 156) hx hb dX4_askOf_20 (by decide) (fun c2 => ?_) (fun c2 => ?_)
      · have hw := ite_t hw c2
        refine lv_iload_n hx hb dX4_askOf_156 rfl (lv_at hl 2 rfl) ?_
        exact hret _ _ _ (Option.some.inj hw) dX4_askOf_157
      · have hw := ite_f hw c2
        refine lv_iload_n hx hb dX4_askOf_23 rfl (lv_at hl 1 rfl) ?_
        refine lv_if_le (tgt := 156) hx hb dX4_askOf_24 (by decide) (fun c3 => ?_) (fun c3 => ?_)
        · have hw := ite_t hw c3
          refine lv_iload_n hx hb dX4_askOf_156 rfl (lv_at hl 2 rfl) ?_
          exact hret _ _ _ (Option.some.inj hw) dX4_askOf_157
        · have hw := ite_f hw c3
          refine lv_iconst (v := 0) hx hb dX4_askOf_27 (by decide) ?_
          refine lv_istore (lv' := [(5, .int 0), (0, .ref (a 0)), (1, .int v1), (2, .int v2), (3, .int v3), (4, .int v4)]) hx hb dX4_askOf_28 hl (by decide) rfl (fun ls hl => ?_)
          refine lv_iconst (v := 1) hx hb dX4_askOf_30 (by decide) ?_
          refine lv_istore (lv' := [(6, .int 1), (5, .int 0), (0, .ref (a 0)), (1, .int v1), (2, .int v2), (3, .int v3), (4, .int v4)]) hx hb dX4_askOf_31 hl (by decide) rfl (fun ls hl => ?_)
          exact L33 v1 _ ih NF v2 v3 v4 0 1 hw ls (lv_sub hl [2, 3, 4, 5, 6, 1, 0] rfl)
  have hl := lv_entry ([.ref (a 0)]) (n := 8) (Nat.le_of_ble_eq_true rfl)
  rw [lg_entry_eq]
  generalize (lg_sl ([.ref (a 0)]) ++ List.replicate (8 - (lg_sl ([.ref (a 0)])).length) Slot.unset).toArray = ls at hl ⊢
  have hl : lv_has ls 8 [(0, .ref (a 0))] := hl
  refine lv_aload_n hx hb dX4_askOf_0 rfl (lv_at hl 0 rfl) ?_
  refine lv_iconst (v := 0) hx hb dX4_askOf_1 (by decide) ?_
  obtain ⟨r1, er1, hw⟩ := Option.bind_eq_some_iff.mp hw
  refine vp_callSi (va_runV (As := [.int 0]) (rest := []) ⟨hx, hb, hml, hown, hts⟩ (c_X4_whereOf l dC dI a cA X 0 r1 er1) ⟨callB_of 1 hts gd_X4_whereOf rfl rfl rfl (hts _ wd_39) (hts _ wd_777) hd_X4_whereOf ⟨Nat.le_of_ble_eq_true rfl, Nat.le_of_ble_eq_true rfl⟩, hts _ wd_779, hts _ wd_27⟩ ⟨blM, va_recv hK hP (ci := 4) (q0 := 0) rfl rfl, fun U hU hW => ⟨rfl, by rw [hU]; exact hP, va_K.moved hW.alike hK⟩⟩ rfl rfl hl.1 rfl (lv_room (Nat.le_of_ble_eq_true rfl)) dX4_askOf_2 ⟨Nat.zero_le _, Nat.zero_le _⟩).run (fun r_ e_ => ?_)
  subst r_
  refine lv_istore_n (lv' := [(1, .int r1), (0, .ref (a 0))]) hx hb dX4_askOf_5 rfl hl (by decide) rfl (fun ls hl => ?_)
  refine lv_iconst (v := (-1)) hx hb dX4_askOf_6 (by decide) ?_
  refine lv_istore_n (lv' := [(2, .int (-1)), (1, .int r1), (0, .ref (a 0))]) hx hb dX4_askOf_7 rfl hl (by decide) rfl (fun ls hl => ?_)
  refine lv_bipush (v := 99) hx hb dX4_askOf_8 (by decide) ?_
  refine lv_istore_n (lv' := [(3, .int 99), (2, .int (-1)), (1, .int r1), (0, .ref (a 0))]) hx hb dX4_askOf_10 rfl hl (by decide) rfl (fun ls hl => ?_)
  refine lv_iconst (v := 0) hx hb dX4_askOf_11 (by decide) ?_
  refine lv_istore (lv' := [(4, .int 0), (3, .int 99), (2, .int (-1)), (1, .int r1), (0, .ref (a 0))]) hx hb dX4_askOf_12 hl (by decide) rfl (fun ls hl => ?_)
  exact L14 r1 NF (-1) 99 0 hw ls (lv_sub hl [4, 3, 2, 1, 0] rfl)
set_option maxHeartbeats 4000000 in
set_option maxRecDepth 100000 in
theorem c_X4_ask (l : Launch) (dC : Nat → ClassId) (dI : Nat → Nat → Nat) (a : Nat → Nat) (cA : ClassId) (X : MS) (out : Int32) (hw : f_X4_ask X = some out) : Met l yX4_ask (.code yX4_ask cX4_ask 1 (some .int) :: lw_g) ({ frames := 7, cells := 0, slots := 0, locals := 176 }) (PcM dC dI a cA X [.ref (a 0)]) (vp_Si (fun r_ => r_ = out)) 0 0 (fun _ => False) := by
  unfold f_X4_ask at hw
  refine Met.ofW (cc := cX4_ask) (maxL := 1) (ret := (some .int)) (by decide) rfl ?_
  intro p e s m args below meth c s₁ B hml hv
  obtain ⟨rfl, hP, hK⟩ := hv
  have hx := B.exec
  have hb := B.bytes
  have hr := B.returns
  have hts0 := atoms_spec (ws := (.code yX4_ask cX4_ask 1 (some .int) :: lw_g)) B.pre
  have hts : ∀ w ∈ lw_g, w.before (([.ref (a 0)] : List Value).toArray) s = true := fun w h => hts0 w (List.mem_cons_of_mem _ h)
  clear hts0
  have hown : s.vm.findClass RX4 = some m.cls := findClass_of_methodNamed B.named
  have hlocks := B.notSynchronized
  have hret : ∀ (pc : Nat) (ls : Array Slot) (v : Int32), v = out → decode cX4_ask pc = .ok (.ireturn, 1) → W p l e ({ frames := 7, cells := 0, slots := 0, locals := 176 }) s m (([.ref (a 0)] : List Value).toArray) below meth c s.heap [] 0 0 (MQ below (vp_Si (fun r_ => r_ = out)) (([.ref (a 0)] : List Value).toArray) s 0 0 (fun _ => False)) (F0 m pc ls [.int v]) := fun pc ls v hv hd => W.iret hx hb hr (fun t ht hW => ⟨v, rfl, hv, ht⟩) (fun q hq => absurd hq List.not_mem_nil) hd
  show W p l e ({ frames := 7, cells := 0, slots := 0, locals := 176 }) s m (([.ref (a 0)] : List Value).toArray) below meth c s.heap [] 0 0 (MQ below (vp_Si (fun r_ => r_ = out)) (([.ref (a 0)] : List Value).toArray) s 0 0 (fun _ => False)) (entryFrame m (([.ref (a 0)] : List Value).toArray) 1)
  generalize MQ below (vp_Si (fun r_ => r_ = out)) (([.ref (a 0)] : List Value).toArray) s 0 0 (fun _ => False) = Q at hret ⊢
  have hl := lv_entry ([.ref (a 0)]) (n := 1) (Nat.le_of_ble_eq_true rfl)
  rw [lg_entry_eq]
  generalize (lg_sl ([.ref (a 0)]) ++ List.replicate (1 - (lg_sl ([.ref (a 0)])).length) Slot.unset).toArray = ls at hl ⊢
  have hl : lv_has ls 1 [(0, .ref (a 0))] := hl
  refine lv_aload_n hx hb dX4_ask_0 rfl (lv_at hl 0 rfl) ?_
  obtain ⟨r1, er1, hw⟩ := Option.bind_eq_some_iff.mp hw
  refine vp_callSi (va_runV (As := []) (rest := []) ⟨hx, hb, hml, hown, hts⟩ (c_X4_lacks l dC dI a cA X r1 er1) ⟨callB_of 0 hts gd_X4_lacks rfl rfl rfl (hts _ wd_39) (hts _ wd_647) hd_X4_lacks ⟨Nat.le_of_ble_eq_true rfl, Nat.le_of_ble_eq_true rfl⟩, hts _ wd_649, hts _ wd_12⟩ ⟨blM, va_recv hK hP (ci := 4) (q0 := 0) rfl rfl, fun U hU hW => ⟨rfl, by rw [hU]; exact hP, va_K.moved hW.alike hK⟩⟩ rfl rfl hl.1 rfl (lv_room (Nat.le_of_ble_eq_true rfl)) dX4_ask_1 ⟨Nat.zero_le _, Nat.zero_le _⟩).run (fun r_ e_ => ?_)
  subst r_
  refine lv_if_eq (tgt := 12) hx hb dX4_ask_4 (by decide) (fun c2 => ?_) (fun c2 => ?_)
  · have hw := ite_t hw c2
    refine lv_aload_n hx hb dX4_ask_12 rfl (lv_at hl 0 rfl) ?_
    obtain ⟨r3, er3, hw⟩ := Option.bind_eq_some_iff.mp hw
    refine vp_callSi (va_runV (As := []) (rest := []) ⟨hx, hb, hml, hown, hts⟩ (c_X4_askOf l dC dI a cA X r3 er3) ⟨callB_of 0 hts gd_X4_askOf rfl rfl rfl (hts _ wd_39) (hts _ wd_789) hd_X4_askOf ⟨Nat.le_of_ble_eq_true rfl, Nat.le_of_ble_eq_true rfl⟩, hts _ wd_791, hts _ wd_29⟩ ⟨blM, va_recv hK hP (ci := 4) (q0 := 0) rfl rfl, fun U hU hW => ⟨rfl, by rw [hU]; exact hP, va_K.moved hW.alike hK⟩⟩ rfl rfl hl.1 rfl (lv_room (Nat.le_of_ble_eq_true rfl)) dX4_ask_13 ⟨Nat.zero_le _, Nat.zero_le _⟩).run (fun r_ e_ => ?_)
    subst r_
    exact hret _ _ _ (Option.some.inj hw) dX4_ask_16
  · have hw := ite_f hw c2
    refine lv_bipush (v := (-103)) hx hb dX4_ask_7 (by decide) ?_
    refine lv_goto (tgt := 16) hx hb dX4_ask_9 (by decide) ?_
    exact hret _ _ _ (Option.some.inj hw) dX4_ask_16
set_option maxHeartbeats 4000000 in
set_option maxRecDepth 100000 in
theorem c_X0_draw (l : Launch) (dC : Nat → ClassId) (dI : Nat → Nat → Nat) (A : Nat → Prop) (a : Nat → Nat) (cA : ClassId) (X : WS) (p1 : Int32) (out : (Int32 × WS)) (hw : f_X0_draw X p1 = some out) : Met l yX0_draw (.code yX0_draw cX0_draw 2 (some .int) :: lw_g) ({ frames := 0, cells := 0, slots := 0, locals := 0 }) (PcXD dC dI A a cA X [.ref (a 15), .int p1]) (va_Qi (fun (r_ : Int32) (X_ : WS) => out = (r_, X_)) (fun X_ t => va_P (dC, dI) classes (wl a cA X_) t.heap ∧ va_K (dC, dI) classes [(cA, .int)] t) A) 0 0 (A) := by
  unfold f_X0_draw at hw
  refine Met.ofW (cc := cX0_draw) (maxL := 2) (ret := (some .int)) (by decide) rfl ?_
  intro p e s m args below meth c s₁ B hml hv
  obtain ⟨rfl, hP, hK, hN, hD0⟩ := hv
  have hx := B.exec
  have hb := B.bytes
  have hr := B.returns
  have hts0 := atoms_spec (ws := (.code yX0_draw cX0_draw 2 (some .int) :: lw_g)) B.pre
  have hts : ∀ w ∈ lw_g, w.before (([.ref (a 15), .int p1] : List Value).toArray) s = true := fun w h => hts0 w (List.mem_cons_of_mem _ h)
  clear hts0
  have hown : s.vm.findClass RX0 = some m.cls := findClass_of_methodNamed B.named
  have hlocks := B.notSynchronized
  have hret : ∀ (pc : Nat) (ls : Array Slot) (v : Int32) (X_ : WS) (H : Heap) (locs : List Loc), (v, X_) = out → va_P (dC, dI) classes (wl a cA X_) H → va_S A s.heap H locs → decode cX0_draw pc = .ok (.ireturn, 1) → W p l e ({ frames := 0, cells := 0, slots := 0, locals := 0 }) s m (([.ref (a 15), .int p1] : List Value).toArray) below meth c H locs 0 0 (MQ below (va_Qi (fun (r_ : Int32) (X_ : WS) => out = (r_, X_)) (fun X_ t => va_P (dC, dI) classes (wl a cA X_) t.heap ∧ va_K (dC, dI) classes [(cA, .int)] t) A) (([.ref (a 15), .int p1] : List Value).toArray) s 0 0 (A)) (F0 m pc ls [.int v]) := fun pc ls v X_ H locs hv hP hS hd => W.iret hx hb hr (fun t ht hW => ⟨⟨v, X_, rfl, hv.symm, by rw [ht]; exact hP, va_K.moved hW.alike hK⟩, hS.F ht⟩) hS.2.2 hd
  show W p l e ({ frames := 0, cells := 0, slots := 0, locals := 0 }) s m (([.ref (a 15), .int p1] : List Value).toArray) below meth c s.heap [] 0 0 (MQ below (va_Qi (fun (r_ : Int32) (X_ : WS) => out = (r_, X_)) (fun X_ t => va_P (dC, dI) classes (wl a cA X_) t.heap ∧ va_K (dC, dI) classes [(cA, .int)] t) A) (([.ref (a 15), .int p1] : List Value).toArray) s 0 0 (A)) (entryFrame m (([.ref (a 15), .int p1] : List Value).toArray) 2)
  generalize MQ below (va_Qi (fun (r_ : Int32) (X_ : WS) => out = (r_, X_)) (fun X_ t => va_P (dC, dI) classes (wl a cA X_) t.heap ∧ va_K (dC, dI) classes [(cA, .int)] t) A) (([.ref (a 15), .int p1] : List Value).toArray) s 0 0 (A) = Q at hret ⊢
  have hS : va_S A s.heap s.heap [] := va_S.rf
  have hl := lv_entry ([.ref (a 15), .int p1]) (n := 2) (Nat.le_of_ble_eq_true rfl)
  rw [lg_entry_eq]
  generalize (lg_sl ([.ref (a 15), .int p1]) ++ List.replicate (2 - (lg_sl ([.ref (a 15), .int p1])).length) Slot.unset).toArray = ls at hl ⊢
  have hl : lv_has ls 2 [(0, .ref (a 15)), (1, .int p1)] := hl
  refine lv_aload_n hx hb dX0_draw_0 rfl (lv_at hl 0 rfl) ?_
  refine lv_ldc2 hx hb hown (hts _ wd_465) dX0_draw_1 ?_
  refine lv_aload_n hx hb dX0_draw_4 rfl (lv_at hl 0 rfl) ?_
  refine va_get (D := (dC, dI)) (ci := 0) (v := .int (X 15 7)) (C := RX0) (T := TX0) (N := 8) hx hb hts iX0 hown hK hP 15 rfl rfl 7 (by decide) (hts _ wd_159) (fun _ h9 => h9) rfl dX0_draw_5 ?_
  refine lv_i2l hx hb dX0_draw_8 rfl ?_
  refine lv_lmul hx hb dX0_draw_9 ?_
  refine lv_ldc2 hx hb hown (hts _ wd_466) dX0_draw_10 ?_
  refine lv_ladd hx hb dX0_draw_13 ?_
  refine lv_ldc2 hx hb hown (hts _ wd_467) dX0_draw_14 ?_
  refine lv_land hx hb dX0_draw_17 ?_
  refine lv_l2i hx hb dX0_draw_18 rfl ?_
  refine lv_topi (fun x1 ex1 => ?_)
  have hw := stp_use hw ex1
  refine va_put (D := (dC, dI)) (ci := 0) (v := .int x1) (ty := .int) (C := RX0) (T := TX0) (N := 8) hx hb hts iX0 tyX0 tyX0_ok nmX0 hown hK hP (wlD hD0) hS 15 rfl rfl 7 (by decide) (hts _ wd_159) (fun _ h9 => h9) rfl (by decide +kernel) rfl rfl (Nat.le_of_ble_eq_true rfl) dX0_draw_19 (fun H locs hP hD_ hS => ?_)
  obtain ⟨X2, eX2⟩ : ∃ y : WS, y = (ups X 15 7 x1) := ⟨_, rfl⟩
  have hw := stp_use hw eX2
  have hP : va_P (dC, dI) classes (wl a cA X2) H := by rw [eX2]; exact hP
  refine lv_iload_n hx hb dX0_draw_22 rfl (lv_at hl 1 rfl) ?_
  refine lv_if_le (tgt := 38) hx hb dX0_draw_23 (by decide) (fun c3 => ?_) (fun c3 => ?_)
  · have hw := ite_t hw c3
    refine lv_iconst (v := 0) hx hb dX0_draw_38 (by decide) ?_
    exact hret _ _ _ _ _ _ (Option.some.inj hw) hP hS dX0_draw_39
  · have hw := ite_f hw c3
    refine lv_aload_n hx hb dX0_draw_26 rfl (lv_at hl 0 rfl) ?_
    refine va_get (D := (dC, dI)) (ci := 0) (v := .int (X2 15 7)) (C := RX0) (T := TX0) (N := 8) hx hb hts iX0 hown hK hP 15 rfl rfl 7 (by decide) (hts _ wd_159) (fun _ h9 => h9) rfl dX0_draw_27 ?_
    refine lv_ldc hx hb hown (hts _ wd_468) dX0_draw_30 ?_
    refine lv_idiv hx hb dX0_draw_32 (by decide) ?_
    refine lv_iload_n hx hb dX0_draw_33 rfl (lv_at hl 1 rfl) ?_
    obtain ⟨h4, hw⟩ := dvc_use hw
    refine lv_irem hx hb dX0_draw_34 h4 ?_
    refine lv_goto (tgt := 39) hx hb dX0_draw_35 (by decide) ?_
    exact hret _ _ _ _ _ _ (Option.some.inj hw) hP hS dX0_draw_39
set_option maxHeartbeats 4000000 in
set_option maxRecDepth 100000 in
theorem c_X0_live (l : Launch) (dC : Nat → ClassId) (dI : Nat → Nat → Nat) (A : Nat → Prop) (a : Nat → Nat) (cA : ClassId) (X : WS) (p2 : Int32) (p3 : Int32) (out : WS) (hw : f_X0_live X p2 p3 = some out) : Met l yX0_live (.code yX0_live cX0_live 7 none :: lw_g) ({ frames := 3, cells := 0, slots := 0, locals := 77 }) (PcXD dC dI A a cA X [.ref (a 15), .ref (a 3), .int p2, .int p3]) (va_Qv (fun X_ : WS => out = X_) (fun X_ t => va_P (dC, dI) classes (wl a cA X_) t.heap ∧ va_K (dC, dI) classes [(cA, .int)] t) A) 0 0 (A) := by
  unfold f_X0_live at hw
  refine Met.ofW (cc := cX0_live) (maxL := 7) (ret := none) (by decide) rfl ?_
  intro p e s m args below meth c s₁ B hml hv
  obtain ⟨rfl, hP, hK, hN, hD0⟩ := hv
  have hx := B.exec
  have hb := B.bytes
  have hr := B.returns
  have hts0 := atoms_spec (ws := (.code yX0_live cX0_live 7 none :: lw_g)) B.pre
  have hts : ∀ w ∈ lw_g, w.before (([.ref (a 15), .ref (a 3), .int p2, .int p3] : List Value).toArray) s = true := fun w h => hts0 w (List.mem_cons_of_mem _ h)
  clear hts0
  have hown : s.vm.findClass RX0 = some m.cls := findClass_of_methodNamed B.named
  have hlocks := B.notSynchronized
  have hret : ∀ (pc : Nat) (ls : Array Slot) (X_ : WS) (H : Heap) (locs : List Loc), X_ = out → va_P (dC, dI) classes (wl a cA X_) H → va_S A s.heap H locs → decode cX0_live pc = .ok (.return_, 1) → W p l e ({ frames := 3, cells := 0, slots := 0, locals := 77 }) s m (([.ref (a 15), .ref (a 3), .int p2, .int p3] : List Value).toArray) below meth c H locs 0 0 (MQ below (va_Qv (fun X_ : WS => out = X_) (fun X_ t => va_P (dC, dI) classes (wl a cA X_) t.heap ∧ va_K (dC, dI) classes [(cA, .int)] t) A) (([.ref (a 15), .ref (a 3), .int p2, .int p3] : List Value).toArray) s 0 0 (A)) (F0 m pc ls []) := fun pc ls X_ H locs hv hP hS hd => W.vret hx hb hr (fun t ht hW => ⟨⟨X_, rfl, hv.symm, by rw [ht]; exact hP, va_K.moved hW.alike hK⟩, hS.F ht⟩) hS.2.2 hd
  show W p l e ({ frames := 3, cells := 0, slots := 0, locals := 77 }) s m (([.ref (a 15), .ref (a 3), .int p2, .int p3] : List Value).toArray) below meth c s.heap [] 0 0 (MQ below (va_Qv (fun X_ : WS => out = X_) (fun X_ t => va_P (dC, dI) classes (wl a cA X_) t.heap ∧ va_K (dC, dI) classes [(cA, .int)] t) A) (([.ref (a 15), .ref (a 3), .int p2, .int p3] : List Value).toArray) s 0 0 (A)) (entryFrame m (([.ref (a 15), .ref (a 3), .int p2, .int p3] : List Value).toArray) 7)
  generalize MQ below (va_Qv (fun X_ : WS => out = X_) (fun X_ t => va_P (dC, dI) classes (wl a cA X_) t.heap ∧ va_K (dC, dI) classes [(cA, .int)] t) A) (([.ref (a 15), .ref (a 3), .int p2, .int p3] : List Value).toArray) s 0 0 (A) = Q at hret ⊢
  have hS : va_S A s.heap s.heap [] := va_S.rf
  have L18 : ∀ (v2 : Int32), ∀ n : Nat, ∀ (X : WS), ∀ (v4 : Int32), g_X0_live_18 v2 n X v4 = some out → ∀ (H : Heap) (locs : List Loc), va_P (dC, dI) classes (wl a cA X) H → va_S A s.heap H locs → ∀ ls : Array Slot, lv_has ls 7 [(0, .ref (a 15)), (1, .ref (a 3)), (2, .int v2), (4, .int v4)] → W p l e ({ frames := 3, cells := 0, slots := 0, locals := 77 }) s m (([.ref (a 15), .ref (a 3), .int p2, .int p3] : List Value).toArray) below meth c H locs 0 0 Q (F0 m 18 ls []) := by
    intro v2 n
    induction n with
    | zero =>
      intro X v4 hw
      rw [g_X0_live_18] at hw
      cases hw
    | succ n ih =>
      intro X v4 hw H locs hP hS ls hl
      rw [g_X0_live_18] at hw
      refine lv_iload hx hb dX0_live_18 (lv_at hl 3 rfl) ?_
      refine lv_iload_n hx hb dX0_live_20 rfl (lv_at hl 2 rfl) ?_
      refine lv_icmp_ge (tgt := 82) hx hb dX0_live_21 (by decide) (fun c4 => ?_) (fun c4 => ?_)
      · have hw := ite_t hw c4
        exact hret _ _ _ _ _ (Option.some.inj hw) hP hS dX0_live_82
      · have hw := ite_f hw c4
        refine lv_aload_n hx hb dX0_live_24 rfl (lv_at hl 0 rfl) ?_
        refine lv_bipush (v := 6) hx hb dX0_live_25 (by decide) ?_
        obtain ⟨r5, X6, er5, hw⟩ := bnd2_use hw
        refine va_calli (va_runV (As := [.int 6]) (rest := []) ⟨hx, hb, hml, hown, hts⟩ (c_X0_draw l dC dI A a cA X 6 (r5, X6) er5) ⟨callB_of 1 hts gd_X0_draw rfl rfl rfl (hts _ wd_38) (hts _ wd_461) hd_X0_draw ⟨Nat.le_of_ble_eq_true rfl, Nat.le_of_ble_eq_true rfl⟩, hts _ wd_463, hts _ wd_6⟩ ⟨blXD, va_recv hK hP (ci := 0) (q0 := 15) rfl rfl, fun U hU hW => ⟨rfl, by rw [hU]; exact hP, va_K.moved hW.alike hK, nst.warm hW hN, wlD hD0⟩⟩ rfl rfl hl.1 rfl (lv_room (Nat.le_of_ble_eq_true rfl)) dX0_live_27 ⟨Nat.zero_le _, Nat.zero_le _⟩) hS (fun _ _ h => h) (fun _ h => h) (fun r_ u_ t_ H1 locs1 ht hvm hp_ hB hz1 hk1 hS1 => ?_)
        obtain ⟨q1_, q2_⟩ := Prod.mk.inj hp_
        subst q1_
        subst q2_
        obtain ⟨hP1, hK1⟩ := hB
        rw [ht] at hP1
        have hP := hP1
        have hS := hS1
        refine lv_istore (lv' := [(5, .int r5), (0, .ref (a 15)), (1, .ref (a 3)), (2, .int v2), (4, .int v4)]) hx hb dX0_live_30 hl (by decide) rfl (fun ls hl => ?_)
        refine lv_iconst (v := 1) hx hb dX0_live_32 (by decide) ?_
        refine lv_aload_n hx hb dX0_live_33 rfl (lv_at hl 1 rfl) ?_
        refine lv_bipush (v := 9) hx hb dX0_live_34 (by decide) ?_
        obtain ⟨r7, X8, er7, hw⟩ := bnd2_use hw
        refine va_calli (va_runV (As := [.int 9]) (rest := [.int 1]) ⟨hx, hb, hml, hown, hts⟩ (c_X0_draw l dC dI A a cA X6 9 (r7, X8) er7) ⟨callB_of 1 hts gd_X0_draw rfl rfl rfl (hts _ wd_38) (hts _ wd_461) hd_X0_draw ⟨Nat.le_of_ble_eq_true rfl, Nat.le_of_ble_eq_true rfl⟩, hts _ wd_463, hts _ wd_6⟩ ⟨blXD, va_recv hK hP (ci := 0) (q0 := 15) rfl rfl, fun U hU hW => ⟨rfl, by rw [hU]; exact hP, va_K.moved hW.alike hK, nst.warm hW hN, wlD hD0⟩⟩ rfl rfl hl.1 rfl (lv_room (Nat.le_of_ble_eq_true rfl)) dX0_live_36 ⟨Nat.zero_le _, Nat.zero_le _⟩) hS (fun _ _ h => h) (fun _ h => h) (fun r_ u_ t_ H1 locs1 ht hvm hp_ hB hz1 hk1 hS1 => ?_)
        obtain ⟨q1_, q2_⟩ := Prod.mk.inj hp_
        subst q1_
        subst q2_
        obtain ⟨hP1, hK1⟩ := hB
        rw [ht] at hP1
        have hP := hP1
        have hS := hS1
        refine lv_iadd hx hb dX0_live_39 ?_
        refine lv_topi (fun x9 ex9 => ?_)
        have hw := stp_use hw ex9
        refine lv_istore (lv' := [(6, .int x9), (5, .int r5), (0, .ref (a 15)), (1, .ref (a 3)), (2, .int v2), (4, .int v4)]) hx hb dX0_live_40 hl (by decide) rfl (fun ls hl => ?_)
        refine lv_aload_n hx hb dX0_live_42 rfl (lv_at hl 2 rfl) ?_
        refine lv_aload_n hx hb dX0_live_43 rfl (lv_at hl 3 rfl) ?_
        refine lv_aload_n hx hb dX0_live_44 rfl (lv_at hl 3 rfl) ?_
        refine lv_iconst (v := 0) hx hb dX0_live_45 (by decide) ?_
        refine lv_iload hx hb dX0_live_46 (lv_at hl 1 rfl) ?_
        refine lv_iload hx hb dX0_live_48 (lv_at hl 0 rfl) ?_
        refine lv_iconst (v := 0) hx hb dX0_live_50 (by decide) ?_
        obtain ⟨r10, er10, hw⟩ := Option.bind_eq_some_iff.mp hw
        refine vp_callSi (va_runV (As := [.int 0, .int r5, .int x9, .int 0]) (rest := [.ref (a 3), .ref (a 15)]) ⟨hx, hb, hml, hown, hts⟩ (c_X2_spread l dC dI a cA X8 0 r5 x9 0 r10 er10) ⟨callB_of 4 hts gd_X2_spread rfl rfl rfl (hts _ wd_37) (hts _ wd_378) hd_X2_spread ⟨Nat.le_of_ble_eq_true rfl, Nat.le_of_ble_eq_true rfl⟩, hts _ wd_320, hts _ wd_321⟩ ⟨blX, va_recv hK hP (ci := 2) (q0 := 3) rfl rfl, fun U hU hW => ⟨rfl, by rw [hU]; exact hP, va_K.moved hW.alike hK, nst.warm hW hN⟩⟩ rfl rfl hl.1 rfl (lv_room (Nat.le_of_ble_eq_true rfl)) dX0_live_51 ⟨Nat.zero_le _, Nat.zero_le _⟩).run (fun r_ e_ => ?_)
        subst r_
        obtain ⟨r11, er11, hw⟩ := Option.bind_eq_some_iff.mp hw
        refine vp_callSi (va_runV (As := [.int r10]) (rest := [.ref (a 15)]) ⟨hx, hb, hml, hown, hts⟩ (c_X2_knowing l dC dI a cA X8 r10 r11 er11) ⟨callB_of 1 hts gd_X2_knowing rfl rfl rfl (hts _ wd_37) (hts _ wd_379) hd_X2_knowing ⟨Nat.le_of_ble_eq_true rfl, Nat.le_of_ble_eq_true rfl⟩, hts _ wd_291, hts _ wd_292⟩ ⟨blX, va_recv hK hP (ci := 2) (q0 := 3) rfl rfl, fun U hU hW => ⟨rfl, by rw [hU]; exact hP, va_K.moved hW.alike hK, nst.warm hW hN⟩⟩ rfl rfl hl.1 rfl (lv_room (Nat.le_of_ble_eq_true rfl)) dX0_live_54 ⟨Nat.zero_le _, Nat.zero_le _⟩).run (fun r_ e_ => ?_)
        subst r_
        obtain ⟨r12, er12, hw⟩ := Option.bind_eq_some_iff.mp hw
        refine vp_callSi (va_runS (As := [.int r11]) (rest := [.ref (a 15)]) ⟨hx, hb, hml, hown, hts⟩ (c_J6_bitCount_0f7a4 l r11 r12 er12) ⟨callB_of 1 hts gd_J6_bitCount_0f7a4 rfl rfl rfl (hts _ wd_40) (hts _ wd_380) hd_J6_bitCount_0f7a4 ⟨Nat.le_of_ble_eq_true rfl, Nat.le_of_ble_eq_true rfl⟩, hts _ wd_333⟩ ⟨bl0, fun U hU hW => ⟨rfl, trivial⟩⟩ rfl rfl hl.1 rfl (lv_room (Nat.le_of_ble_eq_true rfl)) dX0_live_57 ⟨Nat.zero_le _, Nat.zero_le _⟩).run (fun r_ e_ => ?_)
        subst r_
        refine va_put (D := (dC, dI)) (ci := 0) (v := .int r12) (ty := .int) (C := RX0) (T := TX0) (N := 8) hx hb hts iX0 tyX0 tyX0_ok nmX0 hown hK hP (wlD hD0) hS 15 rfl rfl 6 (by decide) (hts _ wd_157) (fun _ h9 => h9) rfl (by decide +kernel) rfl rfl (Nat.le_of_ble_eq_true rfl) dX0_live_60 (fun H locs hP hD_ hS => ?_)
        obtain ⟨X13, eX13⟩ : ∃ y : WS, y = (ups X8 15 6 r12) := ⟨_, rfl⟩
        have hw := stp_use hw eX13
        have hP : va_P (dC, dI) classes (wl a cA X13) H := by rw [eX13]; exact hP
        refine lv_aload_n hx hb dX0_live_63 rfl (lv_at hl 2 rfl) ?_
        refine lv_dup hx hb dX0_live_64 rfl ?_
        refine va_get (D := (dC, dI)) (ci := 0) (v := .int (X13 15 5)) (C := RX0) (T := TX0) (N := 8) hx hb hts iX0 hown hK hP 15 rfl rfl 5 (by decide) (hts _ wd_155) (fun _ h9 => h9) rfl dX0_live_65 ?_
        refine lv_aload_n hx hb dX0_live_68 rfl (lv_at hl 2 rfl) ?_
        refine va_get (D := (dC, dI)) (ci := 0) (v := .int (X13 15 6)) (C := RX0) (T := TX0) (N := 8) hx hb hts iX0 hown hK hP 15 rfl rfl 6 (by decide) (hts _ wd_157) (fun _ h9 => h9) rfl dX0_live_69 ?_
        refine lv_iadd hx hb dX0_live_72 ?_
        refine lv_topi (fun x14 ex14 => ?_)
        have hw := stp_use hw ex14
        refine va_put (D := (dC, dI)) (ci := 0) (v := .int x14) (ty := .int) (C := RX0) (T := TX0) (N := 8) hx hb hts iX0 tyX0 tyX0_ok nmX0 hown hK hP (wlD hD0) hS 15 rfl rfl 5 (by decide) (hts _ wd_155) (fun _ h9 => h9) rfl (by decide +kernel) rfl rfl (Nat.le_of_ble_eq_true rfl) dX0_live_73 (fun H locs hP hD_ hS => ?_)
        obtain ⟨X15, eX15⟩ : ∃ y : WS, y = (ups X13 15 5 x14) := ⟨_, rfl⟩
        have hw := stp_use hw eX15
        have hP : va_P (dC, dI) classes (wl a cA X15) H := by rw [eX15]; exact hP
        obtain ⟨x16, ex16⟩ : ∃ y : Int32, y = (v4 + 1) := ⟨_, rfl⟩
        have hw := stp_use hw ex16
        refine lv_iinc (v := x16) (lv' := [(4, .int x16), (6, .int x9), (5, .int r5), (0, .ref (a 15)), (1, .ref (a 3)), (2, .int v2)]) hx hb dX0_live_76 hl (k := 5) rfl (by rw [ex16]; rfl) (by decide) rfl (fun ls hl => ?_)
        refine lv_goto (tgt := 18) hx hb dX0_live_79 (by decide) ?_
        exact ih X15 x16 hw _ _ hP hS ls (lv_sub hl [3, 4, 5, 0] rfl)
  have hl := lv_entry ([.ref (a 15), .ref (a 3), .int p2, .int p3]) (n := 7) (Nat.le_of_ble_eq_true rfl)
  rw [lg_entry_eq]
  generalize (lg_sl ([.ref (a 15), .ref (a 3), .int p2, .int p3]) ++ List.replicate (7 - (lg_sl ([.ref (a 15), .ref (a 3), .int p2, .int p3])).length) Slot.unset).toArray = ls at hl ⊢
  have hl : lv_has ls 7 [(0, .ref (a 15)), (1, .ref (a 3)), (2, .int p2), (3, .int p3)] := hl
  refine lv_aload_n hx hb dX0_live_0 rfl (lv_at hl 0 rfl) ?_
  refine lv_iconst (v := 0) hx hb dX0_live_1 (by decide) ?_
  refine va_put (D := (dC, dI)) (ci := 0) (v := .int 0) (ty := .int) (C := RX0) (T := TX0) (N := 8) hx hb hts iX0 tyX0 tyX0_ok nmX0 hown hK hP (wlD hD0) hS 15 rfl rfl 5 (by decide) (hts _ wd_155) (fun _ h9 => h9) rfl (by decide +kernel) rfl rfl (Nat.le_of_ble_eq_true rfl) dX0_live_2 (fun H locs hP hD_ hS => ?_)
  obtain ⟨X1, eX1⟩ : ∃ y : WS, y = (ups X 15 5 0) := ⟨_, rfl⟩
  have hw := stp_use hw eX1
  have hP : va_P (dC, dI) classes (wl a cA X1) H := by rw [eX1]; exact hP
  refine lv_aload_n hx hb dX0_live_5 rfl (lv_at hl 0 rfl) ?_
  refine lv_iconst (v := 0) hx hb dX0_live_6 (by decide) ?_
  refine va_put (D := (dC, dI)) (ci := 0) (v := .int 0) (ty := .int) (C := RX0) (T := TX0) (N := 8) hx hb hts iX0 tyX0 tyX0_ok nmX0 hown hK hP (wlD hD0) hS 15 rfl rfl 6 (by decide) (hts _ wd_157) (fun _ h9 => h9) rfl (by decide +kernel) rfl rfl (Nat.le_of_ble_eq_true rfl) dX0_live_7 (fun H locs hP hD_ hS => ?_)
  obtain ⟨X2, eX2⟩ : ∃ y : WS, y = (ups X1 15 6 0) := ⟨_, rfl⟩
  have hw := stp_use hw eX2
  have hP : va_P (dC, dI) classes (wl a cA X2) H := by rw [eX2]; exact hP
  refine lv_aload_n hx hb dX0_live_10 rfl (lv_at hl 0 rfl) ?_
  refine lv_iload_n hx hb dX0_live_11 rfl (lv_at hl 3 rfl) ?_
  refine va_put (D := (dC, dI)) (ci := 0) (v := .int p3) (ty := .int) (C := RX0) (T := TX0) (N := 8) hx hb hts iX0 tyX0 tyX0_ok nmX0 hown hK hP (wlD hD0) hS 15 rfl rfl 7 (by decide) (hts _ wd_159) (fun _ h9 => h9) rfl (by decide +kernel) rfl rfl (Nat.le_of_ble_eq_true rfl) dX0_live_12 (fun H locs hP hD_ hS => ?_)
  obtain ⟨X3, eX3⟩ : ∃ y : WS, y = (ups X2 15 7 p3) := ⟨_, rfl⟩
  have hw := stp_use hw eX3
  have hP : va_P (dC, dI) classes (wl a cA X3) H := by rw [eX3]; exact hP
  refine lv_iconst (v := 0) hx hb dX0_live_15 (by decide) ?_
  refine lv_istore (lv' := [(4, .int 0), (0, .ref (a 15)), (1, .ref (a 3)), (2, .int p2), (3, .int p3)]) hx hb dX0_live_16 hl (by decide) rfl (fun ls hl => ?_)
  exact L18 p2 NF X3 0 hw _ _ hP hS ls (lv_sub hl [1, 2, 3, 0] rfl)
set_option maxHeartbeats 4000000 in
set_option maxRecDepth 100000 in
theorem c_X3_days (l : Launch) (dC : Nat → ClassId) (dI : Nat → Nat → Nat) (A : Nat → Prop) (a : Nat → Nat) (cA : ClassId) (X : WS) (p1 : Int32) (p2 : Int32) (p3 : Int32) (out : (Int32 × WS)) (hw : f_X3_days X p1 p2 p3 = some out) : Met l yX3_days (.code yX3_days cX3_days 4 (some .int) :: lw_g) ({ frames := 4, cells := 0, slots := 0, locals := 103 }) (PcXD dC dI A a cA X [.ref (a 0), .int p1, .int p2, .int p3]) (va_Qi (fun (r_ : Int32) (X_ : WS) => out = (r_, X_)) (fun X_ t => va_P (dC, dI) classes (wl a cA X_) t.heap ∧ va_K (dC, dI) classes [(cA, .int)] t) A) 0 0 (A) := by
  unfold f_X3_days at hw
  refine Met.ofW (cc := cX3_days) (maxL := 4) (ret := (some .int)) (by decide) rfl ?_
  intro p e s m args below meth c s₁ B hml hv
  obtain ⟨rfl, hP, hK, hN, hD0⟩ := hv
  have hx := B.exec
  have hb := B.bytes
  have hr := B.returns
  have hts0 := atoms_spec (ws := (.code yX3_days cX3_days 4 (some .int) :: lw_g)) B.pre
  have hts : ∀ w ∈ lw_g, w.before (([.ref (a 0), .int p1, .int p2, .int p3] : List Value).toArray) s = true := fun w h => hts0 w (List.mem_cons_of_mem _ h)
  clear hts0
  have hown : s.vm.findClass RX3 = some m.cls := findClass_of_methodNamed B.named
  have hlocks := B.notSynchronized
  have hret : ∀ (pc : Nat) (ls : Array Slot) (v : Int32) (X_ : WS) (H : Heap) (locs : List Loc), (v, X_) = out → va_P (dC, dI) classes (wl a cA X_) H → va_S A s.heap H locs → decode cX3_days pc = .ok (.ireturn, 1) → W p l e ({ frames := 4, cells := 0, slots := 0, locals := 103 }) s m (([.ref (a 0), .int p1, .int p2, .int p3] : List Value).toArray) below meth c H locs 0 0 (MQ below (va_Qi (fun (r_ : Int32) (X_ : WS) => out = (r_, X_)) (fun X_ t => va_P (dC, dI) classes (wl a cA X_) t.heap ∧ va_K (dC, dI) classes [(cA, .int)] t) A) (([.ref (a 0), .int p1, .int p2, .int p3] : List Value).toArray) s 0 0 (A)) (F0 m pc ls [.int v]) := fun pc ls v X_ H locs hv hP hS hd => W.iret hx hb hr (fun t ht hW => ⟨⟨v, X_, rfl, hv.symm, by rw [ht]; exact hP, va_K.moved hW.alike hK⟩, hS.F ht⟩) hS.2.2 hd
  show W p l e ({ frames := 4, cells := 0, slots := 0, locals := 103 }) s m (([.ref (a 0), .int p1, .int p2, .int p3] : List Value).toArray) below meth c s.heap [] 0 0 (MQ below (va_Qi (fun (r_ : Int32) (X_ : WS) => out = (r_, X_)) (fun X_ t => va_P (dC, dI) classes (wl a cA X_) t.heap ∧ va_K (dC, dI) classes [(cA, .int)] t) A) (([.ref (a 0), .int p1, .int p2, .int p3] : List Value).toArray) s 0 0 (A)) (entryFrame m (([.ref (a 0), .int p1, .int p2, .int p3] : List Value).toArray) 4)
  generalize MQ below (va_Qi (fun (r_ : Int32) (X_ : WS) => out = (r_, X_)) (fun X_ t => va_P (dC, dI) classes (wl a cA X_) t.heap ∧ va_K (dC, dI) classes [(cA, .int)] t) A) (([.ref (a 0), .int p1, .int p2, .int p3] : List Value).toArray) s 0 0 (A) = Q at hret ⊢
  have hS : va_S A s.heap s.heap [] := va_S.rf
  have hl := lv_entry ([.ref (a 0), .int p1, .int p2, .int p3]) (n := 4) (Nat.le_of_ble_eq_true rfl)
  rw [lg_entry_eq]
  generalize (lg_sl ([.ref (a 0), .int p1, .int p2, .int p3]) ++ List.replicate (4 - (lg_sl ([.ref (a 0), .int p1, .int p2, .int p3])).length) Slot.unset).toArray = ls at hl ⊢
  have hl : lv_has ls 4 [(0, .ref (a 0)), (1, .int p1), (2, .int p2), (3, .int p3)] := hl
  refine lv_iload_n hx hb dX3_days_0 rfl (lv_at hl 1 rfl) ?_
  refine lv_iconst (v := 1) hx hb dX3_days_1 (by decide) ?_
  refine lv_icmp_lt (tgt := 24) hx hb dX3_days_2 (by decide) (fun c1 => ?_) (fun c1 => ?_)
  · have hw := ite_t hw c1
    refine lv_bipush (v := (-102)) hx hb dX3_days_24 (by decide) ?_
    exact hret _ _ _ _ _ _ (Option.some.inj hw) hP hS dX3_days_26
  · have hw := ite_f hw c1
    refine lv_iload_n hx hb dX3_days_5 rfl (lv_at hl 1 rfl) ?_
    refine lv_bipush (v := 60) hx hb dX3_days_6 (by decide) ?_
    refine lv_icmp_gt (tgt := 24) hx hb dX3_days_8 (by decide) (fun c2 => ?_) (fun c2 => ?_)
    · have hw := ite_t hw c2
      refine lv_bipush (v := (-102)) hx hb dX3_days_24 (by decide) ?_
      exact hret _ _ _ _ _ _ (Option.some.inj hw) hP hS dX3_days_26
    · have hw := ite_f hw c2
      refine lv_iload_n hx hb dX3_days_11 rfl (lv_at hl 2 rfl) ?_
      refine lv_if_lt (tgt := 24) hx hb dX3_days_12 (by decide) (fun c3 => ?_) (fun c3 => ?_)
      · have hw := ite_t hw c3
        refine lv_bipush (v := (-102)) hx hb dX3_days_24 (by decide) ?_
        exact hret _ _ _ _ _ _ (Option.some.inj hw) hP hS dX3_days_26
      · have hw := ite_f hw c3
        refine lv_iload_n hx hb dX3_days_15 rfl (lv_at hl 3 rfl) ?_
        refine lv_if_lt (tgt := 24) hx hb dX3_days_16 (by decide) (fun c4 => ?_) (fun c4 => ?_)
        · have hw := ite_t hw c4
          refine lv_bipush (v := (-102)) hx hb dX3_days_24 (by decide) ?_
          exact hret _ _ _ _ _ _ (Option.some.inj hw) hP hS dX3_days_26
        · have hw := ite_f hw c4
          refine lv_iload_n hx hb dX3_days_19 rfl (lv_at hl 3 rfl) ?_
          refine lv_iconst (v := 2) hx hb dX3_days_20 (by decide) ?_
          refine lv_icmp_le (tgt := 27) hx hb dX3_days_21 (by decide) (fun c5 => ?_) (fun c5 => ?_)
          · have hw := ite_t hw c5
            refine lv_aload_n hx hb dX3_days_27 rfl (lv_at hl 0 rfl) ?_
            obtain ⟨r6, er6, hw⟩ := Option.bind_eq_some_iff.mp hw
            refine vp_callSi (va_runV (As := []) (rest := []) ⟨hx, hb, hml, hown, hts⟩ (c_X3_hasTown l dC dI a cA X r6 er6) ⟨callB_of 0 hts gd_X3_hasTown rfl rfl rfl (hts _ wd_35) (hts _ wd_257) hd_X3_hasTown ⟨Nat.le_of_ble_eq_true rfl, Nat.le_of_ble_eq_true rfl⟩, hts _ wd_259, hts _ wd_1⟩ ⟨blX, va_recv hK hP (ci := 3) (q0 := 0) rfl rfl, fun U hU hW => ⟨rfl, by rw [hU]; exact hP, va_K.moved hW.alike hK, nst.warm hW hN⟩⟩ rfl rfl hl.1 rfl (lv_room (Nat.le_of_ble_eq_true rfl)) dX3_days_28 ⟨Nat.zero_le _, Nat.zero_le _⟩).run (fun r_ e_ => ?_)
            subst r_
            refine lv_if_ne (tgt := 37) hx hb dX3_days_31 (by decide) (fun c7 => ?_) (fun c7 => ?_)
            · have hw := ite_f hw c7
              refine lv_aload_n hx hb dX3_days_37 rfl (lv_at hl 0 rfl) ?_
              refine va_get (D := (dC, dI)) (ci := 3) (v := .ref (a 15)) (C := RX3) (T := TX3) (N := 6) hx hb hts iX3 hown hK hP 0 rfl rfl 3 (by decide) (hts _ wd_181) (fun _ h9 => h9) rfl dX3_days_38 ?_
              refine lv_aload_n hx hb dX3_days_41 rfl (lv_at hl 0 rfl) ?_
              refine va_get (D := (dC, dI)) (ci := 3) (v := .ref (a 3)) (C := RX3) (T := TX3) (N := 6) hx hb hts iX3 hown hK hP 0 rfl rfl 1 (by decide) (hts _ wd_179) (fun _ h9 => h9) rfl dX3_days_42 ?_
              refine lv_iload_n hx hb dX3_days_45 rfl (lv_at hl 1 rfl) ?_
              refine lv_iload_n hx hb dX3_days_46 rfl (lv_at hl 2 rfl) ?_
              obtain ⟨X8, eX8, hw⟩ := Option.bind_eq_some_iff.mp hw
              refine va_callv (va_runV (As := [.ref (a 3), .int p1, .int p2]) (rest := []) ⟨hx, hb, hml, hown, hts⟩ (c_X0_live l dC dI A a cA X p1 p2 X8 eX8) ⟨callB_of 3 hts gd_X0_live rfl rfl rfl (hts _ wd_38) (hts _ wd_457) hd_X0_live ⟨Nat.le_of_ble_eq_true rfl, Nat.le_of_ble_eq_true rfl⟩, hts _ wd_458, hts _ wd_459⟩ ⟨blXD, va_recv hK hP (ci := 0) (q0 := 15) rfl rfl, fun U hU hW => ⟨rfl, by rw [hU]; exact hP, va_K.moved hW.alike hK, nst.warm hW hN, wlD hD0⟩⟩ rfl rfl hl.1 rfl (lv_room (Nat.le_of_ble_eq_true rfl)) dX3_days_47 ⟨Nat.zero_le _, Nat.zero_le _⟩) hS (fun _ _ h => h) (fun _ h => h) (fun u_ t_ H1 locs1 ht hvm hp_ hB hz1 hk1 hS1 => ?_)
              subst hp_
              obtain ⟨hP1, hK1⟩ := hB
              rw [ht] at hP1
              have hP := hP1
              have hS := hS1
              refine lv_iload_n hx hb dX3_days_50 rfl (lv_at hl 3 rfl) ?_
              by_cases c9 : p3 = 0
              · have hw := ite_t hw c9
                refine lv_lookup (off := 25) (tgt := 76) hx hb dX3_days_51 (by decide) (by rw [c9]; decide) (by decide) ?_
                refine lv_aload_n hx hb dX3_days_76 rfl (lv_at hl 0 rfl) ?_
                refine va_get (D := (dC, dI)) (ci := 3) (v := .ref (a 15)) (C := RX3) (T := TX3) (N := 6) hx hb hts iX3 hown hK hP 0 rfl rfl 3 (by decide) (hts _ wd_181) (fun _ h9 => h9) rfl dX3_days_77 ?_
                refine va_getN (D := (dC, dI)) (ci := 0) (v := .int (X8 15 5)) (C := RX0) (T := TX0) (N := 8) hx hb hts iX0 hown hK hP 15 rfl rfl 5 (by decide) (va_Nw.use rfl (hN _ nk_156)) (fun _ h9 => h9) rfl dX3_days_80 ?_
                exact hret _ _ _ _ _ _ (Option.some.inj hw) hP hS dX3_days_83
              have hw := ite_f hw c9
              by_cases c10 : p3 = 1
              · have hw := ite_t hw c10
                refine lv_lookup (off := 33) (tgt := 84) hx hb dX3_days_51 (by decide) (by rw [c10]; decide) (by decide) ?_
                refine lv_aload_n hx hb dX3_days_84 rfl (lv_at hl 0 rfl) ?_
                refine va_get (D := (dC, dI)) (ci := 3) (v := .ref (a 15)) (C := RX3) (T := TX3) (N := 6) hx hb hts iX3 hown hK hP 0 rfl rfl 3 (by decide) (hts _ wd_181) (fun _ h9 => h9) rfl dX3_days_85 ?_
                refine va_getN (D := (dC, dI)) (ci := 0) (v := .int (X8 15 6)) (C := RX0) (T := TX0) (N := 8) hx hb hts iX0 hown hK hP 15 rfl rfl 6 (by decide) (va_Nw.use rfl (hN _ nk_158)) (fun _ h9 => h9) rfl dX3_days_88 ?_
                exact hret _ _ _ _ _ _ (Option.some.inj hw) hP hS dX3_days_91
              have hw := ite_f hw c10
              refine lv_lookup (off := 41) (tgt := 92) hx hb dX3_days_51 (by decide) (by simp [Op.lookupswitch.offset, (i32_ne c9 (z := 0) (by decide)).symm, (i32_ne c10 (z := 1) (by decide)).symm]) (by decide) ?_
              refine lv_aload_n hx hb dX3_days_92 rfl (lv_at hl 0 rfl) ?_
              refine va_get (D := (dC, dI)) (ci := 3) (v := .ref (a 15)) (C := RX3) (T := TX3) (N := 6) hx hb hts iX3 hown hK hP 0 rfl rfl 3 (by decide) (hts _ wd_181) (fun _ h9 => h9) rfl dX3_days_93 ?_
              refine va_getN (D := (dC, dI)) (ci := 0) (v := .int (X8 15 7)) (C := RX0) (T := TX0) (N := 8) hx hb hts iX0 hown hK hP 15 rfl rfl 7 (by decide) (va_Nw.use rfl (hN _ nk_160)) (fun _ h9 => h9) rfl dX3_days_96 ?_
              exact hret _ _ _ _ _ _ (Option.some.inj hw) hP hS dX3_days_99
            · have hw := ite_t hw c7
              refine lv_bipush (v := (-103)) hx hb dX3_days_34 (by decide) ?_
              exact hret _ _ _ _ _ _ (Option.some.inj hw) hP hS dX3_days_36
          · have hw := ite_f hw c5
            refine lv_bipush (v := (-102)) hx hb dX3_days_24 (by decide) ?_
            exact hret _ _ _ _ _ _ (Option.some.inj hw) hP hS dX3_days_26
set_option maxHeartbeats 4000000 in
set_option maxRecDepth 100000 in
theorem c_X4_draw (l : Launch) (dC : Nat → ClassId) (dI : Nat → Nat → Nat) (A : Nat → Prop) (a : Nat → Nat) (cA : ClassId) (X : MS) (p1 : Int32) (out : (Int32 × MS)) (hw : f_X4_draw X p1 = some out) : Met l yX4_draw (.code yX4_draw cX4_draw 2 (some .int) :: lw_g) ({ frames := 0, cells := 0, slots := 0, locals := 0 }) (PcMD dC dI A a cA X [.ref (a 0), .int p1]) (va_Qi (fun (r_ : Int32) (X_ : MS) => out = (r_, X_)) (fun X_ t => va_P (dC, dI) classes (wm a cA X_) t.heap ∧ va_K (dC, dI) classes [(cA, .int)] t) A) 0 0 (A) := by
  unfold f_X4_draw at hw
  refine Met.ofW (cc := cX4_draw) (maxL := 2) (ret := (some .int)) (by decide) rfl ?_
  intro p e s m args below meth c s₁ B hml hv
  obtain ⟨rfl, hP, hK, hD0⟩ := hv
  have hx := B.exec
  have hb := B.bytes
  have hr := B.returns
  have hts0 := atoms_spec (ws := (.code yX4_draw cX4_draw 2 (some .int) :: lw_g)) B.pre
  have hts : ∀ w ∈ lw_g, w.before (([.ref (a 0), .int p1] : List Value).toArray) s = true := fun w h => hts0 w (List.mem_cons_of_mem _ h)
  clear hts0
  have hown : s.vm.findClass RX4 = some m.cls := findClass_of_methodNamed B.named
  have hlocks := B.notSynchronized
  have hret : ∀ (pc : Nat) (ls : Array Slot) (v : Int32) (X_ : MS) (H : Heap) (locs : List Loc), (v, X_) = out → va_P (dC, dI) classes (wm a cA X_) H → va_S A s.heap H locs → decode cX4_draw pc = .ok (.ireturn, 1) → W p l e ({ frames := 0, cells := 0, slots := 0, locals := 0 }) s m (([.ref (a 0), .int p1] : List Value).toArray) below meth c H locs 0 0 (MQ below (va_Qi (fun (r_ : Int32) (X_ : MS) => out = (r_, X_)) (fun X_ t => va_P (dC, dI) classes (wm a cA X_) t.heap ∧ va_K (dC, dI) classes [(cA, .int)] t) A) (([.ref (a 0), .int p1] : List Value).toArray) s 0 0 (A)) (F0 m pc ls [.int v]) := fun pc ls v X_ H locs hv hP hS hd => W.iret hx hb hr (fun t ht hW => ⟨⟨v, X_, rfl, hv.symm, by rw [ht]; exact hP, va_K.moved hW.alike hK⟩, hS.F ht⟩) hS.2.2 hd
  show W p l e ({ frames := 0, cells := 0, slots := 0, locals := 0 }) s m (([.ref (a 0), .int p1] : List Value).toArray) below meth c s.heap [] 0 0 (MQ below (va_Qi (fun (r_ : Int32) (X_ : MS) => out = (r_, X_)) (fun X_ t => va_P (dC, dI) classes (wm a cA X_) t.heap ∧ va_K (dC, dI) classes [(cA, .int)] t) A) (([.ref (a 0), .int p1] : List Value).toArray) s 0 0 (A)) (entryFrame m (([.ref (a 0), .int p1] : List Value).toArray) 2)
  generalize MQ below (va_Qi (fun (r_ : Int32) (X_ : MS) => out = (r_, X_)) (fun X_ t => va_P (dC, dI) classes (wm a cA X_) t.heap ∧ va_K (dC, dI) classes [(cA, .int)] t) A) (([.ref (a 0), .int p1] : List Value).toArray) s 0 0 (A) = Q at hret ⊢
  have hS : va_S A s.heap s.heap [] := va_S.rf
  have hl := lv_entry ([.ref (a 0), .int p1]) (n := 2) (Nat.le_of_ble_eq_true rfl)
  rw [lg_entry_eq]
  generalize (lg_sl ([.ref (a 0), .int p1]) ++ List.replicate (2 - (lg_sl ([.ref (a 0), .int p1])).length) Slot.unset).toArray = ls at hl ⊢
  have hl : lv_has ls 2 [(0, .ref (a 0)), (1, .int p1)] := hl
  refine lv_aload_n hx hb dX4_draw_0 rfl (lv_at hl 0 rfl) ?_
  refine lv_ldc2 hx hb hown (hts _ wd_803) dX4_draw_1 ?_
  refine lv_aload_n hx hb dX4_draw_4 rfl (lv_at hl 0 rfl) ?_
  refine va_get (D := (dC, dI)) (ci := 4) (v := .int (X.1 0 16)) (C := RX4) (T := TX4) (N := 29) hx hb hts iX4 hown hK hP 0 rfl rfl 16 (by decide) (hts _ wd_538) (fun _ h9 => h9) rfl dX4_draw_5 ?_
  refine lv_i2l hx hb dX4_draw_8 rfl ?_
  refine lv_lmul hx hb dX4_draw_9 ?_
  refine lv_ldc2 hx hb hown (hts _ wd_804) dX4_draw_10 ?_
  refine lv_ladd hx hb dX4_draw_13 ?_
  refine lv_ldc2 hx hb hown (hts _ wd_805) dX4_draw_14 ?_
  refine lv_land hx hb dX4_draw_17 ?_
  refine lv_l2i hx hb dX4_draw_18 rfl ?_
  refine lv_topi (fun x1 ex1 => ?_)
  have hw := stp_use hw ex1
  refine va_put (D := (dC, dI)) (ci := 4) (v := .int x1) (ty := .int) (C := RX4) (T := TX4) (N := 29) hx hb hts iX4 tyX4 tyX4_ok nmX4 hown hK hP (wmD hD0) hS 0 rfl rfl 16 (by decide) (hts _ wd_538) (fun _ h9 => h9) rfl (by decide +kernel) rfl rfl (Nat.le_of_ble_eq_true rfl) dX4_draw_19 (fun H locs hP hD_ hS => ?_)
  obtain ⟨X2, eX2⟩ : ∃ y : MS, y = (ups X.1 0 16 x1, X.2) := ⟨_, rfl⟩
  have hw := stp_use hw eX2
  have hP : va_P (dC, dI) classes (wm a cA X2) H := by rw [eX2]; exact hP
  refine lv_aload_n hx hb dX4_draw_22 rfl (lv_at hl 0 rfl) ?_
  refine va_get (D := (dC, dI)) (ci := 4) (v := .int (X2.1 0 16)) (C := RX4) (T := TX4) (N := 29) hx hb hts iX4 hown hK hP 0 rfl rfl 16 (by decide) (hts _ wd_538) (fun _ h9 => h9) rfl dX4_draw_23 ?_
  refine lv_ldc hx hb hown (hts _ wd_806) dX4_draw_26 ?_
  refine lv_idiv hx hb dX4_draw_28 (by decide) ?_
  refine lv_iload_n hx hb dX4_draw_29 rfl (lv_at hl 1 rfl) ?_
  obtain ⟨h3, hw⟩ := dvc_use hw
  refine lv_irem hx hb dX4_draw_30 h3 ?_
  exact hret _ _ _ _ _ _ (Option.some.inj hw) hP hS dX4_draw_31
set_option maxHeartbeats 4000000 in
set_option maxRecDepth 100000 in
theorem c_X4_days (l : Launch) (dC : Nat → ClassId) (dI : Nat → Nat → Nat) (A : Nat → Prop) (a : Nat → Nat) (cA : ClassId) (X : MS) (p1 : Int32) (p2 : Int32) (p3 : Int32) (out : (Int32 × MS)) (hw : f_X4_days X p1 p2 p3 = some out) : Met l yX4_days (.code yX4_days cX4_days 8 (some .int) :: lw_g) ({ frames := 4, cells := 0, slots := 0, locals := 101 }) (PcMD dC dI A a cA X [.ref (a 0), .int p1, .int p2, .int p3]) (va_Qi (fun (r_ : Int32) (X_ : MS) => out = (r_, X_)) (fun X_ t => va_P (dC, dI) classes (wm a cA X_) t.heap ∧ va_K (dC, dI) classes [(cA, .int)] t) A) 0 0 (A) := by
  unfold f_X4_days at hw
  refine Met.ofW (cc := cX4_days) (maxL := 8) (ret := (some .int)) (by decide) rfl ?_
  intro p e s m args below meth c s₁ B hml hv
  obtain ⟨rfl, hP, hK, hD0⟩ := hv
  have hx := B.exec
  have hb := B.bytes
  have hr := B.returns
  have hts0 := atoms_spec (ws := (.code yX4_days cX4_days 8 (some .int) :: lw_g)) B.pre
  have hts : ∀ w ∈ lw_g, w.before (([.ref (a 0), .int p1, .int p2, .int p3] : List Value).toArray) s = true := fun w h => hts0 w (List.mem_cons_of_mem _ h)
  clear hts0
  have hown : s.vm.findClass RX4 = some m.cls := findClass_of_methodNamed B.named
  have hlocks := B.notSynchronized
  have hret : ∀ (pc : Nat) (ls : Array Slot) (v : Int32) (X_ : MS) (H : Heap) (locs : List Loc), (v, X_) = out → va_P (dC, dI) classes (wm a cA X_) H → va_S A s.heap H locs → decode cX4_days pc = .ok (.ireturn, 1) → W p l e ({ frames := 4, cells := 0, slots := 0, locals := 101 }) s m (([.ref (a 0), .int p1, .int p2, .int p3] : List Value).toArray) below meth c H locs 0 0 (MQ below (va_Qi (fun (r_ : Int32) (X_ : MS) => out = (r_, X_)) (fun X_ t => va_P (dC, dI) classes (wm a cA X_) t.heap ∧ va_K (dC, dI) classes [(cA, .int)] t) A) (([.ref (a 0), .int p1, .int p2, .int p3] : List Value).toArray) s 0 0 (A)) (F0 m pc ls [.int v]) := fun pc ls v X_ H locs hv hP hS hd => W.iret hx hb hr (fun t ht hW => ⟨⟨v, X_, rfl, hv.symm, by rw [ht]; exact hP, va_K.moved hW.alike hK⟩, hS.F ht⟩) hS.2.2 hd
  show W p l e ({ frames := 4, cells := 0, slots := 0, locals := 101 }) s m (([.ref (a 0), .int p1, .int p2, .int p3] : List Value).toArray) below meth c s.heap [] 0 0 (MQ below (va_Qi (fun (r_ : Int32) (X_ : MS) => out = (r_, X_)) (fun X_ t => va_P (dC, dI) classes (wm a cA X_) t.heap ∧ va_K (dC, dI) classes [(cA, .int)] t) A) (([.ref (a 0), .int p1, .int p2, .int p3] : List Value).toArray) s 0 0 (A)) (entryFrame m (([.ref (a 0), .int p1, .int p2, .int p3] : List Value).toArray) 8)
  generalize MQ below (va_Qi (fun (r_ : Int32) (X_ : MS) => out = (r_, X_)) (fun X_ t => va_P (dC, dI) classes (wm a cA X_) t.heap ∧ va_K (dC, dI) classes [(cA, .int)] t) A) (([.ref (a 0), .int p1, .int p2, .int p3] : List Value).toArray) s 0 0 (A) = Q at hret ⊢
  have hS : va_S A s.heap s.heap [] := va_S.rf
  have L55 : ∀ (v1 : Int32), ∀ (v3 : Int32), ∀ n : Nat, ∀ (X : MS), ∀ (v4 : Int32), ∀ (v5 : Int32), ∀ (v6 : Int32), g_X4_days_55 v1 v3 n X v4 v5 v6 = some out → ∀ (H : Heap) (locs : List Loc), va_P (dC, dI) classes (wm a cA X) H → va_S A s.heap H locs → ∀ ls : Array Slot, lv_has ls 8 [(0, .ref (a 0)), (1, .int v1), (3, .int v3), (4, .int v4), (5, .int v5), (6, .int v6)] → W p l e ({ frames := 4, cells := 0, slots := 0, locals := 101 }) s m (([.ref (a 0), .int p1, .int p2, .int p3] : List Value).toArray) below meth c H locs 0 0 Q (F0 m 55 ls []) := by
    intro v1 v3 n
    induction n with
    | zero =>
      intro X v4 v5 v6 hw
      rw [g_X4_days_55] at hw
      cases hw
    | succ n ih =>
      intro X v4 v5 v6 hw H locs hP hS ls hl
      rw [g_X4_days_55] at hw
      refine lv_iload hx hb dX4_days_55 (lv_at hl 5 rfl) ?_
      refine lv_iload_n hx hb dX4_days_57 rfl (lv_at hl 1 rfl) ?_
      refine lv_icmp_ge (tgt := 102) hx hb dX4_days_58 (by decide) (fun c9 => ?_) (fun c9 => ?_)
      · have hw := ite_t hw c9
        refine lv_iload_n hx hb dX4_days_102 rfl (lv_at hl 2 rfl) ?_
        refine lv_if_ne (tgt := 111) hx hb dX4_days_103 (by decide) (fun c10 => ?_) (fun c10 => ?_)
        · have hw := ite_f hw c10
          refine lv_iload_n hx hb dX4_days_111 rfl (lv_at hl 2 rfl) ?_
          refine lv_iconst (v := 1) hx hb dX4_days_112 (by decide) ?_
          refine lv_icmp_ne (tgt := 121) hx hb dX4_days_113 (by decide) (fun c11 => ?_) (fun c11 => ?_)
          · have hw := ite_f hw c11
            refine lv_aload_n hx hb dX4_days_121 rfl (lv_at hl 0 rfl) ?_
            refine va_get (D := (dC, dI)) (ci := 4) (v := .int (X.1 0 16)) (C := RX4) (T := TX4) (N := 29) hx hb hts iX4 hown hK hP 0 rfl rfl 16 (by decide) (hts _ wd_538) (fun _ h9 => h9) rfl dX4_days_122 ?_
            exact hret _ _ _ _ _ _ (Option.some.inj hw) hP hS dX4_days_125
          · have hw := ite_t hw c11
            refine lv_iload hx hb dX4_days_116 (lv_at hl 4 rfl) ?_
            refine lv_goto (tgt := 125) hx hb dX4_days_118 (by decide) ?_
            exact hret _ _ _ _ _ _ (Option.some.inj hw) hP hS dX4_days_125
        · have hw := ite_t hw c10
          refine lv_iload hx hb dX4_days_106 (lv_at hl 3 rfl) ?_
          refine lv_goto (tgt := 125) hx hb dX4_days_108 (by decide) ?_
          exact hret _ _ _ _ _ _ (Option.some.inj hw) hP hS dX4_days_125
      · have hw := ite_f hw c9
        refine lv_aload_n hx hb dX4_days_61 rfl (lv_at hl 0 rfl) ?_
        refine lv_bipush (v := 6) hx hb dX4_days_62 (by decide) ?_
        obtain ⟨r12, X13, er12, hw⟩ := bnd2_use hw
        refine va_calli (va_runV (As := [.int 6]) (rest := []) ⟨hx, hb, hml, hown, hts⟩ (c_X4_draw l dC dI A a cA X 6 (r12, X13) er12) ⟨callB_of 1 hts gd_X4_draw rfl rfl rfl (hts _ wd_39) (hts _ wd_799) hd_X4_draw ⟨Nat.le_of_ble_eq_true rfl, Nat.le_of_ble_eq_true rfl⟩, hts _ wd_801, hts _ wd_30⟩ ⟨blMD, va_recv hK hP (ci := 4) (q0 := 0) rfl rfl, fun U hU hW => ⟨rfl, by rw [hU]; exact hP, va_K.moved hW.alike hK, wmD hD0⟩⟩ rfl rfl hl.1 rfl (lv_room (Nat.le_of_ble_eq_true rfl)) dX4_days_64 ⟨Nat.zero_le _, Nat.zero_le _⟩) hS (fun _ _ h => h) (fun _ h => h) (fun r_ u_ t_ H1 locs1 ht hvm hp_ hB hz1 hk1 hS1 => ?_)
        obtain ⟨q1_, q2_⟩ := Prod.mk.inj hp_
        subst q1_
        subst q2_
        obtain ⟨hP1, hK1⟩ := hB
        rw [ht] at hP1
        have hP := hP1
        have hS := hS1
        refine lv_istore (lv' := [(7, .int r12), (0, .ref (a 0)), (1, .int v1), (3, .int v3), (4, .int v4), (5, .int v5), (6, .int v6)]) hx hb dX4_days_67 hl (by decide) rfl (fun ls hl => ?_)
        refine lv_aload_n hx hb dX4_days_69 rfl (lv_at hl 1 rfl) ?_
        refine lv_iload hx hb dX4_days_70 (lv_at hl 0 rfl) ?_
        refine lv_aload_n hx hb dX4_days_72 rfl (lv_at hl 1 rfl) ?_
        refine lv_bipush (v := 9) hx hb dX4_days_73 (by decide) ?_
        obtain ⟨r14, X15, er14, hw⟩ := bnd2_use hw
        refine va_calli (va_runV (As := [.int 9]) (rest := [.int r12, .ref (a 0)]) ⟨hx, hb, hml, hown, hts⟩ (c_X4_draw l dC dI A a cA X13 9 (r14, X15) er14) ⟨callB_of 1 hts gd_X4_draw rfl rfl rfl (hts _ wd_39) (hts _ wd_799) hd_X4_draw ⟨Nat.le_of_ble_eq_true rfl, Nat.le_of_ble_eq_true rfl⟩, hts _ wd_801, hts _ wd_30⟩ ⟨blMD, va_recv hK hP (ci := 4) (q0 := 0) rfl rfl, fun U hU hW => ⟨rfl, by rw [hU]; exact hP, va_K.moved hW.alike hK, wmD hD0⟩⟩ rfl rfl hl.1 rfl (lv_room (Nat.le_of_ble_eq_true rfl)) dX4_days_75 ⟨Nat.zero_le _, Nat.zero_le _⟩) hS (fun _ _ h => h) (fun _ h => h) (fun r_ u_ t_ H1 locs1 ht hvm hp_ hB hz1 hk1 hS1 => ?_)
        obtain ⟨q1_, q2_⟩ := Prod.mk.inj hp_
        subst q1_
        subst q2_
        obtain ⟨hP1, hK1⟩ := hB
        rw [ht] at hP1
        have hP := hP1
        have hS := hS1
        refine lv_iconst (v := 1) hx hb dX4_days_78 (by decide) ?_
        refine lv_iadd hx hb dX4_days_79 ?_
        refine lv_iconst (v := 0) hx hb dX4_days_80 (by decide) ?_
        obtain ⟨r16, er16, hw⟩ := Option.bind_eq_some_iff.mp hw
        refine vp_callSi (va_runV (As := [.int r12, .int (r14 + 1), .int 0]) (rest := []) ⟨hx, hb, hml, hown, hts⟩ (c_X4_knowThen l dC dI a cA X15 r12 (r14 + 1) 0 r16 er16) ⟨callB_of 3 hts gd_X4_knowThen rfl rfl rfl (hts _ wd_39) (hts _ wd_715) hd_X4_knowThen ⟨Nat.le_of_ble_eq_true rfl, Nat.le_of_ble_eq_true rfl⟩, hts _ wd_717, hts _ wd_21⟩ ⟨blM, va_recv hK hP (ci := 4) (q0 := 0) rfl rfl, fun U hU hW => ⟨rfl, by rw [hU]; exact hP, va_K.moved hW.alike hK⟩⟩ rfl rfl hl.1 rfl (lv_room (Nat.le_of_ble_eq_true rfl)) dX4_days_81 ⟨Nat.zero_le _, Nat.zero_le _⟩).run (fun r_ e_ => ?_)
        subst r_
        obtain ⟨r17, er17, hw⟩ := Option.bind_eq_some_iff.mp hw
        refine vp_callSi (va_runS (As := [.int r16]) (rest := []) ⟨hx, hb, hml, hown, hts⟩ (c_X4_ones l r16 r17 er17) ⟨callB_of 1 hts gd_X4_ones rfl rfl rfl (hts _ wd_39) (hts _ wd_696) hd_X4_ones ⟨Nat.le_of_ble_eq_true rfl, Nat.le_of_ble_eq_true rfl⟩, hts _ wd_697⟩ ⟨bl0, fun U hU hW => ⟨rfl, trivial⟩⟩ rfl rfl hl.1 rfl (lv_room (Nat.le_of_ble_eq_true rfl)) dX4_days_84 ⟨Nat.zero_le _, Nat.zero_le _⟩).run (fun r_ e_ => ?_)
        subst r_
        refine lv_istore (lv' := [(5, .int r17), (7, .int r12), (0, .ref (a 0)), (1, .int v1), (3, .int v3), (4, .int v4), (6, .int v6)]) hx hb dX4_days_87 hl (by decide) rfl (fun ls hl => ?_)
        refine lv_iload hx hb dX4_days_89 (lv_at hl 5 rfl) ?_
        refine lv_iload hx hb dX4_days_91 (lv_at hl 0 rfl) ?_
        refine lv_iadd hx hb dX4_days_93 ?_
        refine lv_topi (fun x18 ex18 => ?_)
        have hw := stp_use hw ex18
        refine lv_istore (lv' := [(4, .int x18), (5, .int r17), (7, .int r12), (0, .ref (a 0)), (1, .int v1), (3, .int v3), (6, .int v6)]) hx hb dX4_days_94 hl (by decide) rfl (fun ls hl => ?_)
        obtain ⟨x19, ex19⟩ : ∃ y : Int32, y = (v6 + 1) := ⟨_, rfl⟩
        have hw := stp_use hw ex19
        refine lv_iinc (v := x19) (lv' := [(6, .int x19), (4, .int x18), (5, .int r17), (7, .int r12), (0, .ref (a 0)), (1, .int v1), (3, .int v3)]) hx hb dX4_days_96 hl (k := 6) rfl (by rw [ex19]; rfl) (by decide) rfl (fun ls hl => ?_)
        refine lv_goto (tgt := 55) hx hb dX4_days_99 (by decide) ?_
        exact ih X15 x18 r17 x19 hw _ _ hP hS ls (lv_sub hl [4, 5, 6, 1, 2, 0] rfl)
  have hl := lv_entry ([.ref (a 0), .int p1, .int p2, .int p3]) (n := 8) (Nat.le_of_ble_eq_true rfl)
  rw [lg_entry_eq]
  generalize (lg_sl ([.ref (a 0), .int p1, .int p2, .int p3]) ++ List.replicate (8 - (lg_sl ([.ref (a 0), .int p1, .int p2, .int p3])).length) Slot.unset).toArray = ls at hl ⊢
  have hl : lv_has ls 8 [(0, .ref (a 0)), (1, .int p1), (2, .int p2), (3, .int p3)] := hl
  refine lv_iload_n hx hb dX4_days_0 rfl (lv_at hl 1 rfl) ?_
  refine lv_i2l hx hb dX4_days_1 rfl ?_
  refine lv_lconst (v := 1) hx hb dX4_days_2 (by decide) ?_
  refine lv_ldc2 hx hb hown (hts _ wd_797) dX4_days_3 ?_
  obtain ⟨r1, er1, hw⟩ := Option.bind_eq_some_iff.mp hw
  refine vp_callSi (va_runS (As := [.long (Int32.toInt64 p1), .long 1, .long 60]) (rest := []) ⟨hx, hb, hml, hown, hts⟩ (c_X4_in l (Int32.toInt64 p1) 1 60 r1 er1) ⟨callB_of 3 hts gd_X4_in rfl rfl rfl (hts _ wd_39) (hts _ wd_615) hd_X4_in ⟨Nat.le_of_ble_eq_true rfl, Nat.le_of_ble_eq_true rfl⟩, hts _ wd_616⟩ ⟨bl0, fun U hU hW => ⟨rfl, trivial⟩⟩ rfl rfl hl.1 rfl (lv_room (Nat.le_of_ble_eq_true rfl)) dX4_days_6 ⟨Nat.zero_le _, Nat.zero_le _⟩).run (fun r_ e_ => ?_)
  subst r_
  refine lv_if_eq (tgt := 28) hx hb dX4_days_9 (by decide) (fun c2 => ?_) (fun c2 => ?_)
  · have hw := ite_t hw c2
    refine lv_bipush (v := (-102)) hx hb dX4_days_28 (by decide) ?_
    exact hret _ _ _ _ _ _ (Option.some.inj hw) hP hS dX4_days_30
  · have hw := ite_f hw c2
    refine lv_iload_n hx hb dX4_days_12 rfl (lv_at hl 2 rfl) ?_
    refine lv_if_lt (tgt := 28) hx hb dX4_days_13 (by decide) (fun c3 => ?_) (fun c3 => ?_)
    · have hw := ite_t hw c3
      refine lv_bipush (v := (-102)) hx hb dX4_days_28 (by decide) ?_
      exact hret _ _ _ _ _ _ (Option.some.inj hw) hP hS dX4_days_30
    · have hw := ite_f hw c3
      refine lv_iload_n hx hb dX4_days_16 rfl (lv_at hl 3 rfl) ?_
      refine lv_i2l hx hb dX4_days_17 rfl ?_
      refine lv_lconst (v := 0) hx hb dX4_days_18 (by decide) ?_
      refine lv_ldc2 hx hb hown (hts _ wd_798) dX4_days_19 ?_
      obtain ⟨r4, er4, hw⟩ := Option.bind_eq_some_iff.mp hw
      refine vp_callSi (va_runS (As := [.long (Int32.toInt64 p3), .long 0, .long 2]) (rest := []) ⟨hx, hb, hml, hown, hts⟩ (c_X4_in l (Int32.toInt64 p3) 0 2 r4 er4) ⟨callB_of 3 hts gd_X4_in rfl rfl rfl (hts _ wd_39) (hts _ wd_615) hd_X4_in ⟨Nat.le_of_ble_eq_true rfl, Nat.le_of_ble_eq_true rfl⟩, hts _ wd_616⟩ ⟨bl0, fun U hU hW => ⟨rfl, trivial⟩⟩ rfl rfl hl.1 rfl (lv_room (Nat.le_of_ble_eq_true rfl)) dX4_days_22 ⟨Nat.zero_le _, Nat.zero_le _⟩).run (fun r_ e_ => ?_)
      subst r_
      refine lv_if_ne (tgt := 31) hx hb dX4_days_25 (by decide) (fun c5 => ?_) (fun c5 => ?_)
      · have hw := ite_f hw c5
        refine lv_aload_n hx hb dX4_days_31 rfl (lv_at hl 0 rfl) ?_
        obtain ⟨r6, er6, hw⟩ := Option.bind_eq_some_iff.mp hw
        refine vp_callSi (va_runV (As := []) (rest := []) ⟨hx, hb, hml, hown, hts⟩ (c_X4_lacks l dC dI a cA X r6 er6) ⟨callB_of 0 hts gd_X4_lacks rfl rfl rfl (hts _ wd_39) (hts _ wd_647) hd_X4_lacks ⟨Nat.le_of_ble_eq_true rfl, Nat.le_of_ble_eq_true rfl⟩, hts _ wd_649, hts _ wd_12⟩ ⟨blM, va_recv hK hP (ci := 4) (q0 := 0) rfl rfl, fun U hU hW => ⟨rfl, by rw [hU]; exact hP, va_K.moved hW.alike hK⟩⟩ rfl rfl hl.1 rfl (lv_room (Nat.le_of_ble_eq_true rfl)) dX4_days_32 ⟨Nat.zero_le _, Nat.zero_le _⟩).run (fun r_ e_ => ?_)
        subst r_
        refine lv_if_eq (tgt := 41) hx hb dX4_days_35 (by decide) (fun c7 => ?_) (fun c7 => ?_)
        · have hw := ite_t hw c7
          refine lv_aload_n hx hb dX4_days_41 rfl (lv_at hl 0 rfl) ?_
          refine lv_iload_n hx hb dX4_days_42 rfl (lv_at hl 2 rfl) ?_
          refine va_put (D := (dC, dI)) (ci := 4) (v := .int p2) (ty := .int) (C := RX4) (T := TX4) (N := 29) hx hb hts iX4 tyX4 tyX4_ok nmX4 hown hK hP (wmD hD0) hS 0 rfl rfl 16 (by decide) (hts _ wd_538) (fun _ h9 => h9) rfl (by decide +kernel) rfl rfl (Nat.le_of_ble_eq_true rfl) dX4_days_43 (fun H locs hP hD_ hS => ?_)
          obtain ⟨X8, eX8⟩ : ∃ y : MS, y = (ups X.1 0 16 p2, X.2) := ⟨_, rfl⟩
          have hw := stp_use hw eX8
          have hP : va_P (dC, dI) classes (wm a cA X8) H := by rw [eX8]; exact hP
          refine lv_iconst (v := 0) hx hb dX4_days_46 (by decide) ?_
          refine lv_istore (lv' := [(4, .int 0), (0, .ref (a 0)), (1, .int p1), (2, .int p2), (3, .int p3)]) hx hb dX4_days_47 hl (by decide) rfl (fun ls hl => ?_)
          refine lv_iconst (v := 0) hx hb dX4_days_49 (by decide) ?_
          refine lv_istore (lv' := [(5, .int 0), (4, .int 0), (0, .ref (a 0)), (1, .int p1), (2, .int p2), (3, .int p3)]) hx hb dX4_days_50 hl (by decide) rfl (fun ls hl => ?_)
          refine lv_iconst (v := 0) hx hb dX4_days_52 (by decide) ?_
          refine lv_istore (lv' := [(6, .int 0), (5, .int 0), (4, .int 0), (0, .ref (a 0)), (1, .int p1), (2, .int p2), (3, .int p3)]) hx hb dX4_days_53 hl (by decide) rfl (fun ls hl => ?_)
          exact L55 p1 p3 NF X8 0 0 0 hw _ _ hP hS ls (lv_sub hl [3, 4, 6, 2, 1, 0] rfl)
        · have hw := ite_f hw c7
          refine lv_bipush (v := (-103)) hx hb dX4_days_38 (by decide) ?_
          exact hret _ _ _ _ _ _ (Option.some.inj hw) hP hS dX4_days_40
      · have hw := ite_t hw c5
        refine lv_bipush (v := (-102)) hx hb dX4_days_28 (by decide) ?_
        exact hret _ _ _ _ _ _ (Option.some.inj hw) hP hS dX4_days_30
set_option maxHeartbeats 4000000 in
set_option maxRecDepth 100000 in
theorem c_X2_copy_9_3 (l : Launch) (dC : Nat → ClassId) (dI : Nat → Nat → Nat) (A : Nat → Prop) (a : Nat → Nat) (cA : ClassId) (X : WS) (out : WS) (hw : f_X2_copy_9_3 X = some out) : Met l yX2_copy (.code yX2_copy cX2_copy 2 none :: lw_g) ({ frames := 1, cells := 0, slots := 0, locals := 60 }) (PcXD dC dI A a cA X [.ref (a 9), .ref (a 3)]) (va_Qv (fun X_ : WS => out = X_) (fun X_ t => va_P (dC, dI) classes (wl a cA X_) t.heap ∧ va_K (dC, dI) classes [(cA, .int)] t) A) 0 0 (A) := by
  unfold f_X2_copy_9_3 at hw
  refine Met.ofW (cc := cX2_copy) (maxL := 2) (ret := none) (by decide) rfl ?_
  intro p e s m args below meth c s₁ B hml hv
  obtain ⟨rfl, hP, hK, hN, hD0⟩ := hv
  have hx := B.exec
  have hb := B.bytes
  have hr := B.returns
  have hts0 := atoms_spec (ws := (.code yX2_copy cX2_copy 2 none :: lw_g)) B.pre
  have hts : ∀ w ∈ lw_g, w.before (([.ref (a 9), .ref (a 3)] : List Value).toArray) s = true := fun w h => hts0 w (List.mem_cons_of_mem _ h)
  clear hts0
  have hown : s.vm.findClass RX2 = some m.cls := findClass_of_methodNamed B.named
  have hlocks := B.notSynchronized
  have hret : ∀ (pc : Nat) (ls : Array Slot) (X_ : WS) (H : Heap) (locs : List Loc), X_ = out → va_P (dC, dI) classes (wl a cA X_) H → va_S A s.heap H locs → decode cX2_copy pc = .ok (.return_, 1) → W p l e ({ frames := 1, cells := 0, slots := 0, locals := 60 }) s m (([.ref (a 9), .ref (a 3)] : List Value).toArray) below meth c H locs 0 0 (MQ below (va_Qv (fun X_ : WS => out = X_) (fun X_ t => va_P (dC, dI) classes (wl a cA X_) t.heap ∧ va_K (dC, dI) classes [(cA, .int)] t) A) (([.ref (a 9), .ref (a 3)] : List Value).toArray) s 0 0 (A)) (F0 m pc ls []) := fun pc ls X_ H locs hv hP hS hd => W.vret hx hb hr (fun t ht hW => ⟨⟨X_, rfl, hv.symm, by rw [ht]; exact hP, va_K.moved hW.alike hK⟩, hS.F ht⟩) hS.2.2 hd
  show W p l e ({ frames := 1, cells := 0, slots := 0, locals := 60 }) s m (([.ref (a 9), .ref (a 3)] : List Value).toArray) below meth c s.heap [] 0 0 (MQ below (va_Qv (fun X_ : WS => out = X_) (fun X_ t => va_P (dC, dI) classes (wl a cA X_) t.heap ∧ va_K (dC, dI) classes [(cA, .int)] t) A) (([.ref (a 9), .ref (a 3)] : List Value).toArray) s 0 0 (A)) (entryFrame m (([.ref (a 9), .ref (a 3)] : List Value).toArray) 2)
  generalize MQ below (va_Qv (fun X_ : WS => out = X_) (fun X_ t => va_P (dC, dI) classes (wl a cA X_) t.heap ∧ va_K (dC, dI) classes [(cA, .int)] t) A) (([.ref (a 9), .ref (a 3)] : List Value).toArray) s 0 0 (A) = Q at hret ⊢
  have hS : va_S A s.heap s.heap [] := va_S.rf
  have hl := lv_entry ([.ref (a 9), .ref (a 3)]) (n := 2) (Nat.le_of_ble_eq_true rfl)
  rw [lg_entry_eq]
  generalize (lg_sl ([.ref (a 9), .ref (a 3)]) ++ List.replicate (2 - (lg_sl ([.ref (a 9), .ref (a 3)])).length) Slot.unset).toArray = ls at hl ⊢
  have hl : lv_has ls 2 [(0, .ref (a 9)), (1, .ref (a 3))] := hl
  refine lv_aload_n hx hb dX2_copy_0 rfl (lv_at hl 1 rfl) ?_
  refine va_get (D := (dC, dI)) (ci := 2) (v := .ref (a 4)) (C := RX2) (T := TX2) (N := 17) hx hb hts iX2 hown hK hP 3 rfl rfl 0 (by decide) (hts _ wd_73) (fun _ h9 => h9) rfl dX2_copy_1 ?_
  refine lv_iconst (v := 0) hx hb dX2_copy_4 (by decide) ?_
  refine lv_aload_n hx hb dX2_copy_5 rfl (lv_at hl 0 rfl) ?_
  refine va_get (D := (dC, dI)) (ci := 2) (v := .ref (a 10)) (C := RX2) (T := TX2) (N := 17) hx hb hts iX2 hown hK hP 9 rfl rfl 0 (by decide) (hts _ wd_73) (fun _ h9 => h9) rfl dX2_copy_6 ?_
  refine lv_iconst (v := 0) hx hb dX2_copy_9 (by decide) ?_
  refine lv_bipush (v := 6) hx hb dX2_copy_10 (by decide) ?_
  refine va_copyi hx hb (by rw [hml]; exact hl.1.symm) hown (hts _ wd_477) (hts _ wd_479) (hts _ wd_478) (hts _ wd_42) hK hP (wlD hD0) hS 4 10 0 0 rfl rfl rfl rfl rfl (by decide) (by decide) (by decide) (by decide) (by decide) (fun i _ => rfl) (Nat.le_of_ble_eq_true rfl) (by decide) dX2_copy_12 (fun H locs hP hD_ hS => ?_)
  obtain ⟨X1, eX1⟩ : ∃ y : WS, y = (upw X 10 (va_cpy (X 4) (X 10) (Int32.toNatClampNeg 0) (Int32.toNatClampNeg 0) (Int32.toNatClampNeg 6))) := ⟨_, rfl⟩
  have hw := stp_use hw eX1
  have hP : va_P (dC, dI) classes (wl a cA X1) H := by rw [eX1]; exact hP
  refine lv_aload_n hx hb dX2_copy_15 rfl (lv_at hl 1 rfl) ?_
  refine va_get (D := (dC, dI)) (ci := 2) (v := .ref (a 5)) (C := RX2) (T := TX2) (N := 17) hx hb hts iX2 hown hK hP 3 rfl rfl 1 (by decide) (hts _ wd_75) (fun _ h9 => h9) rfl dX2_copy_16 ?_
  refine lv_iconst (v := 0) hx hb dX2_copy_19 (by decide) ?_
  refine lv_aload_n hx hb dX2_copy_20 rfl (lv_at hl 0 rfl) ?_
  refine va_get (D := (dC, dI)) (ci := 2) (v := .ref (a 11)) (C := RX2) (T := TX2) (N := 17) hx hb hts iX2 hown hK hP 9 rfl rfl 1 (by decide) (hts _ wd_75) (fun _ h9 => h9) rfl dX2_copy_21 ?_
  refine lv_iconst (v := 0) hx hb dX2_copy_24 (by decide) ?_
  refine lv_bipush (v := 6) hx hb dX2_copy_25 (by decide) ?_
  refine va_copyi hx hb (by rw [hml]; exact hl.1.symm) hown (hts _ wd_477) (hts _ wd_479) (hts _ wd_478) (hts _ wd_42) hK hP (wlD hD0) hS 5 11 0 0 rfl rfl rfl rfl rfl (by decide) (by decide) (by decide) (by decide) (by decide) (fun i _ => rfl) (Nat.le_of_ble_eq_true rfl) (by decide) dX2_copy_27 (fun H locs hP hD_ hS => ?_)
  obtain ⟨X2, eX2⟩ : ∃ y : WS, y = (upw X1 11 (va_cpy (X1 5) (X1 11) (Int32.toNatClampNeg 0) (Int32.toNatClampNeg 0) (Int32.toNatClampNeg 6))) := ⟨_, rfl⟩
  have hw := stp_use hw eX2
  have hP : va_P (dC, dI) classes (wl a cA X2) H := by rw [eX2]; exact hP
  refine lv_aload_n hx hb dX2_copy_30 rfl (lv_at hl 1 rfl) ?_
  refine va_get (D := (dC, dI)) (ci := 2) (v := .ref (a 6)) (C := RX2) (T := TX2) (N := 17) hx hb hts iX2 hown hK hP 3 rfl rfl 2 (by decide) (hts _ wd_77) (fun _ h9 => h9) rfl dX2_copy_31 ?_
  refine lv_iconst (v := 0) hx hb dX2_copy_34 (by decide) ?_
  refine lv_aload_n hx hb dX2_copy_35 rfl (lv_at hl 0 rfl) ?_
  refine va_get (D := (dC, dI)) (ci := 2) (v := .ref (a 12)) (C := RX2) (T := TX2) (N := 17) hx hb hts iX2 hown hK hP 9 rfl rfl 2 (by decide) (hts _ wd_77) (fun _ h9 => h9) rfl dX2_copy_36 ?_
  refine lv_iconst (v := 0) hx hb dX2_copy_39 (by decide) ?_
  refine lv_bipush (v := 6) hx hb dX2_copy_40 (by decide) ?_
  refine va_copyi hx hb (by rw [hml]; exact hl.1.symm) hown (hts _ wd_477) (hts _ wd_479) (hts _ wd_478) (hts _ wd_42) hK hP (wlD hD0) hS 6 12 0 0 rfl rfl rfl rfl rfl (by decide) (by decide) (by decide) (by decide) (by decide) (fun i _ => rfl) (Nat.le_of_ble_eq_true rfl) (by decide) dX2_copy_42 (fun H locs hP hD_ hS => ?_)
  obtain ⟨X3, eX3⟩ : ∃ y : WS, y = (upw X2 12 (va_cpy (X2 6) (X2 12) (Int32.toNatClampNeg 0) (Int32.toNatClampNeg 0) (Int32.toNatClampNeg 6))) := ⟨_, rfl⟩
  have hw := stp_use hw eX3
  have hP : va_P (dC, dI) classes (wl a cA X3) H := by rw [eX3]; exact hP
  refine lv_aload_n hx hb dX2_copy_45 rfl (lv_at hl 1 rfl) ?_
  refine va_get (D := (dC, dI)) (ci := 2) (v := .ref (a 7)) (C := RX2) (T := TX2) (N := 17) hx hb hts iX2 hown hK hP 3 rfl rfl 3 (by decide) (hts _ wd_79) (fun _ h9 => h9) rfl dX2_copy_46 ?_
  refine lv_iconst (v := 0) hx hb dX2_copy_49 (by decide) ?_
  refine lv_aload_n hx hb dX2_copy_50 rfl (lv_at hl 0 rfl) ?_
  refine va_get (D := (dC, dI)) (ci := 2) (v := .ref (a 13)) (C := RX2) (T := TX2) (N := 17) hx hb hts iX2 hown hK hP 9 rfl rfl 3 (by decide) (hts _ wd_79) (fun _ h9 => h9) rfl dX2_copy_51 ?_
  refine lv_iconst (v := 0) hx hb dX2_copy_54 (by decide) ?_
  refine lv_bipush (v := 6) hx hb dX2_copy_55 (by decide) ?_
  refine va_copyi hx hb (by rw [hml]; exact hl.1.symm) hown (hts _ wd_477) (hts _ wd_479) (hts _ wd_478) (hts _ wd_42) hK hP (wlD hD0) hS 7 13 0 0 rfl rfl rfl rfl rfl (by decide) (by decide) (by decide) (by decide) (by decide) (fun i _ => rfl) (Nat.le_of_ble_eq_true rfl) (by decide) dX2_copy_57 (fun H locs hP hD_ hS => ?_)
  obtain ⟨X4, eX4⟩ : ∃ y : WS, y = (upw X3 13 (va_cpy (X3 7) (X3 13) (Int32.toNatClampNeg 0) (Int32.toNatClampNeg 0) (Int32.toNatClampNeg 6))) := ⟨_, rfl⟩
  have hw := stp_use hw eX4
  have hP : va_P (dC, dI) classes (wl a cA X4) H := by rw [eX4]; exact hP
  refine lv_aload_n hx hb dX2_copy_60 rfl (lv_at hl 1 rfl) ?_
  refine va_get (D := (dC, dI)) (ci := 2) (v := .ref (a 8)) (C := RX2) (T := TX2) (N := 17) hx hb hts iX2 hown hK hP 3 rfl rfl 4 (by decide) (hts _ wd_81) (fun _ h9 => h9) rfl dX2_copy_61 ?_
  refine lv_iconst (v := 0) hx hb dX2_copy_64 (by decide) ?_
  refine lv_aload_n hx hb dX2_copy_65 rfl (lv_at hl 0 rfl) ?_
  refine va_get (D := (dC, dI)) (ci := 2) (v := .ref (a 14)) (C := RX2) (T := TX2) (N := 17) hx hb hts iX2 hown hK hP 9 rfl rfl 4 (by decide) (hts _ wd_81) (fun _ h9 => h9) rfl dX2_copy_66 ?_
  refine lv_iconst (v := 0) hx hb dX2_copy_69 (by decide) ?_
  refine lv_bipush (v := 6) hx hb dX2_copy_70 (by decide) ?_
  refine va_copyi hx hb (by rw [hml]; exact hl.1.symm) hown (hts _ wd_477) (hts _ wd_479) (hts _ wd_478) (hts _ wd_42) hK hP (wlD hD0) hS 8 14 0 0 rfl rfl rfl rfl rfl (by decide) (by decide) (by decide) (by decide) (by decide) (fun i _ => rfl) (Nat.le_of_ble_eq_true rfl) (by decide) dX2_copy_72 (fun H locs hP hD_ hS => ?_)
  obtain ⟨X5, eX5⟩ : ∃ y : WS, y = (upw X4 14 (va_cpy (X4 8) (X4 14) (Int32.toNatClampNeg 0) (Int32.toNatClampNeg 0) (Int32.toNatClampNeg 6))) := ⟨_, rfl⟩
  have hw := stp_use hw eX5
  have hP : va_P (dC, dI) classes (wl a cA X5) H := by rw [eX5]; exact hP
  refine lv_aload_n hx hb dX2_copy_75 rfl (lv_at hl 0 rfl) ?_
  refine lv_aload_n hx hb dX2_copy_76 rfl (lv_at hl 1 rfl) ?_
  refine va_get (D := (dC, dI)) (ci := 2) (v := .int (X5 3 5)) (C := RX2) (T := TX2) (N := 17) hx hb hts iX2 hown hK hP 3 rfl rfl 5 (by decide) (hts _ wd_83) (fun _ h9 => h9) rfl dX2_copy_77 ?_
  refine lv_topi (fun x6 ex6 => ?_)
  have hw := stp_use hw ex6
  refine va_put (D := (dC, dI)) (ci := 2) (v := .int x6) (ty := .int) (C := RX2) (T := TX2) (N := 17) hx hb hts iX2 tyX2 tyX2_ok nmX2 hown hK hP (wlD hD0) hS 9 rfl rfl 5 (by decide) (hts _ wd_83) (fun _ h9 => h9) rfl (by decide +kernel) rfl rfl (Nat.le_of_ble_eq_true rfl) dX2_copy_80 (fun H locs hP hD_ hS => ?_)
  obtain ⟨X7, eX7⟩ : ∃ y : WS, y = (ups X5 9 5 x6) := ⟨_, rfl⟩
  have hw := stp_use hw eX7
  have hP : va_P (dC, dI) classes (wl a cA X7) H := by rw [eX7]; exact hP
  refine lv_aload_n hx hb dX2_copy_83 rfl (lv_at hl 0 rfl) ?_
  refine lv_aload_n hx hb dX2_copy_84 rfl (lv_at hl 1 rfl) ?_
  refine va_get (D := (dC, dI)) (ci := 2) (v := .int (X7 3 6)) (C := RX2) (T := TX2) (N := 17) hx hb hts iX2 hown hK hP 3 rfl rfl 6 (by decide) (hts _ wd_85) (fun _ h9 => h9) rfl dX2_copy_85 ?_
  refine lv_topi (fun x8 ex8 => ?_)
  have hw := stp_use hw ex8
  refine va_put (D := (dC, dI)) (ci := 2) (v := .int x8) (ty := .int) (C := RX2) (T := TX2) (N := 17) hx hb hts iX2 tyX2 tyX2_ok nmX2 hown hK hP (wlD hD0) hS 9 rfl rfl 6 (by decide) (hts _ wd_85) (fun _ h9 => h9) rfl (by decide +kernel) rfl rfl (Nat.le_of_ble_eq_true rfl) dX2_copy_88 (fun H locs hP hD_ hS => ?_)
  obtain ⟨X9, eX9⟩ : ∃ y : WS, y = (ups X7 9 6 x8) := ⟨_, rfl⟩
  have hw := stp_use hw eX9
  have hP : va_P (dC, dI) classes (wl a cA X9) H := by rw [eX9]; exact hP
  refine lv_aload_n hx hb dX2_copy_91 rfl (lv_at hl 0 rfl) ?_
  refine lv_aload_n hx hb dX2_copy_92 rfl (lv_at hl 1 rfl) ?_
  refine va_get (D := (dC, dI)) (ci := 2) (v := .int (X9 3 7)) (C := RX2) (T := TX2) (N := 17) hx hb hts iX2 hown hK hP 3 rfl rfl 7 (by decide) (hts _ wd_87) (fun _ h9 => h9) rfl dX2_copy_93 ?_
  refine lv_topi (fun x10 ex10 => ?_)
  have hw := stp_use hw ex10
  refine va_put (D := (dC, dI)) (ci := 2) (v := .int x10) (ty := .int) (C := RX2) (T := TX2) (N := 17) hx hb hts iX2 tyX2 tyX2_ok nmX2 hown hK hP (wlD hD0) hS 9 rfl rfl 7 (by decide) (hts _ wd_87) (fun _ h9 => h9) rfl (by decide +kernel) rfl rfl (Nat.le_of_ble_eq_true rfl) dX2_copy_96 (fun H locs hP hD_ hS => ?_)
  obtain ⟨X11, eX11⟩ : ∃ y : WS, y = (ups X9 9 7 x10) := ⟨_, rfl⟩
  have hw := stp_use hw eX11
  have hP : va_P (dC, dI) classes (wl a cA X11) H := by rw [eX11]; exact hP
  refine lv_aload_n hx hb dX2_copy_99 rfl (lv_at hl 0 rfl) ?_
  refine lv_aload_n hx hb dX2_copy_100 rfl (lv_at hl 1 rfl) ?_
  refine va_get (D := (dC, dI)) (ci := 2) (v := .int (X11 3 8)) (C := RX2) (T := TX2) (N := 17) hx hb hts iX2 hown hK hP 3 rfl rfl 8 (by decide) (hts _ wd_89) (fun _ h9 => h9) rfl dX2_copy_101 ?_
  refine lv_topi (fun x12 ex12 => ?_)
  have hw := stp_use hw ex12
  refine va_put (D := (dC, dI)) (ci := 2) (v := .int x12) (ty := .int) (C := RX2) (T := TX2) (N := 17) hx hb hts iX2 tyX2 tyX2_ok nmX2 hown hK hP (wlD hD0) hS 9 rfl rfl 8 (by decide) (hts _ wd_89) (fun _ h9 => h9) rfl (by decide +kernel) rfl rfl (Nat.le_of_ble_eq_true rfl) dX2_copy_104 (fun H locs hP hD_ hS => ?_)
  obtain ⟨X13, eX13⟩ : ∃ y : WS, y = (ups X11 9 8 x12) := ⟨_, rfl⟩
  have hw := stp_use hw eX13
  have hP : va_P (dC, dI) classes (wl a cA X13) H := by rw [eX13]; exact hP
  refine lv_aload_n hx hb dX2_copy_107 rfl (lv_at hl 0 rfl) ?_
  refine lv_aload_n hx hb dX2_copy_108 rfl (lv_at hl 1 rfl) ?_
  refine va_get (D := (dC, dI)) (ci := 2) (v := .int (X13 3 9)) (C := RX2) (T := TX2) (N := 17) hx hb hts iX2 hown hK hP 3 rfl rfl 9 (by decide) (hts _ wd_91) (fun _ h9 => h9) rfl dX2_copy_109 ?_
  refine lv_topi (fun x14 ex14 => ?_)
  have hw := stp_use hw ex14
  refine va_put (D := (dC, dI)) (ci := 2) (v := .int x14) (ty := .int) (C := RX2) (T := TX2) (N := 17) hx hb hts iX2 tyX2 tyX2_ok nmX2 hown hK hP (wlD hD0) hS 9 rfl rfl 9 (by decide) (hts _ wd_91) (fun _ h9 => h9) rfl (by decide +kernel) rfl rfl (Nat.le_of_ble_eq_true rfl) dX2_copy_112 (fun H locs hP hD_ hS => ?_)
  obtain ⟨X15, eX15⟩ : ∃ y : WS, y = (ups X13 9 9 x14) := ⟨_, rfl⟩
  have hw := stp_use hw eX15
  have hP : va_P (dC, dI) classes (wl a cA X15) H := by rw [eX15]; exact hP
  refine lv_aload_n hx hb dX2_copy_115 rfl (lv_at hl 0 rfl) ?_
  refine lv_aload_n hx hb dX2_copy_116 rfl (lv_at hl 1 rfl) ?_
  refine va_get (D := (dC, dI)) (ci := 2) (v := .int (X15 3 10)) (C := RX2) (T := TX2) (N := 17) hx hb hts iX2 hown hK hP 3 rfl rfl 10 (by decide) (hts _ wd_93) (fun _ h9 => h9) rfl dX2_copy_117 ?_
  refine lv_topi (fun x16 ex16 => ?_)
  have hw := stp_use hw ex16
  refine va_put (D := (dC, dI)) (ci := 2) (v := .int x16) (ty := .int) (C := RX2) (T := TX2) (N := 17) hx hb hts iX2 tyX2 tyX2_ok nmX2 hown hK hP (wlD hD0) hS 9 rfl rfl 10 (by decide) (hts _ wd_93) (fun _ h9 => h9) rfl (by decide +kernel) rfl rfl (Nat.le_of_ble_eq_true rfl) dX2_copy_120 (fun H locs hP hD_ hS => ?_)
  obtain ⟨X17, eX17⟩ : ∃ y : WS, y = (ups X15 9 10 x16) := ⟨_, rfl⟩
  have hw := stp_use hw eX17
  have hP : va_P (dC, dI) classes (wl a cA X17) H := by rw [eX17]; exact hP
  refine lv_aload_n hx hb dX2_copy_123 rfl (lv_at hl 0 rfl) ?_
  refine lv_aload_n hx hb dX2_copy_124 rfl (lv_at hl 1 rfl) ?_
  refine va_get (D := (dC, dI)) (ci := 2) (v := .int (X17 3 11)) (C := RX2) (T := TX2) (N := 17) hx hb hts iX2 hown hK hP 3 rfl rfl 11 (by decide) (hts _ wd_95) (fun _ h9 => h9) rfl dX2_copy_125 ?_
  refine lv_topi (fun x18 ex18 => ?_)
  have hw := stp_use hw ex18
  refine va_put (D := (dC, dI)) (ci := 2) (v := .int x18) (ty := .int) (C := RX2) (T := TX2) (N := 17) hx hb hts iX2 tyX2 tyX2_ok nmX2 hown hK hP (wlD hD0) hS 9 rfl rfl 11 (by decide) (hts _ wd_95) (fun _ h9 => h9) rfl (by decide +kernel) rfl rfl (Nat.le_of_ble_eq_true rfl) dX2_copy_128 (fun H locs hP hD_ hS => ?_)
  obtain ⟨X19, eX19⟩ : ∃ y : WS, y = (ups X17 9 11 x18) := ⟨_, rfl⟩
  have hw := stp_use hw eX19
  have hP : va_P (dC, dI) classes (wl a cA X19) H := by rw [eX19]; exact hP
  refine lv_aload_n hx hb dX2_copy_131 rfl (lv_at hl 0 rfl) ?_
  refine lv_aload_n hx hb dX2_copy_132 rfl (lv_at hl 1 rfl) ?_
  refine va_get (D := (dC, dI)) (ci := 2) (v := .int (X19 3 12)) (C := RX2) (T := TX2) (N := 17) hx hb hts iX2 hown hK hP 3 rfl rfl 12 (by decide) (hts _ wd_97) (fun _ h9 => h9) rfl dX2_copy_133 ?_
  refine lv_topi (fun x20 ex20 => ?_)
  have hw := stp_use hw ex20
  refine va_put (D := (dC, dI)) (ci := 2) (v := .int x20) (ty := .int) (C := RX2) (T := TX2) (N := 17) hx hb hts iX2 tyX2 tyX2_ok nmX2 hown hK hP (wlD hD0) hS 9 rfl rfl 12 (by decide) (hts _ wd_97) (fun _ h9 => h9) rfl (by decide +kernel) rfl rfl (Nat.le_of_ble_eq_true rfl) dX2_copy_136 (fun H locs hP hD_ hS => ?_)
  obtain ⟨X21, eX21⟩ : ∃ y : WS, y = (ups X19 9 12 x20) := ⟨_, rfl⟩
  have hw := stp_use hw eX21
  have hP : va_P (dC, dI) classes (wl a cA X21) H := by rw [eX21]; exact hP
  refine lv_aload_n hx hb dX2_copy_139 rfl (lv_at hl 0 rfl) ?_
  refine lv_aload_n hx hb dX2_copy_140 rfl (lv_at hl 1 rfl) ?_
  refine va_get (D := (dC, dI)) (ci := 2) (v := .int (X21 3 13)) (C := RX2) (T := TX2) (N := 17) hx hb hts iX2 hown hK hP 3 rfl rfl 13 (by decide) (hts _ wd_99) (fun _ h9 => h9) rfl dX2_copy_141 ?_
  refine lv_topi (fun x22 ex22 => ?_)
  have hw := stp_use hw ex22
  refine va_put (D := (dC, dI)) (ci := 2) (v := .int x22) (ty := .int) (C := RX2) (T := TX2) (N := 17) hx hb hts iX2 tyX2 tyX2_ok nmX2 hown hK hP (wlD hD0) hS 9 rfl rfl 13 (by decide) (hts _ wd_99) (fun _ h9 => h9) rfl (by decide +kernel) rfl rfl (Nat.le_of_ble_eq_true rfl) dX2_copy_144 (fun H locs hP hD_ hS => ?_)
  obtain ⟨X23, eX23⟩ : ∃ y : WS, y = (ups X21 9 13 x22) := ⟨_, rfl⟩
  have hw := stp_use hw eX23
  have hP : va_P (dC, dI) classes (wl a cA X23) H := by rw [eX23]; exact hP
  refine lv_aload_n hx hb dX2_copy_147 rfl (lv_at hl 0 rfl) ?_
  refine lv_aload_n hx hb dX2_copy_148 rfl (lv_at hl 1 rfl) ?_
  refine va_get (D := (dC, dI)) (ci := 2) (v := .int (X23 3 14)) (C := RX2) (T := TX2) (N := 17) hx hb hts iX2 hown hK hP 3 rfl rfl 14 (by decide) (hts _ wd_101) (fun _ h9 => h9) rfl dX2_copy_149 ?_
  refine lv_topi (fun x24 ex24 => ?_)
  have hw := stp_use hw ex24
  refine va_put (D := (dC, dI)) (ci := 2) (v := .int x24) (ty := .int) (C := RX2) (T := TX2) (N := 17) hx hb hts iX2 tyX2 tyX2_ok nmX2 hown hK hP (wlD hD0) hS 9 rfl rfl 14 (by decide) (hts _ wd_101) (fun _ h9 => h9) rfl (by decide +kernel) rfl rfl (Nat.le_of_ble_eq_true rfl) dX2_copy_152 (fun H locs hP hD_ hS => ?_)
  obtain ⟨X25, eX25⟩ : ∃ y : WS, y = (ups X23 9 14 x24) := ⟨_, rfl⟩
  have hw := stp_use hw eX25
  have hP : va_P (dC, dI) classes (wl a cA X25) H := by rw [eX25]; exact hP
  refine lv_aload_n hx hb dX2_copy_155 rfl (lv_at hl 0 rfl) ?_
  refine lv_aload_n hx hb dX2_copy_156 rfl (lv_at hl 1 rfl) ?_
  refine va_get (D := (dC, dI)) (ci := 2) (v := .int (X25 3 15)) (C := RX2) (T := TX2) (N := 17) hx hb hts iX2 hown hK hP 3 rfl rfl 15 (by decide) (hts _ wd_103) (fun _ h9 => h9) rfl dX2_copy_157 ?_
  refine lv_topi (fun x26 ex26 => ?_)
  have hw := stp_use hw ex26
  refine va_put (D := (dC, dI)) (ci := 2) (v := .int x26) (ty := .int) (C := RX2) (T := TX2) (N := 17) hx hb hts iX2 tyX2 tyX2_ok nmX2 hown hK hP (wlD hD0) hS 9 rfl rfl 15 (by decide) (hts _ wd_103) (fun _ h9 => h9) rfl (by decide +kernel) rfl rfl (Nat.le_of_ble_eq_true rfl) dX2_copy_160 (fun H locs hP hD_ hS => ?_)
  obtain ⟨X27, eX27⟩ : ∃ y : WS, y = (ups X25 9 15 x26) := ⟨_, rfl⟩
  have hw := stp_use hw eX27
  have hP : va_P (dC, dI) classes (wl a cA X27) H := by rw [eX27]; exact hP
  refine lv_aload_n hx hb dX2_copy_163 rfl (lv_at hl 0 rfl) ?_
  refine lv_aload_n hx hb dX2_copy_164 rfl (lv_at hl 1 rfl) ?_
  refine va_get (D := (dC, dI)) (ci := 2) (v := .int (X27 3 16)) (C := RX2) (T := TX2) (N := 17) hx hb hts iX2 hown hK hP 3 rfl rfl 16 (by decide) (hts _ wd_104) (fun _ h9 => h9) rfl dX2_copy_165 ?_
  refine lv_topi (fun x28 ex28 => ?_)
  have hw := stp_use hw ex28
  refine va_put (D := (dC, dI)) (ci := 2) (v := .int x28) (ty := .int) (C := RX2) (T := TX2) (N := 17) hx hb hts iX2 tyX2 tyX2_ok nmX2 hown hK hP (wlD hD0) hS 9 rfl rfl 16 (by decide) (hts _ wd_104) (fun _ h9 => h9) rfl (by decide +kernel) rfl rfl (Nat.le_of_ble_eq_true rfl) dX2_copy_168 (fun H locs hP hD_ hS => ?_)
  obtain ⟨X29, eX29⟩ : ∃ y : WS, y = (ups X27 9 16 x28) := ⟨_, rfl⟩
  have hw := stp_use hw eX29
  have hP : va_P (dC, dI) classes (wl a cA X29) H := by rw [eX29]; exact hP
  exact hret _ _ _ _ _ (Option.some.inj hw) hP hS dX2_copy_171
set_option maxHeartbeats 4000000 in
set_option maxRecDepth 100000 in
theorem c_X3_image (l : Launch) (dC : Nat → ClassId) (dI : Nat → Nat → Nat) (A : Nat → Prop) (a : Nat → Nat) (cA : ClassId) (X : WS) (out : (Int32 × WS)) (hw : f_X3_image X = some out) : Met l yX3_image (.code yX3_image cX3_image 1 (some .int) :: lw_g) ({ frames := 2, cells := 0, slots := 0, locals := 81 }) (PcXD dC dI A a cA X [.ref (a 0)]) (va_Qi (fun (r_ : Int32) (X_ : WS) => out = (r_, X_)) (fun X_ t => va_P (dC, dI) classes (wl a cA X_) t.heap ∧ va_K (dC, dI) classes [(cA, .int)] t) A) 0 0 (A) := by
  unfold f_X3_image at hw
  refine Met.ofW (cc := cX3_image) (maxL := 1) (ret := (some .int)) (by decide) rfl ?_
  intro p e s m args below meth c s₁ B hml hv
  obtain ⟨rfl, hP, hK, hN, hD0⟩ := hv
  have hx := B.exec
  have hb := B.bytes
  have hr := B.returns
  have hts0 := atoms_spec (ws := (.code yX3_image cX3_image 1 (some .int) :: lw_g)) B.pre
  have hts : ∀ w ∈ lw_g, w.before (([.ref (a 0)] : List Value).toArray) s = true := fun w h => hts0 w (List.mem_cons_of_mem _ h)
  clear hts0
  have hown : s.vm.findClass RX3 = some m.cls := findClass_of_methodNamed B.named
  have hlocks := B.notSynchronized
  have hret : ∀ (pc : Nat) (ls : Array Slot) (v : Int32) (X_ : WS) (H : Heap) (locs : List Loc), (v, X_) = out → va_P (dC, dI) classes (wl a cA X_) H → va_S A s.heap H locs → decode cX3_image pc = .ok (.ireturn, 1) → W p l e ({ frames := 2, cells := 0, slots := 0, locals := 81 }) s m (([.ref (a 0)] : List Value).toArray) below meth c H locs 0 0 (MQ below (va_Qi (fun (r_ : Int32) (X_ : WS) => out = (r_, X_)) (fun X_ t => va_P (dC, dI) classes (wl a cA X_) t.heap ∧ va_K (dC, dI) classes [(cA, .int)] t) A) (([.ref (a 0)] : List Value).toArray) s 0 0 (A)) (F0 m pc ls [.int v]) := fun pc ls v X_ H locs hv hP hS hd => W.iret hx hb hr (fun t ht hW => ⟨⟨v, X_, rfl, hv.symm, by rw [ht]; exact hP, va_K.moved hW.alike hK⟩, hS.F ht⟩) hS.2.2 hd
  show W p l e ({ frames := 2, cells := 0, slots := 0, locals := 81 }) s m (([.ref (a 0)] : List Value).toArray) below meth c s.heap [] 0 0 (MQ below (va_Qi (fun (r_ : Int32) (X_ : WS) => out = (r_, X_)) (fun X_ t => va_P (dC, dI) classes (wl a cA X_) t.heap ∧ va_K (dC, dI) classes [(cA, .int)] t) A) (([.ref (a 0)] : List Value).toArray) s 0 0 (A)) (entryFrame m (([.ref (a 0)] : List Value).toArray) 1)
  generalize MQ below (va_Qi (fun (r_ : Int32) (X_ : WS) => out = (r_, X_)) (fun X_ t => va_P (dC, dI) classes (wl a cA X_) t.heap ∧ va_K (dC, dI) classes [(cA, .int)] t) A) (([.ref (a 0)] : List Value).toArray) s 0 0 (A) = Q at hret ⊢
  have hS : va_S A s.heap s.heap [] := va_S.rf
  have hl := lv_entry ([.ref (a 0)]) (n := 1) (Nat.le_of_ble_eq_true rfl)
  rw [lg_entry_eq]
  generalize (lg_sl ([.ref (a 0)]) ++ List.replicate (1 - (lg_sl ([.ref (a 0)])).length) Slot.unset).toArray = ls at hl ⊢
  have hl : lv_has ls 1 [(0, .ref (a 0))] := hl
  refine lv_aload_n hx hb dX3_image_0 rfl (lv_at hl 0 rfl) ?_
  obtain ⟨r1, er1, hw⟩ := Option.bind_eq_some_iff.mp hw
  refine vp_callSi (va_runV (As := []) (rest := []) ⟨hx, hb, hml, hown, hts⟩ (c_X3_hasTown l dC dI a cA X r1 er1) ⟨callB_of 0 hts gd_X3_hasTown rfl rfl rfl (hts _ wd_35) (hts _ wd_257) hd_X3_hasTown ⟨Nat.le_of_ble_eq_true rfl, Nat.le_of_ble_eq_true rfl⟩, hts _ wd_259, hts _ wd_1⟩ ⟨blX, va_recv hK hP (ci := 3) (q0 := 0) rfl rfl, fun U hU hW => ⟨rfl, by rw [hU]; exact hP, va_K.moved hW.alike hK, nst.warm hW hN⟩⟩ rfl rfl hl.1 rfl (lv_room (Nat.le_of_ble_eq_true rfl)) dX3_image_1 ⟨Nat.zero_le _, Nat.zero_le _⟩).run (fun r_ e_ => ?_)
  subst r_
  refine lv_if_ne (tgt := 10) hx hb dX3_image_4 (by decide) (fun c2 => ?_) (fun c2 => ?_)
  · have hw := ite_f hw c2
    refine lv_aload_n hx hb dX3_image_10 rfl (lv_at hl 0 rfl) ?_
    refine va_get (D := (dC, dI)) (ci := 3) (v := .ref (a 9)) (C := RX3) (T := TX3) (N := 6) hx hb hts iX3 hown hK hP 0 rfl rfl 2 (by decide) (hts _ wd_180) (fun _ h9 => h9) rfl dX3_image_11 ?_
    refine lv_aload_n hx hb dX3_image_14 rfl (lv_at hl 0 rfl) ?_
    refine va_get (D := (dC, dI)) (ci := 3) (v := .ref (a 3)) (C := RX3) (T := TX3) (N := 6) hx hb hts iX3 hown hK hP 0 rfl rfl 1 (by decide) (hts _ wd_179) (fun _ h9 => h9) rfl dX3_image_15 ?_
    obtain ⟨X3, eX3, hw⟩ := Option.bind_eq_some_iff.mp hw
    refine va_callv (va_runV (As := [.ref (a 3)]) (rest := []) ⟨hx, hb, hml, hown, hts⟩ (c_X2_copy_9_3 l dC dI A a cA X X3 eX3) ⟨callB_of 1 hts gd_X2_copy rfl rfl rfl (hts _ wd_37) (hts _ wd_473) hd_X2_copy ⟨Nat.le_of_ble_eq_true rfl, Nat.le_of_ble_eq_true rfl⟩, hts _ wd_474, hts _ wd_475⟩ ⟨blXD, va_recv hK hP (ci := 2) (q0 := 9) rfl rfl, fun U hU hW => ⟨rfl, by rw [hU]; exact hP, va_K.moved hW.alike hK, nst.warm hW hN, wlD hD0⟩⟩ rfl rfl hl.1 rfl (lv_room (Nat.le_of_ble_eq_true rfl)) dX3_image_18 ⟨Nat.zero_le _, Nat.zero_le _⟩) hS (fun _ _ h => h) (fun _ h => h) (fun u_ t_ H1 locs1 ht hvm hp_ hB hz1 hk1 hS1 => ?_)
    subst hp_
    obtain ⟨hP1, hK1⟩ := hB
    rw [ht] at hP1
    have hP := hP1
    have hS := hS1
    refine lv_aload_n hx hb dX3_image_21 rfl (lv_at hl 0 rfl) ?_
    refine lv_iconst (v := 1) hx hb dX3_image_22 (by decide) ?_
    refine va_put (D := (dC, dI)) (ci := 3) (v := .int 1) (ty := .boolean) (C := RX3) (T := TX3) (N := 6) hx hb hts iX3 tyX3 tyX3_ok nmX3 hown hK hP (wlD hD0) hS 0 rfl rfl 4 (by decide) (hts _ wd_182) (fun _ h9 => h9) rfl (by decide +kernel) rfl rfl (Nat.le_of_ble_eq_true rfl) dX3_image_23 (fun H locs hP hD_ hS => ?_)
    obtain ⟨X4, eX4⟩ : ∃ y : WS, y = (ups X3 0 4 1) := ⟨_, rfl⟩
    have hw := stp_use hw eX4
    have hP : va_P (dC, dI) classes (wl a cA X4) H := by rw [eX4]; exact hP
    refine lv_aload_n hx hb dX3_image_26 rfl (lv_at hl 0 rfl) ?_
    refine va_get (D := (dC, dI)) (ci := 3) (v := .ref (a 3)) (C := RX3) (T := TX3) (N := 6) hx hb hts iX3 hown hK hP 0 rfl rfl 1 (by decide) (hts _ wd_179) (fun _ h9 => h9) rfl dX3_image_27 ?_
    refine va_getN (D := (dC, dI)) (ci := 2) (v := .int (X4 3 12)) (C := RX2) (T := TX2) (N := 17) hx hb hts iX2 hown hK hP 3 rfl rfl 12 (by decide) (va_Nw.use rfl (hN _ nk_98)) (fun _ h9 => h9) rfl dX3_image_30 ?_
    exact hret _ _ _ _ _ _ (Option.some.inj hw) hP hS dX3_image_33
  · have hw := ite_t hw c2
    refine lv_bipush (v := (-103)) hx hb dX3_image_7 (by decide) ?_
    exact hret _ _ _ _ _ _ (Option.some.inj hw) hP hS dX3_image_9
set_option maxHeartbeats 4000000 in
set_option maxRecDepth 100000 in
theorem c_X4_copy_3_6 (l : Launch) (dC : Nat → ClassId) (dI : Nat → Nat → Nat) (A : Nat → Prop) (a : Nat → Nat) (cA : ClassId) (X : MS) (out : MS) (hw : f_X4_copy_3_6 X = some out) : Met l yX4_copy (.code yX4_copy cX4_copy 3 none :: lw_g) ({ frames := 0, cells := 0, slots := 0, locals := 0 }) (PcMD dC dI A a cA X [.ref (a 3), .ref (a 6)]) (va_Qv (fun X_ : MS => out = X_) (fun X_ t => va_P (dC, dI) classes (wm a cA X_) t.heap ∧ va_K (dC, dI) classes [(cA, .int)] t) A) 0 0 (A) := by
  unfold f_X4_copy_3_6 at hw
  refine Met.ofW (cc := cX4_copy) (maxL := 3) (ret := none) (by decide) rfl ?_
  intro p e s m args below meth c s₁ B hml hv
  obtain ⟨rfl, hP, hK, hD0⟩ := hv
  have hx := B.exec
  have hb := B.bytes
  have hr := B.returns
  have hts0 := atoms_spec (ws := (.code yX4_copy cX4_copy 3 none :: lw_g)) B.pre
  have hts : ∀ w ∈ lw_g, w.before (([.ref (a 3), .ref (a 6)] : List Value).toArray) s = true := fun w h => hts0 w (List.mem_cons_of_mem _ h)
  clear hts0
  have hown : s.vm.findClass RX4 = some m.cls := findClass_of_methodNamed B.named
  have hlocks := B.notSynchronized
  have hret : ∀ (pc : Nat) (ls : Array Slot) (X_ : MS) (H : Heap) (locs : List Loc), X_ = out → va_P (dC, dI) classes (wm a cA X_) H → va_S A s.heap H locs → decode cX4_copy pc = .ok (.return_, 1) → W p l e ({ frames := 0, cells := 0, slots := 0, locals := 0 }) s m (([.ref (a 3), .ref (a 6)] : List Value).toArray) below meth c H locs 0 0 (MQ below (va_Qv (fun X_ : MS => out = X_) (fun X_ t => va_P (dC, dI) classes (wm a cA X_) t.heap ∧ va_K (dC, dI) classes [(cA, .int)] t) A) (([.ref (a 3), .ref (a 6)] : List Value).toArray) s 0 0 (A)) (F0 m pc ls []) := fun pc ls X_ H locs hv hP hS hd => W.vret hx hb hr (fun t ht hW => ⟨⟨X_, rfl, hv.symm, by rw [ht]; exact hP, va_K.moved hW.alike hK⟩, hS.F ht⟩) hS.2.2 hd
  show W p l e ({ frames := 0, cells := 0, slots := 0, locals := 0 }) s m (([.ref (a 3), .ref (a 6)] : List Value).toArray) below meth c s.heap [] 0 0 (MQ below (va_Qv (fun X_ : MS => out = X_) (fun X_ t => va_P (dC, dI) classes (wm a cA X_) t.heap ∧ va_K (dC, dI) classes [(cA, .int)] t) A) (([.ref (a 3), .ref (a 6)] : List Value).toArray) s 0 0 (A)) (entryFrame m (([.ref (a 3), .ref (a 6)] : List Value).toArray) 3)
  generalize MQ below (va_Qv (fun X_ : MS => out = X_) (fun X_ t => va_P (dC, dI) classes (wm a cA X_) t.heap ∧ va_K (dC, dI) classes [(cA, .int)] t) A) (([.ref (a 3), .ref (a 6)] : List Value).toArray) s 0 0 (A) = Q at hret ⊢
  have hS : va_S A s.heap s.heap [] := va_S.rf
  have L2 : ∀ n : Nat, ∀ (X : MS), ∀ (v2 : Int32), g_X4_copy_3_6_2 n X v2 = some out → ∀ (H : Heap) (locs : List Loc), va_P (dC, dI) classes (wm a cA X) H → va_S A s.heap H locs → ∀ ls : Array Slot, lv_has ls 3 [(0, .ref (a 3)), (1, .ref (a 6)), (2, .int v2)] → W p l e ({ frames := 0, cells := 0, slots := 0, locals := 0 }) s m (([.ref (a 3), .ref (a 6)] : List Value).toArray) below meth c H locs 0 0 Q (F0 m 2 ls []) := by
    intro n
    induction n with
    | zero =>
      intro X v2 hw
      rw [g_X4_copy_3_6_2] at hw
      cases hw
    | succ n ih =>
      intro X v2 hw H locs hP hS ls hl
      rw [g_X4_copy_3_6_2] at hw
      refine lv_iload_n hx hb dX4_copy_2 rfl (lv_at hl 2 rfl) ?_
      refine lv_aload_n hx hb dX4_copy_3 rfl (lv_at hl 0 rfl) ?_
      refine va_alen (v := 12) hx hb hK hP 3 0 rfl rfl rfl dX4_copy_4 ?_
      refine lv_icmp_ge (tgt := 20) hx hb dX4_copy_5 (by decide) (fun c1 => ?_) (fun c1 => ?_)
      · have hw := ite_t hw c1
        exact hret _ _ _ _ _ (Option.some.inj hw) hP hS dX4_copy_20
      · have hw := ite_f hw c1
        refine lv_aload_n hx hb dX4_copy_8 rfl (lv_at hl 1 rfl) ?_
        refine lv_iload_n hx hb dX4_copy_9 rfl (lv_at hl 2 rfl) ?_
        refine lv_aload_n hx hb dX4_copy_10 rfl (lv_at hl 0 rfl) ?_
        refine lv_iload_n hx hb dX4_copy_11 rfl (lv_at hl 2 rfl) ?_
        obtain ⟨h2, hw⟩ := ixc_use hw
        refine va_iald hx hb hK hP 3 0 rfl rfl h2 dX4_copy_12 ?_
        refine lv_topi (fun x4 ex4 => ?_)
        have hw := stp_use hw ex4
        obtain ⟨h3, hw⟩ := ixc_use hw
        refine va_iast hx hb hK hP (wmD hD0) hS 6 0 rfl rfl h3 dX4_copy_13 (fun H locs hP hD_ hS => ?_)
        obtain ⟨X5, eX5⟩ : ∃ y : MS, y = (ups X.1 6 (Int32.toNatClampNeg v2) x4, X.2) := ⟨_, rfl⟩
        have hw := stp_use hw eX5
        have hP : va_P (dC, dI) classes (wm a cA X5) H := by rw [eX5]; exact hP
        obtain ⟨x6, ex6⟩ : ∃ y : Int32, y = (v2 + 1) := ⟨_, rfl⟩
        have hw := stp_use hw ex6
        refine lv_iinc (v := x6) (lv' := [(2, .int x6), (0, .ref (a 3)), (1, .ref (a 6))]) hx hb dX4_copy_14 hl (k := 2) rfl (by rw [ex6]; rfl) (by decide) rfl (fun ls hl => ?_)
        refine lv_goto (tgt := 2) hx hb dX4_copy_17 (by decide) ?_
        exact ih X5 x6 hw _ _ hP hS ls (lv_sub hl [1, 2, 0] rfl)
  have hl := lv_entry ([.ref (a 3), .ref (a 6)]) (n := 3) (Nat.le_of_ble_eq_true rfl)
  rw [lg_entry_eq]
  generalize (lg_sl ([.ref (a 3), .ref (a 6)]) ++ List.replicate (3 - (lg_sl ([.ref (a 3), .ref (a 6)])).length) Slot.unset).toArray = ls at hl ⊢
  have hl : lv_has ls 3 [(0, .ref (a 3)), (1, .ref (a 6))] := hl
  refine lv_iconst (v := 0) hx hb dX4_copy_0 (by decide) ?_
  refine lv_istore_n (lv' := [(2, .int 0), (0, .ref (a 3)), (1, .ref (a 6))]) hx hb dX4_copy_1 rfl hl (by decide) rfl (fun ls hl => ?_)
  exact L2 NF X 0 hw _ _ hP hS ls (lv_sub hl [1, 2, 0] rfl)
set_option maxHeartbeats 4000000 in
set_option maxRecDepth 100000 in
theorem c_X4_copy_5_7 (l : Launch) (dC : Nat → ClassId) (dI : Nat → Nat → Nat) (A : Nat → Prop) (a : Nat → Nat) (cA : ClassId) (X : MS) (out : MS) (hw : f_X4_copy_5_7 X = some out) : Met l yX4_copy (.code yX4_copy cX4_copy 3 none :: lw_g) ({ frames := 0, cells := 0, slots := 0, locals := 0 }) (PcMD dC dI A a cA X [.ref (a 5), .ref (a 7)]) (va_Qv (fun X_ : MS => out = X_) (fun X_ t => va_P (dC, dI) classes (wm a cA X_) t.heap ∧ va_K (dC, dI) classes [(cA, .int)] t) A) 0 0 (A) := by
  unfold f_X4_copy_5_7 at hw
  refine Met.ofW (cc := cX4_copy) (maxL := 3) (ret := none) (by decide) rfl ?_
  intro p e s m args below meth c s₁ B hml hv
  obtain ⟨rfl, hP, hK, hD0⟩ := hv
  have hx := B.exec
  have hb := B.bytes
  have hr := B.returns
  have hts0 := atoms_spec (ws := (.code yX4_copy cX4_copy 3 none :: lw_g)) B.pre
  have hts : ∀ w ∈ lw_g, w.before (([.ref (a 5), .ref (a 7)] : List Value).toArray) s = true := fun w h => hts0 w (List.mem_cons_of_mem _ h)
  clear hts0
  have hown : s.vm.findClass RX4 = some m.cls := findClass_of_methodNamed B.named
  have hlocks := B.notSynchronized
  have hret : ∀ (pc : Nat) (ls : Array Slot) (X_ : MS) (H : Heap) (locs : List Loc), X_ = out → va_P (dC, dI) classes (wm a cA X_) H → va_S A s.heap H locs → decode cX4_copy pc = .ok (.return_, 1) → W p l e ({ frames := 0, cells := 0, slots := 0, locals := 0 }) s m (([.ref (a 5), .ref (a 7)] : List Value).toArray) below meth c H locs 0 0 (MQ below (va_Qv (fun X_ : MS => out = X_) (fun X_ t => va_P (dC, dI) classes (wm a cA X_) t.heap ∧ va_K (dC, dI) classes [(cA, .int)] t) A) (([.ref (a 5), .ref (a 7)] : List Value).toArray) s 0 0 (A)) (F0 m pc ls []) := fun pc ls X_ H locs hv hP hS hd => W.vret hx hb hr (fun t ht hW => ⟨⟨X_, rfl, hv.symm, by rw [ht]; exact hP, va_K.moved hW.alike hK⟩, hS.F ht⟩) hS.2.2 hd
  show W p l e ({ frames := 0, cells := 0, slots := 0, locals := 0 }) s m (([.ref (a 5), .ref (a 7)] : List Value).toArray) below meth c s.heap [] 0 0 (MQ below (va_Qv (fun X_ : MS => out = X_) (fun X_ t => va_P (dC, dI) classes (wm a cA X_) t.heap ∧ va_K (dC, dI) classes [(cA, .int)] t) A) (([.ref (a 5), .ref (a 7)] : List Value).toArray) s 0 0 (A)) (entryFrame m (([.ref (a 5), .ref (a 7)] : List Value).toArray) 3)
  generalize MQ below (va_Qv (fun X_ : MS => out = X_) (fun X_ t => va_P (dC, dI) classes (wm a cA X_) t.heap ∧ va_K (dC, dI) classes [(cA, .int)] t) A) (([.ref (a 5), .ref (a 7)] : List Value).toArray) s 0 0 (A) = Q at hret ⊢
  have hS : va_S A s.heap s.heap [] := va_S.rf
  have L2 : ∀ n : Nat, ∀ (X : MS), ∀ (v2 : Int32), g_X4_copy_5_7_2 n X v2 = some out → ∀ (H : Heap) (locs : List Loc), va_P (dC, dI) classes (wm a cA X) H → va_S A s.heap H locs → ∀ ls : Array Slot, lv_has ls 3 [(0, .ref (a 5)), (1, .ref (a 7)), (2, .int v2)] → W p l e ({ frames := 0, cells := 0, slots := 0, locals := 0 }) s m (([.ref (a 5), .ref (a 7)] : List Value).toArray) below meth c H locs 0 0 Q (F0 m 2 ls []) := by
    intro n
    induction n with
    | zero =>
      intro X v2 hw
      rw [g_X4_copy_5_7_2] at hw
      cases hw
    | succ n ih =>
      intro X v2 hw H locs hP hS ls hl
      rw [g_X4_copy_5_7_2] at hw
      refine lv_iload_n hx hb dX4_copy_2 rfl (lv_at hl 2 rfl) ?_
      refine lv_aload_n hx hb dX4_copy_3 rfl (lv_at hl 0 rfl) ?_
      refine va_alen (v := 16) hx hb hK hP 5 0 rfl rfl rfl dX4_copy_4 ?_
      refine lv_icmp_ge (tgt := 20) hx hb dX4_copy_5 (by decide) (fun c1 => ?_) (fun c1 => ?_)
      · have hw := ite_t hw c1
        exact hret _ _ _ _ _ (Option.some.inj hw) hP hS dX4_copy_20
      · have hw := ite_f hw c1
        refine lv_aload_n hx hb dX4_copy_8 rfl (lv_at hl 1 rfl) ?_
        refine lv_iload_n hx hb dX4_copy_9 rfl (lv_at hl 2 rfl) ?_
        refine lv_aload_n hx hb dX4_copy_10 rfl (lv_at hl 0 rfl) ?_
        refine lv_iload_n hx hb dX4_copy_11 rfl (lv_at hl 2 rfl) ?_
        obtain ⟨h2, hw⟩ := ixc_use hw
        refine va_iald hx hb hK hP 5 0 rfl rfl h2 dX4_copy_12 ?_
        refine lv_topi (fun x4 ex4 => ?_)
        have hw := stp_use hw ex4
        obtain ⟨h3, hw⟩ := ixc_use hw
        refine va_iast hx hb hK hP (wmD hD0) hS 7 0 rfl rfl h3 dX4_copy_13 (fun H locs hP hD_ hS => ?_)
        obtain ⟨X5, eX5⟩ : ∃ y : MS, y = (ups X.1 7 (Int32.toNatClampNeg v2) x4, X.2) := ⟨_, rfl⟩
        have hw := stp_use hw eX5
        have hP : va_P (dC, dI) classes (wm a cA X5) H := by rw [eX5]; exact hP
        obtain ⟨x6, ex6⟩ : ∃ y : Int32, y = (v2 + 1) := ⟨_, rfl⟩
        have hw := stp_use hw ex6
        refine lv_iinc (v := x6) (lv' := [(2, .int x6), (0, .ref (a 5)), (1, .ref (a 7))]) hx hb dX4_copy_14 hl (k := 2) rfl (by rw [ex6]; rfl) (by decide) rfl (fun ls hl => ?_)
        refine lv_goto (tgt := 2) hx hb dX4_copy_17 (by decide) ?_
        exact ih X5 x6 hw _ _ hP hS ls (lv_sub hl [1, 2, 0] rfl)
  have hl := lv_entry ([.ref (a 5), .ref (a 7)]) (n := 3) (Nat.le_of_ble_eq_true rfl)
  rw [lg_entry_eq]
  generalize (lg_sl ([.ref (a 5), .ref (a 7)]) ++ List.replicate (3 - (lg_sl ([.ref (a 5), .ref (a 7)])).length) Slot.unset).toArray = ls at hl ⊢
  have hl : lv_has ls 3 [(0, .ref (a 5)), (1, .ref (a 7))] := hl
  refine lv_iconst (v := 0) hx hb dX4_copy_0 (by decide) ?_
  refine lv_istore_n (lv' := [(2, .int 0), (0, .ref (a 5)), (1, .ref (a 7))]) hx hb dX4_copy_1 rfl hl (by decide) rfl (fun ls hl => ?_)
  exact L2 NF X 0 hw _ _ hP hS ls (lv_sub hl [1, 2, 0] rfl)
