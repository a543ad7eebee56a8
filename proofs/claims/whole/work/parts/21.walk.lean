set_option maxHeartbeats 4000000 in
set_option maxRecDepth 100000 in
theorem c_X3_noise (l : Launch) (dC : Nat → ClassId) (dI : Nat → Nat → Nat) (a : Nat → Nat) (cA : ClassId) (X : WS) (p1 : Int32) (out : Int32) (hw : f_X3_noise X p1 = some out) : Met l yX3_noise (.code yX3_noise cX3_noise 2 (some .int) :: lw_g) ({ frames := 2, cells := 0, slots := 0, locals := 41 }) (PcX dC dI a cA X [.ref (a 0), .int p1]) (vp_Si (fun r_ => r_ = out)) 0 0 (fun _ => False) := by
  unfold f_X3_noise at hw
  refine Met.ofW (cc := cX3_noise) (maxL := 2) (ret := (some .int)) (by decide) rfl ?_
  intro p e s m args below meth c s₁ B hml hv
  obtain ⟨rfl, hP, hK, hN⟩ := hv
  have hx := B.exec
  have hb := B.bytes
  have hr := B.returns
  have hts0 := atoms_spec (ws := (.code yX3_noise cX3_noise 2 (some .int) :: lw_g)) B.pre
  have hts : ∀ w ∈ lw_g, w.before (([.ref (a 0), .int p1] : List Value).toArray) s = true := fun w h => hts0 w (List.mem_cons_of_mem _ h)
  clear hts0
  have hown : s.vm.findClass RX3 = some m.cls := findClass_of_methodNamed B.named
  have hlocks := B.notSynchronized
  have hret : ∀ (pc : Nat) (ls : Array Slot) (v : Int32), v = out → decode cX3_noise pc = .ok (.ireturn, 1) → W p l e ({ frames := 2, cells := 0, slots := 0, locals := 41 }) s m (([.ref (a 0), .int p1] : List Value).toArray) below meth c s.heap [] 0 0 (MQ below (vp_Si (fun r_ => r_ = out)) (([.ref (a 0), .int p1] : List Value).toArray) s 0 0 (fun _ => False)) (F0 m pc ls [.int v]) := fun pc ls v hv hd => W.iret hx hb hr (fun t ht hW => ⟨v, rfl, hv, ht⟩) (fun q hq => absurd hq List.not_mem_nil) hd
  show W p l e ({ frames := 2, cells := 0, slots := 0, locals := 41 }) s m (([.ref (a 0), .int p1] : List Value).toArray) below meth c s.heap [] 0 0 (MQ below (vp_Si (fun r_ => r_ = out)) (([.ref (a 0), .int p1] : List Value).toArray) s 0 0 (fun _ => False)) (entryFrame m (([.ref (a 0), .int p1] : List Value).toArray) 2)
  generalize MQ below (vp_Si (fun r_ => r_ = out)) (([.ref (a 0), .int p1] : List Value).toArray) s 0 0 (fun _ => False) = Q at hret ⊢
  have hl := lv_entry ([.ref (a 0), .int p1]) (n := 2) (Nat.le_of_ble_eq_true rfl)
  rw [lg_entry_eq]
  generalize (lg_sl ([.ref (a 0), .int p1]) ++ List.replicate (2 - (lg_sl ([.ref (a 0), .int p1])).length) Slot.unset).toArray = ls at hl ⊢
  have hl : lv_has ls 2 [(0, .ref (a 0)), (1, .int p1)] := hl
  refine lv_aload_n hx hb dX3_noise_0 rfl (lv_at hl 0 rfl) ?_
  refine lv_iload_n hx hb dX3_noise_1 rfl (lv_at hl 1 rfl) ?_
  obtain ⟨r1, er1, hw⟩ := Option.bind_eq_some_iff.mp hw
  refine vp_callSi (va_runV (As := [.int p1]) (rest := []) ⟨hx, hb, hml, hown, hts⟩ (c_X3_isPlace l dC dI a cA X p1 r1 er1) ⟨callB_of 1 hts gd_X3_isPlace rfl rfl rfl (hts _ wd_35) (hts _ wd_253) hd_X3_isPlace ⟨Nat.le_of_ble_eq_true rfl, Nat.le_of_ble_eq_true rfl⟩, hts _ wd_255, hts _ wd_0⟩ ⟨blX, va_recv hK hP (ci := 3) (q0 := 0) rfl rfl, fun U hU hW => ⟨rfl, by rw [hU]; exact hP, va_K.moved hW.alike hK, nst.warm hW hN⟩⟩ rfl rfl hl.1 rfl (lv_room (Nat.le_of_ble_eq_true rfl)) dX3_noise_2 ⟨Nat.zero_le _, Nat.zero_le _⟩).run (fun r_ e_ => ?_)
  subst r_
  refine lv_if_eq (tgt := 20) hx hb dX3_noise_5 (by decide) (fun c2 => ?_) (fun c2 => ?_)
  · have hw := ite_t hw c2
    refine lv_bipush (v := (-101)) hx hb dX3_noise_20 (by decide) ?_
    exact hret _ _ _ (Option.some.inj hw) dX3_noise_22
  · have hw := ite_f hw c2
    refine lv_aload_n hx hb dX3_noise_8 rfl (lv_at hl 0 rfl) ?_
    refine va_get (D := (dC, dI)) (ci := 3) (v := .ref (a 3)) (C := RX3) (T := TX3) (N := 6) hx hb hts iX3 hown hK hP 0 rfl rfl 1 (by decide) (hts _ wd_179) (fun _ h9 => h9) rfl dX3_noise_9 ?_
    refine va_getN (D := (dC, dI)) (ci := 2) (v := .ref (a 4)) (C := RX2) (T := TX2) (N := 17) hx hb hts iX2 hown hK hP 3 rfl rfl 0 (by decide) (va_Nw.use rfl (hN _ nk_74)) (fun _ h9 => h9) rfl dX3_noise_12 ?_
    refine lv_iload_n hx hb dX3_noise_15 rfl (lv_at hl 1 rfl) ?_
    obtain ⟨h3, hw⟩ := ixc_use hw
    refine va_iald hx hb hK hP 4 0 rfl rfl h3 dX3_noise_16 ?_
    refine lv_goto (tgt := 22) hx hb dX3_noise_17 (by decide) ?_
    exact hret _ _ _ (Option.some.inj hw) dX3_noise_22
set_option maxHeartbeats 4000000 in
set_option maxRecDepth 100000 in
theorem c_X4_lacks (l : Launch) (dC : Nat → ClassId) (dI : Nat → Nat → Nat) (a : Nat → Nat) (cA : ClassId) (X : MS) (out : Int32) (hw : f_X4_lacks X = some out) : Met l yX4_lacks (.code yX4_lacks cX4_lacks 1 (some .boolean) :: lw_g) ({ frames := 0, cells := 0, slots := 0, locals := 0 }) (PcM dC dI a cA X [.ref (a 0)]) (vp_Si (fun r_ => r_ = out)) 0 0 (fun _ => False) := by
  unfold f_X4_lacks at hw
  refine Met.ofW (cc := cX4_lacks) (maxL := 1) (ret := (some .boolean)) (by decide) rfl ?_
  intro p e s m args below meth c s₁ B hml hv
  obtain ⟨rfl, hP, hK⟩ := hv
  have hx := B.exec
  have hb := B.bytes
  have hr := B.returns
  have hts0 := atoms_spec (ws := (.code yX4_lacks cX4_lacks 1 (some .boolean) :: lw_g)) B.pre
  have hts : ∀ w ∈ lw_g, w.before (([.ref (a 0)] : List Value).toArray) s = true := fun w h => hts0 w (List.mem_cons_of_mem _ h)
  clear hts0
  have hown : s.vm.findClass RX4 = some m.cls := findClass_of_methodNamed B.named
  have hlocks := B.notSynchronized
  have hret : ∀ (pc : Nat) (ls : Array Slot) (v : Int32), v = out → (hz : narrow .boolean (.int v) = .int v) → decode cX4_lacks pc = .ok (.ireturn, 1) → W p l e ({ frames := 0, cells := 0, slots := 0, locals := 0 }) s m (([.ref (a 0)] : List Value).toArray) below meth c s.heap [] 0 0 (MQ below (vp_Si (fun r_ => r_ = out)) (([.ref (a 0)] : List Value).toArray) s 0 0 (fun _ => False)) (F0 m pc ls [.int v]) := fun pc ls v hv hz hd => W.zret hx hb hr hz (fun t ht hW => ⟨v, rfl, hv, ht⟩) (fun q hq => absurd hq List.not_mem_nil) hd
  show W p l e ({ frames := 0, cells := 0, slots := 0, locals := 0 }) s m (([.ref (a 0)] : List Value).toArray) below meth c s.heap [] 0 0 (MQ below (vp_Si (fun r_ => r_ = out)) (([.ref (a 0)] : List Value).toArray) s 0 0 (fun _ => False)) (entryFrame m (([.ref (a 0)] : List Value).toArray) 1)
  generalize MQ below (vp_Si (fun r_ => r_ = out)) (([.ref (a 0)] : List Value).toArray) s 0 0 (fun _ => False) = Q at hret ⊢
  have hl := lv_entry ([.ref (a 0)]) (n := 1) (Nat.le_of_ble_eq_true rfl)
  rw [lg_entry_eq]
  generalize (lg_sl ([.ref (a 0)]) ++ List.replicate (1 - (lg_sl ([.ref (a 0)])).length) Slot.unset).toArray = ls at hl ⊢
  have hl : lv_has ls 1 [(0, .ref (a 0))] := hl
  refine lv_aload_n hx hb dX4_lacks_0 rfl (lv_at hl 0 rfl) ?_
  refine va_get (D := (dC, dI)) (ci := 4) (v := .int (X.1 0 4)) (C := RX4) (T := TX4) (N := 29) hx hb hts iX4 hown hK hP 0 rfl rfl 4 (by decide) (hts _ wd_526) (fun _ h9 => h9) rfl dX4_lacks_1 ?_
  refine lv_if_ne (tgt := 11) hx hb dX4_lacks_4 (by decide) (fun c1 => ?_) (fun c1 => ?_)
  · have hw := ite_f hw c1
    refine lv_iconst (v := 0) hx hb dX4_lacks_11 (by decide) ?_
    exact hret _ _ _ (Option.some.inj hw) rfl dX4_lacks_12
  · have hw := ite_t hw c1
    refine lv_iconst (v := 1) hx hb dX4_lacks_7 (by decide) ?_
    refine lv_goto (tgt := 12) hx hb dX4_lacks_8 (by decide) ?_
    exact hret _ _ _ (Option.some.inj hw) rfl dX4_lacks_12
set_option maxHeartbeats 4000000 in
set_option maxRecDepth 100000 in
theorem c_X4_isPlace (l : Launch) (dC : Nat → ClassId) (dI : Nat → Nat → Nat) (a : Nat → Nat) (cA : ClassId) (X : MS) (p1 : Int32) (out : Int32) (hw : f_X4_isPlace X p1 = some out) : Met l yX4_isPlace (.code yX4_isPlace cX4_isPlace 2 (some .boolean) :: lw_g) ({ frames := 1, cells := 0, slots := 0, locals := 25 }) (PcM dC dI a cA X [.ref (a 0), .int p1]) (vp_Si (fun r_ => r_ = out)) 0 0 (fun _ => False) := by
  unfold f_X4_isPlace at hw
  refine Met.ofW (cc := cX4_isPlace) (maxL := 2) (ret := (some .boolean)) (by decide) rfl ?_
  intro p e s m args below meth c s₁ B hml hv
  obtain ⟨rfl, hP, hK⟩ := hv
  have hx := B.exec
  have hb := B.bytes
  have hr := B.returns
  have hts0 := atoms_spec (ws := (.code yX4_isPlace cX4_isPlace 2 (some .boolean) :: lw_g)) B.pre
  have hts : ∀ w ∈ lw_g, w.before (([.ref (a 0), .int p1] : List Value).toArray) s = true := fun w h => hts0 w (List.mem_cons_of_mem _ h)
  clear hts0
  have hown : s.vm.findClass RX4 = some m.cls := findClass_of_methodNamed B.named
  have hlocks := B.notSynchronized
  have hret : ∀ (pc : Nat) (ls : Array Slot) (v : Int32), v = out → (hz : narrow .boolean (.int v) = .int v) → decode cX4_isPlace pc = .ok (.ireturn, 1) → W p l e ({ frames := 1, cells := 0, slots := 0, locals := 25 }) s m (([.ref (a 0), .int p1] : List Value).toArray) below meth c s.heap [] 0 0 (MQ below (vp_Si (fun r_ => r_ = out)) (([.ref (a 0), .int p1] : List Value).toArray) s 0 0 (fun _ => False)) (F0 m pc ls [.int v]) := fun pc ls v hv hz hd => W.zret hx hb hr hz (fun t ht hW => ⟨v, rfl, hv, ht⟩) (fun q hq => absurd hq List.not_mem_nil) hd
  show W p l e ({ frames := 1, cells := 0, slots := 0, locals := 25 }) s m (([.ref (a 0), .int p1] : List Value).toArray) below meth c s.heap [] 0 0 (MQ below (vp_Si (fun r_ => r_ = out)) (([.ref (a 0), .int p1] : List Value).toArray) s 0 0 (fun _ => False)) (entryFrame m (([.ref (a 0), .int p1] : List Value).toArray) 2)
  generalize MQ below (vp_Si (fun r_ => r_ = out)) (([.ref (a 0), .int p1] : List Value).toArray) s 0 0 (fun _ => False) = Q at hret ⊢
  have hl := lv_entry ([.ref (a 0), .int p1]) (n := 2) (Nat.le_of_ble_eq_true rfl)
  rw [lg_entry_eq]
  generalize (lg_sl ([.ref (a 0), .int p1]) ++ List.replicate (2 - (lg_sl ([.ref (a 0), .int p1])).length) Slot.unset).toArray = ls at hl ⊢
  have hl : lv_has ls 2 [(0, .ref (a 0)), (1, .int p1)] := hl
  refine lv_aload_n hx hb dX4_isPlace_0 rfl (lv_at hl 0 rfl) ?_
  obtain ⟨r1, er1, hw⟩ := Option.bind_eq_some_iff.mp hw
  refine vp_callSi (va_runV (As := []) (rest := []) ⟨hx, hb, hml, hown, hts⟩ (c_X4_lacks l dC dI a cA X r1 er1) ⟨callB_of 0 hts gd_X4_lacks rfl rfl rfl (hts _ wd_39) (hts _ wd_647) hd_X4_lacks ⟨Nat.le_of_ble_eq_true rfl, Nat.le_of_ble_eq_true rfl⟩, hts _ wd_649, hts _ wd_12⟩ ⟨blM, va_recv hK hP (ci := 4) (q0 := 0) rfl rfl, fun U hU hW => ⟨rfl, by rw [hU]; exact hP, va_K.moved hW.alike hK⟩⟩ rfl rfl hl.1 rfl (lv_room (Nat.le_of_ble_eq_true rfl)) dX4_isPlace_1 ⟨Nat.zero_le _, Nat.zero_le _⟩).run (fun r_ e_ => ?_)
  subst r_
  refine lv_if_ne (tgt := 23) hx hb dX4_isPlace_4 (by decide) (fun c2 => ?_) (fun c2 => ?_)
  · have hw := ite_f hw c2
    refine lv_iconst (v := 0) hx hb dX4_isPlace_23 (by decide) ?_
    exact hret _ _ _ (Option.some.inj hw) rfl dX4_isPlace_24
  · have hw := ite_t hw c2
    refine lv_iload_n hx hb dX4_isPlace_7 rfl (lv_at hl 1 rfl) ?_
    refine lv_i2l hx hb dX4_isPlace_8 rfl ?_
    refine lv_lconst (v := 0) hx hb dX4_isPlace_9 (by decide) ?_
    refine lv_ldc2 hx hb hown (hts _ wd_634) dX4_isPlace_10 ?_
    obtain ⟨r3, er3, hw⟩ := Option.bind_eq_some_iff.mp hw
    refine vp_callSi (va_runS (As := [.long (Int32.toInt64 p1), .long 0, .long 5]) (rest := []) ⟨hx, hb, hml, hown, hts⟩ (c_X4_in l (Int32.toInt64 p1) 0 5 r3 er3) ⟨callB_of 3 hts gd_X4_in rfl rfl rfl (hts _ wd_39) (hts _ wd_615) hd_X4_in ⟨Nat.le_of_ble_eq_true rfl, Nat.le_of_ble_eq_true rfl⟩, hts _ wd_616⟩ ⟨bl0, fun U hU hW => ⟨rfl, trivial⟩⟩ rfl rfl hl.1 rfl (lv_room (Nat.le_of_ble_eq_true rfl)) dX4_isPlace_13 ⟨Nat.zero_le _, Nat.zero_le _⟩).run (fun r_ e_ => ?_)
    subst r_
    refine lv_if_eq (tgt := 23) hx hb dX4_isPlace_16 (by decide) (fun c4 => ?_) (fun c4 => ?_)
    · have hw := ite_t hw c4
      refine lv_iconst (v := 0) hx hb dX4_isPlace_23 (by decide) ?_
      exact hret _ _ _ (Option.some.inj hw) rfl dX4_isPlace_24
    · have hw := ite_f hw c4
      refine lv_iconst (v := 1) hx hb dX4_isPlace_19 (by decide) ?_
      refine lv_goto (tgt := 24) hx hb dX4_isPlace_20 (by decide) ?_
      exact hret _ _ _ (Option.some.inj hw) rfl dX4_isPlace_24
set_option maxHeartbeats 4000000 in
set_option maxRecDepth 100000 in
theorem c_X4_noise (l : Launch) (dC : Nat → ClassId) (dI : Nat → Nat → Nat) (a : Nat → Nat) (cA : ClassId) (X : MS) (p1 : Int32) (out : Int32) (hw : f_X4_noise X p1 = some out) : Met l yX4_noise (.code yX4_noise cX4_noise 2 (some .int) :: lw_g) ({ frames := 2, cells := 0, slots := 0, locals := 46 }) (PcM dC dI a cA X [.ref (a 0), .int p1]) (vp_Si (fun r_ => r_ = out)) 0 0 (fun _ => False) := by
  unfold f_X4_noise at hw
  refine Met.ofW (cc := cX4_noise) (maxL := 2) (ret := (some .int)) (by decide) rfl ?_
  intro p e s m args below meth c s₁ B hml hv
  obtain ⟨rfl, hP, hK⟩ := hv
  have hx := B.exec
  have hb := B.bytes
  have hr := B.returns
  have hts0 := atoms_spec (ws := (.code yX4_noise cX4_noise 2 (some .int) :: lw_g)) B.pre
  have hts : ∀ w ∈ lw_g, w.before (([.ref (a 0), .int p1] : List Value).toArray) s = true := fun w h => hts0 w (List.mem_cons_of_mem _ h)
  clear hts0
  have hown : s.vm.findClass RX4 = some m.cls := findClass_of_methodNamed B.named
  have hlocks := B.notSynchronized
  have hret : ∀ (pc : Nat) (ls : Array Slot) (v : Int32), v = out → decode cX4_noise pc = .ok (.ireturn, 1) → W p l e ({ frames := 2, cells := 0, slots := 0, locals := 46 }) s m (([.ref (a 0), .int p1] : List Value).toArray) below meth c s.heap [] 0 0 (MQ below (vp_Si (fun r_ => r_ = out)) (([.ref (a 0), .int p1] : List Value).toArray) s 0 0 (fun _ => False)) (F0 m pc ls [.int v]) := fun pc ls v hv hd => W.iret hx hb hr (fun t ht hW => ⟨v, rfl, hv, ht⟩) (fun q hq => absurd hq List.not_mem_nil) hd
  show W p l e ({ frames := 2, cells := 0, slots := 0, locals := 46 }) s m (([.ref (a 0), .int p1] : List Value).toArray) below meth c s.heap [] 0 0 (MQ below (vp_Si (fun r_ => r_ = out)) (([.ref (a 0), .int p1] : List Value).toArray) s 0 0 (fun _ => False)) (entryFrame m (([.ref (a 0), .int p1] : List Value).toArray) 2)
  generalize MQ below (vp_Si (fun r_ => r_ = out)) (([.ref (a 0), .int p1] : List Value).toArray) s 0 0 (fun _ => False) = Q at hret ⊢
  have hl := lv_entry ([.ref (a 0), .int p1]) (n := 2) (Nat.le_of_ble_eq_true rfl)
  rw [lg_entry_eq]
  generalize (lg_sl ([.ref (a 0), .int p1]) ++ List.replicate (2 - (lg_sl ([.ref (a 0), .int p1])).length) Slot.unset).toArray = ls at hl ⊢
  have hl : lv_has ls 2 [(0, .ref (a 0)), (1, .int p1)] := hl
  refine lv_aload_n hx hb dX4_noise_0 rfl (lv_at hl 0 rfl) ?_
  refine lv_iload_n hx hb dX4_noise_1 rfl (lv_at hl 1 rfl) ?_
  obtain ⟨r1, er1, hw⟩ := Option.bind_eq_some_iff.mp hw
  refine vp_callSi (va_runV (As := [.int p1]) (rest := []) ⟨hx, hb, hml, hown, hts⟩ (c_X4_isPlace l dC dI a cA X p1 r1 er1) ⟨callB_of 1 hts gd_X4_isPlace rfl rfl rfl (hts _ wd_39) (hts _ wd_643) hd_X4_isPlace ⟨Nat.le_of_ble_eq_true rfl, Nat.le_of_ble_eq_true rfl⟩, hts _ wd_645, hts _ wd_11⟩ ⟨blM, va_recv hK hP (ci := 4) (q0 := 0) rfl rfl, fun U hU hW => ⟨rfl, by rw [hU]; exact hP, va_K.moved hW.alike hK⟩⟩ rfl rfl hl.1 rfl (lv_room (Nat.le_of_ble_eq_true rfl)) dX4_noise_2 ⟨Nat.zero_le _, Nat.zero_le _⟩).run (fun r_ e_ => ?_)
  subst r_
  refine lv_if_eq (tgt := 17) hx hb dX4_noise_5 (by decide) (fun c2 => ?_) (fun c2 => ?_)
  · have hw := ite_t hw c2
    refine lv_bipush (v := (-101)) hx hb dX4_noise_17 (by decide) ?_
    exact hret _ _ _ (Option.some.inj hw) dX4_noise_19
  · have hw := ite_f hw c2
    refine lv_aload_n hx hb dX4_noise_8 rfl (lv_at hl 0 rfl) ?_
    refine va_get (D := (dC, dI)) (ci := 4) (v := .ref (a 2)) (C := RX4) (T := TX4) (N := 29) hx hb hts iX4 hown hK hP 0 rfl rfl 10 (by decide) (hts _ wd_532) (fun _ h9 => h9) rfl dX4_noise_9 ?_
    refine lv_iload_n hx hb dX4_noise_12 rfl (lv_at hl 1 rfl) ?_
    obtain ⟨h3, hw⟩ := ixc_use hw
    refine va_iald hx hb hK hP 2 0 rfl rfl h3 dX4_noise_13 ?_
    refine lv_goto (tgt := 19) hx hb dX4_noise_14 (by decide) ?_
    exact hret _ _ _ (Option.some.inj hw) dX4_noise_19
set_option maxHeartbeats 4000000 in
set_option maxRecDepth 100000 in
theorem c_X3_hum (l : Launch) (dC : Nat → ClassId) (dI : Nat → Nat → Nat) (A : Nat → Prop) (a : Nat → Nat) (cA : ClassId) (X : WS) (p1 : Int32) (p2 : Int32) (out : (Int32 × WS)) (hw : f_X3_hum X p1 p2 = some out) : Met l yX3_hum (.code yX3_hum cX3_hum 4 (some .int) :: lw_g) ({ frames := 2, cells := 0, slots := 0, locals := 41 }) (PcXD dC dI A a cA X [.ref (a 0), .int p1, .int p2]) (va_Qi (fun (r_ : Int32) (X_ : WS) => out = (r_, X_)) (fun X_ t => va_P (dC, dI) classes (wl a cA X_) t.heap ∧ va_K (dC, dI) classes [(cA, .int)] t) A) 0 0 (A) := by
  unfold f_X3_hum at hw
  refine Met.ofW (cc := cX3_hum) (maxL := 4) (ret := (some .int)) (by decide) rfl ?_
  intro p e s m args below meth c s₁ B hml hv
  obtain ⟨rfl, hP, hK, hN, hD0⟩ := hv
  have hx := B.exec
  have hb := B.bytes
  have hr := B.returns
  have hts0 := atoms_spec (ws := (.code yX3_hum cX3_hum 4 (some .int) :: lw_g)) B.pre
  have hts : ∀ w ∈ lw_g, w.before (([.ref (a 0), .int p1, .int p2] : List Value).toArray) s = true := fun w h => hts0 w (List.mem_cons_of_mem _ h)
  clear hts0
  have hown : s.vm.findClass RX3 = some m.cls := findClass_of_methodNamed B.named
  have hlocks := B.notSynchronized
  have hret : ∀ (pc : Nat) (ls : Array Slot) (v : Int32) (X_ : WS) (H : Heap) (locs : List Loc), (v, X_) = out → va_P (dC, dI) classes (wl a cA X_) H → va_S A s.heap H locs → decode cX3_hum pc = .ok (.ireturn, 1) → W p l e ({ frames := 2, cells := 0, slots := 0, locals := 41 }) s m (([.ref (a 0), .int p1, .int p2] : List Value).toArray) below meth c H locs 0 0 (MQ below (va_Qi (fun (r_ : Int32) (X_ : WS) => out = (r_, X_)) (fun X_ t => va_P (dC, dI) classes (wl a cA X_) t.heap ∧ va_K (dC, dI) classes [(cA, .int)] t) A) (([.ref (a 0), .int p1, .int p2] : List Value).toArray) s 0 0 (A)) (F0 m pc ls [.int v]) := fun pc ls v X_ H locs hv hP hS hd => W.iret hx hb hr (fun t ht hW => ⟨⟨v, X_, rfl, hv.symm, by rw [ht]; exact hP, va_K.moved hW.alike hK⟩, hS.F ht⟩) hS.2.2 hd
  show W p l e ({ frames := 2, cells := 0, slots := 0, locals := 41 }) s m (([.ref (a 0), .int p1, .int p2] : List Value).toArray) below meth c s.heap [] 0 0 (MQ below (va_Qi (fun (r_ : Int32) (X_ : WS) => out = (r_, X_)) (fun X_ t => va_P (dC, dI) classes (wl a cA X_) t.heap ∧ va_K (dC, dI) classes [(cA, .int)] t) A) (([.ref (a 0), .int p1, .int p2] : List Value).toArray) s 0 0 (A)) (entryFrame m (([.ref (a 0), .int p1, .int p2] : List Value).toArray) 4)
  generalize MQ below (va_Qi (fun (r_ : Int32) (X_ : WS) => out = (r_, X_)) (fun X_ t => va_P (dC, dI) classes (wl a cA X_) t.heap ∧ va_K (dC, dI) classes [(cA, .int)] t) A) (([.ref (a 0), .int p1, .int p2] : List Value).toArray) s 0 0 (A) = Q at hret ⊢
  have hS : va_S A s.heap s.heap [] := va_S.rf
  have hl := lv_entry ([.ref (a 0), .int p1, .int p2]) (n := 4) (Nat.le_of_ble_eq_true rfl)
  rw [lg_entry_eq]
  generalize (lg_sl ([.ref (a 0), .int p1, .int p2]) ++ List.replicate (4 - (lg_sl ([.ref (a 0), .int p1, .int p2])).length) Slot.unset).toArray = ls at hl ⊢
  have hl : lv_has ls 4 [(0, .ref (a 0)), (1, .int p1), (2, .int p2)] := hl
  refine lv_aload_n hx hb dX3_hum_0 rfl (lv_at hl 0 rfl) ?_
  refine lv_iload_n hx hb dX3_hum_1 rfl (lv_at hl 1 rfl) ?_
  obtain ⟨r1, er1, hw⟩ := Option.bind_eq_some_iff.mp hw
  refine vp_callSi (va_runV (As := [.int p1]) (rest := []) ⟨hx, hb, hml, hown, hts⟩ (c_X3_isPlace l dC dI a cA X p1 r1 er1) ⟨callB_of 1 hts gd_X3_isPlace rfl rfl rfl (hts _ wd_35) (hts _ wd_253) hd_X3_isPlace ⟨Nat.le_of_ble_eq_true rfl, Nat.le_of_ble_eq_true rfl⟩, hts _ wd_255, hts _ wd_0⟩ ⟨blX, va_recv hK hP (ci := 3) (q0 := 0) rfl rfl, fun U hU hW => ⟨rfl, by rw [hU]; exact hP, va_K.moved hW.alike hK, nst.warm hW hN⟩⟩ rfl rfl hl.1 rfl (lv_room (Nat.le_of_ble_eq_true rfl)) dX3_hum_2 ⟨Nat.zero_le _, Nat.zero_le _⟩).run (fun r_ e_ => ?_)
  subst r_
  refine lv_if_ne (tgt := 11) hx hb dX3_hum_5 (by decide) (fun c2 => ?_) (fun c2 => ?_)
  · have hw := ite_f hw c2
    refine lv_iload_n hx hb dX3_hum_11 rfl (lv_at hl 2 rfl) ?_
    refine lv_if_lt (tgt := 21) hx hb dX3_hum_12 (by decide) (fun c3 => ?_) (fun c3 => ?_)
    · have hw := ite_t hw c3
      refine lv_bipush (v := (-102)) hx hb dX3_hum_21 (by decide) ?_
      exact hret _ _ _ _ _ _ (Option.some.inj hw) hP hS dX3_hum_23
    · have hw := ite_f hw c3
      refine lv_iload_n hx hb dX3_hum_15 rfl (lv_at hl 2 rfl) ?_
      refine lv_bipush (v := 9) hx hb dX3_hum_16 (by decide) ?_
      refine lv_icmp_le (tgt := 24) hx hb dX3_hum_18 (by decide) (fun c4 => ?_) (fun c4 => ?_)
      · have hw := ite_t hw c4
        refine lv_aload_n hx hb dX3_hum_24 rfl (lv_at hl 0 rfl) ?_
        refine va_get (D := (dC, dI)) (ci := 3) (v := .ref (a 3)) (C := RX3) (T := TX3) (N := 6) hx hb hts iX3 hown hK hP 0 rfl rfl 1 (by decide) (hts _ wd_179) (fun _ h9 => h9) rfl dX3_hum_25 ?_
        refine va_getN (D := (dC, dI)) (ci := 2) (v := .ref (a 4)) (C := RX2) (T := TX2) (N := 17) hx hb hts iX2 hown hK hP 3 rfl rfl 0 (by decide) (va_Nw.use rfl (hN _ nk_74)) (fun _ h9 => h9) rfl dX3_hum_28 ?_
        refine lv_iload_n hx hb dX3_hum_31 rfl (lv_at hl 1 rfl) ?_
        obtain ⟨h5, hw⟩ := ixc_use hw
        refine va_iald hx hb hK hP 4 0 rfl rfl h5 dX3_hum_32 ?_
        refine lv_topi (fun x6 ex6 => ?_)
        have hw := stp_use hw ex6
        refine lv_istore_n (lv' := [(3, .int x6), (0, .ref (a 0)), (1, .int p1), (2, .int p2)]) hx hb dX3_hum_33 rfl hl (by decide) rfl (fun ls hl => ?_)
        refine lv_aload_n hx hb dX3_hum_34 rfl (lv_at hl 1 rfl) ?_
        refine va_get (D := (dC, dI)) (ci := 3) (v := .ref (a 3)) (C := RX3) (T := TX3) (N := 6) hx hb hts iX3 hown hK hP 0 rfl rfl 1 (by decide) (hts _ wd_179) (fun _ h9 => h9) rfl dX3_hum_35 ?_
        refine va_getN (D := (dC, dI)) (ci := 2) (v := .ref (a 4)) (C := RX2) (T := TX2) (N := 17) hx hb hts iX2 hown hK hP 3 rfl rfl 0 (by decide) (va_Nw.use rfl (hN _ nk_74)) (fun _ h9 => h9) rfl dX3_hum_38 ?_
        refine lv_iload_n hx hb dX3_hum_41 rfl (lv_at hl 2 rfl) ?_
        refine lv_iload_n hx hb dX3_hum_42 rfl (lv_at hl 3 rfl) ?_
        obtain ⟨h7, hw⟩ := ixc_use hw
        refine va_iast hx hb hK hP (wlD hD0) hS 4 0 rfl rfl h7 dX3_hum_43 (fun H locs hP hD_ hS => ?_)
        obtain ⟨X8, eX8⟩ : ∃ y : WS, y = (ups X 4 (Int32.toNatClampNeg p1) p2) := ⟨_, rfl⟩
        have hw := stp_use hw eX8
        have hP : va_P (dC, dI) classes (wl a cA X8) H := by rw [eX8]; exact hP
        refine lv_iload_n hx hb dX3_hum_44 rfl (lv_at hl 0 rfl) ?_
        exact hret _ _ _ _ _ _ (Option.some.inj hw) hP hS dX3_hum_45
      · have hw := ite_f hw c4
        refine lv_bipush (v := (-102)) hx hb dX3_hum_21 (by decide) ?_
        exact hret _ _ _ _ _ _ (Option.some.inj hw) hP hS dX3_hum_23
  · have hw := ite_t hw c2
    refine lv_bipush (v := (-101)) hx hb dX3_hum_8 (by decide) ?_
    exact hret _ _ _ _ _ _ (Option.some.inj hw) hP hS dX3_hum_10
set_option maxHeartbeats 4000000 in
set_option maxRecDepth 100000 in
theorem c_X4_hum (l : Launch) (dC : Nat → ClassId) (dI : Nat → Nat → Nat) (A : Nat → Prop) (a : Nat → Nat) (cA : ClassId) (X : MS) (p1 : Int32) (p2 : Int32) (out : (Int32 × MS)) (hw : f_X4_hum X p1 p2 = some out) : Met l yX4_hum (.code yX4_hum cX4_hum 4 (some .int) :: lw_g) ({ frames := 2, cells := 0, slots := 0, locals := 46 }) (PcMD dC dI A a cA X [.ref (a 0), .int p1, .int p2]) (va_Qi (fun (r_ : Int32) (X_ : MS) => out = (r_, X_)) (fun X_ t => va_P (dC, dI) classes (wm a cA X_) t.heap ∧ va_K (dC, dI) classes [(cA, .int)] t) A) 0 0 (A) := by
  unfold f_X4_hum at hw
  refine Met.ofW (cc := cX4_hum) (maxL := 4) (ret := (some .int)) (by decide) rfl ?_
  intro p e s m args below meth c s₁ B hml hv
  obtain ⟨rfl, hP, hK, hD0⟩ := hv
  have hx := B.exec
  have hb := B.bytes
  have hr := B.returns
  have hts0 := atoms_spec (ws := (.code yX4_hum cX4_hum 4 (some .int) :: lw_g)) B.pre
  have hts : ∀ w ∈ lw_g, w.before (([.ref (a 0), .int p1, .int p2] : List Value).toArray) s = true := fun w h => hts0 w (List.mem_cons_of_mem _ h)
  clear hts0
  have hown : s.vm.findClass RX4 = some m.cls := findClass_of_methodNamed B.named
  have hlocks := B.notSynchronized
  have hret : ∀ (pc : Nat) (ls : Array Slot) (v : Int32) (X_ : MS) (H : Heap) (locs : List Loc), (v, X_) = out → va_P (dC, dI) classes (wm a cA X_) H → va_S A s.heap H locs → decode cX4_hum pc = .ok (.ireturn, 1) → W p l e ({ frames := 2, cells := 0, slots := 0, locals := 46 }) s m (([.ref (a 0), .int p1, .int p2] : List Value).toArray) below meth c H locs 0 0 (MQ below (va_Qi (fun (r_ : Int32) (X_ : MS) => out = (r_, X_)) (fun X_ t => va_P (dC, dI) classes (wm a cA X_) t.heap ∧ va_K (dC, dI) classes [(cA, .int)] t) A) (([.ref (a 0), .int p1, .int p2] : List Value).toArray) s 0 0 (A)) (F0 m pc ls [.int v]) := fun pc ls v X_ H locs hv hP hS hd => W.iret hx hb hr (fun t ht hW => ⟨⟨v, X_, rfl, hv.symm, by rw [ht]; exact hP, va_K.moved hW.alike hK⟩, hS.F ht⟩) hS.2.2 hd
  show W p l e ({ frames := 2, cells := 0, slots := 0, locals := 46 }) s m (([.ref (a 0), .int p1, .int p2] : List Value).toArray) below meth c s.heap [] 0 0 (MQ below (va_Qi (fun (r_ : Int32) (X_ : MS) => out = (r_, X_)) (fun X_ t => va_P (dC, dI) classes (wm a cA X_) t.heap ∧ va_K (dC, dI) classes [(cA, .int)] t) A) (([.ref (a 0), .int p1, .int p2] : List Value).toArray) s 0 0 (A)) (entryFrame m (([.ref (a 0), .int p1, .int p2] : List Value).toArray) 4)
  generalize MQ below (va_Qi (fun (r_ : Int32) (X_ : MS) => out = (r_, X_)) (fun X_ t => va_P (dC, dI) classes (wm a cA X_) t.heap ∧ va_K (dC, dI) classes [(cA, .int)] t) A) (([.ref (a 0), .int p1, .int p2] : List Value).toArray) s 0 0 (A) = Q at hret ⊢
  have hS : va_S A s.heap s.heap [] := va_S.rf
  have hl := lv_entry ([.ref (a 0), .int p1, .int p2]) (n := 4) (Nat.le_of_ble_eq_true rfl)
  rw [lg_entry_eq]
  generalize (lg_sl ([.ref (a 0), .int p1, .int p2]) ++ List.replicate (4 - (lg_sl ([.ref (a 0), .int p1, .int p2])).length) Slot.unset).toArray = ls at hl ⊢
  have hl : lv_has ls 4 [(0, .ref (a 0)), (1, .int p1), (2, .int p2)] := hl
  refine lv_aload_n hx hb dX4_hum_0 rfl (lv_at hl 0 rfl) ?_
  refine lv_iload_n hx hb dX4_hum_1 rfl (lv_at hl 1 rfl) ?_
  obtain ⟨r1, er1, hw⟩ := Option.bind_eq_some_iff.mp hw
  refine vp_callSi (va_runV (As := [.int p1]) (rest := []) ⟨hx, hb, hml, hown, hts⟩ (c_X4_isPlace l dC dI a cA X p1 r1 er1) ⟨callB_of 1 hts gd_X4_isPlace rfl rfl rfl (hts _ wd_39) (hts _ wd_643) hd_X4_isPlace ⟨Nat.le_of_ble_eq_true rfl, Nat.le_of_ble_eq_true rfl⟩, hts _ wd_645, hts _ wd_11⟩ ⟨blM, va_recv hK hP (ci := 4) (q0 := 0) rfl rfl, fun U hU hW => ⟨rfl, by rw [hU]; exact hP, va_K.moved hW.alike hK⟩⟩ rfl rfl hl.1 rfl (lv_room (Nat.le_of_ble_eq_true rfl)) dX4_hum_2 ⟨Nat.zero_le _, Nat.zero_le _⟩).run (fun r_ e_ => ?_)
  subst r_
  refine lv_if_ne (tgt := 11) hx hb dX4_hum_5 (by decide) (fun c2 => ?_) (fun c2 => ?_)
  · have hw := ite_f hw c2
    refine lv_iload_n hx hb dX4_hum_11 rfl (lv_at hl 2 rfl) ?_
    refine lv_i2l hx hb dX4_hum_12 rfl ?_
    refine lv_lconst (v := 0) hx hb dX4_hum_13 (by decide) ?_
    refine lv_ldc2 hx hb hown (hts _ wd_633) dX4_hum_14 ?_
    obtain ⟨r3, er3, hw⟩ := Option.bind_eq_some_iff.mp hw
    refine vp_callSi (va_runS (As := [.long (Int32.toInt64 p2), .long 0, .long 9]) (rest := []) ⟨hx, hb, hml, hown, hts⟩ (c_X4_in l (Int32.toInt64 p2) 0 9 r3 er3) ⟨callB_of 3 hts gd_X4_in rfl rfl rfl (hts _ wd_39) (hts _ wd_615) hd_X4_in ⟨Nat.le_of_ble_eq_true rfl, Nat.le_of_ble_eq_true rfl⟩, hts _ wd_616⟩ ⟨bl0, fun U hU hW => ⟨rfl, trivial⟩⟩ rfl rfl hl.1 rfl (lv_room (Nat.le_of_ble_eq_true rfl)) dX4_hum_17 ⟨Nat.zero_le _, Nat.zero_le _⟩).run (fun r_ e_ => ?_)
    subst r_
    refine lv_if_ne (tgt := 26) hx hb dX4_hum_20 (by decide) (fun c4 => ?_) (fun c4 => ?_)
    · have hw := ite_f hw c4
      refine lv_aload_n hx hb dX4_hum_26 rfl (lv_at hl 0 rfl) ?_
      refine va_get (D := (dC, dI)) (ci := 4) (v := .ref (a 2)) (C := RX4) (T := TX4) (N := 29) hx hb hts iX4 hown hK hP 0 rfl rfl 10 (by decide) (hts _ wd_532) (fun _ h9 => h9) rfl dX4_hum_27 ?_
      refine lv_iload_n hx hb dX4_hum_30 rfl (lv_at hl 1 rfl) ?_
      obtain ⟨h5, hw⟩ := ixc_use hw
      refine va_iald hx hb hK hP 2 0 rfl rfl h5 dX4_hum_31 ?_
      refine lv_topi (fun x6 ex6 => ?_)
      have hw := stp_use hw ex6
      refine lv_istore_n (lv' := [(3, .int x6), (0, .ref (a 0)), (1, .int p1), (2, .int p2)]) hx hb dX4_hum_32 rfl hl (by decide) rfl (fun ls hl => ?_)
      refine lv_aload_n hx hb dX4_hum_33 rfl (lv_at hl 1 rfl) ?_
      refine va_get (D := (dC, dI)) (ci := 4) (v := .ref (a 2)) (C := RX4) (T := TX4) (N := 29) hx hb hts iX4 hown hK hP 0 rfl rfl 10 (by decide) (hts _ wd_532) (fun _ h9 => h9) rfl dX4_hum_34 ?_
      refine lv_iload_n hx hb dX4_hum_37 rfl (lv_at hl 2 rfl) ?_
      refine lv_iload_n hx hb dX4_hum_38 rfl (lv_at hl 3 rfl) ?_
      obtain ⟨h7, hw⟩ := ixc_use hw
      refine va_iast hx hb hK hP (wmD hD0) hS 2 0 rfl rfl h7 dX4_hum_39 (fun H locs hP hD_ hS => ?_)
      obtain ⟨X8, eX8⟩ : ∃ y : MS, y = (ups X.1 2 (Int32.toNatClampNeg p1) p2, X.2) := ⟨_, rfl⟩
      have hw := stp_use hw eX8
      have hP : va_P (dC, dI) classes (wm a cA X8) H := by rw [eX8]; exact hP
      refine lv_iload_n hx hb dX4_hum_40 rfl (lv_at hl 0 rfl) ?_
      exact hret _ _ _ _ _ _ (Option.some.inj hw) hP hS dX4_hum_41
    · have hw := ite_t hw c4
      refine lv_bipush (v := (-102)) hx hb dX4_hum_23 (by decide) ?_
      exact hret _ _ _ _ _ _ (Option.some.inj hw) hP hS dX4_hum_25
  · have hw := ite_t hw c2
    refine lv_bipush (v := (-101)) hx hb dX4_hum_8 (by decide) ?_
    exact hret _ _ _ _ _ _ (Option.some.inj hw) hP hS dX4_hum_10
set_option maxHeartbeats 4000000 in
set_option maxRecDepth 100000 in
theorem c_X3_isKind (l : Launch) (p0 : Int32) (out : Int32) (hw : f_X3_isKind p0 = some out) : Met l yX3_isKind (.code yX3_isKind cX3_isKind 1 (some .boolean) :: lw_g) ({ frames := 0, cells := 0, slots := 0, locals := 0 }) (Pc0 [.int p0]) (vp_Si (fun r_ => r_ = out)) 0 0 (fun _ => False) := by
  unfold f_X3_isKind at hw
  refine Met.ofW (cc := cX3_isKind) (maxL := 1) (ret := (some .boolean)) (by decide) rfl ?_
  intro p e s m args below meth c s₁ B hml hv
  obtain ⟨rfl, -⟩ := hv
  have hx := B.exec
  have hb := B.bytes
  have hr := B.returns
  have hts0 := atoms_spec (ws := (.code yX3_isKind cX3_isKind 1 (some .boolean) :: lw_g)) B.pre
  have hts : ∀ w ∈ lw_g, w.before (([.int p0] : List Value).toArray) s = true := fun w h => hts0 w (List.mem_cons_of_mem _ h)
  clear hts0
  have hown : s.vm.findClass RX3 = some m.cls := findClass_of_methodNamed B.named
  have hlocks := B.notSynchronized
  have hret : ∀ (pc : Nat) (ls : Array Slot) (v : Int32), v = out → (hz : narrow .boolean (.int v) = .int v) → decode cX3_isKind pc = .ok (.ireturn, 1) → W p l e ({ frames := 0, cells := 0, slots := 0, locals := 0 }) s m (([.int p0] : List Value).toArray) below meth c s.heap [] 0 0 (MQ below (vp_Si (fun r_ => r_ = out)) (([.int p0] : List Value).toArray) s 0 0 (fun _ => False)) (F0 m pc ls [.int v]) := fun pc ls v hv hz hd => W.zret hx hb hr hz (fun t ht hW => ⟨v, rfl, hv, ht⟩) (fun q hq => absurd hq List.not_mem_nil) hd
  show W p l e ({ frames := 0, cells := 0, slots := 0, locals := 0 }) s m (([.int p0] : List Value).toArray) below meth c s.heap [] 0 0 (MQ below (vp_Si (fun r_ => r_ = out)) (([.int p0] : List Value).toArray) s 0 0 (fun _ => False)) (entryFrame m (([.int p0] : List Value).toArray) 1)
  generalize MQ below (vp_Si (fun r_ => r_ = out)) (([.int p0] : List Value).toArray) s 0 0 (fun _ => False) = Q at hret ⊢
  have hl := lv_entry ([.int p0]) (n := 1) (Nat.le_of_ble_eq_true rfl)
  rw [lg_entry_eq]
  generalize (lg_sl ([.int p0]) ++ List.replicate (1 - (lg_sl ([.int p0])).length) Slot.unset).toArray = ls at hl ⊢
  have hl : lv_has ls 1 [(0, .int p0)] := hl
  refine lv_iload_n hx hb dX3_isKind_0 rfl (lv_at hl 0 rfl) ?_
  refine lv_if_lt (tgt := 13) hx hb dX3_isKind_1 (by decide) (fun c1 => ?_) (fun c1 => ?_)
  · have hw := ite_t hw c1
    refine lv_iconst (v := 0) hx hb dX3_isKind_13 (by decide) ?_
    exact hret _ _ _ (Option.some.inj hw) rfl dX3_isKind_14
  · have hw := ite_f hw c1
    refine lv_iload_n hx hb dX3_isKind_4 rfl (lv_at hl 0 rfl) ?_
    refine lv_iconst (v := 4) hx hb dX3_isKind_5 (by decide) ?_
    refine lv_icmp_gt (tgt := 13) hx hb dX3_isKind_6 (by decide) (fun c2 => ?_) (fun c2 => ?_)
    · have hw := ite_t hw c2
      refine lv_iconst (v := 0) hx hb dX3_isKind_13 (by decide) ?_
      exact hret _ _ _ (Option.some.inj hw) rfl dX3_isKind_14
    · have hw := ite_f hw c2
      refine lv_iconst (v := 1) hx hb dX3_isKind_9 (by decide) ?_
      refine lv_goto (tgt := 14) hx hb dX3_isKind_10 (by decide) ?_
      exact hret _ _ _ (Option.some.inj hw) rfl dX3_isKind_14
set_option maxHeartbeats 4000000 in
set_option maxRecDepth 100000 in
theorem c_X2_loudNeeded (l : Launch) (p0 : Int32) (out : Int32) (hw : f_X2_loudNeeded p0 = some out) : Met l yX2_loudNeeded (.code yX2_loudNeeded cX2_loudNeeded 1 (some .int) :: lw_g) ({ frames := 0, cells := 0, slots := 0, locals := 0 }) (Pc0 [.int p0]) (vp_Si (fun r_ => r_ = out)) 0 0 (fun _ => False) := by
  unfold f_X2_loudNeeded at hw
  refine Met.ofW (cc := cX2_loudNeeded) (maxL := 1) (ret := (some .int)) (by decide) rfl ?_
  intro p e s m args below meth c s₁ B hml hv
  obtain ⟨rfl, -⟩ := hv
  have hx := B.exec
  have hb := B.bytes
  have hr := B.returns
  have hts0 := atoms_spec (ws := (.code yX2_loudNeeded cX2_loudNeeded 1 (some .int) :: lw_g)) B.pre
  have hts : ∀ w ∈ lw_g, w.before (([.int p0] : List Value).toArray) s = true := fun w h => hts0 w (List.mem_cons_of_mem _ h)
  clear hts0
  have hown : s.vm.findClass RX2 = some m.cls := findClass_of_methodNamed B.named
  have hlocks := B.notSynchronized
  have hret : ∀ (pc : Nat) (ls : Array Slot) (v : Int32), v = out → decode cX2_loudNeeded pc = .ok (.ireturn, 1) → W p l e ({ frames := 0, cells := 0, slots := 0, locals := 0 }) s m (([.int p0] : List Value).toArray) below meth c s.heap [] 0 0 (MQ below (vp_Si (fun r_ => r_ = out)) (([.int p0] : List Value).toArray) s 0 0 (fun _ => False)) (F0 m pc ls [.int v]) := fun pc ls v hv hd => W.iret hx hb hr (fun t ht hW => ⟨v, rfl, hv, ht⟩) (fun q hq => absurd hq List.not_mem_nil) hd
  show W p l e ({ frames := 0, cells := 0, slots := 0, locals := 0 }) s m (([.int p0] : List Value).toArray) below meth c s.heap [] 0 0 (MQ below (vp_Si (fun r_ => r_ = out)) (([.int p0] : List Value).toArray) s 0 0 (fun _ => False)) (entryFrame m (([.int p0] : List Value).toArray) 1)
  generalize MQ below (vp_Si (fun r_ => r_ = out)) (([.int p0] : List Value).toArray) s 0 0 (fun _ => False) = Q at hret ⊢
  have hl := lv_entry ([.int p0]) (n := 1) (Nat.le_of_ble_eq_true rfl)
  rw [lg_entry_eq]
  generalize (lg_sl ([.int p0]) ++ List.replicate (1 - (lg_sl ([.int p0])).length) Slot.unset).toArray = ls at hl ⊢
  have hl : lv_has ls 1 [(0, .int p0)] := hl
  refine lv_iload_n hx hb dX2_loudNeeded_0 rfl (lv_at hl 0 rfl) ?_
  by_cases c1 : p0 = 1
  · have hw := ite_t hw c1
    refine lv_lookup (off := 27) (tgt := 28) hx hb dX2_loudNeeded_1 (by decide) (by rw [c1]; decide) (by decide) ?_
    refine lv_iconst (v := 5) hx hb dX2_loudNeeded_28 (by decide) ?_
    exact hret _ _ _ (Option.some.inj hw) dX2_loudNeeded_29
  have hw := ite_f hw c1
  by_cases c2 : p0 = 2
  · have hw := ite_t hw c2
    refine lv_lookup (off := 29) (tgt := 30) hx hb dX2_loudNeeded_1 (by decide) (by rw [c2]; decide) (by decide) ?_
    refine lv_iconst (v := 3) hx hb dX2_loudNeeded_30 (by decide) ?_
    exact hret _ _ _ (Option.some.inj hw) dX2_loudNeeded_31
  have hw := ite_f hw c2
  refine lv_lookup (off := 31) (tgt := 32) hx hb dX2_loudNeeded_1 (by decide) (by simp [Op.lookupswitch.offset, (i32_ne c1 (z := 1) (by decide)).symm, (i32_ne c2 (z := 2) (by decide)).symm]) (by decide) ?_
  refine lv_iconst (v := 1) hx hb dX2_loudNeeded_32 (by decide) ?_
  exact hret _ _ _ (Option.some.inj hw) dX2_loudNeeded_33
set_option maxHeartbeats 4000000 in
set_option maxRecDepth 100000 in
theorem c_X2_loudRepeated (l : Launch) (p0 : Int32) (out : Int32) (hw : f_X2_loudRepeated p0 = some out) : Met l yX2_loudRepeated (.code yX2_loudRepeated cX2_loudRepeated 1 (some .int) :: lw_g) ({ frames := 0, cells := 0, slots := 0, locals := 0 }) (Pc0 [.int p0]) (vp_Si (fun r_ => r_ = out)) 0 0 (fun _ => False) := by
  unfold f_X2_loudRepeated at hw
  refine Met.ofW (cc := cX2_loudRepeated) (maxL := 1) (ret := (some .int)) (by decide) rfl ?_
  intro p e s m args below meth c s₁ B hml hv
  obtain ⟨rfl, -⟩ := hv
  have hx := B.exec
  have hb := B.bytes
  have hr := B.returns
  have hts0 := atoms_spec (ws := (.code yX2_loudRepeated cX2_loudRepeated 1 (some .int) :: lw_g)) B.pre
  have hts : ∀ w ∈ lw_g, w.before (([.int p0] : List Value).toArray) s = true := fun w h => hts0 w (List.mem_cons_of_mem _ h)
  clear hts0
  have hown : s.vm.findClass RX2 = some m.cls := findClass_of_methodNamed B.named
  have hlocks := B.notSynchronized
  have hret : ∀ (pc : Nat) (ls : Array Slot) (v : Int32), v = out → decode cX2_loudRepeated pc = .ok (.ireturn, 1) → W p l e ({ frames := 0, cells := 0, slots := 0, locals := 0 }) s m (([.int p0] : List Value).toArray) below meth c s.heap [] 0 0 (MQ below (vp_Si (fun r_ => r_ = out)) (([.int p0] : List Value).toArray) s 0 0 (fun _ => False)) (F0 m pc ls [.int v]) := fun pc ls v hv hd => W.iret hx hb hr (fun t ht hW => ⟨v, rfl, hv, ht⟩) (fun q hq => absurd hq List.not_mem_nil) hd
  show W p l e ({ frames := 0, cells := 0, slots := 0, locals := 0 }) s m (([.int p0] : List Value).toArray) below meth c s.heap [] 0 0 (MQ below (vp_Si (fun r_ => r_ = out)) (([.int p0] : List Value).toArray) s 0 0 (fun _ => False)) (entryFrame m (([.int p0] : List Value).toArray) 1)
  generalize MQ below (vp_Si (fun r_ => r_ = out)) (([.int p0] : List Value).toArray) s 0 0 (fun _ => False) = Q at hret ⊢
  have hl := lv_entry ([.int p0]) (n := 1) (Nat.le_of_ble_eq_true rfl)
  rw [lg_entry_eq]
  generalize (lg_sl ([.int p0]) ++ List.replicate (1 - (lg_sl ([.int p0])).length) Slot.unset).toArray = ls at hl ⊢
  have hl : lv_has ls 1 [(0, .int p0)] := hl
  refine lv_iload_n hx hb dX2_loudRepeated_0 rfl (lv_at hl 0 rfl) ?_
  by_cases c1 : p0 = 3
  · have hw := ite_t hw c1
    refine lv_lookup (off := 27) (tgt := 28) hx hb dX2_loudRepeated_1 (by decide) (by rw [c1]; decide) (by decide) ?_
    refine lv_iconst (v := 4) hx hb dX2_loudRepeated_28 (by decide) ?_
    exact hret _ _ _ (Option.some.inj hw) dX2_loudRepeated_29
  have hw := ite_f hw c1
  by_cases c2 : p0 = 4
  · have hw := ite_t hw c2
    refine lv_lookup (off := 29) (tgt := 30) hx hb dX2_loudRepeated_1 (by decide) (by rw [c2]; decide) (by decide) ?_
    refine lv_bipush (v := 7) hx hb dX2_loudRepeated_30 (by decide) ?_
    exact hret _ _ _ (Option.some.inj hw) dX2_loudRepeated_32
  have hw := ite_f hw c2
  refine lv_lookup (off := 32) (tgt := 33) hx hb dX2_loudRepeated_1 (by decide) (by simp [Op.lookupswitch.offset, (i32_ne c1 (z := 3) (by decide)).symm, (i32_ne c2 (z := 4) (by decide)).symm]) (by decide) ?_
  refine lv_iconst (v := 0) hx hb dX2_loudRepeated_33 (by decide) ?_
  exact hret _ _ _ (Option.some.inj hw) dX2_loudRepeated_34
set_option maxHeartbeats 4000000 in
set_option maxRecDepth 100000 in
theorem c_X2_settle (l : Launch) (dC : Nat → ClassId) (dI : Nat → Nat → Nat) (A : Nat → Prop) (a : Nat → Nat) (cA : ClassId) (X : WS) (p1 : Int32) (p2 : Int32) (out : (Int32 × WS)) (hw : f_X2_settle X p1 p2 = some out) : Met l yX2_settle (.code yX2_settle cX2_settle 4 (some .int) :: lw_g) ({ frames := 1, cells := 0, slots := 0, locals := 20 }) (PcXD dC dI A a cA X [.ref (a 3), .int p1, .int p2]) (va_Qi (fun (r_ : Int32) (X_ : WS) => out = (r_, X_)) (fun X_ t => va_P (dC, dI) classes (wl a cA X_) t.heap ∧ va_K (dC, dI) classes [(cA, .int)] t) A) 0 0 (A) := by
  unfold f_X2_settle at hw
  refine Met.ofW (cc := cX2_settle) (maxL := 4) (ret := (some .int)) (by decide) rfl ?_
  intro p e s m args below meth c s₁ B hml hv
  obtain ⟨rfl, hP, hK, hN, hD0⟩ := hv
  have hx := B.exec
  have hb := B.bytes
  have hr := B.returns
  have hts0 := atoms_spec (ws := (.code yX2_settle cX2_settle 4 (some .int) :: lw_g)) B.pre
  have hts : ∀ w ∈ lw_g, w.before (([.ref (a 3), .int p1, .int p2] : List Value).toArray) s = true := fun w h => hts0 w (List.mem_cons_of_mem _ h)
  clear hts0
  have hown : s.vm.findClass RX2 = some m.cls := findClass_of_methodNamed B.named
  have hlocks := B.notSynchronized
  have hret : ∀ (pc : Nat) (ls : Array Slot) (v : Int32) (X_ : WS) (H : Heap) (locs : List Loc), (v, X_) = out → va_P (dC, dI) classes (wl a cA X_) H → va_S A s.heap H locs → decode cX2_settle pc = .ok (.ireturn, 1) → W p l e ({ frames := 1, cells := 0, slots := 0, locals := 20 }) s m (([.ref (a 3), .int p1, .int p2] : List Value).toArray) below meth c H locs 0 0 (MQ below (va_Qi (fun (r_ : Int32) (X_ : WS) => out = (r_, X_)) (fun X_ t => va_P (dC, dI) classes (wl a cA X_) t.heap ∧ va_K (dC, dI) classes [(cA, .int)] t) A) (([.ref (a 3), .int p1, .int p2] : List Value).toArray) s 0 0 (A)) (F0 m pc ls [.int v]) := fun pc ls v X_ H locs hv hP hS hd => W.iret hx hb hr (fun t ht hW => ⟨⟨v, X_, rfl, hv.symm, by rw [ht]; exact hP, va_K.moved hW.alike hK⟩, hS.F ht⟩) hS.2.2 hd
  show W p l e ({ frames := 1, cells := 0, slots := 0, locals := 20 }) s m (([.ref (a 3), .int p1, .int p2] : List Value).toArray) below meth c s.heap [] 0 0 (MQ below (va_Qi (fun (r_ : Int32) (X_ : WS) => out = (r_, X_)) (fun X_ t => va_P (dC, dI) classes (wl a cA X_) t.heap ∧ va_K (dC, dI) classes [(cA, .int)] t) A) (([.ref (a 3), .int p1, .int p2] : List Value).toArray) s 0 0 (A)) (entryFrame m (([.ref (a 3), .int p1, .int p2] : List Value).toArray) 4)
  generalize MQ below (va_Qi (fun (r_ : Int32) (X_ : WS) => out = (r_, X_)) (fun X_ t => va_P (dC, dI) classes (wl a cA X_) t.heap ∧ va_K (dC, dI) classes [(cA, .int)] t) A) (([.ref (a 3), .int p1, .int p2] : List Value).toArray) s 0 0 (A) = Q at hret ⊢
  have hS : va_S A s.heap s.heap [] := va_S.rf
  have hl := lv_entry ([.ref (a 3), .int p1, .int p2]) (n := 4) (Nat.le_of_ble_eq_true rfl)
  rw [lg_entry_eq]
  generalize (lg_sl ([.ref (a 3), .int p1, .int p2]) ++ List.replicate (4 - (lg_sl ([.ref (a 3), .int p1, .int p2])).length) Slot.unset).toArray = ls at hl ⊢
  have hl : lv_has ls 4 [(0, .ref (a 3)), (1, .int p1), (2, .int p2)] := hl
  refine lv_aload_n hx hb dX2_settle_0 rfl (lv_at hl 0 rfl) ?_
  refine va_get (D := (dC, dI)) (ci := 2) (v := .int (X 3 5)) (C := RX2) (T := TX2) (N := 17) hx hb hts iX2 hown hK hP 3 rfl rfl 5 (by decide) (hts _ wd_83) (fun _ h9 => h9) rfl dX2_settle_1 ?_
  refine lv_topi (fun x1 ex1 => ?_)
  have hw := stp_use hw ex1
  refine lv_istore_n (lv' := [(3, .int x1), (0, .ref (a 3)), (1, .int p1), (2, .int p2)]) hx hb dX2_settle_4 rfl hl (by decide) rfl (fun ls hl => ?_)
  refine lv_iload_n hx hb dX2_settle_5 rfl (lv_at hl 0 rfl) ?_
  refine lv_bipush (v := 6) hx hb dX2_settle_6 (by decide) ?_
  refine lv_icmp_lt (tgt := 14) hx hb dX2_settle_8 (by decide) (fun c2 => ?_) (fun c2 => ?_)
  · have hw := ite_t hw c2
    refine lv_aload_n hx hb dX2_settle_14 rfl (lv_at hl 1 rfl) ?_
    refine va_get (D := (dC, dI)) (ci := 2) (v := .ref (a 5)) (C := RX2) (T := TX2) (N := 17) hx hb hts iX2 hown hK hP 3 rfl rfl 1 (by decide) (hts _ wd_75) (fun _ h9 => h9) rfl dX2_settle_15 ?_
    refine lv_iload_n hx hb dX2_settle_18 rfl (lv_at hl 0 rfl) ?_
    refine lv_iload_n hx hb dX2_settle_19 rfl (lv_at hl 2 rfl) ?_
    obtain ⟨h3, hw⟩ := ixc_use hw
    refine va_iast hx hb hK hP (wlD hD0) hS 5 0 rfl rfl h3 dX2_settle_20 (fun H locs hP hD_ hS => ?_)
    obtain ⟨X4, eX4⟩ : ∃ y : WS, y = (ups X 5 (Int32.toNatClampNeg x1) p1) := ⟨_, rfl⟩
    have hw := stp_use hw eX4
    have hP : va_P (dC, dI) classes (wl a cA X4) H := by rw [eX4]; exact hP
    refine lv_aload_n hx hb dX2_settle_21 rfl (lv_at hl 1 rfl) ?_
    refine va_get (D := (dC, dI)) (ci := 2) (v := .ref (a 6)) (C := RX2) (T := TX2) (N := 17) hx hb hts iX2 hown hK hP 3 rfl rfl 2 (by decide) (hts _ wd_77) (fun _ h9 => h9) rfl dX2_settle_22 ?_
    refine lv_iload_n hx hb dX2_settle_25 rfl (lv_at hl 0 rfl) ?_
    refine lv_iload_n hx hb dX2_settle_26 rfl (lv_at hl 2 rfl) ?_
    obtain ⟨r5, er5, hw⟩ := Option.bind_eq_some_iff.mp hw
    refine vp_callSi (va_runS (As := [.int p1]) (rest := [.int x1, .ref (a 6)]) ⟨hx, hb, hml, hown, hts⟩ (c_X2_loudNeeded l p1 r5 er5) ⟨callB_of 1 hts gd_X2_loudNeeded rfl rfl rfl (hts _ wd_37) (hts _ wd_276) hd_X2_loudNeeded ⟨Nat.le_of_ble_eq_true rfl, Nat.le_of_ble_eq_true rfl⟩, hts _ wd_277⟩ ⟨bl0, fun U hU hW => ⟨rfl, trivial⟩⟩ rfl rfl hl.1 rfl (lv_room (Nat.le_of_ble_eq_true rfl)) dX2_settle_27 ⟨Nat.zero_le _, Nat.zero_le _⟩).run (fun r_ e_ => ?_)
    subst r_
    obtain ⟨h6, hw⟩ := ixc_use hw
    refine va_iast hx hb hK hP (wlD hD0) hS 6 0 rfl rfl h6 dX2_settle_30 (fun H locs hP hD_ hS => ?_)
    obtain ⟨X7, eX7⟩ : ∃ y : WS, y = (ups X4 6 (Int32.toNatClampNeg x1) r5) := ⟨_, rfl⟩
    have hw := stp_use hw eX7
    have hP : va_P (dC, dI) classes (wl a cA X7) H := by rw [eX7]; exact hP
    refine lv_aload_n hx hb dX2_settle_31 rfl (lv_at hl 1 rfl) ?_
    refine va_get (D := (dC, dI)) (ci := 2) (v := .ref (a 7)) (C := RX2) (T := TX2) (N := 17) hx hb hts iX2 hown hK hP 3 rfl rfl 3 (by decide) (hts _ wd_79) (fun _ h9 => h9) rfl dX2_settle_32 ?_
    refine lv_iload_n hx hb dX2_settle_35 rfl (lv_at hl 0 rfl) ?_
    refine lv_iload_n hx hb dX2_settle_36 rfl (lv_at hl 2 rfl) ?_
    obtain ⟨r8, er8, hw⟩ := Option.bind_eq_some_iff.mp hw
    refine vp_callSi (va_runS (As := [.int p1]) (rest := [.int x1, .ref (a 7)]) ⟨hx, hb, hml, hown, hts⟩ (c_X2_loudRepeated l p1 r8 er8) ⟨callB_of 1 hts gd_X2_loudRepeated rfl rfl rfl (hts _ wd_37) (hts _ wd_279) hd_X2_loudRepeated ⟨Nat.le_of_ble_eq_true rfl, Nat.le_of_ble_eq_true rfl⟩, hts _ wd_280⟩ ⟨bl0, fun U hU hW => ⟨rfl, trivial⟩⟩ rfl rfl hl.1 rfl (lv_room (Nat.le_of_ble_eq_true rfl)) dX2_settle_37 ⟨Nat.zero_le _, Nat.zero_le _⟩).run (fun r_ e_ => ?_)
    subst r_
    obtain ⟨h9, hw⟩ := ixc_use hw
    refine va_iast hx hb hK hP (wlD hD0) hS 7 0 rfl rfl h9 dX2_settle_40 (fun H locs hP hD_ hS => ?_)
    obtain ⟨X10, eX10⟩ : ∃ y : WS, y = (ups X7 7 (Int32.toNatClampNeg x1) r8) := ⟨_, rfl⟩
    have hw := stp_use hw eX10
    have hP : va_P (dC, dI) classes (wl a cA X10) H := by rw [eX10]; exact hP
    refine lv_aload_n hx hb dX2_settle_41 rfl (lv_at hl 1 rfl) ?_
    refine va_get (D := (dC, dI)) (ci := 2) (v := .ref (a 8)) (C := RX2) (T := TX2) (N := 17) hx hb hts iX2 hown hK hP 3 rfl rfl 4 (by decide) (hts _ wd_81) (fun _ h9 => h9) rfl dX2_settle_42 ?_
    refine lv_iload_n hx hb dX2_settle_45 rfl (lv_at hl 0 rfl) ?_
    refine lv_iload_n hx hb dX2_settle_46 rfl (lv_at hl 3 rfl) ?_
    obtain ⟨h11, hw⟩ := ixc_use hw
    refine va_iast hx hb hK hP (wlD hD0) hS 8 0 rfl rfl h11 dX2_settle_47 (fun H locs hP hD_ hS => ?_)
    obtain ⟨X12, eX12⟩ : ∃ y : WS, y = (ups X10 8 (Int32.toNatClampNeg x1) p2) := ⟨_, rfl⟩
    have hw := stp_use hw eX12
    have hP : va_P (dC, dI) classes (wl a cA X12) H := by rw [eX12]; exact hP
    refine lv_iload_n hx hb dX2_settle_48 rfl (lv_at hl 2 rfl) ?_
    refine lv_iconst (v := 2) hx hb dX2_settle_49 (by decide) ?_
    refine lv_icmp_ne (tgt := 65) hx hb dX2_settle_50 (by decide) (fun c13 => ?_) (fun c13 => ?_)
    · have hw := ite_f hw c13
      refine lv_aload_n hx hb dX2_settle_65 rfl (lv_at hl 1 rfl) ?_
      refine lv_dup hx hb dX2_settle_66 rfl ?_
      refine va_get (D := (dC, dI)) (ci := 2) (v := .int (X12 3 5)) (C := RX2) (T := TX2) (N := 17) hx hb hts iX2 hown hK hP 3 rfl rfl 5 (by decide) (hts _ wd_83) (fun _ h9 => h9) rfl dX2_settle_67 ?_
      refine lv_iconst (v := 1) hx hb dX2_settle_70 (by decide) ?_
      refine lv_iadd hx hb dX2_settle_71 ?_
      refine lv_topi (fun x14 ex14 => ?_)
      have hw := stp_use hw ex14
      refine va_put (D := (dC, dI)) (ci := 2) (v := .int x14) (ty := .int) (C := RX2) (T := TX2) (N := 17) hx hb hts iX2 tyX2 tyX2_ok nmX2 hown hK hP (wlD hD0) hS 3 rfl rfl 5 (by decide) (hts _ wd_83) (fun _ h9 => h9) rfl (by decide +kernel) rfl rfl (Nat.le_of_ble_eq_true rfl) dX2_settle_72 (fun H locs hP hD_ hS => ?_)
      obtain ⟨X15, eX15⟩ : ∃ y : WS, y = (ups X12 3 5 x14) := ⟨_, rfl⟩
      have hw := stp_use hw eX15
      have hP : va_P (dC, dI) classes (wl a cA X15) H := by rw [eX15]; exact hP
      refine lv_iload_n hx hb dX2_settle_75 rfl (lv_at hl 0 rfl) ?_
      exact hret _ _ _ _ _ _ (Option.some.inj hw) hP hS dX2_settle_76
    · have hw := ite_t hw c13
      refine lv_aload_n hx hb dX2_settle_53 rfl (lv_at hl 1 rfl) ?_
      refine lv_dup hx hb dX2_settle_54 rfl ?_
      refine va_get (D := (dC, dI)) (ci := 2) (v := .int (X12 3 6)) (C := RX2) (T := TX2) (N := 17) hx hb hts iX2 hown hK hP 3 rfl rfl 6 (by decide) (hts _ wd_85) (fun _ h9 => h9) rfl dX2_settle_55 ?_
      refine lv_iconst (v := 1) hx hb dX2_settle_58 (by decide) ?_
      refine lv_iload_n hx hb dX2_settle_59 rfl (lv_at hl 0 rfl) ?_
      refine lv_ishl hx hb dX2_settle_60 ?_
      refine lv_ior hx hb dX2_settle_61 ?_
      refine lv_topi (fun x16 ex16 => ?_)
      have hw := stp_use hw ex16
      refine va_put (D := (dC, dI)) (ci := 2) (v := .int x16) (ty := .int) (C := RX2) (T := TX2) (N := 17) hx hb hts iX2 tyX2 tyX2_ok nmX2 hown hK hP (wlD hD0) hS 3 rfl rfl 6 (by decide) (hts _ wd_85) (fun _ h9 => h9) rfl (by decide +kernel) rfl rfl (Nat.le_of_ble_eq_true rfl) dX2_settle_62 (fun H locs hP hD_ hS => ?_)
      obtain ⟨X17, eX17⟩ : ∃ y : WS, y = (ups X12 3 6 x16) := ⟨_, rfl⟩
      have hw := stp_use hw eX17
      have hP : va_P (dC, dI) classes (wl a cA X17) H := by rw [eX17]; exact hP
      refine lv_aload_n hx hb dX2_settle_65 rfl (lv_at hl 1 rfl) ?_
      refine lv_dup hx hb dX2_settle_66 rfl ?_
      refine va_get (D := (dC, dI)) (ci := 2) (v := .int (X17 3 5)) (C := RX2) (T := TX2) (N := 17) hx hb hts iX2 hown hK hP 3 rfl rfl 5 (by decide) (hts _ wd_83) (fun _ h9 => h9) rfl dX2_settle_67 ?_
      refine lv_iconst (v := 1) hx hb dX2_settle_70 (by decide) ?_
      refine lv_iadd hx hb dX2_settle_71 ?_
      refine lv_topi (fun x18 ex18 => ?_)
      have hw := stp_use hw ex18
      refine va_put (D := (dC, dI)) (ci := 2) (v := .int x18) (ty := .int) (C := RX2) (T := TX2) (N := 17) hx hb hts iX2 tyX2 tyX2_ok nmX2 hown hK hP (wlD hD0) hS 3 rfl rfl 5 (by decide) (hts _ wd_83) (fun _ h9 => h9) rfl (by decide +kernel) rfl rfl (Nat.le_of_ble_eq_true rfl) dX2_settle_72 (fun H locs hP hD_ hS => ?_)
      obtain ⟨X19, eX19⟩ : ∃ y : WS, y = (ups X17 3 5 x18) := ⟨_, rfl⟩
      have hw := stp_use hw eX19
      have hP : va_P (dC, dI) classes (wl a cA X19) H := by rw [eX19]; exact hP
      refine lv_iload_n hx hb dX2_settle_75 rfl (lv_at hl 0 rfl) ?_
      exact hret _ _ _ _ _ _ (Option.some.inj hw) hP hS dX2_settle_76
  · have hw := ite_f hw c2
    refine lv_bipush (v := (-104)) hx hb dX2_settle_11 (by decide) ?_
    exact hret _ _ _ _ _ _ (Option.some.inj hw) hP hS dX2_settle_13
set_option maxHeartbeats 4000000 in
set_option maxRecDepth 100000 in
theorem c_X3_listener (l : Launch) (dC : Nat → ClassId) (dI : Nat → Nat → Nat) (A : Nat → Prop) (a : Nat → Nat) (cA : ClassId) (X : WS) (p1 : Int32) (p2 : Int32) (out : (Int32 × WS)) (hw : f_X3_listener X p1 p2 = some out) : Met l yX3_listener (.code yX3_listener cX3_listener 3 (some .int) :: lw_g) ({ frames := 2, cells := 0, slots := 0, locals := 43 }) (PcXD dC dI A a cA X [.ref (a 0), .int p1, .int p2]) (va_Qi (fun (r_ : Int32) (X_ : WS) => out = (r_, X_)) (fun X_ t => va_P (dC, dI) classes (wl a cA X_) t.heap ∧ va_K (dC, dI) classes [(cA, .int)] t) A) 0 0 (A) := by
  unfold f_X3_listener at hw
  refine Met.ofW (cc := cX3_listener) (maxL := 3) (ret := (some .int)) (by decide) rfl ?_
  intro p e s m args below meth c s₁ B hml hv
  obtain ⟨rfl, hP, hK, hN, hD0⟩ := hv
  have hx := B.exec
  have hb := B.bytes
  have hr := B.returns
  have hts0 := atoms_spec (ws := (.code yX3_listener cX3_listener 3 (some .int) :: lw_g)) B.pre
  have hts : ∀ w ∈ lw_g, w.before (([.ref (a 0), .int p1, .int p2] : List Value).toArray) s = true := fun w h => hts0 w (List.mem_cons_of_mem _ h)
  clear hts0
  have hown : s.vm.findClass RX3 = some m.cls := findClass_of_methodNamed B.named
  have hlocks := B.notSynchronized
  have hret : ∀ (pc : Nat) (ls : Array Slot) (v : Int32) (X_ : WS) (H : Heap) (locs : List Loc), (v, X_) = out → va_P (dC, dI) classes (wl a cA X_) H → va_S A s.heap H locs → decode cX3_listener pc = .ok (.ireturn, 1) → W p l e ({ frames := 2, cells := 0, slots := 0, locals := 43 }) s m (([.ref (a 0), .int p1, .int p2] : List Value).toArray) below meth c H locs 0 0 (MQ below (va_Qi (fun (r_ : Int32) (X_ : WS) => out = (r_, X_)) (fun X_ t => va_P (dC, dI) classes (wl a cA X_) t.heap ∧ va_K (dC, dI) classes [(cA, .int)] t) A) (([.ref (a 0), .int p1, .int p2] : List Value).toArray) s 0 0 (A)) (F0 m pc ls [.int v]) := fun pc ls v X_ H locs hv hP hS hd => W.iret hx hb hr (fun t ht hW => ⟨⟨v, X_, rfl, hv.symm, by rw [ht]; exact hP, va_K.moved hW.alike hK⟩, hS.F ht⟩) hS.2.2 hd
  show W p l e ({ frames := 2, cells := 0, slots := 0, locals := 43 }) s m (([.ref (a 0), .int p1, .int p2] : List Value).toArray) below meth c s.heap [] 0 0 (MQ below (va_Qi (fun (r_ : Int32) (X_ : WS) => out = (r_, X_)) (fun X_ t => va_P (dC, dI) classes (wl a cA X_) t.heap ∧ va_K (dC, dI) classes [(cA, .int)] t) A) (([.ref (a 0), .int p1, .int p2] : List Value).toArray) s 0 0 (A)) (entryFrame m (([.ref (a 0), .int p1, .int p2] : List Value).toArray) 3)
  generalize MQ below (va_Qi (fun (r_ : Int32) (X_ : WS) => out = (r_, X_)) (fun X_ t => va_P (dC, dI) classes (wl a cA X_) t.heap ∧ va_K (dC, dI) classes [(cA, .int)] t) A) (([.ref (a 0), .int p1, .int p2] : List Value).toArray) s 0 0 (A) = Q at hret ⊢
  have hS : va_S A s.heap s.heap [] := va_S.rf
  have hl := lv_entry ([.ref (a 0), .int p1, .int p2]) (n := 3) (Nat.le_of_ble_eq_true rfl)
  rw [lg_entry_eq]
  generalize (lg_sl ([.ref (a 0), .int p1, .int p2]) ++ List.replicate (3 - (lg_sl ([.ref (a 0), .int p1, .int p2])).length) Slot.unset).toArray = ls at hl ⊢
  have hl : lv_has ls 3 [(0, .ref (a 0)), (1, .int p1), (2, .int p2)] := hl
  refine lv_iload_n hx hb dX3_listener_0 rfl (lv_at hl 1 rfl) ?_
  obtain ⟨r1, er1, hw⟩ := Option.bind_eq_some_iff.mp hw
  refine vp_callSi (va_runS (As := [.int p1]) (rest := []) ⟨hx, hb, hml, hown, hts⟩ (c_X3_isKind l p1 r1 er1) ⟨callB_of 1 hts gd_X3_isKind rfl rfl rfl (hts _ wd_35) (hts _ wd_269) hd_X3_isKind ⟨Nat.le_of_ble_eq_true rfl, Nat.le_of_ble_eq_true rfl⟩, hts _ wd_270⟩ ⟨bl0, fun U hU hW => ⟨rfl, trivial⟩⟩ rfl rfl hl.1 rfl (lv_room (Nat.le_of_ble_eq_true rfl)) dX3_listener_1 ⟨Nat.zero_le _, Nat.zero_le _⟩).run (fun r_ e_ => ?_)
  subst r_
  refine lv_if_ne (tgt := 10) hx hb dX3_listener_4 (by decide) (fun c2 => ?_) (fun c2 => ?_)
  · have hw := ite_f hw c2
    refine lv_aload_n hx hb dX3_listener_10 rfl (lv_at hl 0 rfl) ?_
    refine lv_iload_n hx hb dX3_listener_11 rfl (lv_at hl 2 rfl) ?_
    obtain ⟨r3, er3, hw⟩ := Option.bind_eq_some_iff.mp hw
    refine vp_callSi (va_runV (As := [.int p2]) (rest := []) ⟨hx, hb, hml, hown, hts⟩ (c_X3_isPlace l dC dI a cA X p2 r3 er3) ⟨callB_of 1 hts gd_X3_isPlace rfl rfl rfl (hts _ wd_35) (hts _ wd_253) hd_X3_isPlace ⟨Nat.le_of_ble_eq_true rfl, Nat.le_of_ble_eq_true rfl⟩, hts _ wd_255, hts _ wd_0⟩ ⟨blX, va_recv hK hP (ci := 3) (q0 := 0) rfl rfl, fun U hU hW => ⟨rfl, by rw [hU]; exact hP, va_K.moved hW.alike hK, nst.warm hW hN⟩⟩ rfl rfl hl.1 rfl (lv_room (Nat.le_of_ble_eq_true rfl)) dX3_listener_12 ⟨Nat.zero_le _, Nat.zero_le _⟩).run (fun r_ e_ => ?_)
    subst r_
    refine lv_if_ne (tgt := 21) hx hb dX3_listener_15 (by decide) (fun c4 => ?_) (fun c4 => ?_)
    · have hw := ite_f hw c4
      refine lv_aload_n hx hb dX3_listener_21 rfl (lv_at hl 0 rfl) ?_
      refine va_get (D := (dC, dI)) (ci := 3) (v := .ref (a 3)) (C := RX3) (T := TX3) (N := 6) hx hb hts iX3 hown hK hP 0 rfl rfl 1 (by decide) (hts _ wd_179) (fun _ h9 => h9) rfl dX3_listener_22 ?_
      refine lv_iload_n hx hb dX3_listener_25 rfl (lv_at hl 1 rfl) ?_
      refine lv_iload_n hx hb dX3_listener_26 rfl (lv_at hl 2 rfl) ?_
      obtain ⟨r5, X6, er5, hw⟩ := bnd2_use hw
      refine va_calli (va_runV (As := [.int p1, .int p2]) (rest := []) ⟨hx, hb, hml, hown, hts⟩ (c_X2_settle l dC dI A a cA X p1 p2 (r5, X6) er5) ⟨callB_of 2 hts gd_X2_settle rfl rfl rfl (hts _ wd_37) (hts _ wd_272) hd_X2_settle ⟨Nat.le_of_ble_eq_true rfl, Nat.le_of_ble_eq_true rfl⟩, hts _ wd_273, hts _ wd_274⟩ ⟨blXD, va_recv hK hP (ci := 2) (q0 := 3) rfl rfl, fun U hU hW => ⟨rfl, by rw [hU]; exact hP, va_K.moved hW.alike hK, nst.warm hW hN, wlD hD0⟩⟩ rfl rfl hl.1 rfl (lv_room (Nat.le_of_ble_eq_true rfl)) dX3_listener_27 ⟨Nat.zero_le _, Nat.zero_le _⟩) hS (fun _ _ h => h) (fun _ h => h) (fun r_ u_ t_ H1 locs1 ht hvm hp_ hB hz1 hk1 hS1 => ?_)
      obtain ⟨q1_, q2_⟩ := Prod.mk.inj hp_
      subst q1_
      subst q2_
      obtain ⟨hP1, hK1⟩ := hB
      rw [ht] at hP1
      have hP := hP1
      have hS := hS1
      exact hret _ _ _ _ _ _ (Option.some.inj hw) hP hS dX3_listener_30
    · have hw := ite_t hw c4
      refine lv_bipush (v := (-101)) hx hb dX3_listener_18 (by decide) ?_
      exact hret _ _ _ _ _ _ (Option.some.inj hw) hP hS dX3_listener_20
  · have hw := ite_t hw c2
    refine lv_bipush (v := (-102)) hx hb dX3_listener_7 (by decide) ?_
    exact hret _ _ _ _ _ _ (Option.some.inj hw) hP hS dX3_listener_9
set_option maxHeartbeats 4000000 in
set_option maxRecDepth 100000 in
theorem c_X4_listener (l : Launch) (dC : Nat → ClassId) (dI : Nat → Nat → Nat) (A : Nat → Prop) (a : Nat → Nat) (cA : ClassId) (X : MS) (p1 : Int32) (p2 : Int32) (out : (Int32 × MS)) (hw : f_X4_listener X p1 p2 = some out) : Met l yX4_listener (.code yX4_listener cX4_listener 3 (some .int) :: lw_g) ({ frames := 2, cells := 0, slots := 0, locals := 46 }) (PcMD dC dI A a cA X [.ref (a 0), .int p1, .int p2]) (va_Qi (fun (r_ : Int32) (X_ : MS) => out = (r_, X_)) (fun X_ t => va_P (dC, dI) classes (wm a cA X_) t.heap ∧ va_K (dC, dI) classes [(cA, .int)] t) A) 0 0 (A) := by
  unfold f_X4_listener at hw
  refine Met.ofW (cc := cX4_listener) (maxL := 3) (ret := (some .int)) (by decide) rfl ?_
  intro p e s m args below meth c s₁ B hml hv
  obtain ⟨rfl, hP, hK, hD0⟩ := hv
  have hx := B.exec
  have hb := B.bytes
  have hr := B.returns
  have hts0 := atoms_spec (ws := (.code yX4_listener cX4_listener 3 (some .int) :: lw_g)) B.pre
  have hts : ∀ w ∈ lw_g, w.before (([.ref (a 0), .int p1, .int p2] : List Value).toArray) s = true := fun w h => hts0 w (List.mem_cons_of_mem _ h)
  clear hts0
  have hown : s.vm.findClass RX4 = some m.cls := findClass_of_methodNamed B.named
  have hlocks := B.notSynchronized
  have hret : ∀ (pc : Nat) (ls : Array Slot) (v : Int32) (X_ : MS) (H : Heap) (locs : List Loc), (v, X_) = out → va_P (dC, dI) classes (wm a cA X_) H → va_S A s.heap H locs → decode cX4_listener pc = .ok (.ireturn, 1) → W p l e ({ frames := 2, cells := 0, slots := 0, locals := 46 }) s m (([.ref (a 0), .int p1, .int p2] : List Value).toArray) below meth c H locs 0 0 (MQ below (va_Qi (fun (r_ : Int32) (X_ : MS) => out = (r_, X_)) (fun X_ t => va_P (dC, dI) classes (wm a cA X_) t.heap ∧ va_K (dC, dI) classes [(cA, .int)] t) A) (([.ref (a 0), .int p1, .int p2] : List Value).toArray) s 0 0 (A)) (F0 m pc ls [.int v]) := fun pc ls v X_ H locs hv hP hS hd => W.iret hx hb hr (fun t ht hW => ⟨⟨v, X_, rfl, hv.symm, by rw [ht]; exact hP, va_K.moved hW.alike hK⟩, hS.F ht⟩) hS.2.2 hd
  show W p l e ({ frames := 2, cells := 0, slots := 0, locals := 46 }) s m (([.ref (a 0), .int p1, .int p2] : List Value).toArray) below meth c s.heap [] 0 0 (MQ below (va_Qi (fun (r_ : Int32) (X_ : MS) => out = (r_, X_)) (fun X_ t => va_P (dC, dI) classes (wm a cA X_) t.heap ∧ va_K (dC, dI) classes [(cA, .int)] t) A) (([.ref (a 0), .int p1, .int p2] : List Value).toArray) s 0 0 (A)) (entryFrame m (([.ref (a 0), .int p1, .int p2] : List Value).toArray) 3)
  generalize MQ below (va_Qi (fun (r_ : Int32) (X_ : MS) => out = (r_, X_)) (fun X_ t => va_P (dC, dI) classes (wm a cA X_) t.heap ∧ va_K (dC, dI) classes [(cA, .int)] t) A) (([.ref (a 0), .int p1, .int p2] : List Value).toArray) s 0 0 (A) = Q at hret ⊢
  have hS : va_S A s.heap s.heap [] := va_S.rf
  have hl := lv_entry ([.ref (a 0), .int p1, .int p2]) (n := 3) (Nat.le_of_ble_eq_true rfl)
  rw [lg_entry_eq]
  generalize (lg_sl ([.ref (a 0), .int p1, .int p2]) ++ List.replicate (3 - (lg_sl ([.ref (a 0), .int p1, .int p2])).length) Slot.unset).toArray = ls at hl ⊢
  have hl : lv_has ls 3 [(0, .ref (a 0)), (1, .int p1), (2, .int p2)] := hl
  refine lv_iload_n hx hb dX4_listener_0 rfl (lv_at hl 1 rfl) ?_
  refine lv_i2l hx hb dX4_listener_1 rfl ?_
  refine lv_lconst (v := 0) hx hb dX4_listener_2 (by decide) ?_
  refine lv_ldc2 hx hb hown (hts _ wd_659) dX4_listener_3 ?_
  obtain ⟨r1, er1, hw⟩ := Option.bind_eq_some_iff.mp hw
  refine vp_callSi (va_runS (As := [.long (Int32.toInt64 p1), .long 0, .long 4]) (rest := []) ⟨hx, hb, hml, hown, hts⟩ (c_X4_in l (Int32.toInt64 p1) 0 4 r1 er1) ⟨callB_of 3 hts gd_X4_in rfl rfl rfl (hts _ wd_39) (hts _ wd_615) hd_X4_in ⟨Nat.le_of_ble_eq_true rfl, Nat.le_of_ble_eq_true rfl⟩, hts _ wd_616⟩ ⟨bl0, fun U hU hW => ⟨rfl, trivial⟩⟩ rfl rfl hl.1 rfl (lv_room (Nat.le_of_ble_eq_true rfl)) dX4_listener_6 ⟨Nat.zero_le _, Nat.zero_le _⟩).run (fun r_ e_ => ?_)
  subst r_
  refine lv_if_ne (tgt := 15) hx hb dX4_listener_9 (by decide) (fun c2 => ?_) (fun c2 => ?_)
  · have hw := ite_f hw c2
    refine lv_aload_n hx hb dX4_listener_15 rfl (lv_at hl 0 rfl) ?_
    refine lv_iload_n hx hb dX4_listener_16 rfl (lv_at hl 2 rfl) ?_
    obtain ⟨r3, er3, hw⟩ := Option.bind_eq_some_iff.mp hw
    refine vp_callSi (va_runV (As := [.int p2]) (rest := []) ⟨hx, hb, hml, hown, hts⟩ (c_X4_isPlace l dC dI a cA X p2 r3 er3) ⟨callB_of 1 hts gd_X4_isPlace rfl rfl rfl (hts _ wd_39) (hts _ wd_643) hd_X4_isPlace ⟨Nat.le_of_ble_eq_true rfl, Nat.le_of_ble_eq_true rfl⟩, hts _ wd_645, hts _ wd_11⟩ ⟨blM, va_recv hK hP (ci := 4) (q0 := 0) rfl rfl, fun U hU hW => ⟨rfl, by rw [hU]; exact hP, va_K.moved hW.alike hK⟩⟩ rfl rfl hl.1 rfl (lv_room (Nat.le_of_ble_eq_true rfl)) dX4_listener_17 ⟨Nat.zero_le _, Nat.zero_le _⟩).run (fun r_ e_ => ?_)
    subst r_
    refine lv_if_ne (tgt := 26) hx hb dX4_listener_20 (by decide) (fun c4 => ?_) (fun c4 => ?_)
    · have hw := ite_f hw c4
      refine lv_aload_n hx hb dX4_listener_26 rfl (lv_at hl 0 rfl) ?_
      refine va_get (D := (dC, dI)) (ci := 4) (v := .int (X.1 0 11)) (C := RX4) (T := TX4) (N := 29) hx hb hts iX4 hown hK hP 0 rfl rfl 11 (by decide) (hts _ wd_533) (fun _ h9 => h9) rfl dX4_listener_27 ?_
      refine lv_bipush (v := 6) hx hb dX4_listener_30 (by decide) ?_
      refine lv_icmp_ne (tgt := 38) hx hb dX4_listener_32 (by decide) (fun c5 => ?_) (fun c5 => ?_)
      · have hw := ite_f hw c5
        refine lv_aload_n hx hb dX4_listener_38 rfl (lv_at hl 0 rfl) ?_
        refine va_get (D := (dC, dI)) (ci := 4) (v := .ref (a 3)) (C := RX4) (T := TX4) (N := 29) hx hb hts iX4 hown hK hP 0 rfl rfl 12 (by decide) (hts _ wd_534) (fun _ h9 => h9) rfl dX4_listener_39 ?_
        refine lv_iconst (v := 2) hx hb dX4_listener_42 (by decide) ?_
        refine lv_aload_n hx hb dX4_listener_43 rfl (lv_at hl 0 rfl) ?_
        refine va_get (D := (dC, dI)) (ci := 4) (v := .int (X.1 0 11)) (C := RX4) (T := TX4) (N := 29) hx hb hts iX4 hown hK hP 0 rfl rfl 11 (by decide) (hts _ wd_533) (fun _ h9 => h9) rfl dX4_listener_44 ?_
        refine lv_imul hx hb dX4_listener_47 ?_
        refine lv_iload_n hx hb dX4_listener_48 rfl (lv_at hl 1 rfl) ?_
        obtain ⟨h6, hw⟩ := ixc_use hw
        refine va_iast hx hb hK hP (wmD hD0) hS 3 0 rfl rfl h6 dX4_listener_49 (fun H locs hP hD_ hS => ?_)
        obtain ⟨X7, eX7⟩ : ∃ y : MS, y = (ups X.1 3 (Int32.toNatClampNeg (2 * (X.1 0 11))) p1, X.2) := ⟨_, rfl⟩
        have hw := stp_use hw eX7
        have hP : va_P (dC, dI) classes (wm a cA X7) H := by rw [eX7]; exact hP
        refine lv_aload_n hx hb dX4_listener_50 rfl (lv_at hl 0 rfl) ?_
        refine va_get (D := (dC, dI)) (ci := 4) (v := .ref (a 3)) (C := RX4) (T := TX4) (N := 29) hx hb hts iX4 hown hK hP 0 rfl rfl 12 (by decide) (hts _ wd_534) (fun _ h9 => h9) rfl dX4_listener_51 ?_
        refine lv_iconst (v := 2) hx hb dX4_listener_54 (by decide) ?_
        refine lv_aload_n hx hb dX4_listener_55 rfl (lv_at hl 0 rfl) ?_
        refine va_get (D := (dC, dI)) (ci := 4) (v := .int (X7.1 0 11)) (C := RX4) (T := TX4) (N := 29) hx hb hts iX4 hown hK hP 0 rfl rfl 11 (by decide) (hts _ wd_533) (fun _ h9 => h9) rfl dX4_listener_56 ?_
        refine lv_imul hx hb dX4_listener_59 ?_
        refine lv_iconst (v := 1) hx hb dX4_listener_60 (by decide) ?_
        refine lv_iadd hx hb dX4_listener_61 ?_
        refine lv_iload_n hx hb dX4_listener_62 rfl (lv_at hl 2 rfl) ?_
        obtain ⟨h8, hw⟩ := ixc_use hw
        refine va_iast hx hb hK hP (wmD hD0) hS 3 0 rfl rfl h8 dX4_listener_63 (fun H locs hP hD_ hS => ?_)
        obtain ⟨X9, eX9⟩ : ∃ y : MS, y = (ups X7.1 3 (Int32.toNatClampNeg ((2 * (X7.1 0 11)) + 1)) p2, X7.2) := ⟨_, rfl⟩
        have hw := stp_use hw eX9
        have hP : va_P (dC, dI) classes (wm a cA X9) H := by rw [eX9]; exact hP
        refine lv_aload_n hx hb dX4_listener_64 rfl (lv_at hl 0 rfl) ?_
        refine lv_dup hx hb dX4_listener_65 rfl ?_
        refine va_get (D := (dC, dI)) (ci := 4) (v := .int (X9.1 0 11)) (C := RX4) (T := TX4) (N := 29) hx hb hts iX4 hown hK hP 0 rfl rfl 11 (by decide) (hts _ wd_533) (fun _ h9 => h9) rfl dX4_listener_66 ?_
        refine lv_iconst (v := 1) hx hb dX4_listener_69 (by decide) ?_
        refine lv_iadd hx hb dX4_listener_70 ?_
        refine lv_topi (fun x10 ex10 => ?_)
        have hw := stp_use hw ex10
        refine va_put (D := (dC, dI)) (ci := 4) (v := .int x10) (ty := .int) (C := RX4) (T := TX4) (N := 29) hx hb hts iX4 tyX4 tyX4_ok nmX4 hown hK hP (wmD hD0) hS 0 rfl rfl 11 (by decide) (hts _ wd_533) (fun _ h9 => h9) rfl (by decide +kernel) rfl rfl (Nat.le_of_ble_eq_true rfl) dX4_listener_71 (fun H locs hP hD_ hS => ?_)
        obtain ⟨X11, eX11⟩ : ∃ y : MS, y = (ups X9.1 0 11 x10, X9.2) := ⟨_, rfl⟩
        have hw := stp_use hw eX11
        have hP : va_P (dC, dI) classes (wm a cA X11) H := by rw [eX11]; exact hP
        refine lv_aload_n hx hb dX4_listener_74 rfl (lv_at hl 0 rfl) ?_
        refine va_get (D := (dC, dI)) (ci := 4) (v := .int (X11.1 0 11)) (C := RX4) (T := TX4) (N := 29) hx hb hts iX4 hown hK hP 0 rfl rfl 11 (by decide) (hts _ wd_533) (fun _ h9 => h9) rfl dX4_listener_75 ?_
        refine lv_iconst (v := 1) hx hb dX4_listener_78 (by decide) ?_
        refine lv_isub hx hb dX4_listener_79 ?_
        exact hret _ _ _ _ _ _ (Option.some.inj hw) hP hS dX4_listener_80
      · have hw := ite_t hw c5
        refine lv_bipush (v := (-104)) hx hb dX4_listener_35 (by decide) ?_
        exact hret _ _ _ _ _ _ (Option.some.inj hw) hP hS dX4_listener_37
    · have hw := ite_t hw c4
      refine lv_bipush (v := (-101)) hx hb dX4_listener_23 (by decide) ?_
      exact hret _ _ _ _ _ _ (Option.some.inj hw) hP hS dX4_listener_25
  · have hw := ite_t hw c2
    refine lv_bipush (v := (-102)) hx hb dX4_listener_12 (by decide) ?_
    exact hret _ _ _ _ _ _ (Option.some.inj hw) hP hS dX4_listener_14
set_option maxHeartbeats 4000000 in
set_option maxRecDepth 100000 in
theorem c_X3_isListener (l : Launch) (dC : Nat → ClassId) (dI : Nat → Nat → Nat) (a : Nat → Nat) (cA : ClassId) (X : WS) (p1 : Int32) (out : Int32) (hw : f_X3_isListener X p1 = some out) : Met l yX3_isListener (.code yX3_isListener cX3_isListener 2 (some .boolean) :: lw_g) ({ frames := 0, cells := 0, slots := 0, locals := 0 }) (PcX dC dI a cA X [.ref (a 0), .int p1]) (vp_Si (fun r_ => r_ = out)) 0 0 (fun _ => False) := by
  unfold f_X3_isListener at hw
  refine Met.ofW (cc := cX3_isListener) (maxL := 2) (ret := (some .boolean)) (by decide) rfl ?_
  intro p e s m args below meth c s₁ B hml hv
  obtain ⟨rfl, hP, hK, hN⟩ := hv
  have hx := B.exec
  have hb := B.bytes
  have hr := B.returns
  have hts0 := atoms_spec (ws := (.code yX3_isListener cX3_isListener 2 (some .boolean) :: lw_g)) B.pre
  have hts : ∀ w ∈ lw_g, w.before (([.ref (a 0), .int p1] : List Value).toArray) s = true := fun w h => hts0 w (List.mem_cons_of_mem _ h)
  clear hts0
  have hown : s.vm.findClass RX3 = some m.cls := findClass_of_methodNamed B.named
  have hlocks := B.notSynchronized
  have hret : ∀ (pc : Nat) (ls : Array Slot) (v : Int32), v = out → (hz : narrow .boolean (.int v) = .int v) → decode cX3_isListener pc = .ok (.ireturn, 1) → W p l e ({ frames := 0, cells := 0, slots := 0, locals := 0 }) s m (([.ref (a 0), .int p1] : List Value).toArray) below meth c s.heap [] 0 0 (MQ below (vp_Si (fun r_ => r_ = out)) (([.ref (a 0), .int p1] : List Value).toArray) s 0 0 (fun _ => False)) (F0 m pc ls [.int v]) := fun pc ls v hv hz hd => W.zret hx hb hr hz (fun t ht hW => ⟨v, rfl, hv, ht⟩) (fun q hq => absurd hq List.not_mem_nil) hd
  show W p l e ({ frames := 0, cells := 0, slots := 0, locals := 0 }) s m (([.ref (a 0), .int p1] : List Value).toArray) below meth c s.heap [] 0 0 (MQ below (vp_Si (fun r_ => r_ = out)) (([.ref (a 0), .int p1] : List Value).toArray) s 0 0 (fun _ => False)) (entryFrame m (([.ref (a 0), .int p1] : List Value).toArray) 2)
  generalize MQ below (vp_Si (fun r_ => r_ = out)) (([.ref (a 0), .int p1] : List Value).toArray) s 0 0 (fun _ => False) = Q at hret ⊢
  have hl := lv_entry ([.ref (a 0), .int p1]) (n := 2) (Nat.le_of_ble_eq_true rfl)
  rw [lg_entry_eq]
  generalize (lg_sl ([.ref (a 0), .int p1]) ++ List.replicate (2 - (lg_sl ([.ref (a 0), .int p1])).length) Slot.unset).toArray = ls at hl ⊢
  have hl : lv_has ls 2 [(0, .ref (a 0)), (1, .int p1)] := hl
  refine lv_iload_n hx hb dX3_isListener_0 rfl (lv_at hl 1 rfl) ?_
  refine lv_if_lt (tgt := 19) hx hb dX3_isListener_1 (by decide) (fun c1 => ?_) (fun c1 => ?_)
  · have hw := ite_t hw c1
    refine lv_iconst (v := 0) hx hb dX3_isListener_19 (by decide) ?_
    exact hret _ _ _ (Option.some.inj hw) rfl dX3_isListener_20
  · have hw := ite_f hw c1
    refine lv_iload_n hx hb dX3_isListener_4 rfl (lv_at hl 1 rfl) ?_
    refine lv_aload_n hx hb dX3_isListener_5 rfl (lv_at hl 0 rfl) ?_
    refine va_get (D := (dC, dI)) (ci := 3) (v := .ref (a 3)) (C := RX3) (T := TX3) (N := 6) hx hb hts iX3 hown hK hP 0 rfl rfl 1 (by decide) (hts _ wd_179) (fun _ h9 => h9) rfl dX3_isListener_6 ?_
    refine va_getN (D := (dC, dI)) (ci := 2) (v := .int (X 3 5)) (C := RX2) (T := TX2) (N := 17) hx hb hts iX2 hown hK hP 3 rfl rfl 5 (by decide) (va_Nw.use rfl (hN _ nk_84)) (fun _ h9 => h9) rfl dX3_isListener_9 ?_
    refine lv_icmp_ge (tgt := 19) hx hb dX3_isListener_12 (by decide) (fun c2 => ?_) (fun c2 => ?_)
    · have hw := ite_t hw c2
      refine lv_iconst (v := 0) hx hb dX3_isListener_19 (by decide) ?_
      exact hret _ _ _ (Option.some.inj hw) rfl dX3_isListener_20
    · have hw := ite_f hw c2
      refine lv_iconst (v := 1) hx hb dX3_isListener_15 (by decide) ?_
      refine lv_goto (tgt := 20) hx hb dX3_isListener_16 (by decide) ?_
      exact hret _ _ _ (Option.some.inj hw) rfl dX3_isListener_20
set_option maxHeartbeats 4000000 in
set_option maxRecDepth 100000 in
theorem c_X2_knowing (l : Launch) (dC : Nat → ClassId) (dI : Nat → Nat → Nat) (a : Nat → Nat) (cA : ClassId) (X : WS) (p1 : Int32) (out : Int32) (hw : f_X2_knowing X p1 = some out) : Met l yX2_knowing (.code yX2_knowing cX2_knowing 2 (some .int) :: lw_g) ({ frames := 0, cells := 0, slots := 0, locals := 0 }) (PcX dC dI a cA X [.ref (a 3), .int p1]) (vp_Si (fun r_ => r_ = out)) 0 0 (fun _ => False) := by
  unfold f_X2_knowing at hw
  refine Met.ofW (cc := cX2_knowing) (maxL := 2) (ret := (some .int)) (by decide) rfl ?_
  intro p e s m args below meth c s₁ B hml hv
  obtain ⟨rfl, hP, hK, hN⟩ := hv
  have hx := B.exec
  have hb := B.bytes
  have hr := B.returns
  have hts0 := atoms_spec (ws := (.code yX2_knowing cX2_knowing 2 (some .int) :: lw_g)) B.pre
  have hts : ∀ w ∈ lw_g, w.before (([.ref (a 3), .int p1] : List Value).toArray) s = true := fun w h => hts0 w (List.mem_cons_of_mem _ h)
  clear hts0
  have hown : s.vm.findClass RX2 = some m.cls := findClass_of_methodNamed B.named
  have hlocks := B.notSynchronized
  have hret : ∀ (pc : Nat) (ls : Array Slot) (v : Int32), v = out → decode cX2_knowing pc = .ok (.ireturn, 1) → W p l e ({ frames := 0, cells := 0, slots := 0, locals := 0 }) s m (([.ref (a 3), .int p1] : List Value).toArray) below meth c s.heap [] 0 0 (MQ below (vp_Si (fun r_ => r_ = out)) (([.ref (a 3), .int p1] : List Value).toArray) s 0 0 (fun _ => False)) (F0 m pc ls [.int v]) := fun pc ls v hv hd => W.iret hx hb hr (fun t ht hW => ⟨v, rfl, hv, ht⟩) (fun q hq => absurd hq List.not_mem_nil) hd
  show W p l e ({ frames := 0, cells := 0, slots := 0, locals := 0 }) s m (([.ref (a 3), .int p1] : List Value).toArray) below meth c s.heap [] 0 0 (MQ below (vp_Si (fun r_ => r_ = out)) (([.ref (a 3), .int p1] : List Value).toArray) s 0 0 (fun _ => False)) (entryFrame m (([.ref (a 3), .int p1] : List Value).toArray) 2)
  generalize MQ below (vp_Si (fun r_ => r_ = out)) (([.ref (a 3), .int p1] : List Value).toArray) s 0 0 (fun _ => False) = Q at hret ⊢
  have hl := lv_entry ([.ref (a 3), .int p1]) (n := 2) (Nat.le_of_ble_eq_true rfl)
  rw [lg_entry_eq]
  generalize (lg_sl ([.ref (a 3), .int p1]) ++ List.replicate (2 - (lg_sl ([.ref (a 3), .int p1])).length) Slot.unset).toArray = ls at hl ⊢
  have hl : lv_has ls 2 [(0, .ref (a 3)), (1, .int p1)] := hl
  refine lv_iload_n hx hb dX2_knowing_0 rfl (lv_at hl 1 rfl) ?_
  refine lv_aload_n hx hb dX2_knowing_1 rfl (lv_at hl 0 rfl) ?_
  refine va_get (D := (dC, dI)) (ci := 2) (v := .int (X 3 6)) (C := RX2) (T := TX2) (N := 17) hx hb hts iX2 hown hK hP 3 rfl rfl 6 (by decide) (hts _ wd_85) (fun _ h9 => h9) rfl dX2_knowing_2 ?_
  refine lv_iconst (v := (-1)) hx hb dX2_knowing_5 (by decide) ?_
  refine lv_ixor hx hb dX2_knowing_6 ?_
  refine lv_iand hx hb dX2_knowing_7 ?_
  exact hret _ _ _ (Option.some.inj hw) dX2_knowing_8
set_option maxHeartbeats 4000000 in
set_option maxRecDepth 100000 in
theorem c_X3_bit (l : Launch) (p0 : Int32) (p1 : Int32) (out : Int32) (hw : f_X3_bit p0 p1 = some out) : Met l yX3_bit (.code yX3_bit cX3_bit 2 (some .int) :: lw_g) ({ frames := 0, cells := 0, slots := 0, locals := 0 }) (Pc0 [.int p0, .int p1]) (vp_Si (fun r_ => r_ = out)) 0 0 (fun _ => False) := by
  unfold f_X3_bit at hw
  refine Met.ofW (cc := cX3_bit) (maxL := 2) (ret := (some .int)) (by decide) rfl ?_
  intro p e s m args below meth c s₁ B hml hv
  obtain ⟨rfl, -⟩ := hv
  have hx := B.exec
  have hb := B.bytes
  have hr := B.returns
  have hts0 := atoms_spec (ws := (.code yX3_bit cX3_bit 2 (some .int) :: lw_g)) B.pre
  have hts : ∀ w ∈ lw_g, w.before (([.int p0, .int p1] : List Value).toArray) s = true := fun w h => hts0 w (List.mem_cons_of_mem _ h)
  clear hts0
  have hown : s.vm.findClass RX3 = some m.cls := findClass_of_methodNamed B.named
  have hlocks := B.notSynchronized
  have hret : ∀ (pc : Nat) (ls : Array Slot) (v : Int32), v = out → decode cX3_bit pc = .ok (.ireturn, 1) → W p l e ({ frames := 0, cells := 0, slots := 0, locals := 0 }) s m (([.int p0, .int p1] : List Value).toArray) below meth c s.heap [] 0 0 (MQ below (vp_Si (fun r_ => r_ = out)) (([.int p0, .int p1] : List Value).toArray) s 0 0 (fun _ => False)) (F0 m pc ls [.int v]) := fun pc ls v hv hd => W.iret hx hb hr (fun t ht hW => ⟨v, rfl, hv, ht⟩) (fun q hq => absurd hq List.not_mem_nil) hd
  show W p l e ({ frames := 0, cells := 0, slots := 0, locals := 0 }) s m (([.int p0, .int p1] : List Value).toArray) below meth c s.heap [] 0 0 (MQ below (vp_Si (fun r_ => r_ = out)) (([.int p0, .int p1] : List Value).toArray) s 0 0 (fun _ => False)) (entryFrame m (([.int p0, .int p1] : List Value).toArray) 2)
  generalize MQ below (vp_Si (fun r_ => r_ = out)) (([.int p0, .int p1] : List Value).toArray) s 0 0 (fun _ => False) = Q at hret ⊢
  have hl := lv_entry ([.int p0, .int p1]) (n := 2) (Nat.le_of_ble_eq_true rfl)
  rw [lg_entry_eq]
  generalize (lg_sl ([.int p0, .int p1]) ++ List.replicate (2 - (lg_sl ([.int p0, .int p1])).length) Slot.unset).toArray = ls at hl ⊢
  have hl : lv_has ls 2 [(0, .int p0), (1, .int p1)] := hl
  refine lv_iload_n hx hb dX3_bit_0 rfl (lv_at hl 0 rfl) ?_
  refine lv_iload_n hx hb dX3_bit_1 rfl (lv_at hl 1 rfl) ?_
  refine lv_ishr hx hb dX3_bit_2 ?_
  refine lv_iconst (v := 1) hx hb dX3_bit_3 (by decide) ?_
  refine lv_iand hx hb dX3_bit_4 ?_
  exact hret _ _ _ (Option.some.inj hw) dX3_bit_5
set_option maxHeartbeats 4000000 in
set_option maxRecDepth 100000 in
theorem c_X3_about (l : Launch) (dC : Nat → ClassId) (dI : Nat → Nat → Nat) (a : Nat → Nat) (cA : ClassId) (X : WS) (p1 : Int32) (p2 : Int32) (out : Int32) (hw : f_X3_about X p1 p2 = some out) : Met l yX3_about (.code yX3_about cX3_about 3 (some .int) :: lw_g) ({ frames := 1, cells := 0, slots := 0, locals := 21 }) (PcX dC dI a cA X [.ref (a 0), .int p1, .int p2]) (vp_Si (fun r_ => r_ = out)) 0 0 (fun _ => False) := by
  unfold f_X3_about at hw
  refine Met.ofW (cc := cX3_about) (maxL := 3) (ret := (some .int)) (by decide) rfl ?_
  intro p e s m args below meth c s₁ B hml hv
  obtain ⟨rfl, hP, hK, hN⟩ := hv
  have hx := B.exec
  have hb := B.bytes
  have hr := B.returns
  have hts0 := atoms_spec (ws := (.code yX3_about cX3_about 3 (some .int) :: lw_g)) B.pre
  have hts : ∀ w ∈ lw_g, w.before (([.ref (a 0), .int p1, .int p2] : List Value).toArray) s = true := fun w h => hts0 w (List.mem_cons_of_mem _ h)
  clear hts0
  have hown : s.vm.findClass RX3 = some m.cls := findClass_of_methodNamed B.named
  have hlocks := B.notSynchronized
  have hret : ∀ (pc : Nat) (ls : Array Slot) (v : Int32), v = out → decode cX3_about pc = .ok (.ireturn, 1) → W p l e ({ frames := 1, cells := 0, slots := 0, locals := 21 }) s m (([.ref (a 0), .int p1, .int p2] : List Value).toArray) below meth c s.heap [] 0 0 (MQ below (vp_Si (fun r_ => r_ = out)) (([.ref (a 0), .int p1, .int p2] : List Value).toArray) s 0 0 (fun _ => False)) (F0 m pc ls [.int v]) := fun pc ls v hv hd => W.iret hx hb hr (fun t ht hW => ⟨v, rfl, hv, ht⟩) (fun q hq => absurd hq List.not_mem_nil) hd
  show W p l e ({ frames := 1, cells := 0, slots := 0, locals := 21 }) s m (([.ref (a 0), .int p1, .int p2] : List Value).toArray) below meth c s.heap [] 0 0 (MQ below (vp_Si (fun r_ => r_ = out)) (([.ref (a 0), .int p1, .int p2] : List Value).toArray) s 0 0 (fun _ => False)) (entryFrame m (([.ref (a 0), .int p1, .int p2] : List Value).toArray) 3)
  generalize MQ below (vp_Si (fun r_ => r_ = out)) (([.ref (a 0), .int p1, .int p2] : List Value).toArray) s 0 0 (fun _ => False) = Q at hret ⊢
  have hl := lv_entry ([.ref (a 0), .int p1, .int p2]) (n := 3) (Nat.le_of_ble_eq_true rfl)
  rw [lg_entry_eq]
  generalize (lg_sl ([.ref (a 0), .int p1, .int p2]) ++ List.replicate (3 - (lg_sl ([.ref (a 0), .int p1, .int p2])).length) Slot.unset).toArray = ls at hl ⊢
  have hl : lv_has ls 3 [(0, .ref (a 0)), (1, .int p1), (2, .int p2)] := hl
  refine lv_aload_n hx hb dX3_about_0 rfl (lv_at hl 0 rfl) ?_
  refine lv_iload_n hx hb dX3_about_1 rfl (lv_at hl 1 rfl) ?_
  obtain ⟨r1, er1, hw⟩ := Option.bind_eq_some_iff.mp hw
  refine vp_callSi (va_runV (As := [.int p1]) (rest := []) ⟨hx, hb, hml, hown, hts⟩ (c_X3_isListener l dC dI a cA X p1 r1 er1) ⟨callB_of 1 hts gd_X3_isListener rfl rfl rfl (hts _ wd_35) (hts _ wd_286) hd_X3_isListener ⟨Nat.le_of_ble_eq_true rfl, Nat.le_of_ble_eq_true rfl⟩, hts _ wd_288, hts _ wd_2⟩ ⟨blX, va_recv hK hP (ci := 3) (q0 := 0) rfl rfl, fun U hU hW => ⟨rfl, by rw [hU]; exact hP, va_K.moved hW.alike hK, nst.warm hW hN⟩⟩ rfl rfl hl.1 rfl (lv_room (Nat.le_of_ble_eq_true rfl)) dX3_about_2 ⟨Nat.zero_le _, Nat.zero_le _⟩).run (fun r_ e_ => ?_)
  subst r_
  refine lv_if_ne (tgt := 11) hx hb dX3_about_5 (by decide) (fun c2 => ?_) (fun c2 => ?_)
  · have hw := ite_f hw c2
    refine lv_iload_n hx hb dX3_about_11 rfl (lv_at hl 2 rfl) ?_
    by_cases c3 : p2 = 0
    · have hw := ite_t hw c3
      refine lv_tableIn (off := 40) (tgt := 52) hx hb dX3_about_12 (by rw [c3]; decide) (by rw [c3]; decide) (by rw [c3]; rfl) (by decide) ?_
      refine lv_aload_n hx hb dX3_about_52 rfl (lv_at hl 0 rfl) ?_
      refine va_get (D := (dC, dI)) (ci := 3) (v := .ref (a 3)) (C := RX3) (T := TX3) (N := 6) hx hb hts iX3 hown hK hP 0 rfl rfl 1 (by decide) (hts _ wd_179) (fun _ h9 => h9) rfl dX3_about_53 ?_
      refine va_getN (D := (dC, dI)) (ci := 2) (v := .ref (a 5)) (C := RX2) (T := TX2) (N := 17) hx hb hts iX2 hown hK hP 3 rfl rfl 1 (by decide) (va_Nw.use rfl (hN _ nk_76)) (fun _ h9 => h9) rfl dX3_about_56 ?_
      refine lv_iload_n hx hb dX3_about_59 rfl (lv_at hl 1 rfl) ?_
      obtain ⟨h4, hw⟩ := ixc_use hw
      refine va_iald hx hb hK hP 5 0 rfl rfl h4 dX3_about_60 ?_
      exact hret _ _ _ (Option.some.inj hw) dX3_about_61
    have hw := ite_f hw c3
    by_cases c5 : p2 = 1
    · have hw := ite_t hw c5
      refine lv_tableIn (off := 50) (tgt := 62) hx hb dX3_about_12 (by rw [c5]; decide) (by rw [c5]; decide) (by rw [c5]; rfl) (by decide) ?_
      refine lv_aload_n hx hb dX3_about_62 rfl (lv_at hl 0 rfl) ?_
      refine va_get (D := (dC, dI)) (ci := 3) (v := .ref (a 3)) (C := RX3) (T := TX3) (N := 6) hx hb hts iX3 hown hK hP 0 rfl rfl 1 (by decide) (hts _ wd_179) (fun _ h9 => h9) rfl dX3_about_63 ?_
      refine va_getN (D := (dC, dI)) (ci := 2) (v := .ref (a 8)) (C := RX2) (T := TX2) (N := 17) hx hb hts iX2 hown hK hP 3 rfl rfl 4 (by decide) (va_Nw.use rfl (hN _ nk_82)) (fun _ h9 => h9) rfl dX3_about_66 ?_
      refine lv_iload_n hx hb dX3_about_69 rfl (lv_at hl 1 rfl) ?_
      obtain ⟨h6, hw⟩ := ixc_use hw
      refine va_iald hx hb hK hP 8 0 rfl rfl h6 dX3_about_70 ?_
      exact hret _ _ _ (Option.some.inj hw) dX3_about_71
    have hw := ite_f hw c5
    by_cases c7 : p2 = 2
    · have hw := ite_t hw c7
      refine lv_tableIn (off := 60) (tgt := 72) hx hb dX3_about_12 (by rw [c7]; decide) (by rw [c7]; decide) (by rw [c7]; rfl) (by decide) ?_
      refine lv_aload_n hx hb dX3_about_72 rfl (lv_at hl 0 rfl) ?_
      refine va_get (D := (dC, dI)) (ci := 3) (v := .ref (a 3)) (C := RX3) (T := TX3) (N := 6) hx hb hts iX3 hown hK hP 0 rfl rfl 1 (by decide) (hts _ wd_179) (fun _ h9 => h9) rfl dX3_about_73 ?_
      refine lv_aload_n hx hb dX3_about_76 rfl (lv_at hl 0 rfl) ?_
      refine va_get (D := (dC, dI)) (ci := 3) (v := .ref (a 3)) (C := RX3) (T := TX3) (N := 6) hx hb hts iX3 hown hK hP 0 rfl rfl 1 (by decide) (hts _ wd_179) (fun _ h9 => h9) rfl dX3_about_77 ?_
      refine va_getN (D := (dC, dI)) (ci := 2) (v := .int (X 3 7)) (C := RX2) (T := TX2) (N := 17) hx hb hts iX2 hown hK hP 3 rfl rfl 7 (by decide) (va_Nw.use rfl (hN _ nk_88)) (fun _ h9 => h9) rfl dX3_about_80 ?_
      obtain ⟨r8, er8, hw⟩ := Option.bind_eq_some_iff.mp hw
      refine vp_callSi (va_runV (As := [.int (X 3 7)]) (rest := []) ⟨hx, hb, hml, hown, hts⟩ (c_X2_knowing l dC dI a cA X (X 3 7) r8 er8) ⟨callB_of 1 hts gd_X2_knowing rfl rfl rfl (hts _ wd_37) (hts _ wd_290) hd_X2_knowing ⟨Nat.le_of_ble_eq_true rfl, Nat.le_of_ble_eq_true rfl⟩, hts _ wd_291, hts _ wd_292⟩ ⟨blX, va_recv hK hP (ci := 2) (q0 := 3) rfl rfl, fun U hU hW => ⟨rfl, by rw [hU]; exact hP, va_K.moved hW.alike hK, nst.warm hW hN⟩⟩ rfl rfl hl.1 rfl (lv_room (Nat.le_of_ble_eq_true rfl)) dX3_about_83 ⟨Nat.zero_le _, Nat.zero_le _⟩).run (fun r_ e_ => ?_)
      subst r_
      refine lv_iload_n hx hb dX3_about_86 rfl (lv_at hl 1 rfl) ?_
      obtain ⟨r9, er9, hw⟩ := Option.bind_eq_some_iff.mp hw
      refine vp_callSi (va_runS (As := [.int r8, .int p1]) (rest := []) ⟨hx, hb, hml, hown, hts⟩ (c_X3_bit l r8 p1 r9 er9) ⟨callB_of 2 hts gd_X3_bit rfl rfl rfl (hts _ wd_35) (hts _ wd_294) hd_X3_bit ⟨Nat.le_of_ble_eq_true rfl, Nat.le_of_ble_eq_true rfl⟩, hts _ wd_295⟩ ⟨bl0, fun U hU hW => ⟨rfl, trivial⟩⟩ rfl rfl hl.1 rfl (lv_room (Nat.le_of_ble_eq_true rfl)) dX3_about_87 ⟨Nat.zero_le _, Nat.zero_le _⟩).run (fun r_ e_ => ?_)
      subst r_
      exact hret _ _ _ (Option.some.inj hw) dX3_about_90
    have hw := ite_f hw c7
    by_cases c10 : p2 = 3
    · have hw := ite_t hw c10
      refine lv_tableIn (off := 79) (tgt := 91) hx hb dX3_about_12 (by rw [c10]; decide) (by rw [c10]; decide) (by rw [c10]; rfl) (by decide) ?_
      refine lv_aload_n hx hb dX3_about_91 rfl (lv_at hl 0 rfl) ?_
      refine va_get (D := (dC, dI)) (ci := 3) (v := .ref (a 3)) (C := RX3) (T := TX3) (N := 6) hx hb hts iX3 hown hK hP 0 rfl rfl 1 (by decide) (hts _ wd_179) (fun _ h9 => h9) rfl dX3_about_92 ?_
      refine va_getN (D := (dC, dI)) (ci := 2) (v := .int (X 3 7)) (C := RX2) (T := TX2) (N := 17) hx hb hts iX2 hown hK hP 3 rfl rfl 7 (by decide) (va_Nw.use rfl (hN _ nk_88)) (fun _ h9 => h9) rfl dX3_about_95 ?_
      refine lv_iload_n hx hb dX3_about_98 rfl (lv_at hl 1 rfl) ?_
      obtain ⟨r11, er11, hw⟩ := Option.bind_eq_some_iff.mp hw
      refine vp_callSi (va_runS (As := [.int (X 3 7), .int p1]) (rest := []) ⟨hx, hb, hml, hown, hts⟩ (c_X3_bit l (X 3 7) p1 r11 er11) ⟨callB_of 2 hts gd_X3_bit rfl rfl rfl (hts _ wd_35) (hts _ wd_294) hd_X3_bit ⟨Nat.le_of_ble_eq_true rfl, Nat.le_of_ble_eq_true rfl⟩, hts _ wd_295⟩ ⟨bl0, fun U hU hW => ⟨rfl, trivial⟩⟩ rfl rfl hl.1 rfl (lv_room (Nat.le_of_ble_eq_true rfl)) dX3_about_99 ⟨Nat.zero_le _, Nat.zero_le _⟩).run (fun r_ e_ => ?_)
      subst r_
      exact hret _ _ _ (Option.some.inj hw) dX3_about_102
    have hw := ite_f hw c10
    by_cases c12 : p2 = 4
    · have hw := ite_t hw c12
      refine lv_tableIn (off := 91) (tgt := 103) hx hb dX3_about_12 (by rw [c12]; decide) (by rw [c12]; decide) (by rw [c12]; rfl) (by decide) ?_
      refine lv_aload_n hx hb dX3_about_103 rfl (lv_at hl 0 rfl) ?_
      refine va_get (D := (dC, dI)) (ci := 3) (v := .ref (a 3)) (C := RX3) (T := TX3) (N := 6) hx hb hts iX3 hown hK hP 0 rfl rfl 1 (by decide) (hts _ wd_179) (fun _ h9 => h9) rfl dX3_about_104 ?_
      refine va_getN (D := (dC, dI)) (ci := 2) (v := .ref (a 6)) (C := RX2) (T := TX2) (N := 17) hx hb hts iX2 hown hK hP 3 rfl rfl 2 (by decide) (va_Nw.use rfl (hN _ nk_78)) (fun _ h9 => h9) rfl dX3_about_107 ?_
      refine lv_iload_n hx hb dX3_about_110 rfl (lv_at hl 1 rfl) ?_
      obtain ⟨h13, hw⟩ := ixc_use hw
      refine va_iald hx hb hK hP 6 0 rfl rfl h13 dX3_about_111 ?_
      exact hret _ _ _ (Option.some.inj hw) dX3_about_112
    have hw := ite_f hw c12
    by_cases c14 : p2 = 5
    · have hw := ite_t hw c14
      refine lv_tableIn (off := 101) (tgt := 113) hx hb dX3_about_12 (by rw [c14]; decide) (by rw [c14]; decide) (by rw [c14]; rfl) (by decide) ?_
      refine lv_aload_n hx hb dX3_about_113 rfl (lv_at hl 0 rfl) ?_
      refine va_get (D := (dC, dI)) (ci := 3) (v := .ref (a 3)) (C := RX3) (T := TX3) (N := 6) hx hb hts iX3 hown hK hP 0 rfl rfl 1 (by decide) (hts _ wd_179) (fun _ h9 => h9) rfl dX3_about_114 ?_
      refine va_getN (D := (dC, dI)) (ci := 2) (v := .ref (a 7)) (C := RX2) (T := TX2) (N := 17) hx hb hts iX2 hown hK hP 3 rfl rfl 3 (by decide) (va_Nw.use rfl (hN _ nk_80)) (fun _ h9 => h9) rfl dX3_about_117 ?_
      refine lv_iload_n hx hb dX3_about_120 rfl (lv_at hl 1 rfl) ?_
      obtain ⟨h15, hw⟩ := ixc_use hw
      refine va_iald hx hb hK hP 7 0 rfl rfl h15 dX3_about_121 ?_
      exact hret _ _ _ (Option.some.inj hw) dX3_about_122
    have hw := ite_f hw c14
    refine lv_tableOut (tgt := 123) hx hb dX3_about_12 (by have qc3 := i32_ne c3 (z := 0) (by decide); have qc5 := i32_ne c5 (z := 1) (by decide); have qc7 := i32_ne c7 (z := 2) (by decide); have qc10 := i32_ne c10 (z := 3) (by decide); have qc12 := i32_ne c12 (z := 4) (by decide); have qc14 := i32_ne c14 (z := 5) (by decide); omega) (by decide) ?_
    refine lv_bipush (v := (-102)) hx hb dX3_about_123 (by decide) ?_
    exact hret _ _ _ (Option.some.inj hw) dX3_about_125
  · have hw := ite_t hw c2
    refine lv_bipush (v := (-101)) hx hb dX3_about_8 (by decide) ?_
    exact hret _ _ _ (Option.some.inj hw) dX3_about_10
set_option maxHeartbeats 4000000 in
set_option maxRecDepth 100000 in
theorem c_X4_isListener (l : Launch) (dC : Nat → ClassId) (dI : Nat → Nat → Nat) (a : Nat → Nat) (cA : ClassId) (X : MS) (p1 : Int32) (out : Int32) (hw : f_X4_isListener X p1 = some out) : Met l yX4_isListener (.code yX4_isListener cX4_isListener 2 (some .boolean) :: lw_g) ({ frames := 1, cells := 0, slots := 0, locals := 25 }) (PcM dC dI a cA X [.ref (a 0), .int p1]) (vp_Si (fun r_ => r_ = out)) 0 0 (fun _ => False) := by
  unfold f_X4_isListener at hw
  refine Met.ofW (cc := cX4_isListener) (maxL := 2) (ret := (some .boolean)) (by decide) rfl ?_
  intro p e s m args below meth c s₁ B hml hv
  obtain ⟨rfl, hP, hK⟩ := hv
  have hx := B.exec
  have hb := B.bytes
  have hr := B.returns
  have hts0 := atoms_spec (ws := (.code yX4_isListener cX4_isListener 2 (some .boolean) :: lw_g)) B.pre
  have hts : ∀ w ∈ lw_g, w.before (([.ref (a 0), .int p1] : List Value).toArray) s = true := fun w h => hts0 w (List.mem_cons_of_mem _ h)
  clear hts0
  have hown : s.vm.findClass RX4 = some m.cls := findClass_of_methodNamed B.named
  have hlocks := B.notSynchronized
  have hret : ∀ (pc : Nat) (ls : Array Slot) (v : Int32), v = out → (hz : narrow .boolean (.int v) = .int v) → decode cX4_isListener pc = .ok (.ireturn, 1) → W p l e ({ frames := 1, cells := 0, slots := 0, locals := 25 }) s m (([.ref (a 0), .int p1] : List Value).toArray) below meth c s.heap [] 0 0 (MQ below (vp_Si (fun r_ => r_ = out)) (([.ref (a 0), .int p1] : List Value).toArray) s 0 0 (fun _ => False)) (F0 m pc ls [.int v]) := fun pc ls v hv hz hd => W.zret hx hb hr hz (fun t ht hW => ⟨v, rfl, hv, ht⟩) (fun q hq => absurd hq List.not_mem_nil) hd
  show W p l e ({ frames := 1, cells := 0, slots := 0, locals := 25 }) s m (([.ref (a 0), .int p1] : List Value).toArray) below meth c s.heap [] 0 0 (MQ below (vp_Si (fun r_ => r_ = out)) (([.ref (a 0), .int p1] : List Value).toArray) s 0 0 (fun _ => False)) (entryFrame m (([.ref (a 0), .int p1] : List Value).toArray) 2)
  generalize MQ below (vp_Si (fun r_ => r_ = out)) (([.ref (a 0), .int p1] : List Value).toArray) s 0 0 (fun _ => False) = Q at hret ⊢
  have hl := lv_entry ([.ref (a 0), .int p1]) (n := 2) (Nat.le_of_ble_eq_true rfl)
  rw [lg_entry_eq]
  generalize (lg_sl ([.ref (a 0), .int p1]) ++ List.replicate (2 - (lg_sl ([.ref (a 0), .int p1])).length) Slot.unset).toArray = ls at hl ⊢
  have hl : lv_has ls 2 [(0, .ref (a 0)), (1, .int p1)] := hl
  refine lv_iload_n hx hb dX4_isListener_0 rfl (lv_at hl 1 rfl) ?_
  refine lv_i2l hx hb dX4_isListener_1 rfl ?_
  refine lv_lconst (v := 0) hx hb dX4_isListener_2 (by decide) ?_
  refine lv_aload_n hx hb dX4_isListener_3 rfl (lv_at hl 0 rfl) ?_
  refine va_get (D := (dC, dI)) (ci := 4) (v := .int (X.1 0 11)) (C := RX4) (T := TX4) (N := 29) hx hb hts iX4 hown hK hP 0 rfl rfl 11 (by decide) (hts _ wd_533) (fun _ h9 => h9) rfl dX4_isListener_4 ?_
  refine lv_iconst (v := 1) hx hb dX4_isListener_7 (by decide) ?_
  refine lv_isub hx hb dX4_isListener_8 ?_
  refine lv_i2l hx hb dX4_isListener_9 rfl ?_
  obtain ⟨r1, er1, hw⟩ := Option.bind_eq_some_iff.mp hw
  refine vp_callSi (va_runS (As := [.long (Int32.toInt64 p1), .long 0, .long (Int32.toInt64 ((X.1 0 11) - 1))]) (rest := []) ⟨hx, hb, hml, hown, hts⟩ (c_X4_in l (Int32.toInt64 p1) 0 (Int32.toInt64 ((X.1 0 11) - 1)) r1 er1) ⟨callB_of 3 hts gd_X4_in rfl rfl rfl (hts _ wd_39) (hts _ wd_615) hd_X4_in ⟨Nat.le_of_ble_eq_true rfl, Nat.le_of_ble_eq_true rfl⟩, hts _ wd_616⟩ ⟨bl0, fun U hU hW => ⟨rfl, trivial⟩⟩ rfl rfl hl.1 rfl (lv_room (Nat.le_of_ble_eq_true rfl)) dX4_isListener_10 ⟨Nat.zero_le _, Nat.zero_le _⟩).run (fun r_ e_ => ?_)
  subst r_
  obtain ⟨hz_, hw⟩ := zck_use hw
  exact hret _ _ _ (Option.some.inj hw) (nz hz_) dX4_isListener_13
set_option maxHeartbeats 4000000 in
set_option maxRecDepth 100000 in
theorem c_X4_knowing (l : Launch) (dC : Nat → ClassId) (dI : Nat → Nat → Nat) (a : Nat → Nat) (cA : ClassId) (X : MS) (p1 : Int32) (out : Int32) (hw : f_X4_knowing X p1 = some out) : Met l yX4_knowing (.code yX4_knowing cX4_knowing 4 (some .int) :: lw_g) ({ frames := 0, cells := 0, slots := 0, locals := 0 }) (PcM dC dI a cA X [.ref (a 0), .int p1]) (vp_Si (fun r_ => r_ = out)) 0 0 (fun _ => False) := by
  unfold f_X4_knowing at hw
  refine Met.ofW (cc := cX4_knowing) (maxL := 4) (ret := (some .int)) (by decide) rfl ?_
  intro p e s m args below meth c s₁ B hml hv
  obtain ⟨rfl, hP, hK⟩ := hv
  have hx := B.exec
  have hb := B.bytes
  have hr := B.returns
  have hts0 := atoms_spec (ws := (.code yX4_knowing cX4_knowing 4 (some .int) :: lw_g)) B.pre
  have hts : ∀ w ∈ lw_g, w.before (([.ref (a 0), .int p1] : List Value).toArray) s = true := fun w h => hts0 w (List.mem_cons_of_mem _ h)
  clear hts0
  have hown : s.vm.findClass RX4 = some m.cls := findClass_of_methodNamed B.named
  have hlocks := B.notSynchronized
  have hret : ∀ (pc : Nat) (ls : Array Slot) (v : Int32), v = out → decode cX4_knowing pc = .ok (.ireturn, 1) → W p l e ({ frames := 0, cells := 0, slots := 0, locals := 0 }) s m (([.ref (a 0), .int p1] : List Value).toArray) below meth c s.heap [] 0 0 (MQ below (vp_Si (fun r_ => r_ = out)) (([.ref (a 0), .int p1] : List Value).toArray) s 0 0 (fun _ => False)) (F0 m pc ls [.int v]) := fun pc ls v hv hd => W.iret hx hb hr (fun t ht hW => ⟨v, rfl, hv, ht⟩) (fun q hq => absurd hq List.not_mem_nil) hd
  show W p l e ({ frames := 0, cells := 0, slots := 0, locals := 0 }) s m (([.ref (a 0), .int p1] : List Value).toArray) below meth c s.heap [] 0 0 (MQ below (vp_Si (fun r_ => r_ = out)) (([.ref (a 0), .int p1] : List Value).toArray) s 0 0 (fun _ => False)) (entryFrame m (([.ref (a 0), .int p1] : List Value).toArray) 4)
  generalize MQ below (vp_Si (fun r_ => r_ = out)) (([.ref (a 0), .int p1] : List Value).toArray) s 0 0 (fun _ => False) = Q at hret ⊢
  have L4 : ∀ (v1 : Int32), ∀ n : Nat, ∀ (v2 : Int32), ∀ (v3 : Int32), g_X4_knowing_4 X v1 n v2 v3 = some out → ∀ ls : Array Slot, lv_has ls 4 [(0, .ref (a 0)), (1, .int v1), (2, .int v2), (3, .int v3)] → W p l e ({ frames := 0, cells := 0, slots := 0, locals := 0 }) s m (([.ref (a 0), .int p1] : List Value).toArray) below meth c s.heap [] 0 0 Q (F0 m 4 ls []) := by
    intro v1 n
    induction n with
    | zero =>
      intro v2 v3 hw
      rw [g_X4_knowing_4] at hw
      cases hw
    | succ n ih =>
      intro v2 v3 hw ls hl
      rw [g_X4_knowing_4] at hw
      refine lv_iload_n hx hb dX4_knowing_4 rfl (lv_at hl 3 rfl) ?_
      refine lv_aload_n hx hb dX4_knowing_5 rfl (lv_at hl 0 rfl) ?_
      refine va_get (D := (dC, dI)) (ci := 4) (v := .int (X.1 0 11)) (C := RX4) (T := TX4) (N := 29) hx hb hts iX4 hown hK hP 0 rfl rfl 11 (by decide) (hts _ wd_533) (fun _ h9 => h9) rfl dX4_knowing_6 ?_
      refine lv_icmp_ge (tgt := 42) hx hb dX4_knowing_9 (by decide) (fun c1 => ?_) (fun c1 => ?_)
      · have hw := ite_t hw c1
        refine lv_iload_n hx hb dX4_knowing_42 rfl (lv_at hl 2 rfl) ?_
        exact hret _ _ _ (Option.some.inj hw) dX4_knowing_43
      · have hw := ite_f hw c1
        refine lv_iload_n hx hb dX4_knowing_12 rfl (lv_at hl 2 rfl) ?_
        refine lv_aload_n hx hb dX4_knowing_13 rfl (lv_at hl 0 rfl) ?_
        refine va_get (D := (dC, dI)) (ci := 4) (v := .ref (a 3)) (C := RX4) (T := TX4) (N := 29) hx hb hts iX4 hown hK hP 0 rfl rfl 12 (by decide) (hts _ wd_534) (fun _ h9 => h9) rfl dX4_knowing_14 ?_
        refine lv_iconst (v := 2) hx hb dX4_knowing_17 (by decide) ?_
        refine lv_iload_n hx hb dX4_knowing_18 rfl (lv_at hl 3 rfl) ?_
        refine lv_imul hx hb dX4_knowing_19 ?_
        obtain ⟨h2, hw⟩ := ixc_use hw
        refine va_iald hx hb hK hP 3 0 rfl rfl h2 dX4_knowing_20 ?_
        refine lv_iconst (v := 2) hx hb dX4_knowing_21 (by decide) ?_
        refine lv_icmp_ne (tgt := 29) hx hb dX4_knowing_22 (by decide) (fun c3 => ?_) (fun c3 => ?_)
        · have hw := ite_f hw c3
          refine lv_iload_n hx hb dX4_knowing_29 rfl (lv_at hl 1 rfl) ?_
          refine lv_iconst (v := 1) hx hb dX4_knowing_30 (by decide) ?_
          refine lv_iload_n hx hb dX4_knowing_31 rfl (lv_at hl 3 rfl) ?_
          refine lv_ishl hx hb dX4_knowing_32 ?_
          refine lv_iand hx hb dX4_knowing_33 ?_
          refine lv_ior hx hb dX4_knowing_34 ?_
          refine lv_topi (fun x4 ex4 => ?_)
          have hw := stp_use hw ex4
          refine lv_istore_n (lv' := [(2, .int x4), (0, .ref (a 0)), (1, .int v1), (3, .int v3)]) hx hb dX4_knowing_35 rfl hl (by decide) rfl (fun ls hl => ?_)
          obtain ⟨x5, ex5⟩ : ∃ y : Int32, y = (v3 + 1) := ⟨_, rfl⟩
          have hw := stp_use hw ex5
          refine lv_iinc (v := x5) (lv' := [(3, .int x5), (2, .int x4), (0, .ref (a 0)), (1, .int v1)]) hx hb dX4_knowing_36 hl (k := 3) rfl (by rw [ex5]; rfl) (by decide) rfl (fun ls hl => ?_)
          refine lv_goto (tgt := 4) hx hb dX4_knowing_39 (by decide) ?_
          exact ih x4 x5 hw ls (lv_sub hl [2, 3, 1, 0] rfl)
        · have hw := ite_t hw c3
          refine lv_iconst (v := 0) hx hb dX4_knowing_25 (by decide) ?_
          refine lv_goto (tgt := 34) hx hb dX4_knowing_26 (by decide) ?_
          refine lv_ior hx hb dX4_knowing_34 ?_
          refine lv_topi (fun x6 ex6 => ?_)
          have hw := stp_use hw ex6
          refine lv_istore_n (lv' := [(2, .int x6), (0, .ref (a 0)), (1, .int v1), (3, .int v3)]) hx hb dX4_knowing_35 rfl hl (by decide) rfl (fun ls hl => ?_)
          obtain ⟨x7, ex7⟩ : ∃ y : Int32, y = (v3 + 1) := ⟨_, rfl⟩
          have hw := stp_use hw ex7
          refine lv_iinc (v := x7) (lv' := [(3, .int x7), (2, .int x6), (0, .ref (a 0)), (1, .int v1)]) hx hb dX4_knowing_36 hl (k := 3) rfl (by rw [ex7]; rfl) (by decide) rfl (fun ls hl => ?_)
          refine lv_goto (tgt := 4) hx hb dX4_knowing_39 (by decide) ?_
          exact ih x6 x7 hw ls (lv_sub hl [2, 3, 1, 0] rfl)
  have hl := lv_entry ([.ref (a 0), .int p1]) (n := 4) (Nat.le_of_ble_eq_true rfl)
  rw [lg_entry_eq]
  generalize (lg_sl ([.ref (a 0), .int p1]) ++ List.replicate (4 - (lg_sl ([.ref (a 0), .int p1])).length) Slot.unset).toArray = ls at hl ⊢
  have hl : lv_has ls 4 [(0, .ref (a 0)), (1, .int p1)] := hl
  refine lv_iconst (v := 0) hx hb dX4_knowing_0 (by decide) ?_
  refine lv_istore_n (lv' := [(2, .int 0), (0, .ref (a 0)), (1, .int p1)]) hx hb dX4_knowing_1 rfl hl (by decide) rfl (fun ls hl => ?_)
  refine lv_iconst (v := 0) hx hb dX4_knowing_2 (by decide) ?_
  refine lv_istore_n (lv' := [(3, .int 0), (2, .int 0), (0, .ref (a 0)), (1, .int p1)]) hx hb dX4_knowing_3 rfl hl (by decide) rfl (fun ls hl => ?_)
  exact L4 p1 NF 0 0 hw ls (lv_sub hl [2, 3, 1, 0] rfl)
set_option maxHeartbeats 4000000 in
set_option maxRecDepth 100000 in
theorem c_X4_needsOf (l : Launch) (dC : Nat → ClassId) (dI : Nat → Nat → Nat) (a : Nat → Nat) (cA : ClassId) (X : MS) (p1 : Int32) (out : Int32) (hw : f_X4_needsOf X p1 = some out) : Met l yX4_needsOf (.code yX4_needsOf cX4_needsOf 2 (some .int) :: lw_g) ({ frames := 0, cells := 0, slots := 0, locals := 0 }) (PcM dC dI a cA X [.ref (a 0), .int p1]) (vp_Si (fun r_ => r_ = out)) 0 0 (fun _ => False) := by
  unfold f_X4_needsOf at hw
  refine Met.ofW (cc := cX4_needsOf) (maxL := 2) (ret := (some .int)) (by decide) rfl ?_
  intro p e s m args below meth c s₁ B hml hv
  obtain ⟨rfl, hP, hK⟩ := hv
  have hx := B.exec
  have hb := B.bytes
  have hr := B.returns
  have hts0 := atoms_spec (ws := (.code yX4_needsOf cX4_needsOf 2 (some .int) :: lw_g)) B.pre
  have hts : ∀ w ∈ lw_g, w.before (([.ref (a 0), .int p1] : List Value).toArray) s = true := fun w h => hts0 w (List.mem_cons_of_mem _ h)
  clear hts0
  have hown : s.vm.findClass RX4 = some m.cls := findClass_of_methodNamed B.named
  have hlocks := B.notSynchronized
  have hret : ∀ (pc : Nat) (ls : Array Slot) (v : Int32), v = out → decode cX4_needsOf pc = .ok (.ireturn, 1) → W p l e ({ frames := 0, cells := 0, slots := 0, locals := 0 }) s m (([.ref (a 0), .int p1] : List Value).toArray) below meth c s.heap [] 0 0 (MQ below (vp_Si (fun r_ => r_ = out)) (([.ref (a 0), .int p1] : List Value).toArray) s 0 0 (fun _ => False)) (F0 m pc ls [.int v]) := fun pc ls v hv hd => W.iret hx hb hr (fun t ht hW => ⟨v, rfl, hv, ht⟩) (fun q hq => absurd hq List.not_mem_nil) hd
  show W p l e ({ frames := 0, cells := 0, slots := 0, locals := 0 }) s m (([.ref (a 0), .int p1] : List Value).toArray) below meth c s.heap [] 0 0 (MQ below (vp_Si (fun r_ => r_ = out)) (([.ref (a 0), .int p1] : List Value).toArray) s 0 0 (fun _ => False)) (entryFrame m (([.ref (a 0), .int p1] : List Value).toArray) 2)
  generalize MQ below (vp_Si (fun r_ => r_ = out)) (([.ref (a 0), .int p1] : List Value).toArray) s 0 0 (fun _ => False) = Q at hret ⊢
  have hl := lv_entry ([.ref (a 0), .int p1]) (n := 2) (Nat.le_of_ble_eq_true rfl)
  rw [lg_entry_eq]
  generalize (lg_sl ([.ref (a 0), .int p1]) ++ List.replicate (2 - (lg_sl ([.ref (a 0), .int p1])).length) Slot.unset).toArray = ls at hl ⊢
  have hl : lv_has ls 2 [(0, .ref (a 0)), (1, .int p1)] := hl
  refine lv_aload_n hx hb dX4_needsOf_0 rfl (lv_at hl 0 rfl) ?_
  refine va_get (D := (dC, dI)) (ci := 4) (v := .ref (a 3)) (C := RX4) (T := TX4) (N := 29) hx hb hts iX4 hown hK hP 0 rfl rfl 12 (by decide) (hts _ wd_534) (fun _ h9 => h9) rfl dX4_needsOf_1 ?_
  refine lv_iconst (v := 2) hx hb dX4_needsOf_4 (by decide) ?_
  refine lv_iload_n hx hb dX4_needsOf_5 rfl (lv_at hl 1 rfl) ?_
  refine lv_imul hx hb dX4_needsOf_6 ?_
  obtain ⟨h1, hw⟩ := ixc_use hw
  refine va_iald hx hb hK hP 3 0 rfl rfl h1 dX4_needsOf_7 ?_
  refine lv_iconst (v := 1) hx hb dX4_needsOf_8 (by decide) ?_
  refine lv_icmp_ne (tgt := 16) hx hb dX4_needsOf_9 (by decide) (fun c2 => ?_) (fun c2 => ?_)
  · have hw := ite_f hw c2
    refine lv_aload_n hx hb dX4_needsOf_16 rfl (lv_at hl 0 rfl) ?_
    refine va_get (D := (dC, dI)) (ci := 4) (v := .ref (a 3)) (C := RX4) (T := TX4) (N := 29) hx hb hts iX4 hown hK hP 0 rfl rfl 12 (by decide) (hts _ wd_534) (fun _ h9 => h9) rfl dX4_needsOf_17 ?_
    refine lv_iconst (v := 2) hx hb dX4_needsOf_20 (by decide) ?_
    refine lv_iload_n hx hb dX4_needsOf_21 rfl (lv_at hl 1 rfl) ?_
    refine lv_imul hx hb dX4_needsOf_22 ?_
    obtain ⟨h3, hw⟩ := ixc_use hw
    refine va_iald hx hb hK hP 3 0 rfl rfl h3 dX4_needsOf_23 ?_
    refine lv_iconst (v := 2) hx hb dX4_needsOf_24 (by decide) ?_
    refine lv_icmp_ne (tgt := 32) hx hb dX4_needsOf_25 (by decide) (fun c4 => ?_) (fun c4 => ?_)
    · have hw := ite_f hw c4
      refine lv_iconst (v := 1) hx hb dX4_needsOf_32 (by decide) ?_
      exact hret _ _ _ (Option.some.inj hw) dX4_needsOf_33
    · have hw := ite_t hw c4
      refine lv_iconst (v := 3) hx hb dX4_needsOf_28 (by decide) ?_
      refine lv_goto (tgt := 33) hx hb dX4_needsOf_29 (by decide) ?_
      exact hret _ _ _ (Option.some.inj hw) dX4_needsOf_33
  · have hw := ite_t hw c2
    refine lv_iconst (v := 5) hx hb dX4_needsOf_12 (by decide) ?_
    refine lv_goto (tgt := 33) hx hb dX4_needsOf_13 (by decide) ?_
    exact hret _ _ _ (Option.some.inj hw) dX4_needsOf_33
set_option maxHeartbeats 4000000 in
set_option maxRecDepth 100000 in
theorem c_X4_criesOf (l : Launch) (dC : Nat → ClassId) (dI : Nat → Nat → Nat) (a : Nat → Nat) (cA : ClassId) (X : MS) (p1 : Int32) (out : Int32) (hw : f_X4_criesOf X p1 = some out) : Met l yX4_criesOf (.code yX4_criesOf cX4_criesOf 2 (some .int) :: lw_g) ({ frames := 0, cells := 0, slots := 0, locals := 0 }) (PcM dC dI a cA X [.ref (a 0), .int p1]) (vp_Si (fun r_ => r_ = out)) 0 0 (fun _ => False) := by
  unfold f_X4_criesOf at hw
  refine Met.ofW (cc := cX4_criesOf) (maxL := 2) (ret := (some .int)) (by decide) rfl ?_
  intro p e s m args below meth c s₁ B hml hv
  obtain ⟨rfl, hP, hK⟩ := hv
  have hx := B.exec
  have hb := B.bytes
  have hr := B.returns
  have hts0 := atoms_spec (ws := (.code yX4_criesOf cX4_criesOf 2 (some .int) :: lw_g)) B.pre
  have hts : ∀ w ∈ lw_g, w.before (([.ref (a 0), .int p1] : List Value).toArray) s = true := fun w h => hts0 w (List.mem_cons_of_mem _ h)
  clear hts0
  have hown : s.vm.findClass RX4 = some m.cls := findClass_of_methodNamed B.named
  have hlocks := B.notSynchronized
  have hret : ∀ (pc : Nat) (ls : Array Slot) (v : Int32), v = out → decode cX4_criesOf pc = .ok (.ireturn, 1) → W p l e ({ frames := 0, cells := 0, slots := 0, locals := 0 }) s m (([.ref (a 0), .int p1] : List Value).toArray) below meth c s.heap [] 0 0 (MQ below (vp_Si (fun r_ => r_ = out)) (([.ref (a 0), .int p1] : List Value).toArray) s 0 0 (fun _ => False)) (F0 m pc ls [.int v]) := fun pc ls v hv hd => W.iret hx hb hr (fun t ht hW => ⟨v, rfl, hv, ht⟩) (fun q hq => absurd hq List.not_mem_nil) hd
  show W p l e ({ frames := 0, cells := 0, slots := 0, locals := 0 }) s m (([.ref (a 0), .int p1] : List Value).toArray) below meth c s.heap [] 0 0 (MQ below (vp_Si (fun r_ => r_ = out)) (([.ref (a 0), .int p1] : List Value).toArray) s 0 0 (fun _ => False)) (entryFrame m (([.ref (a 0), .int p1] : List Value).toArray) 2)
  generalize MQ below (vp_Si (fun r_ => r_ = out)) (([.ref (a 0), .int p1] : List Value).toArray) s 0 0 (fun _ => False) = Q at hret ⊢
  have hl := lv_entry ([.ref (a 0), .int p1]) (n := 2) (Nat.le_of_ble_eq_true rfl)
  rw [lg_entry_eq]
  generalize (lg_sl ([.ref (a 0), .int p1]) ++ List.replicate (2 - (lg_sl ([.ref (a 0), .int p1])).length) Slot.unset).toArray = ls at hl ⊢
  have hl : lv_has ls 2 [(0, .ref (a 0)), (1, .int p1)] := hl
  refine lv_aload_n hx hb dX4_criesOf_0 rfl (lv_at hl 0 rfl) ?_
  refine va_get (D := (dC, dI)) (ci := 4) (v := .ref (a 3)) (C := RX4) (T := TX4) (N := 29) hx hb hts iX4 hown hK hP 0 rfl rfl 12 (by decide) (hts _ wd_534) (fun _ h9 => h9) rfl dX4_criesOf_1 ?_
  refine lv_iconst (v := 2) hx hb dX4_criesOf_4 (by decide) ?_
  refine lv_iload_n hx hb dX4_criesOf_5 rfl (lv_at hl 1 rfl) ?_
  refine lv_imul hx hb dX4_criesOf_6 ?_
  obtain ⟨h1, hw⟩ := ixc_use hw
  refine va_iald hx hb hK hP 3 0 rfl rfl h1 dX4_criesOf_7 ?_
  refine lv_iconst (v := 3) hx hb dX4_criesOf_8 (by decide) ?_
  refine lv_icmp_ne (tgt := 16) hx hb dX4_criesOf_9 (by decide) (fun c2 => ?_) (fun c2 => ?_)
  · have hw := ite_f hw c2
    refine lv_aload_n hx hb dX4_criesOf_16 rfl (lv_at hl 0 rfl) ?_
    refine va_get (D := (dC, dI)) (ci := 4) (v := .ref (a 3)) (C := RX4) (T := TX4) (N := 29) hx hb hts iX4 hown hK hP 0 rfl rfl 12 (by decide) (hts _ wd_534) (fun _ h9 => h9) rfl dX4_criesOf_17 ?_
    refine lv_iconst (v := 2) hx hb dX4_criesOf_20 (by decide) ?_
    refine lv_iload_n hx hb dX4_criesOf_21 rfl (lv_at hl 1 rfl) ?_
    refine lv_imul hx hb dX4_criesOf_22 ?_
    obtain ⟨h3, hw⟩ := ixc_use hw
    refine va_iald hx hb hK hP 3 0 rfl rfl h3 dX4_criesOf_23 ?_
    refine lv_iconst (v := 4) hx hb dX4_criesOf_24 (by decide) ?_
    refine lv_icmp_ne (tgt := 33) hx hb dX4_criesOf_25 (by decide) (fun c4 => ?_) (fun c4 => ?_)
    · have hw := ite_f hw c4
      refine lv_iconst (v := 0) hx hb dX4_criesOf_33 (by decide) ?_
      exact hret _ _ _ (Option.some.inj hw) dX4_criesOf_34
    · have hw := ite_t hw c4
      refine lv_bipush (v := 7) hx hb dX4_criesOf_28 (by decide) ?_
      refine lv_goto (tgt := 34) hx hb dX4_criesOf_30 (by decide) ?_
      exact hret _ _ _ (Option.some.inj hw) dX4_criesOf_34
  · have hw := ite_t hw c2
    refine lv_iconst (v := 4) hx hb dX4_criesOf_12 (by decide) ?_
    refine lv_goto (tgt := 34) hx hb dX4_criesOf_13 (by decide) ?_
    exact hret _ _ _ (Option.some.inj hw) dX4_criesOf_34
set_option maxHeartbeats 4000000 in
set_option maxRecDepth 100000 in
theorem c_X4_listenerOf (l : Launch) (dC : Nat → ClassId) (dI : Nat → Nat → Nat) (a : Nat → Nat) (cA : ClassId) (X : MS) (p1 : Int32) (p2 : Int32) (out : Int32) (hw : f_X4_listenerOf X p1 p2 = some out) : Met l yX4_listenerOf (.code yX4_listenerOf cX4_listenerOf 3 (some .int) :: lw_g) ({ frames := 1, cells := 0, slots := 0, locals := 23 }) (PcM dC dI a cA X [.ref (a 0), .int p1, .int p2]) (vp_Si (fun r_ => r_ = out)) 0 0 (fun _ => False) := by
  unfold f_X4_listenerOf at hw
  refine Met.ofW (cc := cX4_listenerOf) (maxL := 3) (ret := (some .int)) (by decide) rfl ?_
  intro p e s m args below meth c s₁ B hml hv
  obtain ⟨rfl, hP, hK⟩ := hv
  have hx := B.exec
  have hb := B.bytes
  have hr := B.returns
  have hts0 := atoms_spec (ws := (.code yX4_listenerOf cX4_listenerOf 3 (some .int) :: lw_g)) B.pre
  have hts : ∀ w ∈ lw_g, w.before (([.ref (a 0), .int p1, .int p2] : List Value).toArray) s = true := fun w h => hts0 w (List.mem_cons_of_mem _ h)
  clear hts0
  have hown : s.vm.findClass RX4 = some m.cls := findClass_of_methodNamed B.named
  have hlocks := B.notSynchronized
  have hret : ∀ (pc : Nat) (ls : Array Slot) (v : Int32), v = out → decode cX4_listenerOf pc = .ok (.ireturn, 1) → W p l e ({ frames := 1, cells := 0, slots := 0, locals := 23 }) s m (([.ref (a 0), .int p1, .int p2] : List Value).toArray) below meth c s.heap [] 0 0 (MQ below (vp_Si (fun r_ => r_ = out)) (([.ref (a 0), .int p1, .int p2] : List Value).toArray) s 0 0 (fun _ => False)) (F0 m pc ls [.int v]) := fun pc ls v hv hd => W.iret hx hb hr (fun t ht hW => ⟨v, rfl, hv, ht⟩) (fun q hq => absurd hq List.not_mem_nil) hd
  show W p l e ({ frames := 1, cells := 0, slots := 0, locals := 23 }) s m (([.ref (a 0), .int p1, .int p2] : List Value).toArray) below meth c s.heap [] 0 0 (MQ below (vp_Si (fun r_ => r_ = out)) (([.ref (a 0), .int p1, .int p2] : List Value).toArray) s 0 0 (fun _ => False)) (entryFrame m (([.ref (a 0), .int p1, .int p2] : List Value).toArray) 3)
  generalize MQ below (vp_Si (fun r_ => r_ = out)) (([.ref (a 0), .int p1, .int p2] : List Value).toArray) s 0 0 (fun _ => False) = Q at hret ⊢
  have hl := lv_entry ([.ref (a 0), .int p1, .int p2]) (n := 3) (Nat.le_of_ble_eq_true rfl)
  rw [lg_entry_eq]
  generalize (lg_sl ([.ref (a 0), .int p1, .int p2]) ++ List.replicate (3 - (lg_sl ([.ref (a 0), .int p1, .int p2])).length) Slot.unset).toArray = ls at hl ⊢
  have hl : lv_has ls 3 [(0, .ref (a 0)), (1, .int p1), (2, .int p2)] := hl
  refine lv_iload_n hx hb dX4_listenerOf_0 rfl (lv_at hl 2 rfl) ?_
  by_cases c1 : p2 = 0
  · have hw := ite_t hw c1
    refine lv_tableIn (off := 39) (tgt := 40) hx hb dX4_listenerOf_1 (by rw [c1]; decide) (by rw [c1]; decide) (by rw [c1]; rfl) (by decide) ?_
    refine lv_aload_n hx hb dX4_listenerOf_40 rfl (lv_at hl 0 rfl) ?_
    refine va_get (D := (dC, dI)) (ci := 4) (v := .ref (a 3)) (C := RX4) (T := TX4) (N := 29) hx hb hts iX4 hown hK hP 0 rfl rfl 12 (by decide) (hts _ wd_534) (fun _ h9 => h9) rfl dX4_listenerOf_41 ?_
    refine lv_iconst (v := 2) hx hb dX4_listenerOf_44 (by decide) ?_
    refine lv_iload_n hx hb dX4_listenerOf_45 rfl (lv_at hl 1 rfl) ?_
    refine lv_imul hx hb dX4_listenerOf_46 ?_
    refine lv_iload_n hx hb dX4_listenerOf_47 rfl (lv_at hl 2 rfl) ?_
    refine lv_iadd hx hb dX4_listenerOf_48 ?_
    obtain ⟨h2, hw⟩ := ixc_use hw
    refine va_iald hx hb hK hP 3 0 rfl rfl h2 dX4_listenerOf_49 ?_
    exact hret _ _ _ (Option.some.inj hw) dX4_listenerOf_50
  have hw := ite_f hw c1
  by_cases c3 : p2 = 1
  · have hw := ite_t hw c3
    refine lv_tableIn (off := 39) (tgt := 40) hx hb dX4_listenerOf_1 (by rw [c3]; decide) (by rw [c3]; decide) (by rw [c3]; rfl) (by decide) ?_
    refine lv_aload_n hx hb dX4_listenerOf_40 rfl (lv_at hl 0 rfl) ?_
    refine va_get (D := (dC, dI)) (ci := 4) (v := .ref (a 3)) (C := RX4) (T := TX4) (N := 29) hx hb hts iX4 hown hK hP 0 rfl rfl 12 (by decide) (hts _ wd_534) (fun _ h9 => h9) rfl dX4_listenerOf_41 ?_
    refine lv_iconst (v := 2) hx hb dX4_listenerOf_44 (by decide) ?_
    refine lv_iload_n hx hb dX4_listenerOf_45 rfl (lv_at hl 1 rfl) ?_
    refine lv_imul hx hb dX4_listenerOf_46 ?_
    refine lv_iload_n hx hb dX4_listenerOf_47 rfl (lv_at hl 2 rfl) ?_
    refine lv_iadd hx hb dX4_listenerOf_48 ?_
    obtain ⟨h4, hw⟩ := ixc_use hw
    refine va_iald hx hb hK hP 3 0 rfl rfl h4 dX4_listenerOf_49 ?_
    exact hret _ _ _ (Option.some.inj hw) dX4_listenerOf_50
  have hw := ite_f hw c3
  by_cases c5 : p2 = 2
  · have hw := ite_t hw c5
    refine lv_tableIn (off := 50) (tgt := 51) hx hb dX4_listenerOf_1 (by rw [c5]; decide) (by rw [c5]; decide) (by rw [c5]; rfl) (by decide) ?_
    refine lv_aload_n hx hb dX4_listenerOf_51 rfl (lv_at hl 0 rfl) ?_
    refine lv_aload_n hx hb dX4_listenerOf_52 rfl (lv_at hl 0 rfl) ?_
    refine va_get (D := (dC, dI)) (ci := 4) (v := .int (X.1 0 6)) (C := RX4) (T := TX4) (N := 29) hx hb hts iX4 hown hK hP 0 rfl rfl 6 (by decide) (hts _ wd_528) (fun _ h9 => h9) rfl dX4_listenerOf_53 ?_
    obtain ⟨r6, er6, hw⟩ := Option.bind_eq_some_iff.mp hw
    refine vp_callSi (va_runV (As := [.int (X.1 0 6)]) (rest := []) ⟨hx, hb, hml, hown, hts⟩ (c_X4_knowing l dC dI a cA X (X.1 0 6) r6 er6) ⟨callB_of 1 hts gd_X4_knowing rfl rfl rfl (hts _ wd_39) (hts _ wd_672) hd_X4_knowing ⟨Nat.le_of_ble_eq_true rfl, Nat.le_of_ble_eq_true rfl⟩, hts _ wd_674, hts _ wd_15⟩ ⟨blM, va_recv hK hP (ci := 4) (q0 := 0) rfl rfl, fun U hU hW => ⟨rfl, by rw [hU]; exact hP, va_K.moved hW.alike hK⟩⟩ rfl rfl hl.1 rfl (lv_room (Nat.le_of_ble_eq_true rfl)) dX4_listenerOf_56 ⟨Nat.zero_le _, Nat.zero_le _⟩).run (fun r_ e_ => ?_)
    subst r_
    refine lv_iload_n hx hb dX4_listenerOf_59 rfl (lv_at hl 1 rfl) ?_
    refine lv_ishr hx hb dX4_listenerOf_60 ?_
    refine lv_iconst (v := 1) hx hb dX4_listenerOf_61 (by decide) ?_
    refine lv_iand hx hb dX4_listenerOf_62 ?_
    exact hret _ _ _ (Option.some.inj hw) dX4_listenerOf_63
  have hw := ite_f hw c5
  by_cases c7 : p2 = 3
  · have hw := ite_t hw c7
    refine lv_tableIn (off := 63) (tgt := 64) hx hb dX4_listenerOf_1 (by rw [c7]; decide) (by rw [c7]; decide) (by rw [c7]; rfl) (by decide) ?_
    refine lv_aload_n hx hb dX4_listenerOf_64 rfl (lv_at hl 0 rfl) ?_
    refine va_get (D := (dC, dI)) (ci := 4) (v := .int (X.1 0 6)) (C := RX4) (T := TX4) (N := 29) hx hb hts iX4 hown hK hP 0 rfl rfl 6 (by decide) (hts _ wd_528) (fun _ h9 => h9) rfl dX4_listenerOf_65 ?_
    refine lv_iload_n hx hb dX4_listenerOf_68 rfl (lv_at hl 1 rfl) ?_
    refine lv_ishr hx hb dX4_listenerOf_69 ?_
    refine lv_iconst (v := 1) hx hb dX4_listenerOf_70 (by decide) ?_
    refine lv_iand hx hb dX4_listenerOf_71 ?_
    exact hret _ _ _ (Option.some.inj hw) dX4_listenerOf_72
  have hw := ite_f hw c7
  by_cases c8 : p2 = 4
  · have hw := ite_t hw c8
    refine lv_tableIn (off := 72) (tgt := 73) hx hb dX4_listenerOf_1 (by rw [c8]; decide) (by rw [c8]; decide) (by rw [c8]; rfl) (by decide) ?_
    refine lv_aload_n hx hb dX4_listenerOf_73 rfl (lv_at hl 0 rfl) ?_
    refine lv_iload_n hx hb dX4_listenerOf_74 rfl (lv_at hl 1 rfl) ?_
    obtain ⟨r9, er9, hw⟩ := Option.bind_eq_some_iff.mp hw
    refine vp_callSi (va_runV (As := [.int p1]) (rest := []) ⟨hx, hb, hml, hown, hts⟩ (c_X4_needsOf l dC dI a cA X p1 r9 er9) ⟨callB_of 1 hts gd_X4_needsOf rfl rfl rfl (hts _ wd_39) (hts _ wd_676) hd_X4_needsOf ⟨Nat.le_of_ble_eq_true rfl, Nat.le_of_ble_eq_true rfl⟩, hts _ wd_678, hts _ wd_16⟩ ⟨blM, va_recv hK hP (ci := 4) (q0 := 0) rfl rfl, fun U hU hW => ⟨rfl, by rw [hU]; exact hP, va_K.moved hW.alike hK⟩⟩ rfl rfl hl.1 rfl (lv_room (Nat.le_of_ble_eq_true rfl)) dX4_listenerOf_75 ⟨Nat.zero_le _, Nat.zero_le _⟩).run (fun r_ e_ => ?_)
    subst r_
    exact hret _ _ _ (Option.some.inj hw) dX4_listenerOf_78
  have hw := ite_f hw c8
  by_cases c10 : p2 = 5
  · have hw := ite_t hw c10
    refine lv_tableIn (off := 78) (tgt := 79) hx hb dX4_listenerOf_1 (by rw [c10]; decide) (by rw [c10]; decide) (by rw [c10]; rfl) (by decide) ?_
    refine lv_aload_n hx hb dX4_listenerOf_79 rfl (lv_at hl 0 rfl) ?_
    refine lv_iload_n hx hb dX4_listenerOf_80 rfl (lv_at hl 1 rfl) ?_
    obtain ⟨r11, er11, hw⟩ := Option.bind_eq_some_iff.mp hw
    refine vp_callSi (va_runV (As := [.int p1]) (rest := []) ⟨hx, hb, hml, hown, hts⟩ (c_X4_criesOf l dC dI a cA X p1 r11 er11) ⟨callB_of 1 hts gd_X4_criesOf rfl rfl rfl (hts _ wd_39) (hts _ wd_680) hd_X4_criesOf ⟨Nat.le_of_ble_eq_true rfl, Nat.le_of_ble_eq_true rfl⟩, hts _ wd_682, hts _ wd_17⟩ ⟨blM, va_recv hK hP (ci := 4) (q0 := 0) rfl rfl, fun U hU hW => ⟨rfl, by rw [hU]; exact hP, va_K.moved hW.alike hK⟩⟩ rfl rfl hl.1 rfl (lv_room (Nat.le_of_ble_eq_true rfl)) dX4_listenerOf_81 ⟨Nat.zero_le _, Nat.zero_le _⟩).run (fun r_ e_ => ?_)
    subst r_
    exact hret _ _ _ (Option.some.inj hw) dX4_listenerOf_84
  have hw := ite_f hw c10
  refine lv_tableOut (tgt := 85) hx hb dX4_listenerOf_1 (by have qc1 := i32_ne c1 (z := 0) (by decide); have qc3 := i32_ne c3 (z := 1) (by decide); have qc5 := i32_ne c5 (z := 2) (by decide); have qc7 := i32_ne c7 (z := 3) (by decide); have qc8 := i32_ne c8 (z := 4) (by decide); have qc10 := i32_ne c10 (z := 5) (by decide); omega) (by decide) ?_
  refine lv_bipush (v := (-102)) hx hb dX4_listenerOf_85 (by decide) ?_
  exact hret _ _ _ (Option.some.inj hw) dX4_listenerOf_87
set_option maxHeartbeats 4000000 in
set_option maxRecDepth 100000 in
theorem c_X4_about (l : Launch) (dC : Nat → ClassId) (dI : Nat → Nat → Nat) (a : Nat → Nat) (cA : ClassId) (X : MS) (p1 : Int32) (p2 : Int32) (out : Int32) (hw : f_X4_about X p1 p2 = some out) : Met l yX4_about (.code yX4_about cX4_about 3 (some .int) :: lw_g) ({ frames := 2, cells := 0, slots := 0, locals := 46 }) (PcM dC dI a cA X [.ref (a 0), .int p1, .int p2]) (vp_Si (fun r_ => r_ = out)) 0 0 (fun _ => False) := by
  unfold f_X4_about at hw
  refine Met.ofW (cc := cX4_about) (maxL := 3) (ret := (some .int)) (by decide) rfl ?_
  intro p e s m args below meth c s₁ B hml hv
  obtain ⟨rfl, hP, hK⟩ := hv
  have hx := B.exec
  have hb := B.bytes
  have hr := B.returns
  have hts0 := atoms_spec (ws := (.code yX4_about cX4_about 3 (some .int) :: lw_g)) B.pre
  have hts : ∀ w ∈ lw_g, w.before (([.ref (a 0), .int p1, .int p2] : List Value).toArray) s = true := fun w h => hts0 w (List.mem_cons_of_mem _ h)
  clear hts0
  have hown : s.vm.findClass RX4 = some m.cls := findClass_of_methodNamed B.named
  have hlocks := B.notSynchronized
  have hret : ∀ (pc : Nat) (ls : Array Slot) (v : Int32), v = out → decode cX4_about pc = .ok (.ireturn, 1) → W p l e ({ frames := 2, cells := 0, slots := 0, locals := 46 }) s m (([.ref (a 0), .int p1, .int p2] : List Value).toArray) below meth c s.heap [] 0 0 (MQ below (vp_Si (fun r_ => r_ = out)) (([.ref (a 0), .int p1, .int p2] : List Value).toArray) s 0 0 (fun _ => False)) (F0 m pc ls [.int v]) := fun pc ls v hv hd => W.iret hx hb hr (fun t ht hW => ⟨v, rfl, hv, ht⟩) (fun q hq => absurd hq List.not_mem_nil) hd
  show W p l e ({ frames := 2, cells := 0, slots := 0, locals := 46 }) s m (([.ref (a 0), .int p1, .int p2] : List Value).toArray) below meth c s.heap [] 0 0 (MQ below (vp_Si (fun r_ => r_ = out)) (([.ref (a 0), .int p1, .int p2] : List Value).toArray) s 0 0 (fun _ => False)) (entryFrame m (([.ref (a 0), .int p1, .int p2] : List Value).toArray) 3)
  generalize MQ below (vp_Si (fun r_ => r_ = out)) (([.ref (a 0), .int p1, .int p2] : List Value).toArray) s 0 0 (fun _ => False) = Q at hret ⊢
  have hl := lv_entry ([.ref (a 0), .int p1, .int p2]) (n := 3) (Nat.le_of_ble_eq_true rfl)
  rw [lg_entry_eq]
  generalize (lg_sl ([.ref (a 0), .int p1, .int p2]) ++ List.replicate (3 - (lg_sl ([.ref (a 0), .int p1, .int p2])).length) Slot.unset).toArray = ls at hl ⊢
  have hl : lv_has ls 3 [(0, .ref (a 0)), (1, .int p1), (2, .int p2)] := hl
  refine lv_aload_n hx hb dX4_about_0 rfl (lv_at hl 0 rfl) ?_
  refine lv_iload_n hx hb dX4_about_1 rfl (lv_at hl 1 rfl) ?_
  obtain ⟨r1, er1, hw⟩ := Option.bind_eq_some_iff.mp hw
  refine vp_callSi (va_runV (As := [.int p1]) (rest := []) ⟨hx, hb, hml, hown, hts⟩ (c_X4_isListener l dC dI a cA X p1 r1 er1) ⟨callB_of 1 hts gd_X4_isListener rfl rfl rfl (hts _ wd_39) (hts _ wd_664) hd_X4_isListener ⟨Nat.le_of_ble_eq_true rfl, Nat.le_of_ble_eq_true rfl⟩, hts _ wd_666, hts _ wd_13⟩ ⟨blM, va_recv hK hP (ci := 4) (q0 := 0) rfl rfl, fun U hU hW => ⟨rfl, by rw [hU]; exact hP, va_K.moved hW.alike hK⟩⟩ rfl rfl hl.1 rfl (lv_room (Nat.le_of_ble_eq_true rfl)) dX4_about_2 ⟨Nat.zero_le _, Nat.zero_le _⟩).run (fun r_ e_ => ?_)
  subst r_
  refine lv_if_eq (tgt := 17) hx hb dX4_about_5 (by decide) (fun c2 => ?_) (fun c2 => ?_)
  · have hw := ite_t hw c2
    refine lv_bipush (v := (-101)) hx hb dX4_about_17 (by decide) ?_
    exact hret _ _ _ (Option.some.inj hw) dX4_about_19
  · have hw := ite_f hw c2
    refine lv_aload_n hx hb dX4_about_8 rfl (lv_at hl 0 rfl) ?_
    refine lv_iload_n hx hb dX4_about_9 rfl (lv_at hl 1 rfl) ?_
    refine lv_iload_n hx hb dX4_about_10 rfl (lv_at hl 2 rfl) ?_
    obtain ⟨r3, er3, hw⟩ := Option.bind_eq_some_iff.mp hw
    refine vp_callSi (va_runV (As := [.int p1, .int p2]) (rest := []) ⟨hx, hb, hml, hown, hts⟩ (c_X4_listenerOf l dC dI a cA X p1 p2 r3 er3) ⟨callB_of 2 hts gd_X4_listenerOf rfl rfl rfl (hts _ wd_39) (hts _ wd_668) hd_X4_listenerOf ⟨Nat.le_of_ble_eq_true rfl, Nat.le_of_ble_eq_true rfl⟩, hts _ wd_670, hts _ wd_14⟩ ⟨blM, va_recv hK hP (ci := 4) (q0 := 0) rfl rfl, fun U hU hW => ⟨rfl, by rw [hU]; exact hP, va_K.moved hW.alike hK⟩⟩ rfl rfl hl.1 rfl (lv_room (Nat.le_of_ble_eq_true rfl)) dX4_about_11 ⟨Nat.zero_le _, Nat.zero_le _⟩).run (fun r_ e_ => ?_)
    subst r_
    refine lv_goto (tgt := 19) hx hb dX4_about_14 (by decide) ?_
    exact hret _ _ _ (Option.some.inj hw) dX4_about_19
set_option maxHeartbeats 4000000 in
set_option maxRecDepth 100000 in
theorem c_X3_isOfKind (l : Launch) (p0 : Int32) (p1 : Int32) (out : Int32) (hw : f_X3_isOfKind p0 p1 = some out) : Met l yX3_isOfKind (.code yX3_isOfKind cX3_isOfKind 2 (some .boolean) :: lw_g) ({ frames := 0, cells := 0, slots := 0, locals := 0 }) (Pc0 [.int p0, .int p1]) (vp_Si (fun r_ => r_ = out)) 0 0 (fun _ => False) := by
  unfold f_X3_isOfKind at hw
  refine Met.ofW (cc := cX3_isOfKind) (maxL := 2) (ret := (some .boolean)) (by decide) rfl ?_
  intro p e s m args below meth c s₁ B hml hv
  obtain ⟨rfl, -⟩ := hv
  have hx := B.exec
  have hb := B.bytes
  have hr := B.returns
  have hts0 := atoms_spec (ws := (.code yX3_isOfKind cX3_isOfKind 2 (some .boolean) :: lw_g)) B.pre
  have hts : ∀ w ∈ lw_g, w.before (([.int p0, .int p1] : List Value).toArray) s = true := fun w h => hts0 w (List.mem_cons_of_mem _ h)
  clear hts0
  have hown : s.vm.findClass RX3 = some m.cls := findClass_of_methodNamed B.named
  have hlocks := B.notSynchronized
  have hret : ∀ (pc : Nat) (ls : Array Slot) (v : Int32), v = out → (hz : narrow .boolean (.int v) = .int v) → decode cX3_isOfKind pc = .ok (.ireturn, 1) → W p l e ({ frames := 0, cells := 0, slots := 0, locals := 0 }) s m (([.int p0, .int p1] : List Value).toArray) below meth c s.heap [] 0 0 (MQ below (vp_Si (fun r_ => r_ = out)) (([.int p0, .int p1] : List Value).toArray) s 0 0 (fun _ => False)) (F0 m pc ls [.int v]) := fun pc ls v hv hz hd => W.zret hx hb hr hz (fun t ht hW => ⟨v, rfl, hv, ht⟩) (fun q hq => absurd hq List.not_mem_nil) hd
  show W p l e ({ frames := 0, cells := 0, slots := 0, locals := 0 }) s m (([.int p0, .int p1] : List Value).toArray) below meth c s.heap [] 0 0 (MQ below (vp_Si (fun r_ => r_ = out)) (([.int p0, .int p1] : List Value).toArray) s 0 0 (fun _ => False)) (entryFrame m (([.int p0, .int p1] : List Value).toArray) 2)
  generalize MQ below (vp_Si (fun r_ => r_ = out)) (([.int p0, .int p1] : List Value).toArray) s 0 0 (fun _ => False) = Q at hret ⊢
  have hl := lv_entry ([.int p0, .int p1]) (n := 2) (Nat.le_of_ble_eq_true rfl)
  rw [lg_entry_eq]
  generalize (lg_sl ([.int p0, .int p1]) ++ List.replicate (2 - (lg_sl ([.int p0, .int p1])).length) Slot.unset).toArray = ls at hl ⊢
  have hl : lv_has ls 2 [(0, .int p0), (1, .int p1)] := hl
  refine lv_iload_n hx hb dX3_isOfKind_0 rfl (lv_at hl 1 rfl) ?_
  refine lv_if_eq (tgt := 19) hx hb dX3_isOfKind_1 (by decide) (fun c1 => ?_) (fun c1 => ?_)
  · have hw := ite_t hw c1
    refine lv_iconst (v := 1) hx hb dX3_isOfKind_19 (by decide) ?_
    refine lv_goto (tgt := 24) hx hb dX3_isOfKind_20 (by decide) ?_
    exact hret _ _ _ (Option.some.inj hw) rfl dX3_isOfKind_24
  · have hw := ite_f hw c1
    refine lv_iload_n hx hb dX3_isOfKind_4 rfl (lv_at hl 0 rfl) ?_
    refine lv_iload_n hx hb dX3_isOfKind_5 rfl (lv_at hl 1 rfl) ?_
    refine lv_icmp_eq (tgt := 19) hx hb dX3_isOfKind_6 (by decide) (fun c2 => ?_) (fun c2 => ?_)
    · have hw := ite_t hw c2
      refine lv_iconst (v := 1) hx hb dX3_isOfKind_19 (by decide) ?_
      refine lv_goto (tgt := 24) hx hb dX3_isOfKind_20 (by decide) ?_
      exact hret _ _ _ (Option.some.inj hw) rfl dX3_isOfKind_24
    · have hw := ite_f hw c2
      refine lv_iload_n hx hb dX3_isOfKind_9 rfl (lv_at hl 0 rfl) ?_
      refine lv_iconst (v := 4) hx hb dX3_isOfKind_10 (by decide) ?_
      refine lv_icmp_ne (tgt := 23) hx hb dX3_isOfKind_11 (by decide) (fun c3 => ?_) (fun c3 => ?_)
      · have hw := ite_f hw c3
        refine lv_iconst (v := 0) hx hb dX3_isOfKind_23 (by decide) ?_
        exact hret _ _ _ (Option.some.inj hw) rfl dX3_isOfKind_24
      · have hw := ite_t hw c3
        refine lv_iload_n hx hb dX3_isOfKind_14 rfl (lv_at hl 1 rfl) ?_
        refine lv_iconst (v := 3) hx hb dX3_isOfKind_15 (by decide) ?_
        refine lv_icmp_ne (tgt := 23) hx hb dX3_isOfKind_16 (by decide) (fun c4 => ?_) (fun c4 => ?_)
        · have hw := ite_f hw c4
          refine lv_iconst (v := 0) hx hb dX3_isOfKind_23 (by decide) ?_
          exact hret _ _ _ (Option.some.inj hw) rfl dX3_isOfKind_24
        · have hw := ite_t hw c4
          refine lv_iconst (v := 1) hx hb dX3_isOfKind_19 (by decide) ?_
          refine lv_goto (tgt := 24) hx hb dX3_isOfKind_20 (by decide) ?_
          exact hret _ _ _ (Option.some.inj hw) rfl dX3_isOfKind_24
set_option maxHeartbeats 4000000 in
set_option maxRecDepth 100000 in
theorem c_X3_as (l : Launch) (dC : Nat → ClassId) (dI : Nat → Nat → Nat) (a : Nat → Nat) (cA : ClassId) (X : WS) (p1 : Int32) (p2 : Int32) (out : Int32) (hw : f_X3_as X p1 p2 = some out) : Met l yX3_as (.code yX3_as cX3_as 3 (some .int) :: lw_g) ({ frames := 1, cells := 0, slots := 0, locals := 21 }) (PcX dC dI a cA X [.ref (a 0), .int p1, .int p2]) (vp_Si (fun r_ => r_ = out)) 0 0 (fun _ => False) := by
  unfold f_X3_as at hw
  refine Met.ofW (cc := cX3_as) (maxL := 3) (ret := (some .int)) (by decide) rfl ?_
  intro p e s m args below meth c s₁ B hml hv
  obtain ⟨rfl, hP, hK, hN⟩ := hv
  have hx := B.exec
  have hb := B.bytes
  have hr := B.returns
  have hts0 := atoms_spec (ws := (.code yX3_as cX3_as 3 (some .int) :: lw_g)) B.pre
  have hts : ∀ w ∈ lw_g, w.before (([.ref (a 0), .int p1, .int p2] : List Value).toArray) s = true := fun w h => hts0 w (List.mem_cons_of_mem _ h)
  clear hts0
  have hown : s.vm.findClass RX3 = some m.cls := findClass_of_methodNamed B.named
  have hlocks := B.notSynchronized
  have hret : ∀ (pc : Nat) (ls : Array Slot) (v : Int32), v = out → decode cX3_as pc = .ok (.ireturn, 1) → W p l e ({ frames := 1, cells := 0, slots := 0, locals := 21 }) s m (([.ref (a 0), .int p1, .int p2] : List Value).toArray) below meth c s.heap [] 0 0 (MQ below (vp_Si (fun r_ => r_ = out)) (([.ref (a 0), .int p1, .int p2] : List Value).toArray) s 0 0 (fun _ => False)) (F0 m pc ls [.int v]) := fun pc ls v hv hd => W.iret hx hb hr (fun t ht hW => ⟨v, rfl, hv, ht⟩) (fun q hq => absurd hq List.not_mem_nil) hd
  show W p l e ({ frames := 1, cells := 0, slots := 0, locals := 21 }) s m (([.ref (a 0), .int p1, .int p2] : List Value).toArray) below meth c s.heap [] 0 0 (MQ below (vp_Si (fun r_ => r_ = out)) (([.ref (a 0), .int p1, .int p2] : List Value).toArray) s 0 0 (fun _ => False)) (entryFrame m (([.ref (a 0), .int p1, .int p2] : List Value).toArray) 3)
  generalize MQ below (vp_Si (fun r_ => r_ = out)) (([.ref (a 0), .int p1, .int p2] : List Value).toArray) s 0 0 (fun _ => False) = Q at hret ⊢
  have hl := lv_entry ([.ref (a 0), .int p1, .int p2]) (n := 3) (Nat.le_of_ble_eq_true rfl)
  rw [lg_entry_eq]
  generalize (lg_sl ([.ref (a 0), .int p1, .int p2]) ++ List.replicate (3 - (lg_sl ([.ref (a 0), .int p1, .int p2])).length) Slot.unset).toArray = ls at hl ⊢
  have hl : lv_has ls 3 [(0, .ref (a 0)), (1, .int p1), (2, .int p2)] := hl
  refine lv_aload_n hx hb dX3_as_0 rfl (lv_at hl 0 rfl) ?_
  refine lv_iload_n hx hb dX3_as_1 rfl (lv_at hl 1 rfl) ?_
  obtain ⟨r1, er1, hw⟩ := Option.bind_eq_some_iff.mp hw
  refine vp_callSi (va_runV (As := [.int p1]) (rest := []) ⟨hx, hb, hml, hown, hts⟩ (c_X3_isListener l dC dI a cA X p1 r1 er1) ⟨callB_of 1 hts gd_X3_isListener rfl rfl rfl (hts _ wd_35) (hts _ wd_286) hd_X3_isListener ⟨Nat.le_of_ble_eq_true rfl, Nat.le_of_ble_eq_true rfl⟩, hts _ wd_288, hts _ wd_2⟩ ⟨blX, va_recv hK hP (ci := 3) (q0 := 0) rfl rfl, fun U hU hW => ⟨rfl, by rw [hU]; exact hP, va_K.moved hW.alike hK, nst.warm hW hN⟩⟩ rfl rfl hl.1 rfl (lv_room (Nat.le_of_ble_eq_true rfl)) dX3_as_2 ⟨Nat.zero_le _, Nat.zero_le _⟩).run (fun r_ e_ => ?_)
  subst r_
  refine lv_if_ne (tgt := 11) hx hb dX3_as_5 (by decide) (fun c2 => ?_) (fun c2 => ?_)
  · have hw := ite_f hw c2
    refine lv_iload_n hx hb dX3_as_11 rfl (lv_at hl 2 rfl) ?_
    obtain ⟨r3, er3, hw⟩ := Option.bind_eq_some_iff.mp hw
    refine vp_callSi (va_runS (As := [.int p2]) (rest := []) ⟨hx, hb, hml, hown, hts⟩ (c_X3_isKind l p2 r3 er3) ⟨callB_of 1 hts gd_X3_isKind rfl rfl rfl (hts _ wd_35) (hts _ wd_269) hd_X3_isKind ⟨Nat.le_of_ble_eq_true rfl, Nat.le_of_ble_eq_true rfl⟩, hts _ wd_270⟩ ⟨bl0, fun U hU hW => ⟨rfl, trivial⟩⟩ rfl rfl hl.1 rfl (lv_room (Nat.le_of_ble_eq_true rfl)) dX3_as_12 ⟨Nat.zero_le _, Nat.zero_le _⟩).run (fun r_ e_ => ?_)
    subst r_
    refine lv_if_ne (tgt := 21) hx hb dX3_as_15 (by decide) (fun c4 => ?_) (fun c4 => ?_)
    · have hw := ite_f hw c4
      refine lv_aload_n hx hb dX3_as_21 rfl (lv_at hl 0 rfl) ?_
      refine va_get (D := (dC, dI)) (ci := 3) (v := .ref (a 3)) (C := RX3) (T := TX3) (N := 6) hx hb hts iX3 hown hK hP 0 rfl rfl 1 (by decide) (hts _ wd_179) (fun _ h9 => h9) rfl dX3_as_22 ?_
      refine va_getN (D := (dC, dI)) (ci := 2) (v := .ref (a 5)) (C := RX2) (T := TX2) (N := 17) hx hb hts iX2 hown hK hP 3 rfl rfl 1 (by decide) (va_Nw.use rfl (hN _ nk_76)) (fun _ h9 => h9) rfl dX3_as_25 ?_
      refine lv_iload_n hx hb dX3_as_28 rfl (lv_at hl 1 rfl) ?_
      obtain ⟨h5, hw⟩ := ixc_use hw
      refine va_iald hx hb hK hP 5 0 rfl rfl h5 dX3_as_29 ?_
      refine lv_iload_n hx hb dX3_as_30 rfl (lv_at hl 2 rfl) ?_
      obtain ⟨r6, er6, hw⟩ := Option.bind_eq_some_iff.mp hw
      refine vp_callSi (va_runS (As := [.int (X 5 (Int32.toNatClampNeg p1)), .int p2]) (rest := []) ⟨hx, hb, hml, hown, hts⟩ (c_X3_isOfKind l (X 5 (Int32.toNatClampNeg p1)) p2 r6 er6) ⟨callB_of 2 hts gd_X3_isOfKind rfl rfl rfl (hts _ wd_35) (hts _ wd_301) hd_X3_isOfKind ⟨Nat.le_of_ble_eq_true rfl, Nat.le_of_ble_eq_true rfl⟩, hts _ wd_302⟩ ⟨bl0, fun U hU hW => ⟨rfl, trivial⟩⟩ rfl rfl hl.1 rfl (lv_room (Nat.le_of_ble_eq_true rfl)) dX3_as_31 ⟨Nat.zero_le _, Nat.zero_le _⟩).run (fun r_ e_ => ?_)
      subst r_
      refine lv_if_eq (tgt := 41) hx hb dX3_as_34 (by decide) (fun c7 => ?_) (fun c7 => ?_)
      · have hw := ite_t hw c7
        refine lv_iconst (v := (-1)) hx hb dX3_as_41 (by decide) ?_
        exact hret _ _ _ (Option.some.inj hw) dX3_as_42
      · have hw := ite_f hw c7
        refine lv_iload_n hx hb dX3_as_37 rfl (lv_at hl 1 rfl) ?_
        refine lv_goto (tgt := 42) hx hb dX3_as_38 (by decide) ?_
        exact hret _ _ _ (Option.some.inj hw) dX3_as_42
    · have hw := ite_t hw c4
      refine lv_bipush (v := (-102)) hx hb dX3_as_18 (by decide) ?_
      exact hret _ _ _ (Option.some.inj hw) dX3_as_20
  · have hw := ite_t hw c2
    refine lv_bipush (v := (-101)) hx hb dX3_as_8 (by decide) ?_
    exact hret _ _ _ (Option.some.inj hw) dX3_as_10
