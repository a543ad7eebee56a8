set_option maxHeartbeats 4000000 in
set_option maxRecDepth 100000 in
theorem c_X2_everyone (l : Launch) (dC : Nat → ClassId) (dI : Nat → Nat → Nat) (a : Nat → Nat) (cA : ClassId) (X : WS) (out : Int32) (hw : f_X2_everyone X = some out) : Met l yX2_everyone (.code yX2_everyone cX2_everyone 1 (some .int) :: lw_g) ({ frames := 0, cells := 0, slots := 0, locals := 0 }) (PcX dC dI a cA X [.ref (a 3)]) (vp_Si (fun r_ => r_ = out)) 0 0 (fun _ => False) := by
  unfold f_X2_everyone at hw
  refine Met.ofW (cc := cX2_everyone) (maxL := 1) (ret := (some .int)) (by decide) rfl ?_
  intro p e s m args below meth c s₁ B hml hv
  obtain ⟨rfl, hP, hK, hN⟩ := hv
  have hx := B.exec
  have hb := B.bytes
  have hr := B.returns
  have hts0 := atoms_spec (ws := (.code yX2_everyone cX2_everyone 1 (some .int) :: lw_g)) B.pre
  have hts : ∀ w ∈ lw_g, w.before (([.ref (a 3)] : List Value).toArray) s = true := fun w h => hts0 w (List.mem_cons_of_mem _ h)
  clear hts0
  have hown : s.vm.findClass RX2 = some m.cls := findClass_of_methodNamed B.named
  have hlocks := B.notSynchronized
  have hret : ∀ (pc : Nat) (ls : Array Slot) (v : Int32), v = out → decode cX2_everyone pc = .ok (.ireturn, 1) → W p l e ({ frames := 0, cells := 0, slots := 0, locals := 0 }) s m (([.ref (a 3)] : List Value).toArray) below meth c s.heap [] 0 0 (MQ below (vp_Si (fun r_ => r_ = out)) (([.ref (a 3)] : List Value).toArray) s 0 0 (fun _ => False)) (F0 m pc ls [.int v]) := fun pc ls v hv hd => W.iret hx hb hr (fun t ht hW => ⟨v, rfl, hv, ht⟩) (fun q hq => absurd hq List.not_mem_nil) hd
  show W p l e ({ frames := 0, cells := 0, slots := 0, locals := 0 }) s m (([.ref (a 3)] : List Value).toArray) below meth c s.heap [] 0 0 (MQ below (vp_Si (fun r_ => r_ = out)) (([.ref (a 3)] : List Value).toArray) s 0 0 (fun _ => False)) (entryFrame m (([.ref (a 3)] : List Value).toArray) 1)
  generalize MQ below (vp_Si (fun r_ => r_ = out)) (([.ref (a 3)] : List Value).toArray) s 0 0 (fun _ => False) = Q at hret ⊢
  have hl := lv_entry ([.ref (a 3)]) (n := 1) (Nat.le_of_ble_eq_true rfl)
  rw [lg_entry_eq]
  generalize (lg_sl ([.ref (a 3)]) ++ List.replicate (1 - (lg_sl ([.ref (a 3)])).length) Slot.unset).toArray = ls at hl ⊢
  have hl : lv_has ls 1 [(0, .ref (a 3))] := hl
  refine lv_iconst (v := 1) hx hb dX2_everyone_0 (by decide) ?_
  refine lv_aload_n hx hb dX2_everyone_1 rfl (lv_at hl 0 rfl) ?_
  refine va_get (D := (dC, dI)) (ci := 2) (v := .int (X 3 5)) (C := RX2) (T := TX2) (N := 17) hx hb hts iX2 hown hK hP 3 rfl rfl 5 (by decide) (hts _ wd_83) (fun _ h9 => h9) rfl dX2_everyone_2 ?_
  refine lv_ishl hx hb dX2_everyone_5 ?_
  refine lv_iconst (v := 1) hx hb dX2_everyone_6 (by decide) ?_
  refine lv_isub hx hb dX2_everyone_7 ?_
  exact hret _ _ _ (Option.some.inj hw) dX2_everyone_8
set_option maxHeartbeats 4000000 in
set_option maxRecDepth 100000 in
theorem c_X0_planFrom (l : Launch) (dC : Nat → ClassId) (dI : Nat → Nat → Nat) (a : Nat → Nat) (cA : ClassId) (X : WS) : ∀ (dd : Nat) (p1 : Int32) (p2 : Int32) (p3 : Int32) (p4 : Int32) (out : Int32) (_ : f_X0_planFrom X dd p1 p2 p3 p4 = some out), Met l yX0_planFrom (.code yX0_planFrom cX0_planFrom 9 (some .int) :: lw_g) ({ frames := dd * 1 + 4, cells := 0, slots := 0, locals := dd * 28 + 105 }) (PcX dC dI a cA X [.ref (a 3), .int p1, .int p2, .int p3, .int p4]) (vp_Si (fun r_ => r_ = out)) 0 0 (fun _ => False) := by
  intro dd
  induction dd with
  | zero => intro p1 p2 p3 p4 out hw; rw [f_X0_planFrom] at hw; cases hw
  | succ dd ihr =>
  intro p1 p2 p3 p4 out hw
  rw [f_X0_planFrom] at hw
  refine Met.ofW (cc := cX0_planFrom) (maxL := 9) (ret := (some .int)) (by decide) rfl ?_
  intro p e s m args below meth c s₁ B hml hv
  obtain ⟨rfl, hP, hK, hN⟩ := hv
  have hx := B.exec
  have hb := B.bytes
  have hr := B.returns
  have hts0 := atoms_spec (ws := (.code yX0_planFrom cX0_planFrom 9 (some .int) :: lw_g)) B.pre
  have hts : ∀ w ∈ lw_g, w.before (([.ref (a 3), .int p1, .int p2, .int p3, .int p4] : List Value).toArray) s = true := fun w h => hts0 w (List.mem_cons_of_mem _ h)
  clear hts0
  have hown : s.vm.findClass RX0 = some m.cls := findClass_of_methodNamed B.named
  have hlocks := B.notSynchronized
  have hret : ∀ (pc : Nat) (ls : Array Slot) (v : Int32), v = out → decode cX0_planFrom pc = .ok (.ireturn, 1) → W p l e ({ frames := (dd + 1) * 1 + 4, cells := 0, slots := 0, locals := (dd + 1) * 28 + 105 }) s m (([.ref (a 3), .int p1, .int p2, .int p3, .int p4] : List Value).toArray) below meth c s.heap [] 0 0 (MQ below (vp_Si (fun r_ => r_ = out)) (([.ref (a 3), .int p1, .int p2, .int p3, .int p4] : List Value).toArray) s 0 0 (fun _ => False)) (F0 m pc ls [.int v]) := fun pc ls v hv hd => W.iret hx hb hr (fun t ht hW => ⟨v, rfl, hv, ht⟩) (fun q hq => absurd hq List.not_mem_nil) hd
  show W p l e ({ frames := (dd + 1) * 1 + 4, cells := 0, slots := 0, locals := (dd + 1) * 28 + 105 }) s m (([.ref (a 3), .int p1, .int p2, .int p3, .int p4] : List Value).toArray) below meth c s.heap [] 0 0 (MQ below (vp_Si (fun r_ => r_ = out)) (([.ref (a 3), .int p1, .int p2, .int p3, .int p4] : List Value).toArray) s 0 0 (fun _ => False)) (entryFrame m (([.ref (a 3), .int p1, .int p2, .int p3, .int p4] : List Value).toArray) 9)
  generalize MQ below (vp_Si (fun r_ => r_ = out)) (([.ref (a 3), .int p1, .int p2, .int p3, .int p4] : List Value).toArray) s 0 0 (fun _ => False) = Q at hret ⊢
  obtain ⟨rec, erec⟩ : ∃ y : Int32 → Int32 → Int32 → Int32 → Option Int32, y = f_X0_planFrom X dd := ⟨_, rfl⟩
  rw [← erec] at hw
  rw [← erec] at ihr
  have L48 : ∀ (v1 : Int32), ∀ (v2 : Int32), ∀ (v3 : Int32), ∀ (v4 : Int32), ∀ (v5 : Int32), ∀ n : Nat, ∀ (v6 : Int32), g_X0_planFrom_48 X rec v1 v2 v3 v4 v5 n v6 = some out → ∀ ls : Array Slot, lv_has ls 9 [(0, .ref (a 3)), (1, .int v1), (2, .int v2), (3, .int v3), (4, .int v4), (5, .int v5), (6, .int v6)] → W p l e ({ frames := (dd + 1) * 1 + 4, cells := 0, slots := 0, locals := (dd + 1) * 28 + 105 }) s m (([.ref (a 3), .int p1, .int p2, .int p3, .int p4] : List Value).toArray) below meth c s.heap [] 0 0 Q (F0 m 48 ls []) := by
    intro v1 v2 v3 v4 v5 n
    induction n with
    | zero =>
      intro v6 hw
      rw [g_X0_planFrom_48] at hw
      cases hw
    | succ n ih =>
      intro v6 hw ls hl
      rw [g_X0_planFrom_48] at hw
      refine lv_iload hx hb dX0_planFrom_48 (lv_at hl 6 rfl) ?_
      refine lv_bipush (v := 6) hx hb dX0_planFrom_50 (by decide) ?_
      refine lv_icmp_ge (tgt := 101) hx hb dX0_planFrom_52 (by decide) (fun c7 => ?_) (fun c7 => ?_)
      · have hw := ite_t hw c7
        refine lv_iconst (v := (-1)) hx hb dX0_planFrom_101 (by decide) ?_
        exact hret _ _ _ (Option.some.inj hw) dX0_planFrom_102
      · have hw := ite_f hw c7
        refine lv_aload_n hx hb dX0_planFrom_55 rfl (lv_at hl 0 rfl) ?_
        refine lv_iload_n hx hb dX0_planFrom_56 rfl (lv_at hl 2 rfl) ?_
        refine lv_iload hx hb dX0_planFrom_57 (lv_at hl 6 rfl) ?_
        refine lv_iload hx hb dX0_planFrom_59 (lv_at hl 5 rfl) ?_
        refine lv_iconst (v := 0) hx hb dX0_planFrom_61 (by decide) ?_
        obtain ⟨r8, er8, hw⟩ := Option.bind_eq_some_iff.mp hw
        refine vp_callSi (va_runV (As := [.int v2, .int v6, .int v5, .int 0]) (rest := []) ⟨hx, hb, hml, hown, hts⟩ (c_X2_spread l dC dI a cA X v2 v6 v5 0 r8 er8) ⟨callB_of 4 hts gd_X2_spread rfl rfl rfl (hts _ wd_37) (hts _ wd_378) hd_X2_spread ⟨by show 2 + 1 ≤ (dd + 1) * 1 + 4; omega, by show 8 + (9 + 11) + 49 ≤ (dd + 1) * 28 + 105; omega⟩, hts _ wd_320, hts _ wd_321⟩ ⟨blX, va_recv hK hP (ci := 2) (q0 := 3) rfl rfl, fun U hU hW => ⟨rfl, by rw [hU]; exact hP, va_K.moved hW.alike hK, nst.warm hW hN⟩⟩ rfl rfl hl.1 rfl (lv_room (Nat.le_of_ble_eq_true rfl)) dX0_planFrom_62 ⟨Nat.zero_le _, Nat.zero_le _⟩).run (fun r_ e_ => ?_)
        subst r_
        refine lv_istore (lv' := [(7, .int r8), (0, .ref (a 3)), (1, .int v1), (2, .int v2), (3, .int v3), (4, .int v4), (5, .int v5), (6, .int v6)]) hx hb dX0_planFrom_65 hl (by decide) rfl (fun ls hl => ?_)
        refine lv_aload_n hx hb dX0_planFrom_67 rfl (lv_at hl 1 rfl) ?_
        refine lv_iload_n hx hb dX0_planFrom_68 rfl (lv_at hl 2 rfl) ?_
        refine lv_iload hx hb dX0_planFrom_69 (lv_at hl 0 rfl) ?_
        refine lv_iload_n hx hb dX0_planFrom_71 rfl (lv_at hl 4 rfl) ?_
        refine lv_iconst (v := 1) hx hb dX0_planFrom_72 (by decide) ?_
        refine lv_iadd hx hb dX0_planFrom_73 ?_
        refine lv_iload hx hb dX0_planFrom_74 (lv_at hl 5 rfl) ?_
        obtain ⟨r9, er9, hw⟩ := Option.bind_eq_some_iff.mp hw
        refine vp_callSi (va_runS (As := [.ref (a 3), .int v1, .int r8, .int (v3 + 1), .int v4]) (rest := []) ⟨hx, hb, hml, hown, hts⟩ (ihr v1 r8 (v3 + 1) v4 r9 er9) ⟨callB_of 5 hts gd_X0_planFrom rfl rfl rfl (hts _ wd_38) (hts _ wd_392) hd_X0_planFrom ⟨by show (dd * 1 + 4) + 1 ≤ (dd + 1) * 1 + 4; omega, by show 8 + (9 + 11) + (dd * 28 + 105) ≤ (dd + 1) * 28 + 105; omega⟩, hts _ wd_393⟩ ⟨blX, fun U hU hW => ⟨rfl, by rw [hU]; exact hP, va_K.moved hW.alike hK, nst.warm hW hN⟩⟩ rfl rfl hl.1 rfl (lv_room (Nat.le_of_ble_eq_true rfl)) dX0_planFrom_76 ⟨Nat.zero_le _, Nat.zero_le _⟩).run (fun r_ e_ => ?_)
        subst r_
        refine lv_istore (lv' := [(8, .int r9), (7, .int r8), (0, .ref (a 3)), (1, .int v1), (2, .int v2), (3, .int v3), (4, .int v4), (5, .int v5), (6, .int v6)]) hx hb dX0_planFrom_79 hl (by decide) rfl (fun ls hl => ?_)
        refine lv_iload hx hb dX0_planFrom_81 (lv_at hl 0 rfl) ?_
        refine lv_iconst (v := (-1)) hx hb dX0_planFrom_83 (by decide) ?_
        refine lv_icmp_eq (tgt := 95) hx hb dX0_planFrom_84 (by decide) (fun c10 => ?_) (fun c10 => ?_)
        · have hw := ite_t hw c10
          obtain ⟨x11, ex11⟩ : ∃ y : Int32, y = (v6 + 1) := ⟨_, rfl⟩
          have hw := stp_use hw ex11
          refine lv_iinc (v := x11) (lv' := [(6, .int x11), (8, .int r9), (7, .int r8), (0, .ref (a 3)), (1, .int v1), (2, .int v2), (3, .int v3), (4, .int v4), (5, .int v5)]) hx hb dX0_planFrom_95 hl (k := 8) rfl (by rw [ex11]; rfl) (by decide) rfl (fun ls hl => ?_)
          refine lv_goto (tgt := 48) hx hb dX0_planFrom_98 (by decide) ?_
          exact ih x11 hw ls (lv_sub hl [3, 4, 5, 6, 7, 8, 0] rfl)
        · have hw := ite_f hw c10
          refine lv_iload hx hb dX0_planFrom_87 (lv_at hl 0 rfl) ?_
          refine lv_iconst (v := 3) hx hb dX0_planFrom_89 (by decide) ?_
          refine lv_ishl hx hb dX0_planFrom_90 ?_
          refine lv_iload hx hb dX0_planFrom_91 (lv_at hl 8 rfl) ?_
          refine lv_ior hx hb dX0_planFrom_93 ?_
          exact hret _ _ _ (Option.some.inj hw) dX0_planFrom_94
  have hl := lv_entry ([.ref (a 3), .int p1, .int p2, .int p3, .int p4]) (n := 9) (Nat.le_of_ble_eq_true rfl)
  rw [lg_entry_eq]
  generalize (lg_sl ([.ref (a 3), .int p1, .int p2, .int p3, .int p4]) ++ List.replicate (9 - (lg_sl ([.ref (a 3), .int p1, .int p2, .int p3, .int p4])).length) Slot.unset).toArray = ls at hl ⊢
  have hl : lv_has ls 9 [(0, .ref (a 3)), (1, .int p1), (2, .int p2), (3, .int p3), (4, .int p4)] := hl
  refine lv_iload_n hx hb dX0_planFrom_0 rfl (lv_at hl 3 rfl) ?_
  refine lv_iload hx hb dX0_planFrom_1 (lv_at hl 4 rfl) ?_
  refine lv_icmp_ge (tgt := 11) hx hb dX0_planFrom_3 (by decide) (fun c1 => ?_) (fun c1 => ?_)
  · have hw := ite_t hw c1
    refine lv_iload_n hx hb dX0_planFrom_11 rfl (lv_at hl 1 rfl) ?_
    refine lv_aload_n hx hb dX0_planFrom_12 rfl (lv_at hl 0 rfl) ?_
    refine lv_iload_n hx hb dX0_planFrom_13 rfl (lv_at hl 2 rfl) ?_
    obtain ⟨r2, er2, hw⟩ := Option.bind_eq_some_iff.mp hw
    refine vp_callSi (va_runV (As := [.int p2]) (rest := [.int p1]) ⟨hx, hb, hml, hown, hts⟩ (c_X2_knowing l dC dI a cA X p2 r2 er2) ⟨callB_of 1 hts gd_X2_knowing rfl rfl rfl (hts _ wd_37) (hts _ wd_379) hd_X2_knowing ⟨by show 0 + 1 ≤ (dd + 1) * 1 + 4; omega, by show 8 + (2 + 11) + 0 ≤ (dd + 1) * 28 + 105; omega⟩, hts _ wd_291, hts _ wd_292⟩ ⟨blX, va_recv hK hP (ci := 2) (q0 := 3) rfl rfl, fun U hU hW => ⟨rfl, by rw [hU]; exact hP, va_K.moved hW.alike hK, nst.warm hW hN⟩⟩ rfl rfl hl.1 rfl (lv_room (Nat.le_of_ble_eq_true rfl)) dX0_planFrom_14 ⟨Nat.zero_le _, Nat.zero_le _⟩).run (fun r_ e_ => ?_)
    subst r_
    refine lv_iconst (v := (-1)) hx hb dX0_planFrom_17 (by decide) ?_
    refine lv_ixor hx hb dX0_planFrom_18 ?_
    refine lv_iand hx hb dX0_planFrom_19 ?_
    refine lv_if_ne (tgt := 27) hx hb dX0_planFrom_20 (by decide) (fun c3 => ?_) (fun c3 => ?_)
    · have hw := ite_f hw c3
      refine lv_iconst (v := (-1)) hx hb dX0_planFrom_27 (by decide) ?_
      exact hret _ _ _ (Option.some.inj hw) dX0_planFrom_28
    · have hw := ite_t hw c3
      refine lv_iconst (v := 0) hx hb dX0_planFrom_23 (by decide) ?_
      refine lv_goto (tgt := 28) hx hb dX0_planFrom_24 (by decide) ?_
      exact hret _ _ _ (Option.some.inj hw) dX0_planFrom_28
  · have hw := ite_f hw c1
    refine lv_iload_n hx hb dX0_planFrom_6 rfl (lv_at hl 3 rfl) ?_
    refine lv_iconst (v := 3) hx hb dX0_planFrom_7 (by decide) ?_
    refine lv_icmp_lt (tgt := 29) hx hb dX0_planFrom_8 (by decide) (fun c4 => ?_) (fun c4 => ?_)
    · have hw := ite_t hw c4
      refine lv_aload_n hx hb dX0_planFrom_29 rfl (lv_at hl 0 rfl) ?_
      refine va_getN (D := (dC, dI)) (ci := 2) (v := .int (X 3 9)) (C := RX2) (T := TX2) (N := 17) hx hb hts iX2 hown hK hP 3 rfl rfl 9 (by decide) (va_Nw.use rfl (hN _ nk_90)) (fun _ h9 => h9) rfl dX0_planFrom_30 ?_
      refine lv_iload_n hx hb dX0_planFrom_33 rfl (lv_at hl 3 rfl) ?_
      refine lv_isub hx hb dX0_planFrom_34 ?_
      refine lv_topi (fun x5 ex5 => ?_)
      have hw := stp_use hw ex5
      refine lv_istore (lv' := [(5, .int x5), (0, .ref (a 3)), (1, .int p1), (2, .int p2), (3, .int p3), (4, .int p4)]) hx hb dX0_planFrom_35 hl (by decide) rfl (fun ls hl => ?_)
      refine lv_iload hx hb dX0_planFrom_37 (lv_at hl 0 rfl) ?_
      refine lv_iconst (v := 1) hx hb dX0_planFrom_39 (by decide) ?_
      refine lv_icmp_ge (tgt := 45) hx hb dX0_planFrom_40 (by decide) (fun c6 => ?_) (fun c6 => ?_)
      · have hw := ite_t hw c6
        refine lv_iconst (v := 0) hx hb dX0_planFrom_45 (by decide) ?_
        refine lv_istore (lv' := [(6, .int 0), (5, .int x5), (0, .ref (a 3)), (1, .int p1), (2, .int p2), (3, .int p3), (4, .int p4)]) hx hb dX0_planFrom_46 hl (by decide) rfl (fun ls hl => ?_)
        exact L48 p1 p2 p3 p4 x5 NF 0 hw ls (lv_sub hl [2, 3, 4, 5, 6, 1, 0] rfl)
      · have hw := ite_f hw c6
        refine lv_iconst (v := (-1)) hx hb dX0_planFrom_43 (by decide) ?_
        exact hret _ _ _ (Option.some.inj hw) dX0_planFrom_44
    · have hw := ite_f hw c4
      refine lv_iload_n hx hb dX0_planFrom_11 rfl (lv_at hl 1 rfl) ?_
      refine lv_aload_n hx hb dX0_planFrom_12 rfl (lv_at hl 0 rfl) ?_
      refine lv_iload_n hx hb dX0_planFrom_13 rfl (lv_at hl 2 rfl) ?_
      obtain ⟨r12, er12, hw⟩ := Option.bind_eq_some_iff.mp hw
      refine vp_callSi (va_runV (As := [.int p2]) (rest := [.int p1]) ⟨hx, hb, hml, hown, hts⟩ (c_X2_knowing l dC dI a cA X p2 r12 er12) ⟨callB_of 1 hts gd_X2_knowing rfl rfl rfl (hts _ wd_37) (hts _ wd_379) hd_X2_knowing ⟨by show 0 + 1 ≤ (dd + 1) * 1 + 4; omega, by show 8 + (2 + 11) + 0 ≤ (dd + 1) * 28 + 105; omega⟩, hts _ wd_291, hts _ wd_292⟩ ⟨blX, va_recv hK hP (ci := 2) (q0 := 3) rfl rfl, fun U hU hW => ⟨rfl, by rw [hU]; exact hP, va_K.moved hW.alike hK, nst.warm hW hN⟩⟩ rfl rfl hl.1 rfl (lv_room (Nat.le_of_ble_eq_true rfl)) dX0_planFrom_14 ⟨Nat.zero_le _, Nat.zero_le _⟩).run (fun r_ e_ => ?_)
      subst r_
      refine lv_iconst (v := (-1)) hx hb dX0_planFrom_17 (by decide) ?_
      refine lv_ixor hx hb dX0_planFrom_18 ?_
      refine lv_iand hx hb dX0_planFrom_19 ?_
      refine lv_if_ne (tgt := 27) hx hb dX0_planFrom_20 (by decide) (fun c13 => ?_) (fun c13 => ?_)
      · have hw := ite_f hw c13
        refine lv_iconst (v := (-1)) hx hb dX0_planFrom_27 (by decide) ?_
        exact hret _ _ _ (Option.some.inj hw) dX0_planFrom_28
      · have hw := ite_t hw c13
        refine lv_iconst (v := 0) hx hb dX0_planFrom_23 (by decide) ?_
        refine lv_goto (tgt := 28) hx hb dX0_planFrom_24 (by decide) ?_
        exact hret _ _ _ (Option.some.inj hw) dX0_planFrom_28
set_option maxHeartbeats 4000000 in
set_option maxRecDepth 100000 in
theorem c_X0_coverPlan (l : Launch) (dC : Nat → ClassId) (dI : Nat → Nat → Nat) (a : Nat → Nat) (cA : ClassId) (X : WS) (p1 : Int32) (out : Int32) (hw : f_X0_coverPlan X p1 = some out) : Met l yX0_coverPlan (.code yX0_coverPlan cX0_coverPlan 4 (some .int) :: lw_g) ({ frames := 15, cells := 0, slots := 0, locals := 413 }) (PcX dC dI a cA X [.ref (a 3), .int p1]) (vp_Si (fun r_ => r_ = out)) 0 0 (fun _ => False) := by
  unfold f_X0_coverPlan at hw
  refine Met.ofW (cc := cX0_coverPlan) (maxL := 4) (ret := (some .int)) (by decide) rfl ?_
  intro p e s m args below meth c s₁ B hml hv
  obtain ⟨rfl, hP, hK, hN⟩ := hv
  have hx := B.exec
  have hb := B.bytes
  have hr := B.returns
  have hts0 := atoms_spec (ws := (.code yX0_coverPlan cX0_coverPlan 4 (some .int) :: lw_g)) B.pre
  have hts : ∀ w ∈ lw_g, w.before (([.ref (a 3), .int p1] : List Value).toArray) s = true := fun w h => hts0 w (List.mem_cons_of_mem _ h)
  clear hts0
  have hown : s.vm.findClass RX0 = some m.cls := findClass_of_methodNamed B.named
  have hlocks := B.notSynchronized
  have hret : ∀ (pc : Nat) (ls : Array Slot) (v : Int32), v = out → decode cX0_coverPlan pc = .ok (.ireturn, 1) → W p l e ({ frames := 15, cells := 0, slots := 0, locals := 413 }) s m (([.ref (a 3), .int p1] : List Value).toArray) below meth c s.heap [] 0 0 (MQ below (vp_Si (fun r_ => r_ = out)) (([.ref (a 3), .int p1] : List Value).toArray) s 0 0 (fun _ => False)) (F0 m pc ls [.int v]) := fun pc ls v hv hd => W.iret hx hb hr (fun t ht hW => ⟨v, rfl, hv, ht⟩) (fun q hq => absurd hq List.not_mem_nil) hd
  show W p l e ({ frames := 15, cells := 0, slots := 0, locals := 413 }) s m (([.ref (a 3), .int p1] : List Value).toArray) below meth c s.heap [] 0 0 (MQ below (vp_Si (fun r_ => r_ = out)) (([.ref (a 3), .int p1] : List Value).toArray) s 0 0 (fun _ => False)) (entryFrame m (([.ref (a 3), .int p1] : List Value).toArray) 4)
  generalize MQ below (vp_Si (fun r_ => r_ = out)) (([.ref (a 3), .int p1] : List Value).toArray) s 0 0 (fun _ => False) = Q at hret ⊢
  have L2 : ∀ (v1 : Int32), ∀ n : Nat, ∀ (v2 : Int32), g_X0_coverPlan_2 X v1 n v2 = some out → ∀ ls : Array Slot, lv_has ls 4 [(0, .ref (a 3)), (1, .int v1), (2, .int v2)] → W p l e ({ frames := 15, cells := 0, slots := 0, locals := 413 }) s m (([.ref (a 3), .int p1] : List Value).toArray) below meth c s.heap [] 0 0 Q (F0 m 2 ls []) := by
    intro v1 n
    induction n with
    | zero =>
      intro v2 hw
      rw [g_X0_coverPlan_2] at hw
      cases hw
    | succ n ih =>
      intro v2 hw ls hl
      rw [g_X0_coverPlan_2] at hw
      refine lv_iload_n hx hb dX0_coverPlan_2 rfl (lv_at hl 2 rfl) ?_
      refine lv_iconst (v := 3) hx hb dX0_coverPlan_3 (by decide) ?_
      refine lv_icmp_gt (tgt := 36) hx hb dX0_coverPlan_4 (by decide) (fun c1 => ?_) (fun c1 => ?_)
      · have hw := ite_t hw c1
        refine lv_iconst (v := (-1)) hx hb dX0_coverPlan_36 (by decide) ?_
        exact hret _ _ _ (Option.some.inj hw) dX0_coverPlan_37
      · have hw := ite_f hw c1
        refine lv_aload_n hx hb dX0_coverPlan_7 rfl (lv_at hl 0 rfl) ?_
        refine lv_iload_n hx hb dX0_coverPlan_8 rfl (lv_at hl 1 rfl) ?_
        refine lv_aload_n hx hb dX0_coverPlan_9 rfl (lv_at hl 0 rfl) ?_
        refine va_getN (D := (dC, dI)) (ci := 2) (v := .int (X 3 7)) (C := RX2) (T := TX2) (N := 17) hx hb hts iX2 hown hK hP 3 rfl rfl 7 (by decide) (va_Nw.use rfl (hN _ nk_86)) (fun _ h9 => h9) rfl dX0_coverPlan_10 ?_
        refine lv_iconst (v := 0) hx hb dX0_coverPlan_13 (by decide) ?_
        refine lv_iload_n hx hb dX0_coverPlan_14 rfl (lv_at hl 2 rfl) ?_
        obtain ⟨r2, er2, hw⟩ := Option.bind_eq_some_iff.mp hw
        refine vp_callSi (va_runS (As := [.ref (a 3), .int v1, .int (X 3 7), .int 0, .int v2]) (rest := []) ⟨hx, hb, hml, hown, hts⟩ (c_X0_planFrom l dC dI a cA X 10 v1 (X 3 7) 0 v2 r2 er2) ⟨callB_of 5 hts gd_X0_planFrom rfl rfl rfl (hts _ wd_38) (hts _ wd_392) hd_X0_planFrom ⟨Nat.le_of_ble_eq_true rfl, Nat.le_of_ble_eq_true rfl⟩, hts _ wd_393⟩ ⟨blX, fun U hU hW => ⟨rfl, by rw [hU]; exact hP, va_K.moved hW.alike hK, nst.warm hW hN⟩⟩ rfl rfl hl.1 rfl (lv_room (Nat.le_of_ble_eq_true rfl)) dX0_coverPlan_15 ⟨Nat.zero_le _, Nat.zero_le _⟩).run (fun r_ e_ => ?_)
        subst r_
        refine lv_istore_n (lv' := [(3, .int r2), (0, .ref (a 3)), (1, .int v1), (2, .int v2)]) hx hb dX0_coverPlan_18 rfl hl (by decide) rfl (fun ls hl => ?_)
        refine lv_iload_n hx hb dX0_coverPlan_19 rfl (lv_at hl 0 rfl) ?_
        refine lv_iconst (v := (-1)) hx hb dX0_coverPlan_20 (by decide) ?_
        refine lv_icmp_eq (tgt := 30) hx hb dX0_coverPlan_21 (by decide) (fun c3 => ?_) (fun c3 => ?_)
        · have hw := ite_t hw c3
          obtain ⟨x4, ex4⟩ : ∃ y : Int32, y = (v2 + 1) := ⟨_, rfl⟩
          have hw := stp_use hw ex4
          refine lv_iinc (v := x4) (lv' := [(2, .int x4), (3, .int r2), (0, .ref (a 3)), (1, .int v1)]) hx hb dX0_coverPlan_30 hl (k := 3) rfl (by rw [ex4]; rfl) (by decide) rfl (fun ls hl => ?_)
          refine lv_goto (tgt := 2) hx hb dX0_coverPlan_33 (by decide) ?_
          exact ih x4 hw ls (lv_sub hl [2, 3, 0] rfl)
        · have hw := ite_f hw c3
          refine lv_iload_n hx hb dX0_coverPlan_24 rfl (lv_at hl 0 rfl) ?_
          refine lv_iconst (v := 2) hx hb dX0_coverPlan_25 (by decide) ?_
          refine lv_ishl hx hb dX0_coverPlan_26 ?_
          refine lv_iload_n hx hb dX0_coverPlan_27 rfl (lv_at hl 3 rfl) ?_
          refine lv_ior hx hb dX0_coverPlan_28 ?_
          exact hret _ _ _ (Option.some.inj hw) dX0_coverPlan_29
  have hl := lv_entry ([.ref (a 3), .int p1]) (n := 4) (Nat.le_of_ble_eq_true rfl)
  rw [lg_entry_eq]
  generalize (lg_sl ([.ref (a 3), .int p1]) ++ List.replicate (4 - (lg_sl ([.ref (a 3), .int p1])).length) Slot.unset).toArray = ls at hl ⊢
  have hl : lv_has ls 4 [(0, .ref (a 3)), (1, .int p1)] := hl
  refine lv_iconst (v := 0) hx hb dX0_coverPlan_0 (by decide) ?_
  refine lv_istore_n (lv' := [(2, .int 0), (0, .ref (a 3)), (1, .int p1)]) hx hb dX0_coverPlan_1 rfl hl (by decide) rfl (fun ls hl => ?_)
  exact L2 p1 NF 0 hw ls (lv_sub hl [1, 2, 0] rfl)
set_option maxHeartbeats 4000000 in
set_option maxRecDepth 100000 in
theorem c_X0_partOfPlan (l : Launch) (p0 : Int32) (p1 : Int32) (out : Int32) (hw : f_X0_partOfPlan p0 p1 = some out) : Met l yX0_partOfPlan (.code yX0_partOfPlan cX0_partOfPlan 4 (some .int) :: lw_g) ({ frames := 0, cells := 0, slots := 0, locals := 0 }) (Pc0 [.int p0, .int p1]) (vp_Si (fun r_ => r_ = out)) 0 0 (fun _ => False) := by
  unfold f_X0_partOfPlan at hw
  refine Met.ofW (cc := cX0_partOfPlan) (maxL := 4) (ret := (some .int)) (by decide) rfl ?_
  intro p e s m args below meth c s₁ B hml hv
  obtain ⟨rfl, -⟩ := hv
  have hx := B.exec
  have hb := B.bytes
  have hr := B.returns
  have hts0 := atoms_spec (ws := (.code yX0_partOfPlan cX0_partOfPlan 4 (some .int) :: lw_g)) B.pre
  have hts : ∀ w ∈ lw_g, w.before (([.int p0, .int p1] : List Value).toArray) s = true := fun w h => hts0 w (List.mem_cons_of_mem _ h)
  clear hts0
  have hown : s.vm.findClass RX0 = some m.cls := findClass_of_methodNamed B.named
  have hlocks := B.notSynchronized
  have hret : ∀ (pc : Nat) (ls : Array Slot) (v : Int32), v = out → decode cX0_partOfPlan pc = .ok (.ireturn, 1) → W p l e ({ frames := 0, cells := 0, slots := 0, locals := 0 }) s m (([.int p0, .int p1] : List Value).toArray) below meth c s.heap [] 0 0 (MQ below (vp_Si (fun r_ => r_ = out)) (([.int p0, .int p1] : List Value).toArray) s 0 0 (fun _ => False)) (F0 m pc ls [.int v]) := fun pc ls v hv hd => W.iret hx hb hr (fun t ht hW => ⟨v, rfl, hv, ht⟩) (fun q hq => absurd hq List.not_mem_nil) hd
  show W p l e ({ frames := 0, cells := 0, slots := 0, locals := 0 }) s m (([.int p0, .int p1] : List Value).toArray) below meth c s.heap [] 0 0 (MQ below (vp_Si (fun r_ => r_ = out)) (([.int p0, .int p1] : List Value).toArray) s 0 0 (fun _ => False)) (entryFrame m (([.int p0, .int p1] : List Value).toArray) 4)
  generalize MQ below (vp_Si (fun r_ => r_ = out)) (([.int p0, .int p1] : List Value).toArray) s 0 0 (fun _ => False) = Q at hret ⊢
  have hl := lv_entry ([.int p0, .int p1]) (n := 4) (Nat.le_of_ble_eq_true rfl)
  rw [lg_entry_eq]
  generalize (lg_sl ([.int p0, .int p1]) ++ List.replicate (4 - (lg_sl ([.int p0, .int p1])).length) Slot.unset).toArray = ls at hl ⊢
  have hl : lv_has ls 4 [(0, .int p0), (1, .int p1)] := hl
  refine lv_iload_n hx hb dX0_partOfPlan_0 rfl (lv_at hl 0 rfl) ?_
  refine lv_if_ge (tgt := 6) hx hb dX0_partOfPlan_1 (by decide) (fun c1 => ?_) (fun c1 => ?_)
  · have hw := ite_t hw c1
    refine lv_iload_n hx hb dX0_partOfPlan_6 rfl (lv_at hl 0 rfl) ?_
    refine lv_iconst (v := 3) hx hb dX0_partOfPlan_7 (by decide) ?_
    refine lv_iand hx hb dX0_partOfPlan_8 ?_
    refine lv_topi (fun x2 ex2 => ?_)
    have hw := stp_use hw ex2
    refine lv_istore_n (lv' := [(2, .int x2), (0, .int p0), (1, .int p1)]) hx hb dX0_partOfPlan_9 rfl hl (by decide) rfl (fun ls hl => ?_)
    refine lv_iload_n hx hb dX0_partOfPlan_10 rfl (lv_at hl 2 rfl) ?_
    refine lv_if_ne (tgt := 16) hx hb dX0_partOfPlan_11 (by decide) (fun c3 => ?_) (fun c3 => ?_)
    · have hw := ite_f hw c3
      refine lv_iload_n hx hb dX0_partOfPlan_16 rfl (lv_at hl 2 rfl) ?_
      refine lv_bipush (v := 10) hx hb dX0_partOfPlan_17 (by decide) ?_
      refine lv_isub hx hb dX0_partOfPlan_19 ?_
      refine lv_topi (fun x4 ex4 => ?_)
      have hw := stp_use hw ex4
      refine lv_istore_n (lv' := [(3, .int x4), (2, .int x2), (0, .int p0), (1, .int p1)]) hx hb dX0_partOfPlan_20 rfl hl (by decide) rfl (fun ls hl => ?_)
      refine lv_iload_n hx hb dX0_partOfPlan_21 rfl (lv_at hl 0 rfl) ?_
      refine lv_if_lt (tgt := 30) hx hb dX0_partOfPlan_22 (by decide) (fun c5 => ?_) (fun c5 => ?_)
      · have hw := ite_t hw c5
        refine lv_iconst (v := (-1)) hx hb dX0_partOfPlan_30 (by decide) ?_
        exact hret _ _ _ (Option.some.inj hw) dX0_partOfPlan_31
      · have hw := ite_f hw c5
        refine lv_iload_n hx hb dX0_partOfPlan_25 rfl (lv_at hl 0 rfl) ?_
        refine lv_iload_n hx hb dX0_partOfPlan_26 rfl (lv_at hl 1 rfl) ?_
        refine lv_icmp_lt (tgt := 32) hx hb dX0_partOfPlan_27 (by decide) (fun c6 => ?_) (fun c6 => ?_)
        · have hw := ite_t hw c6
          refine lv_iload_n hx hb dX0_partOfPlan_32 rfl (lv_at hl 2 rfl) ?_
          refine lv_iconst (v := 2) hx hb dX0_partOfPlan_33 (by decide) ?_
          refine lv_iconst (v := 3) hx hb dX0_partOfPlan_34 (by decide) ?_
          refine lv_iload_n hx hb dX0_partOfPlan_35 rfl (lv_at hl 0 rfl) ?_
          refine lv_imul hx hb dX0_partOfPlan_36 ?_
          refine lv_iadd hx hb dX0_partOfPlan_37 ?_
          refine lv_ishr hx hb dX0_partOfPlan_38 ?_
          refine lv_bipush (v := 7) hx hb dX0_partOfPlan_39 (by decide) ?_
          refine lv_iand hx hb dX0_partOfPlan_41 ?_
          exact hret _ _ _ (Option.some.inj hw) dX0_partOfPlan_42
        · have hw := ite_f hw c6
          refine lv_iconst (v := (-1)) hx hb dX0_partOfPlan_30 (by decide) ?_
          exact hret _ _ _ (Option.some.inj hw) dX0_partOfPlan_31
    · have hw := ite_t hw c3
      refine lv_iload_n hx hb dX0_partOfPlan_14 rfl (lv_at hl 0 rfl) ?_
      exact hret _ _ _ (Option.some.inj hw) dX0_partOfPlan_15
  · have hw := ite_f hw c1
    refine lv_iload_n hx hb dX0_partOfPlan_4 rfl (lv_at hl 0 rfl) ?_
    exact hret _ _ _ (Option.some.inj hw) dX0_partOfPlan_5
set_option maxHeartbeats 4000000 in
set_option maxRecDepth 100000 in
theorem c_X3_cover (l : Launch) (dC : Nat → ClassId) (dI : Nat → Nat → Nat) (a : Nat → Nat) (cA : ClassId) (X : WS) (p1 : Int32) (p2 : Int32) (out : Int32) (hw : f_X3_cover X p1 p2 = some out) : Met l yX3_cover (.code yX3_cover cX3_cover 4 (some .int) :: lw_g) ({ frames := 16, cells := 0, slots := 0, locals := 436 }) (PcX dC dI a cA X [.ref (a 0), .int p1, .int p2]) (vp_Si (fun r_ => r_ = out)) 0 0 (fun _ => False) := by
  unfold f_X3_cover at hw
  refine Met.ofW (cc := cX3_cover) (maxL := 4) (ret := (some .int)) (by decide) rfl ?_
  intro p e s m args below meth c s₁ B hml hv
  obtain ⟨rfl, hP, hK, hN⟩ := hv
  have hx := B.exec
  have hb := B.bytes
  have hr := B.returns
  have hts0 := atoms_spec (ws := (.code yX3_cover cX3_cover 4 (some .int) :: lw_g)) B.pre
  have hts : ∀ w ∈ lw_g, w.before (([.ref (a 0), .int p1, .int p2] : List Value).toArray) s = true := fun w h => hts0 w (List.mem_cons_of_mem _ h)
  clear hts0
  have hown : s.vm.findClass RX3 = some m.cls := findClass_of_methodNamed B.named
  have hlocks := B.notSynchronized
  have hret : ∀ (pc : Nat) (ls : Array Slot) (v : Int32), v = out → decode cX3_cover pc = .ok (.ireturn, 1) → W p l e ({ frames := 16, cells := 0, slots := 0, locals := 436 }) s m (([.ref (a 0), .int p1, .int p2] : List Value).toArray) below meth c s.heap [] 0 0 (MQ below (vp_Si (fun r_ => r_ = out)) (([.ref (a 0), .int p1, .int p2] : List Value).toArray) s 0 0 (fun _ => False)) (F0 m pc ls [.int v]) := fun pc ls v hv hd => W.iret hx hb hr (fun t ht hW => ⟨v, rfl, hv, ht⟩) (fun q hq => absurd hq List.not_mem_nil) hd
  show W p l e ({ frames := 16, cells := 0, slots := 0, locals := 436 }) s m (([.ref (a 0), .int p1, .int p2] : List Value).toArray) below meth c s.heap [] 0 0 (MQ below (vp_Si (fun r_ => r_ = out)) (([.ref (a 0), .int p1, .int p2] : List Value).toArray) s 0 0 (fun _ => False)) (entryFrame m (([.ref (a 0), .int p1, .int p2] : List Value).toArray) 4)
  generalize MQ below (vp_Si (fun r_ => r_ = out)) (([.ref (a 0), .int p1, .int p2] : List Value).toArray) s 0 0 (fun _ => False) = Q at hret ⊢
  have hl := lv_entry ([.ref (a 0), .int p1, .int p2]) (n := 4) (Nat.le_of_ble_eq_true rfl)
  rw [lg_entry_eq]
  generalize (lg_sl ([.ref (a 0), .int p1, .int p2]) ++ List.replicate (4 - (lg_sl ([.ref (a 0), .int p1, .int p2])).length) Slot.unset).toArray = ls at hl ⊢
  have hl : lv_has ls 4 [(0, .ref (a 0)), (1, .int p1), (2, .int p2)] := hl
  refine lv_iload_n hx hb dX3_cover_0 rfl (lv_at hl 2 rfl) ?_
  refine lv_if_eq (tgt := 16) hx hb dX3_cover_1 (by decide) (fun c1 => ?_) (fun c1 => ?_)
  · have hw := ite_t hw c1
    refine lv_iconst (v := 1) hx hb dX3_cover_16 (by decide) ?_
    refine lv_goto (tgt := 21) hx hb dX3_cover_17 (by decide) ?_
    refine lv_istore_n (lv' := [(3, .int 1), (0, .ref (a 0)), (1, .int p1), (2, .int p2)]) hx hb dX3_cover_21 rfl hl (by decide) rfl (fun ls hl => ?_)
    refine lv_iload_n hx hb dX3_cover_22 rfl (lv_at hl 2 rfl) ?_
    refine lv_if_lt (tgt := 41) hx hb dX3_cover_23 (by decide) (fun c2 => ?_) (fun c2 => ?_)
    · have hw := ite_t hw c2
      refine lv_bipush (v := (-102)) hx hb dX3_cover_41 (by decide) ?_
      exact hret _ _ _ (Option.some.inj hw) dX3_cover_43
    · have hw := ite_f hw c2
      refine lv_iload_n hx hb dX3_cover_26 rfl (lv_at hl 2 rfl) ?_
      refine lv_aload_n hx hb dX3_cover_27 rfl (lv_at hl 1 rfl) ?_
      refine va_get (D := (dC, dI)) (ci := 3) (v := .ref (a 3)) (C := RX3) (T := TX3) (N := 6) hx hb hts iX3 hown hK hP 0 rfl rfl 1 (by decide) (hts _ wd_179) (fun _ h9 => h9) rfl dX3_cover_28 ?_
      obtain ⟨r3, er3, hw⟩ := Option.bind_eq_some_iff.mp hw
      refine vp_callSi (va_runV (As := []) (rest := [.int p1]) ⟨hx, hb, hml, hown, hts⟩ (c_X2_everyone l dC dI a cA X r3 er3) ⟨callB_of 0 hts gd_X2_everyone rfl rfl rfl (hts _ wd_37) (hts _ wd_385) hd_X2_everyone ⟨Nat.le_of_ble_eq_true rfl, Nat.le_of_ble_eq_true rfl⟩, hts _ wd_386, hts _ wd_387⟩ ⟨blX, va_recv hK hP (ci := 2) (q0 := 3) rfl rfl, fun U hU hW => ⟨rfl, by rw [hU]; exact hP, va_K.moved hW.alike hK, nst.warm hW hN⟩⟩ rfl rfl hl.1 rfl (lv_room (Nat.le_of_ble_eq_true rfl)) dX3_cover_31 ⟨Nat.zero_le _, Nat.zero_le _⟩).run (fun r_ e_ => ?_)
      subst r_
      refine lv_icmp_gt (tgt := 41) hx hb dX3_cover_34 (by decide) (fun c4 => ?_) (fun c4 => ?_)
      · have hw := ite_t hw c4
        refine lv_bipush (v := (-102)) hx hb dX3_cover_41 (by decide) ?_
        exact hret _ _ _ (Option.some.inj hw) dX3_cover_43
      · have hw := ite_f hw c4
        refine lv_iload_n hx hb dX3_cover_37 rfl (lv_at hl 0 rfl) ?_
        refine lv_if_ne (tgt := 44) hx hb dX3_cover_38 (by decide) (fun c5 => ?_) (fun c5 => absurd c5 (by decide))
        refine lv_aload_n hx hb dX3_cover_44 rfl (lv_at hl 1 rfl) ?_
        obtain ⟨r6, er6, hw⟩ := Option.bind_eq_some_iff.mp hw
        refine vp_callSi (va_runV (As := []) (rest := []) ⟨hx, hb, hml, hown, hts⟩ (c_X3_hasTown l dC dI a cA X r6 er6) ⟨callB_of 0 hts gd_X3_hasTown rfl rfl rfl (hts _ wd_35) (hts _ wd_257) hd_X3_hasTown ⟨Nat.le_of_ble_eq_true rfl, Nat.le_of_ble_eq_true rfl⟩, hts _ wd_259, hts _ wd_1⟩ ⟨blX, va_recv hK hP (ci := 3) (q0 := 0) rfl rfl, fun U hU hW => ⟨rfl, by rw [hU]; exact hP, va_K.moved hW.alike hK, nst.warm hW hN⟩⟩ rfl rfl hl.1 rfl (lv_room (Nat.le_of_ble_eq_true rfl)) dX3_cover_45 ⟨Nat.zero_le _, Nat.zero_le _⟩).run (fun r_ e_ => ?_)
        subst r_
        refine lv_if_eq (tgt := 66) hx hb dX3_cover_48 (by decide) (fun c7 => ?_) (fun c7 => ?_)
        · have hw := ite_t hw c7
          refine lv_bipush (v := (-103)) hx hb dX3_cover_66 (by decide) ?_
          exact hret _ _ _ (Option.some.inj hw) dX3_cover_68
        · have hw := ite_f hw c7
          refine lv_aload_n hx hb dX3_cover_51 rfl (lv_at hl 1 rfl) ?_
          refine va_get (D := (dC, dI)) (ci := 3) (v := .ref (a 3)) (C := RX3) (T := TX3) (N := 6) hx hb hts iX3 hown hK hP 0 rfl rfl 1 (by decide) (hts _ wd_179) (fun _ h9 => h9) rfl dX3_cover_52 ?_
          refine lv_iload_n hx hb dX3_cover_55 rfl (lv_at hl 2 rfl) ?_
          obtain ⟨r8, er8, hw⟩ := Option.bind_eq_some_iff.mp hw
          refine vp_callSi (va_runS (As := [.ref (a 3), .int p1]) (rest := []) ⟨hx, hb, hml, hown, hts⟩ (c_X0_coverPlan l dC dI a cA X p1 r8 er8) ⟨callB_of 2 hts gd_X0_coverPlan rfl rfl rfl (hts _ wd_38) (hts _ wd_389) hd_X0_coverPlan ⟨Nat.le_of_ble_eq_true rfl, Nat.le_of_ble_eq_true rfl⟩, hts _ wd_390⟩ ⟨blX, fun U hU hW => ⟨rfl, by rw [hU]; exact hP, va_K.moved hW.alike hK, nst.warm hW hN⟩⟩ rfl rfl hl.1 rfl (lv_room (Nat.le_of_ble_eq_true rfl)) dX3_cover_56 ⟨Nat.zero_le _, Nat.zero_le _⟩).run (fun r_ e_ => ?_)
          subst r_
          refine lv_iload_n hx hb dX3_cover_59 rfl (lv_at hl 3 rfl) ?_
          obtain ⟨r9, er9, hw⟩ := Option.bind_eq_some_iff.mp hw
          refine vp_callSi (va_runS (As := [.int r8, .int p2]) (rest := []) ⟨hx, hb, hml, hown, hts⟩ (c_X0_partOfPlan l r8 p2 r9 er9) ⟨callB_of 2 hts gd_X0_partOfPlan rfl rfl rfl (hts _ wd_38) (hts _ wd_395) hd_X0_partOfPlan ⟨Nat.le_of_ble_eq_true rfl, Nat.le_of_ble_eq_true rfl⟩, hts _ wd_396⟩ ⟨bl0, fun U hU hW => ⟨rfl, trivial⟩⟩ rfl rfl hl.1 rfl (lv_room (Nat.le_of_ble_eq_true rfl)) dX3_cover_60 ⟨Nat.zero_le _, Nat.zero_le _⟩).run (fun r_ e_ => ?_)
          subst r_
          refine lv_goto (tgt := 68) hx hb dX3_cover_63 (by decide) ?_
          exact hret _ _ _ (Option.some.inj hw) dX3_cover_68
  · have hw := ite_f hw c1
    refine lv_iload_n hx hb dX3_cover_4 rfl (lv_at hl 2 rfl) ?_
    refine lv_bipush (v := 10) hx hb dX3_cover_5 (by decide) ?_
    refine lv_icmp_lt (tgt := 20) hx hb dX3_cover_7 (by decide) (fun c10 => ?_) (fun c10 => ?_)
    · have hw := ite_t hw c10
      refine lv_iconst (v := 0) hx hb dX3_cover_20 (by decide) ?_
      refine lv_istore_n (lv' := [(3, .int 0), (0, .ref (a 0)), (1, .int p1), (2, .int p2)]) hx hb dX3_cover_21 rfl hl (by decide) rfl (fun ls hl => ?_)
      refine lv_iload_n hx hb dX3_cover_22 rfl (lv_at hl 2 rfl) ?_
      refine lv_if_lt (tgt := 41) hx hb dX3_cover_23 (by decide) (fun c11 => ?_) (fun c11 => ?_)
      · have hw := ite_t hw c11
        refine lv_bipush (v := (-102)) hx hb dX3_cover_41 (by decide) ?_
        exact hret _ _ _ (Option.some.inj hw) dX3_cover_43
      · have hw := ite_f hw c11
        refine lv_iload_n hx hb dX3_cover_26 rfl (lv_at hl 2 rfl) ?_
        refine lv_aload_n hx hb dX3_cover_27 rfl (lv_at hl 1 rfl) ?_
        refine va_get (D := (dC, dI)) (ci := 3) (v := .ref (a 3)) (C := RX3) (T := TX3) (N := 6) hx hb hts iX3 hown hK hP 0 rfl rfl 1 (by decide) (hts _ wd_179) (fun _ h9 => h9) rfl dX3_cover_28 ?_
        obtain ⟨r12, er12, hw⟩ := Option.bind_eq_some_iff.mp hw
        refine vp_callSi (va_runV (As := []) (rest := [.int p1]) ⟨hx, hb, hml, hown, hts⟩ (c_X2_everyone l dC dI a cA X r12 er12) ⟨callB_of 0 hts gd_X2_everyone rfl rfl rfl (hts _ wd_37) (hts _ wd_385) hd_X2_everyone ⟨Nat.le_of_ble_eq_true rfl, Nat.le_of_ble_eq_true rfl⟩, hts _ wd_386, hts _ wd_387⟩ ⟨blX, va_recv hK hP (ci := 2) (q0 := 3) rfl rfl, fun U hU hW => ⟨rfl, by rw [hU]; exact hP, va_K.moved hW.alike hK, nst.warm hW hN⟩⟩ rfl rfl hl.1 rfl (lv_room (Nat.le_of_ble_eq_true rfl)) dX3_cover_31 ⟨Nat.zero_le _, Nat.zero_le _⟩).run (fun r_ e_ => ?_)
        subst r_
        refine lv_icmp_gt (tgt := 41) hx hb dX3_cover_34 (by decide) (fun c13 => ?_) (fun c13 => ?_)
        · have hw := ite_t hw c13
          refine lv_bipush (v := (-102)) hx hb dX3_cover_41 (by decide) ?_
          exact hret _ _ _ (Option.some.inj hw) dX3_cover_43
        · have hw := ite_f hw c13
          refine lv_iload_n hx hb dX3_cover_37 rfl (lv_at hl 0 rfl) ?_
          refine lv_if_ne (tgt := 44) hx hb dX3_cover_38 (by decide) (fun c14 => absurd c14 (by decide)) (fun c14 => ?_)
          refine lv_bipush (v := (-102)) hx hb dX3_cover_41 (by decide) ?_
          exact hret _ _ _ (Option.some.inj hw) dX3_cover_43
    · have hw := ite_f hw c10
      refine lv_iload_n hx hb dX3_cover_10 rfl (lv_at hl 2 rfl) ?_
      refine lv_bipush (v := 12) hx hb dX3_cover_11 (by decide) ?_
      refine lv_icmp_gt (tgt := 20) hx hb dX3_cover_13 (by decide) (fun c15 => ?_) (fun c15 => ?_)
      · have hw := ite_t hw c15
        refine lv_iconst (v := 0) hx hb dX3_cover_20 (by decide) ?_
        refine lv_istore_n (lv' := [(3, .int 0), (0, .ref (a 0)), (1, .int p1), (2, .int p2)]) hx hb dX3_cover_21 rfl hl (by decide) rfl (fun ls hl => ?_)
        refine lv_iload_n hx hb dX3_cover_22 rfl (lv_at hl 2 rfl) ?_
        refine lv_if_lt (tgt := 41) hx hb dX3_cover_23 (by decide) (fun c16 => ?_) (fun c16 => ?_)
        · have hw := ite_t hw c16
          refine lv_bipush (v := (-102)) hx hb dX3_cover_41 (by decide) ?_
          exact hret _ _ _ (Option.some.inj hw) dX3_cover_43
        · have hw := ite_f hw c16
          refine lv_iload_n hx hb dX3_cover_26 rfl (lv_at hl 2 rfl) ?_
          refine lv_aload_n hx hb dX3_cover_27 rfl (lv_at hl 1 rfl) ?_
          refine va_get (D := (dC, dI)) (ci := 3) (v := .ref (a 3)) (C := RX3) (T := TX3) (N := 6) hx hb hts iX3 hown hK hP 0 rfl rfl 1 (by decide) (hts _ wd_179) (fun _ h9 => h9) rfl dX3_cover_28 ?_
          obtain ⟨r17, er17, hw⟩ := Option.bind_eq_some_iff.mp hw
          refine vp_callSi (va_runV (As := []) (rest := [.int p1]) ⟨hx, hb, hml, hown, hts⟩ (c_X2_everyone l dC dI a cA X r17 er17) ⟨callB_of 0 hts gd_X2_everyone rfl rfl rfl (hts _ wd_37) (hts _ wd_385) hd_X2_everyone ⟨Nat.le_of_ble_eq_true rfl, Nat.le_of_ble_eq_true rfl⟩, hts _ wd_386, hts _ wd_387⟩ ⟨blX, va_recv hK hP (ci := 2) (q0 := 3) rfl rfl, fun U hU hW => ⟨rfl, by rw [hU]; exact hP, va_K.moved hW.alike hK, nst.warm hW hN⟩⟩ rfl rfl hl.1 rfl (lv_room (Nat.le_of_ble_eq_true rfl)) dX3_cover_31 ⟨Nat.zero_le _, Nat.zero_le _⟩).run (fun r_ e_ => ?_)
          subst r_
          refine lv_icmp_gt (tgt := 41) hx hb dX3_cover_34 (by decide) (fun c18 => ?_) (fun c18 => ?_)
          · have hw := ite_t hw c18
            refine lv_bipush (v := (-102)) hx hb dX3_cover_41 (by decide) ?_
            exact hret _ _ _ (Option.some.inj hw) dX3_cover_43
          · have hw := ite_f hw c18
            refine lv_iload_n hx hb dX3_cover_37 rfl (lv_at hl 0 rfl) ?_
            refine lv_if_ne (tgt := 44) hx hb dX3_cover_38 (by decide) (fun c19 => absurd c19 (by decide)) (fun c19 => ?_)
            refine lv_bipush (v := (-102)) hx hb dX3_cover_41 (by decide) ?_
            exact hret _ _ _ (Option.some.inj hw) dX3_cover_43
      · have hw := ite_f hw c15
        refine lv_iconst (v := 1) hx hb dX3_cover_16 (by decide) ?_
        refine lv_goto (tgt := 21) hx hb dX3_cover_17 (by decide) ?_
        refine lv_istore_n (lv' := [(3, .int 1), (0, .ref (a 0)), (1, .int p1), (2, .int p2)]) hx hb dX3_cover_21 rfl hl (by decide) rfl (fun ls hl => ?_)
        refine lv_iload_n hx hb dX3_cover_22 rfl (lv_at hl 2 rfl) ?_
        refine lv_if_lt (tgt := 41) hx hb dX3_cover_23 (by decide) (fun c20 => ?_) (fun c20 => ?_)
        · have hw := ite_t hw c20
          refine lv_bipush (v := (-102)) hx hb dX3_cover_41 (by decide) ?_
          exact hret _ _ _ (Option.some.inj hw) dX3_cover_43
        · have hw := ite_f hw c20
          refine lv_iload_n hx hb dX3_cover_26 rfl (lv_at hl 2 rfl) ?_
          refine lv_aload_n hx hb dX3_cover_27 rfl (lv_at hl 1 rfl) ?_
          refine va_get (D := (dC, dI)) (ci := 3) (v := .ref (a 3)) (C := RX3) (T := TX3) (N := 6) hx hb hts iX3 hown hK hP 0 rfl rfl 1 (by decide) (hts _ wd_179) (fun _ h9 => h9) rfl dX3_cover_28 ?_
          obtain ⟨r21, er21, hw⟩ := Option.bind_eq_some_iff.mp hw
          refine vp_callSi (va_runV (As := []) (rest := [.int p1]) ⟨hx, hb, hml, hown, hts⟩ (c_X2_everyone l dC dI a cA X r21 er21) ⟨callB_of 0 hts gd_X2_everyone rfl rfl rfl (hts _ wd_37) (hts _ wd_385) hd_X2_everyone ⟨Nat.le_of_ble_eq_true rfl, Nat.le_of_ble_eq_true rfl⟩, hts _ wd_386, hts _ wd_387⟩ ⟨blX, va_recv hK hP (ci := 2) (q0 := 3) rfl rfl, fun U hU hW => ⟨rfl, by rw [hU]; exact hP, va_K.moved hW.alike hK, nst.warm hW hN⟩⟩ rfl rfl hl.1 rfl (lv_room (Nat.le_of_ble_eq_true rfl)) dX3_cover_31 ⟨Nat.zero_le _, Nat.zero_le _⟩).run (fun r_ e_ => ?_)
          subst r_
          refine lv_icmp_gt (tgt := 41) hx hb dX3_cover_34 (by decide) (fun c22 => ?_) (fun c22 => ?_)
          · have hw := ite_t hw c22
            refine lv_bipush (v := (-102)) hx hb dX3_cover_41 (by decide) ?_
            exact hret _ _ _ (Option.some.inj hw) dX3_cover_43
          · have hw := ite_f hw c22
            refine lv_iload_n hx hb dX3_cover_37 rfl (lv_at hl 0 rfl) ?_
            refine lv_if_ne (tgt := 44) hx hb dX3_cover_38 (by decide) (fun c23 => ?_) (fun c23 => absurd c23 (by decide))
            refine lv_aload_n hx hb dX3_cover_44 rfl (lv_at hl 1 rfl) ?_
            obtain ⟨r24, er24, hw⟩ := Option.bind_eq_some_iff.mp hw
            refine vp_callSi (va_runV (As := []) (rest := []) ⟨hx, hb, hml, hown, hts⟩ (c_X3_hasTown l dC dI a cA X r24 er24) ⟨callB_of 0 hts gd_X3_hasTown rfl rfl rfl (hts _ wd_35) (hts _ wd_257) hd_X3_hasTown ⟨Nat.le_of_ble_eq_true rfl, Nat.le_of_ble_eq_true rfl⟩, hts _ wd_259, hts _ wd_1⟩ ⟨blX, va_recv hK hP (ci := 3) (q0 := 0) rfl rfl, fun U hU hW => ⟨rfl, by rw [hU]; exact hP, va_K.moved hW.alike hK, nst.warm hW hN⟩⟩ rfl rfl hl.1 rfl (lv_room (Nat.le_of_ble_eq_true rfl)) dX3_cover_45 ⟨Nat.zero_le _, Nat.zero_le _⟩).run (fun r_ e_ => ?_)
            subst r_
            refine lv_if_eq (tgt := 66) hx hb dX3_cover_48 (by decide) (fun c25 => ?_) (fun c25 => ?_)
            · have hw := ite_t hw c25
              refine lv_bipush (v := (-103)) hx hb dX3_cover_66 (by decide) ?_
              exact hret _ _ _ (Option.some.inj hw) dX3_cover_68
            · have hw := ite_f hw c25
              refine lv_aload_n hx hb dX3_cover_51 rfl (lv_at hl 1 rfl) ?_
              refine va_get (D := (dC, dI)) (ci := 3) (v := .ref (a 3)) (C := RX3) (T := TX3) (N := 6) hx hb hts iX3 hown hK hP 0 rfl rfl 1 (by decide) (hts _ wd_179) (fun _ h9 => h9) rfl dX3_cover_52 ?_
              refine lv_iload_n hx hb dX3_cover_55 rfl (lv_at hl 2 rfl) ?_
              obtain ⟨r26, er26, hw⟩ := Option.bind_eq_some_iff.mp hw
              refine vp_callSi (va_runS (As := [.ref (a 3), .int p1]) (rest := []) ⟨hx, hb, hml, hown, hts⟩ (c_X0_coverPlan l dC dI a cA X p1 r26 er26) ⟨callB_of 2 hts gd_X0_coverPlan rfl rfl rfl (hts _ wd_38) (hts _ wd_389) hd_X0_coverPlan ⟨Nat.le_of_ble_eq_true rfl, Nat.le_of_ble_eq_true rfl⟩, hts _ wd_390⟩ ⟨blX, fun U hU hW => ⟨rfl, by rw [hU]; exact hP, va_K.moved hW.alike hK, nst.warm hW hN⟩⟩ rfl rfl hl.1 rfl (lv_room (Nat.le_of_ble_eq_true rfl)) dX3_cover_56 ⟨Nat.zero_le _, Nat.zero_le _⟩).run (fun r_ e_ => ?_)
              subst r_
              refine lv_iload_n hx hb dX3_cover_59 rfl (lv_at hl 3 rfl) ?_
              obtain ⟨r27, er27, hw⟩ := Option.bind_eq_some_iff.mp hw
              refine vp_callSi (va_runS (As := [.int r26, .int p2]) (rest := []) ⟨hx, hb, hml, hown, hts⟩ (c_X0_partOfPlan l r26 p2 r27 er27) ⟨callB_of 2 hts gd_X0_partOfPlan rfl rfl rfl (hts _ wd_38) (hts _ wd_395) hd_X0_partOfPlan ⟨Nat.le_of_ble_eq_true rfl, Nat.le_of_ble_eq_true rfl⟩, hts _ wd_396⟩ ⟨bl0, fun U hU hW => ⟨rfl, trivial⟩⟩ rfl rfl hl.1 rfl (lv_room (Nat.le_of_ble_eq_true rfl)) dX3_cover_60 ⟨Nat.zero_le _, Nat.zero_le _⟩).run (fun r_ e_ => ?_)
              subst r_
              refine lv_goto (tgt := 68) hx hb dX3_cover_63 (by decide) ?_
              exact hret _ _ _ (Option.some.inj hw) dX3_cover_68
set_option maxHeartbeats 4000000 in
set_option maxRecDepth 100000 in
theorem c_X4_isCovered (l : Launch) (dC : Nat → ClassId) (dI : Nat → Nat → Nat) (A : Nat → Prop) (a : Nat → Nat) (cA : ClassId) (X : MS) (p1 : Int32) (p2 : Int32) (p3 : Int32) (out : (Int32 × MS)) (hw : f_X4_isCovered X p1 p2 p3 = some out) : Met l yX4_isCovered (.code yX4_isCovered cX4_isCovered 7 (some .boolean) :: lw_g) ({ frames := 3, cells := 0, slots := 0, locals := 78 }) (PcMD dC dI A a cA X [.ref (a 0), .int p1, .int p2, .int p3]) (va_Qi (fun (r_ : Int32) (X_ : MS) => out = (r_, X_)) (fun X_ t => va_P (dC, dI) classes (wm a cA X_) t.heap ∧ va_K (dC, dI) classes [(cA, .int)] t) A) 0 0 (A) := by
  unfold f_X4_isCovered at hw
  refine Met.ofW (cc := cX4_isCovered) (maxL := 7) (ret := (some .boolean)) (by decide) rfl ?_
  intro p e s m args below meth c s₁ B hml hv
  obtain ⟨rfl, hP, hK, hD0⟩ := hv
  have hx := B.exec
  have hb := B.bytes
  have hr := B.returns
  have hts0 := atoms_spec (ws := (.code yX4_isCovered cX4_isCovered 7 (some .boolean) :: lw_g)) B.pre
  have hts : ∀ w ∈ lw_g, w.before (([.ref (a 0), .int p1, .int p2, .int p3] : List Value).toArray) s = true := fun w h => hts0 w (List.mem_cons_of_mem _ h)
  clear hts0
  have hown : s.vm.findClass RX4 = some m.cls := findClass_of_methodNamed B.named
  have hlocks := B.notSynchronized
  have hret : ∀ (pc : Nat) (ls : Array Slot) (v : Int32) (X_ : MS) (H : Heap) (locs : List Loc), (v, X_) = out → (hz : narrow .boolean (.int v) = .int v) → va_P (dC, dI) classes (wm a cA X_) H → va_S A s.heap H locs → decode cX4_isCovered pc = .ok (.ireturn, 1) → W p l e ({ frames := 3, cells := 0, slots := 0, locals := 78 }) s m (([.ref (a 0), .int p1, .int p2, .int p3] : List Value).toArray) below meth c H locs 0 0 (MQ below (va_Qi (fun (r_ : Int32) (X_ : MS) => out = (r_, X_)) (fun X_ t => va_P (dC, dI) classes (wm a cA X_) t.heap ∧ va_K (dC, dI) classes [(cA, .int)] t) A) (([.ref (a 0), .int p1, .int p2, .int p3] : List Value).toArray) s 0 0 (A)) (F0 m pc ls [.int v]) := fun pc ls v X_ H locs hv hz hP hS hd => W.zret hx hb hr hz (fun t ht hW => ⟨⟨v, X_, rfl, hv.symm, by rw [ht]; exact hP, va_K.moved hW.alike hK⟩, hS.F ht⟩) hS.2.2 hd
  show W p l e ({ frames := 3, cells := 0, slots := 0, locals := 78 }) s m (([.ref (a 0), .int p1, .int p2, .int p3] : List Value).toArray) below meth c s.heap [] 0 0 (MQ below (va_Qi (fun (r_ : Int32) (X_ : MS) => out = (r_, X_)) (fun X_ t => va_P (dC, dI) classes (wm a cA X_) t.heap ∧ va_K (dC, dI) classes [(cA, .int)] t) A) (([.ref (a 0), .int p1, .int p2, .int p3] : List Value).toArray) s 0 0 (A)) (entryFrame m (([.ref (a 0), .int p1, .int p2, .int p3] : List Value).toArray) 7)
  generalize MQ below (va_Qi (fun (r_ : Int32) (X_ : MS) => out = (r_, X_)) (fun X_ t => va_P (dC, dI) classes (wm a cA X_) t.heap ∧ va_K (dC, dI) classes [(cA, .int)] t) A) (([.ref (a 0), .int p1, .int p2, .int p3] : List Value).toArray) s 0 0 (A) = Q at hret ⊢
  have hS : va_S A s.heap s.heap [] := va_S.rf
  have L47 : ∀ (v1 : Int32), ∀ (v2 : Int32), ∀ n : Nat, ∀ (X : MS), ∀ (v5 : Int32), ∀ (v6 : Int32), g_X4_isCovered_47 v1 v2 n X v5 v6 = some out → ∀ (H : Heap) (locs : List Loc), va_P (dC, dI) classes (wm a cA X) H → va_S A s.heap H locs → ∀ ls : Array Slot, lv_has ls 7 [(0, .ref (a 0)), (1, .int v1), (2, .int v2), (5, .int v5), (6, .int v6)] → W p l e ({ frames := 3, cells := 0, slots := 0, locals := 78 }) s m (([.ref (a 0), .int p1, .int p2, .int p3] : List Value).toArray) below meth c H locs 0 0 Q (F0 m 47 ls []) := by
    intro v1 v2 n
    induction n with
    | zero =>
      intro X v5 v6 hw
      rw [g_X4_isCovered_47] at hw
      cases hw
    | succ n ih =>
      intro X v5 v6 hw H locs hP hS ls hl
      rw [g_X4_isCovered_47] at hw
      refine lv_iload hx hb dX4_isCovered_47 (lv_at hl 4 rfl) ?_
      refine lv_iload_n hx hb dX4_isCovered_49 rfl (lv_at hl 2 rfl) ?_
      refine lv_icmp_ge (tgt := 85) hx hb dX4_isCovered_50 (by decide) (fun c4 => ?_) (fun c4 => ?_)
      · have hw := ite_t hw c4
        refine lv_iload_n hx hb dX4_isCovered_85 rfl (lv_at hl 1 rfl) ?_
        refine lv_aload_n hx hb dX4_isCovered_86 rfl (lv_at hl 0 rfl) ?_
        refine lv_iload hx hb dX4_isCovered_87 (lv_at hl 3 rfl) ?_
        obtain ⟨r5, er5, hw⟩ := Option.bind_eq_some_iff.mp hw
        refine vp_callSi (va_runV (As := [.int v5]) (rest := [.int v1]) ⟨hx, hb, hml, hown, hts⟩ (c_X4_knowing l dC dI a cA X v5 r5 er5) ⟨callB_of 1 hts gd_X4_knowing rfl rfl rfl (hts _ wd_39) (hts _ wd_672) hd_X4_knowing ⟨Nat.le_of_ble_eq_true rfl, Nat.le_of_ble_eq_true rfl⟩, hts _ wd_674, hts _ wd_15⟩ ⟨blM, va_recv hK hP (ci := 4) (q0 := 0) rfl rfl, fun U hU hW => ⟨rfl, by rw [hU]; exact hP, va_K.moved hW.alike hK⟩⟩ rfl rfl hl.1 rfl (lv_room (Nat.le_of_ble_eq_true rfl)) dX4_isCovered_89 ⟨Nat.zero_le _, Nat.zero_le _⟩).run (fun r_ e_ => ?_)
        subst r_
        refine lv_iconst (v := (-1)) hx hb dX4_isCovered_92 (by decide) ?_
        refine lv_ixor hx hb dX4_isCovered_93 ?_
        refine lv_iand hx hb dX4_isCovered_94 ?_
        refine lv_if_ne (tgt := 102) hx hb dX4_isCovered_95 (by decide) (fun c6 => ?_) (fun c6 => ?_)
        · have hw := ite_f hw c6
          refine lv_iconst (v := 0) hx hb dX4_isCovered_102 (by decide) ?_
          exact hret _ _ _ _ _ _ (Option.some.inj hw) rfl hP hS dX4_isCovered_103
        · have hw := ite_t hw c6
          refine lv_iconst (v := 1) hx hb dX4_isCovered_98 (by decide) ?_
          refine lv_goto (tgt := 103) hx hb dX4_isCovered_99 (by decide) ?_
          exact hret _ _ _ _ _ _ (Option.some.inj hw) rfl hP hS dX4_isCovered_103
      · have hw := ite_f hw c4
        refine lv_aload_n hx hb dX4_isCovered_53 rfl (lv_at hl 0 rfl) ?_
        refine lv_aload_n hx hb dX4_isCovered_54 rfl (lv_at hl 0 rfl) ?_
        refine va_get (D := (dC, dI)) (ci := 4) (v := .ref (a 4)) (C := RX4) (T := TX4) (N := 29) hx hb hts iX4 hown hK hP 0 rfl rfl 13 (by decide) (hts _ wd_535) (fun _ h9 => h9) rfl dX4_isCovered_55 ?_
        refine lv_iload hx hb dX4_isCovered_58 (lv_at hl 4 rfl) ?_
        obtain ⟨h7, hw⟩ := ixc_use hw
        refine va_iald hx hb hK hP 4 0 rfl rfl h7 dX4_isCovered_60 ?_
        refine lv_aload_n hx hb dX4_isCovered_61 rfl (lv_at hl 0 rfl) ?_
        refine va_get (D := (dC, dI)) (ci := 4) (v := .int (X.1 0 3)) (C := RX4) (T := TX4) (N := 29) hx hb hts iX4 hown hK hP 0 rfl rfl 3 (by decide) (hts _ wd_525) (fun _ h9 => h9) rfl dX4_isCovered_62 ?_
        refine lv_iload hx hb dX4_isCovered_65 (lv_at hl 4 rfl) ?_
        refine lv_isub hx hb dX4_isCovered_67 ?_
        refine lv_aload_n hx hb dX4_isCovered_68 rfl (lv_at hl 0 rfl) ?_
        obtain ⟨r8, er8, hw⟩ := Option.bind_eq_some_iff.mp hw
        refine vp_callSi (va_runV (As := []) (rest := [.int ((X.1 0 3) - v6), .int (X.1 4 (Int32.toNatClampNeg v6)), .ref (a 0)]) ⟨hx, hb, hml, hown, hts⟩ (c_X4_allListeners l dC dI a cA X r8 er8) ⟨callB_of 0 hts gd_X4_allListeners rfl rfl rfl (hts _ wd_39) (hts _ wd_699) hd_X4_allListeners ⟨Nat.le_of_ble_eq_true rfl, Nat.le_of_ble_eq_true rfl⟩, hts _ wd_701, hts _ wd_18⟩ ⟨blM, va_recv hK hP (ci := 4) (q0 := 0) rfl rfl, fun U hU hW => ⟨rfl, by rw [hU]; exact hP, va_K.moved hW.alike hK⟩⟩ rfl rfl hl.1 rfl (lv_room (Nat.le_of_ble_eq_true rfl)) dX4_isCovered_69 ⟨Nat.zero_le _, Nat.zero_le _⟩).run (fun r_ e_ => ?_)
        subst r_
        refine lv_iload hx hb dX4_isCovered_72 (lv_at hl 3 rfl) ?_
        obtain ⟨r9, er9, hw⟩ := Option.bind_eq_some_iff.mp hw
        refine vp_callSi (va_runV (As := [.int (X.1 4 (Int32.toNatClampNeg v6)), .int ((X.1 0 3) - v6), .int r8, .int v5]) (rest := []) ⟨hx, hb, hml, hown, hts⟩ (c_X4_heardBy l dC dI a cA X (X.1 4 (Int32.toNatClampNeg v6)) ((X.1 0 3) - v6) r8 v5 r9 er9) ⟨callB_of 4 hts gd_X4_heardBy rfl rfl rfl (hts _ wd_39) (hts _ wd_703) hd_X4_heardBy ⟨Nat.le_of_ble_eq_true rfl, Nat.le_of_ble_eq_true rfl⟩, hts _ wd_705, hts _ wd_19⟩ ⟨blM, va_recv hK hP (ci := 4) (q0 := 0) rfl rfl, fun U hU hW => ⟨rfl, by rw [hU]; exact hP, va_K.moved hW.alike hK⟩⟩ rfl rfl hl.1 rfl (lv_room (Nat.le_of_ble_eq_true rfl)) dX4_isCovered_74 ⟨Nat.zero_le _, Nat.zero_le _⟩).run (fun r_ e_ => ?_)
        subst r_
        refine lv_istore (lv' := [(5, .int r9), (0, .ref (a 0)), (1, .int v1), (2, .int v2), (6, .int v6)]) hx hb dX4_isCovered_77 hl (by decide) rfl (fun ls hl => ?_)
        obtain ⟨x10, ex10⟩ : ∃ y : Int32, y = (v6 + 1) := ⟨_, rfl⟩
        have hw := stp_use hw ex10
        refine lv_iinc (v := x10) (lv' := [(6, .int x10), (5, .int r9), (0, .ref (a 0)), (1, .int v1), (2, .int v2)]) hx hb dX4_isCovered_79 hl (k := 4) rfl (by rw [ex10]; rfl) (by decide) rfl (fun ls hl => ?_)
        refine lv_goto (tgt := 47) hx hb dX4_isCovered_82 (by decide) ?_
        exact ih X r9 x10 hw _ _ hP hS ls (lv_sub hl [2, 3, 4, 1, 0] rfl)
  have L8 : ∀ (v1 : Int32), ∀ (v2 : Int32), ∀ n : Nat, ∀ (X : MS), ∀ (v4 : Int32), ∀ (v5 : Int32), g_X4_isCovered_8 v1 v2 n X v4 v5 = some out → ∀ (H : Heap) (locs : List Loc), va_P (dC, dI) classes (wm a cA X) H → va_S A s.heap H locs → ∀ ls : Array Slot, lv_has ls 7 [(0, .ref (a 0)), (1, .int v1), (2, .int v2), (4, .int v4), (5, .int v5)] → W p l e ({ frames := 3, cells := 0, slots := 0, locals := 78 }) s m (([.ref (a 0), .int p1, .int p2, .int p3] : List Value).toArray) below meth c H locs 0 0 Q (F0 m 8 ls []) := by
    intro v1 v2 n
    induction n with
    | zero =>
      intro X v4 v5 hw
      rw [g_X4_isCovered_8] at hw
      cases hw
    | succ n ih =>
      intro X v4 v5 hw H locs hP hS ls hl
      rw [g_X4_isCovered_8] at hw
      refine lv_iload hx hb dX4_isCovered_8 (lv_at hl 4 rfl) ?_
      refine lv_if_lt (tgt := 38) hx hb dX4_isCovered_10 (by decide) (fun c2 => ?_) (fun c2 => ?_)
      · have hw := ite_t hw c2
        refine lv_aload_n hx hb dX4_isCovered_38 rfl (lv_at hl 0 rfl) ?_
        refine va_get (D := (dC, dI)) (ci := 4) (v := .int (X.1 0 6)) (C := RX4) (T := TX4) (N := 29) hx hb hts iX4 hown hK hP 0 rfl rfl 6 (by decide) (hts _ wd_528) (fun _ h9 => h9) rfl dX4_isCovered_39 ?_
        refine lv_topi (fun x3 ex3 => ?_)
        have hw := stp_use hw ex3
        refine lv_istore (lv' := [(5, .int x3), (0, .ref (a 0)), (1, .int v1), (2, .int v2), (4, .int v4)]) hx hb dX4_isCovered_42 hl (by decide) rfl (fun ls hl => ?_)
        refine lv_iconst (v := 0) hx hb dX4_isCovered_44 (by decide) ?_
        refine lv_istore (lv' := [(6, .int 0), (5, .int x3), (0, .ref (a 0)), (1, .int v1), (2, .int v2), (4, .int v4)]) hx hb dX4_isCovered_45 hl (by decide) rfl (fun ls hl => ?_)
        exact L47 v1 v2 NF X x3 0 hw _ _ hP hS ls (lv_sub hl [2, 3, 4, 1, 0] rfl)
      · have hw := ite_f hw c2
        refine lv_aload_n hx hb dX4_isCovered_13 rfl (lv_at hl 0 rfl) ?_
        refine va_get (D := (dC, dI)) (ci := 4) (v := .ref (a 4)) (C := RX4) (T := TX4) (N := 29) hx hb hts iX4 hown hK hP 0 rfl rfl 13 (by decide) (hts _ wd_535) (fun _ h9 => h9) rfl dX4_isCovered_14 ?_
        refine lv_iload hx hb dX4_isCovered_17 (lv_at hl 4 rfl) ?_
        refine lv_iload hx hb dX4_isCovered_19 (lv_at hl 3 rfl) ?_
        refine lv_bipush (v := 6) hx hb dX4_isCovered_21 (by decide) ?_
        refine lv_irem hx hb dX4_isCovered_23 (by decide) ?_
        refine lv_topi (fun x12 ex12 => ?_)
        have hw := stp_use hw ex12
        obtain ⟨h11, hw⟩ := ixc_use hw
        refine va_iast hx hb hK hP (wmD hD0) hS 4 0 rfl rfl h11 dX4_isCovered_24 (fun H locs hP hD_ hS => ?_)
        obtain ⟨X13, eX13⟩ : ∃ y : MS, y = (ups X.1 4 (Int32.toNatClampNeg v5) x12, X.2) := ⟨_, rfl⟩
        have hw := stp_use hw eX13
        have hP : va_P (dC, dI) classes (wm a cA X13) H := by rw [eX13]; exact hP
        refine lv_iload hx hb dX4_isCovered_25 (lv_at hl 3 rfl) ?_
        refine lv_bipush (v := 6) hx hb dX4_isCovered_27 (by decide) ?_
        refine lv_idiv hx hb dX4_isCovered_29 (by decide) ?_
        refine lv_topi (fun x14 ex14 => ?_)
        have hw := stp_use hw ex14
        refine lv_istore (lv' := [(4, .int x14), (0, .ref (a 0)), (1, .int v1), (2, .int v2), (5, .int v5)]) hx hb dX4_isCovered_30 hl (by decide) rfl (fun ls hl => ?_)
        obtain ⟨x15, ex15⟩ : ∃ y : Int32, y = (v5 + (-1)) := ⟨_, rfl⟩
        have hw := stp_use hw ex15
        refine lv_iinc (v := x15) (lv' := [(5, .int x15), (4, .int x14), (0, .ref (a 0)), (1, .int v1), (2, .int v2)]) hx hb dX4_isCovered_32 hl (k := 4) rfl (by rw [ex15]; rfl) (by decide) rfl (fun ls hl => ?_)
        refine lv_goto (tgt := 8) hx hb dX4_isCovered_35 (by decide) ?_
        exact ih X13 x14 x15 hw _ _ hP hS ls (lv_sub hl [2, 3, 4, 1, 0] rfl)
  have hl := lv_entry ([.ref (a 0), .int p1, .int p2, .int p3]) (n := 7) (Nat.le_of_ble_eq_true rfl)
  rw [lg_entry_eq]
  generalize (lg_sl ([.ref (a 0), .int p1, .int p2, .int p3]) ++ List.replicate (7 - (lg_sl ([.ref (a 0), .int p1, .int p2, .int p3])).length) Slot.unset).toArray = ls at hl ⊢
  have hl : lv_has ls 7 [(0, .ref (a 0)), (1, .int p1), (2, .int p2), (3, .int p3)] := hl
  refine lv_iload_n hx hb dX4_isCovered_0 rfl (lv_at hl 3 rfl) ?_
  refine lv_istore (lv' := [(4, .int p3), (0, .ref (a 0)), (1, .int p1), (2, .int p2), (3, .int p3)]) hx hb dX4_isCovered_1 hl (by decide) rfl (fun ls hl => ?_)
  refine lv_iload_n hx hb dX4_isCovered_3 rfl (lv_at hl 3 rfl) ?_
  refine lv_iconst (v := 1) hx hb dX4_isCovered_4 (by decide) ?_
  refine lv_isub hx hb dX4_isCovered_5 ?_
  refine lv_topi (fun x1 ex1 => ?_)
  have hw := stp_use hw ex1
  refine lv_istore (lv' := [(5, .int x1), (4, .int p3), (0, .ref (a 0)), (1, .int p1), (2, .int p2), (3, .int p3)]) hx hb dX4_isCovered_6 hl (by decide) rfl (fun ls hl => ?_)
  exact L8 p1 p2 NF X p3 x1 hw _ _ hP hS ls (lv_sub hl [2, 3, 4, 1, 0] rfl)
set_option maxHeartbeats 4000000 in
set_option maxRecDepth 100000 in
theorem c_X4_coverOf (l : Launch) (dC : Nat → ClassId) (dI : Nat → Nat → Nat) (A : Nat → Prop) (a : Nat → Nat) (cA : ClassId) (X : MS) (p1 : Int32) (p2 : Int32) (out : (Int32 × MS)) (hw : f_X4_coverOf X p1 p2 = some out) : Met l yX4_coverOf (.code yX4_coverOf cX4_coverOf 6 (some .int) :: lw_g) ({ frames := 4, cells := 0, slots := 0, locals := 104 }) (PcMD dC dI A a cA X [.ref (a 0), .int p1, .int p2]) (va_Qi (fun (r_ : Int32) (X_ : MS) => out = (r_, X_)) (fun X_ t => va_P (dC, dI) classes (wm a cA X_) t.heap ∧ va_K (dC, dI) classes [(cA, .int)] t) A) 0 0 (A) := by
  unfold f_X4_coverOf at hw
  refine Met.ofW (cc := cX4_coverOf) (maxL := 6) (ret := (some .int)) (by decide) rfl ?_
  intro p e s m args below meth c s₁ B hml hv
  obtain ⟨rfl, hP, hK, hD0⟩ := hv
  have hx := B.exec
  have hb := B.bytes
  have hr := B.returns
  have hts0 := atoms_spec (ws := (.code yX4_coverOf cX4_coverOf 6 (some .int) :: lw_g)) B.pre
  have hts : ∀ w ∈ lw_g, w.before (([.ref (a 0), .int p1, .int p2] : List Value).toArray) s = true := fun w h => hts0 w (List.mem_cons_of_mem _ h)
  clear hts0
  have hown : s.vm.findClass RX4 = some m.cls := findClass_of_methodNamed B.named
  have hlocks := B.notSynchronized
  have hret : ∀ (pc : Nat) (ls : Array Slot) (v : Int32) (X_ : MS) (H : Heap) (locs : List Loc), (v, X_) = out → va_P (dC, dI) classes (wm a cA X_) H → va_S A s.heap H locs → decode cX4_coverOf pc = .ok (.ireturn, 1) → W p l e ({ frames := 4, cells := 0, slots := 0, locals := 104 }) s m (([.ref (a 0), .int p1, .int p2] : List Value).toArray) below meth c H locs 0 0 (MQ below (va_Qi (fun (r_ : Int32) (X_ : MS) => out = (r_, X_)) (fun X_ t => va_P (dC, dI) classes (wm a cA X_) t.heap ∧ va_K (dC, dI) classes [(cA, .int)] t) A) (([.ref (a 0), .int p1, .int p2] : List Value).toArray) s 0 0 (A)) (F0 m pc ls [.int v]) := fun pc ls v X_ H locs hv hP hS hd => W.iret hx hb hr (fun t ht hW => ⟨⟨v, X_, rfl, hv.symm, by rw [ht]; exact hP, va_K.moved hW.alike hK⟩, hS.F ht⟩) hS.2.2 hd
  show W p l e ({ frames := 4, cells := 0, slots := 0, locals := 104 }) s m (([.ref (a 0), .int p1, .int p2] : List Value).toArray) below meth c s.heap [] 0 0 (MQ below (va_Qi (fun (r_ : Int32) (X_ : MS) => out = (r_, X_)) (fun X_ t => va_P (dC, dI) classes (wm a cA X_) t.heap ∧ va_K (dC, dI) classes [(cA, .int)] t) A) (([.ref (a 0), .int p1, .int p2] : List Value).toArray) s 0 0 (A)) (entryFrame m (([.ref (a 0), .int p1, .int p2] : List Value).toArray) 6)
  generalize MQ below (va_Qi (fun (r_ : Int32) (X_ : MS) => out = (r_, X_)) (fun X_ t => va_P (dC, dI) classes (wm a cA X_) t.heap ∧ va_K (dC, dI) classes [(cA, .int)] t) A) (([.ref (a 0), .int p1, .int p2] : List Value).toArray) s 0 0 (A) = Q at hret ⊢
  have hS : va_S A s.heap s.heap [] := va_S.rf
  have L23 : ∀ (v1 : Int32), ∀ (v2 : Int32), ∀ (k5 : MS → Int32 → Int32 → Option (Int32 × MS)), (∀ (X : MS), ∀ (v3 : Int32), ∀ (v4 : Int32), k5 X v3 v4 = some out → ∀ (H : Heap) (locs : List Loc), va_P (dC, dI) classes (wm a cA X) H → va_S A s.heap H locs → ∀ ls : Array Slot, lv_has ls 6 [(0, .ref (a 0)), (1, .int v1), (2, .int v2), (3, .int v3), (4, .int v4)] → W p l e ({ frames := 4, cells := 0, slots := 0, locals := 104 }) s m (([.ref (a 0), .int p1, .int p2] : List Value).toArray) below meth c H locs 0 0 Q (F0 m 5 ls [])) → ∀ n : Nat, ∀ (X : MS), ∀ (v3 : Int32), ∀ (v4 : Int32), ∀ (v5 : Int32), g_X4_coverOf_23 k5 v1 v2 n X v3 v4 v5 = some out → ∀ (H : Heap) (locs : List Loc), va_P (dC, dI) classes (wm a cA X) H → va_S A s.heap H locs → ∀ ls : Array Slot, lv_has ls 6 [(0, .ref (a 0)), (1, .int v1), (2, .int v2), (3, .int v3), (4, .int v4), (5, .int v5)] → W p l e ({ frames := 4, cells := 0, slots := 0, locals := 104 }) s m (([.ref (a 0), .int p1, .int p2] : List Value).toArray) below meth c H locs 0 0 Q (F0 m 23 ls []) := by
    intro v1 v2 k5 hk5 n
    induction n with
    | zero =>
      intro X v3 v4 v5 hw
      rw [g_X4_coverOf_23] at hw
      cases hw
    | succ n ih =>
      intro X v3 v4 v5 hw H locs hP hS ls hl
      rw [g_X4_coverOf_23] at hw
      refine lv_iload hx hb dX4_coverOf_23 (lv_at hl 5 rfl) ?_
      refine lv_iload_n hx hb dX4_coverOf_25 rfl (lv_at hl 3 rfl) ?_
      refine lv_icmp_ge (tgt := 79) hx hb dX4_coverOf_26 (by decide) (fun c3 => ?_) (fun c3 => ?_)
      · have hw := ite_t hw c3
        refine lv_iload_n hx hb dX4_coverOf_79 rfl (lv_at hl 3 rfl) ?_
        refine lv_bipush (v := 6) hx hb dX4_coverOf_80 (by decide) ?_
        refine lv_imul hx hb dX4_coverOf_82 ?_
        refine lv_topi (fun x4 ex4 => ?_)
        have hw := stp_use hw ex4
        refine lv_istore_n (lv' := [(3, .int x4), (0, .ref (a 0)), (1, .int v1), (2, .int v2), (4, .int v4), (5, .int v5)]) hx hb dX4_coverOf_83 rfl hl (by decide) rfl (fun ls hl => ?_)
        obtain ⟨x5, ex5⟩ : ∃ y : Int32, y = (v4 + 1) := ⟨_, rfl⟩
        have hw := stp_use hw ex5
        refine lv_iinc (v := x5) (lv' := [(4, .int x5), (3, .int x4), (0, .ref (a 0)), (1, .int v1), (2, .int v2), (5, .int v5)]) hx hb dX4_coverOf_84 hl (k := 4) rfl (by rw [ex5]; rfl) (by decide) rfl (fun ls hl => ?_)
        refine lv_goto (tgt := 5) hx hb dX4_coverOf_87 (by decide) ?_
        exact hk5 X x4 x5 hw _ _ hP hS ls (lv_sub hl [2, 3, 4, 1, 0] rfl)
      · have hw := ite_f hw c3
        refine lv_aload_n hx hb dX4_coverOf_29 rfl (lv_at hl 0 rfl) ?_
        refine lv_iload_n hx hb dX4_coverOf_30 rfl (lv_at hl 1 rfl) ?_
        refine lv_iload hx hb dX4_coverOf_31 (lv_at hl 4 rfl) ?_
        refine lv_iload hx hb dX4_coverOf_33 (lv_at hl 5 rfl) ?_
        obtain ⟨r6, X7, er6, hw⟩ := bnd2_use hw
        refine va_calli (va_runV (As := [.int v1, .int v4, .int v5]) (rest := []) ⟨hx, hb, hml, hown, hts⟩ (c_X4_isCovered l dC dI A a cA X v1 v4 v5 (r6, X7) er6) ⟨callB_of 3 hts gd_X4_isCovered rfl rfl rfl (hts _ wd_39) (hts _ wd_749) hd_X4_isCovered ⟨Nat.le_of_ble_eq_true rfl, Nat.le_of_ble_eq_true rfl⟩, hts _ wd_751, hts _ wd_24⟩ ⟨blMD, va_recv hK hP (ci := 4) (q0 := 0) rfl rfl, fun U hU hW => ⟨rfl, by rw [hU]; exact hP, va_K.moved hW.alike hK, wmD hD0⟩⟩ rfl rfl hl.1 rfl (lv_room (Nat.le_of_ble_eq_true rfl)) dX4_coverOf_35 ⟨Nat.zero_le _, Nat.zero_le _⟩) hS (fun _ _ h => h) (fun _ h => h) (fun r_ u_ t_ H1 locs1 ht hvm hp_ hB hz1 hk1 hS1 => ?_)
        obtain ⟨q1_, q2_⟩ := Prod.mk.inj hp_
        subst q1_
        subst q2_
        obtain ⟨hP1, hK1⟩ := hB
        rw [ht] at hP1
        have hP := hP1
        have hS := hS1
        refine lv_if_eq (tgt := 73) hx hb dX4_coverOf_38 (by decide) (fun c8 => ?_) (fun c8 => ?_)
        · have hw := ite_t hw c8
          obtain ⟨x9, ex9⟩ : ∃ y : Int32, y = (v5 + 1) := ⟨_, rfl⟩
          have hw := stp_use hw ex9
          refine lv_iinc (v := x9) (lv' := [(5, .int x9), (0, .ref (a 0)), (1, .int v1), (2, .int v2), (3, .int v3), (4, .int v4)]) hx hb dX4_coverOf_73 hl (k := 5) rfl (by rw [ex9]; rfl) (by decide) rfl (fun ls hl => ?_)
          refine lv_goto (tgt := 23) hx hb dX4_coverOf_76 (by decide) ?_
          exact ih X7 v3 v4 x9 hw _ _ hP hS ls (lv_sub hl [1, 2, 3, 4, 5, 0] rfl)
        · have hw := ite_f hw c8
          refine lv_iload_n hx hb dX4_coverOf_41 rfl (lv_at hl 2 rfl) ?_
          refine lv_if_ne (tgt := 50) hx hb dX4_coverOf_42 (by decide) (fun c10 => ?_) (fun c10 => ?_)
          · have hw := ite_f hw c10
            refine lv_iload_n hx hb dX4_coverOf_50 rfl (lv_at hl 2 rfl) ?_
            refine lv_bipush (v := 10) hx hb dX4_coverOf_51 (by decide) ?_
            refine lv_isub hx hb dX4_coverOf_53 ?_
            refine lv_iload hx hb dX4_coverOf_54 (lv_at hl 4 rfl) ?_
            refine lv_icmp_ge (tgt := 71) hx hb dX4_coverOf_56 (by decide) (fun c11 => ?_) (fun c11 => ?_)
            · have hw := ite_t hw c11
              refine lv_iconst (v := (-1)) hx hb dX4_coverOf_71 (by decide) ?_
              exact hret _ _ _ _ _ _ (Option.some.inj hw) hP hS dX4_coverOf_72
            · have hw := ite_f hw c11
              refine lv_aload_n hx hb dX4_coverOf_59 rfl (lv_at hl 0 rfl) ?_
              refine va_get (D := (dC, dI)) (ci := 4) (v := .ref (a 4)) (C := RX4) (T := TX4) (N := 29) hx hb hts iX4 hown hK hP 0 rfl rfl 13 (by decide) (hts _ wd_535) (fun _ h9 => h9) rfl dX4_coverOf_60 ?_
              refine lv_iload_n hx hb dX4_coverOf_63 rfl (lv_at hl 2 rfl) ?_
              refine lv_bipush (v := 10) hx hb dX4_coverOf_64 (by decide) ?_
              refine lv_isub hx hb dX4_coverOf_66 ?_
              obtain ⟨h12, hw⟩ := ixc_use hw
              refine va_iald hx hb hK hP 4 0 rfl rfl h12 dX4_coverOf_67 ?_
              refine lv_goto (tgt := 72) hx hb dX4_coverOf_68 (by decide) ?_
              exact hret _ _ _ _ _ _ (Option.some.inj hw) hP hS dX4_coverOf_72
          · have hw := ite_t hw c10
            refine lv_iload hx hb dX4_coverOf_45 (lv_at hl 4 rfl) ?_
            refine lv_goto (tgt := 72) hx hb dX4_coverOf_47 (by decide) ?_
            exact hret _ _ _ _ _ _ (Option.some.inj hw) hP hS dX4_coverOf_72
  have L5 : ∀ (v1 : Int32), ∀ (v2 : Int32), ∀ n : Nat, ∀ (X : MS), ∀ (v3 : Int32), ∀ (v4 : Int32), g_X4_coverOf_5 v1 v2 n X v3 v4 = some out → ∀ (H : Heap) (locs : List Loc), va_P (dC, dI) classes (wm a cA X) H → va_S A s.heap H locs → ∀ ls : Array Slot, lv_has ls 6 [(0, .ref (a 0)), (1, .int v1), (2, .int v2), (3, .int v3), (4, .int v4)] → W p l e ({ frames := 4, cells := 0, slots := 0, locals := 104 }) s m (([.ref (a 0), .int p1, .int p2] : List Value).toArray) below meth c H locs 0 0 Q (F0 m 5 ls []) := by
    intro v1 v2 n
    induction n with
    | zero =>
      intro X v3 v4 hw
      rw [g_X4_coverOf_5] at hw
      cases hw
    | succ n ih =>
      intro X v3 v4 hw H locs hP hS ls hl
      rw [g_X4_coverOf_5] at hw
      refine lv_iload hx hb dX4_coverOf_5 (lv_at hl 4 rfl) ?_
      refine lv_iconst (v := 4) hx hb dX4_coverOf_7 (by decide) ?_
      refine lv_icmp_ge (tgt := 90) hx hb dX4_coverOf_8 (by decide) (fun c1 => ?_) (fun c1 => ?_)
      · have hw := ite_t hw c1
        refine lv_iconst (v := (-1)) hx hb dX4_coverOf_90 (by decide) ?_
        exact hret _ _ _ _ _ _ (Option.some.inj hw) hP hS dX4_coverOf_91
      · have hw := ite_f hw c1
        refine lv_iload hx hb dX4_coverOf_11 (lv_at hl 4 rfl) ?_
        refine lv_aload_n hx hb dX4_coverOf_13 rfl (lv_at hl 0 rfl) ?_
        refine va_get (D := (dC, dI)) (ci := 4) (v := .int (X.1 0 3)) (C := RX4) (T := TX4) (N := 29) hx hb hts iX4 hown hK hP 0 rfl rfl 3 (by decide) (hts _ wd_525) (fun _ h9 => h9) rfl dX4_coverOf_14 ?_
        refine lv_icmp_gt (tgt := 90) hx hb dX4_coverOf_17 (by decide) (fun c2 => ?_) (fun c2 => ?_)
        · have hw := ite_t hw c2
          refine lv_iconst (v := (-1)) hx hb dX4_coverOf_90 (by decide) ?_
          exact hret _ _ _ _ _ _ (Option.some.inj hw) hP hS dX4_coverOf_91
        · have hw := ite_f hw c2
          refine lv_iconst (v := 0) hx hb dX4_coverOf_20 (by decide) ?_
          refine lv_istore (lv' := [(5, .int 0), (0, .ref (a 0)), (1, .int v1), (2, .int v2), (3, .int v3), (4, .int v4)]) hx hb dX4_coverOf_21 hl (by decide) rfl (fun ls hl => ?_)
          exact L23 v1 v2 _ ih NF X v3 v4 0 hw _ _ hP hS ls (lv_sub hl [1, 2, 3, 4, 5, 0] rfl)
  have hl := lv_entry ([.ref (a 0), .int p1, .int p2]) (n := 6) (Nat.le_of_ble_eq_true rfl)
  rw [lg_entry_eq]
  generalize (lg_sl ([.ref (a 0), .int p1, .int p2]) ++ List.replicate (6 - (lg_sl ([.ref (a 0), .int p1, .int p2])).length) Slot.unset).toArray = ls at hl ⊢
  have hl : lv_has ls 6 [(0, .ref (a 0)), (1, .int p1), (2, .int p2)] := hl
  refine lv_iconst (v := 1) hx hb dX4_coverOf_0 (by decide) ?_
  refine lv_istore_n (lv' := [(3, .int 1), (0, .ref (a 0)), (1, .int p1), (2, .int p2)]) hx hb dX4_coverOf_1 rfl hl (by decide) rfl (fun ls hl => ?_)
  refine lv_iconst (v := 0) hx hb dX4_coverOf_2 (by decide) ?_
  refine lv_istore (lv' := [(4, .int 0), (3, .int 1), (0, .ref (a 0)), (1, .int p1), (2, .int p2)]) hx hb dX4_coverOf_3 hl (by decide) rfl (fun ls hl => ?_)
  exact L5 p1 p2 NF X 1 0 hw _ _ hP hS ls (lv_sub hl [2, 3, 4, 1, 0] rfl)
set_option maxHeartbeats 4000000 in
set_option maxRecDepth 100000 in
theorem c_X4_cover (l : Launch) (dC : Nat → ClassId) (dI : Nat → Nat → Nat) (A : Nat → Prop) (a : Nat → Nat) (cA : ClassId) (X : MS) (p1 : Int32) (p2 : Int32) (out : (Int32 × MS)) (hw : f_X4_cover X p1 p2 = some out) : Met l yX4_cover (.code yX4_cover cX4_cover 3 (some .int) :: lw_g) ({ frames := 5, cells := 0, slots := 0, locals := 129 }) (PcMD dC dI A a cA X [.ref (a 0), .int p1, .int p2]) (va_Qi (fun (r_ : Int32) (X_ : MS) => out = (r_, X_)) (fun X_ t => va_P (dC, dI) classes (wm a cA X_) t.heap ∧ va_K (dC, dI) classes [(cA, .int)] t) A) 0 0 (A) := by
  unfold f_X4_cover at hw
  refine Met.ofW (cc := cX4_cover) (maxL := 3) (ret := (some .int)) (by decide) rfl ?_
  intro p e s m args below meth c s₁ B hml hv
  obtain ⟨rfl, hP, hK, hD0⟩ := hv
  have hx := B.exec
  have hb := B.bytes
  have hr := B.returns
  have hts0 := atoms_spec (ws := (.code yX4_cover cX4_cover 3 (some .int) :: lw_g)) B.pre
  have hts : ∀ w ∈ lw_g, w.before (([.ref (a 0), .int p1, .int p2] : List Value).toArray) s = true := fun w h => hts0 w (List.mem_cons_of_mem _ h)
  clear hts0
  have hown : s.vm.findClass RX4 = some m.cls := findClass_of_methodNamed B.named
  have hlocks := B.notSynchronized
  have hret : ∀ (pc : Nat) (ls : Array Slot) (v : Int32) (X_ : MS) (H : Heap) (locs : List Loc), (v, X_) = out → va_P (dC, dI) classes (wm a cA X_) H → va_S A s.heap H locs → decode cX4_cover pc = .ok (.ireturn, 1) → W p l e ({ frames := 5, cells := 0, slots := 0, locals := 129 }) s m (([.ref (a 0), .int p1, .int p2] : List Value).toArray) below meth c H locs 0 0 (MQ below (va_Qi (fun (r_ : Int32) (X_ : MS) => out = (r_, X_)) (fun X_ t => va_P (dC, dI) classes (wm a cA X_) t.heap ∧ va_K (dC, dI) classes [(cA, .int)] t) A) (([.ref (a 0), .int p1, .int p2] : List Value).toArray) s 0 0 (A)) (F0 m pc ls [.int v]) := fun pc ls v X_ H locs hv hP hS hd => W.iret hx hb hr (fun t ht hW => ⟨⟨v, X_, rfl, hv.symm, by rw [ht]; exact hP, va_K.moved hW.alike hK⟩, hS.F ht⟩) hS.2.2 hd
  show W p l e ({ frames := 5, cells := 0, slots := 0, locals := 129 }) s m (([.ref (a 0), .int p1, .int p2] : List Value).toArray) below meth c s.heap [] 0 0 (MQ below (va_Qi (fun (r_ : Int32) (X_ : MS) => out = (r_, X_)) (fun X_ t => va_P (dC, dI) classes (wm a cA X_) t.heap ∧ va_K (dC, dI) classes [(cA, .int)] t) A) (([.ref (a 0), .int p1, .int p2] : List Value).toArray) s 0 0 (A)) (entryFrame m (([.ref (a 0), .int p1, .int p2] : List Value).toArray) 3)
  generalize MQ below (va_Qi (fun (r_ : Int32) (X_ : MS) => out = (r_, X_)) (fun X_ t => va_P (dC, dI) classes (wm a cA X_) t.heap ∧ va_K (dC, dI) classes [(cA, .int)] t) A) (([.ref (a 0), .int p1, .int p2] : List Value).toArray) s 0 0 (A) = Q at hret ⊢
  have hS : va_S A s.heap s.heap [] := va_S.rf
  have hl := lv_entry ([.ref (a 0), .int p1, .int p2]) (n := 3) (Nat.le_of_ble_eq_true rfl)
  rw [lg_entry_eq]
  generalize (lg_sl ([.ref (a 0), .int p1, .int p2]) ++ List.replicate (3 - (lg_sl ([.ref (a 0), .int p1, .int p2])).length) Slot.unset).toArray = ls at hl ⊢
  have hl : lv_has ls 3 [(0, .ref (a 0)), (1, .int p1), (2, .int p2)] := hl
  refine lv_iload_n hx hb dX4_cover_0 rfl (lv_at hl 1 rfl) ?_
  refine lv_i2l hx hb dX4_cover_1 rfl ?_
  refine lv_lconst (v := 0) hx hb dX4_cover_2 (by decide) ?_
  refine lv_aload_n hx hb dX4_cover_3 rfl (lv_at hl 0 rfl) ?_
  obtain ⟨r1, er1, hw⟩ := Option.bind_eq_some_iff.mp hw
  refine vp_callSi (va_runV (As := []) (rest := [.long 0, .long (Int32.toInt64 p1)]) ⟨hx, hb, hml, hown, hts⟩ (c_X4_allListeners l dC dI a cA X r1 er1) ⟨callB_of 0 hts gd_X4_allListeners rfl rfl rfl (hts _ wd_39) (hts _ wd_699) hd_X4_allListeners ⟨Nat.le_of_ble_eq_true rfl, Nat.le_of_ble_eq_true rfl⟩, hts _ wd_701, hts _ wd_18⟩ ⟨blM, va_recv hK hP (ci := 4) (q0 := 0) rfl rfl, fun U hU hW => ⟨rfl, by rw [hU]; exact hP, va_K.moved hW.alike hK⟩⟩ rfl rfl hl.1 rfl (lv_room (Nat.le_of_ble_eq_true rfl)) dX4_cover_4 ⟨Nat.zero_le _, Nat.zero_le _⟩).run (fun r_ e_ => ?_)
  subst r_
  refine lv_i2l hx hb dX4_cover_7 rfl ?_
  obtain ⟨r2, er2, hw⟩ := Option.bind_eq_some_iff.mp hw
  refine vp_callSi (va_runS (As := [.long (Int32.toInt64 p1), .long 0, .long (Int32.toInt64 r1)]) (rest := []) ⟨hx, hb, hml, hown, hts⟩ (c_X4_in l (Int32.toInt64 p1) 0 (Int32.toInt64 r1) r2 er2) ⟨callB_of 3 hts gd_X4_in rfl rfl rfl (hts _ wd_39) (hts _ wd_615) hd_X4_in ⟨Nat.le_of_ble_eq_true rfl, Nat.le_of_ble_eq_true rfl⟩, hts _ wd_616⟩ ⟨bl0, fun U hU hW => ⟨rfl, trivial⟩⟩ rfl rfl hl.1 rfl (lv_room (Nat.le_of_ble_eq_true rfl)) dX4_cover_8 ⟨Nat.zero_le _, Nat.zero_le _⟩).run (fun r_ e_ => ?_)
  subst r_
  refine lv_if_eq (tgt := 32) hx hb dX4_cover_11 (by decide) (fun c3 => ?_) (fun c3 => ?_)
  · have hw := ite_t hw c3
    refine lv_bipush (v := (-102)) hx hb dX4_cover_32 (by decide) ?_
    exact hret _ _ _ _ _ _ (Option.some.inj hw) hP hS dX4_cover_34
  · have hw := ite_f hw c3
    refine lv_iload_n hx hb dX4_cover_14 rfl (lv_at hl 2 rfl) ?_
    refine lv_if_eq (tgt := 35) hx hb dX4_cover_15 (by decide) (fun c4 => ?_) (fun c4 => ?_)
    · have hw := ite_t hw c4
      refine lv_aload_n hx hb dX4_cover_35 rfl (lv_at hl 0 rfl) ?_
      obtain ⟨r5, er5, hw⟩ := Option.bind_eq_some_iff.mp hw
      refine vp_callSi (va_runV (As := []) (rest := []) ⟨hx, hb, hml, hown, hts⟩ (c_X4_lacks l dC dI a cA X r5 er5) ⟨callB_of 0 hts gd_X4_lacks rfl rfl rfl (hts _ wd_39) (hts _ wd_647) hd_X4_lacks ⟨Nat.le_of_ble_eq_true rfl, Nat.le_of_ble_eq_true rfl⟩, hts _ wd_649, hts _ wd_12⟩ ⟨blM, va_recv hK hP (ci := 4) (q0 := 0) rfl rfl, fun U hU hW => ⟨rfl, by rw [hU]; exact hP, va_K.moved hW.alike hK⟩⟩ rfl rfl hl.1 rfl (lv_room (Nat.le_of_ble_eq_true rfl)) dX4_cover_36 ⟨Nat.zero_le _, Nat.zero_le _⟩).run (fun r_ e_ => ?_)
      subst r_
      refine lv_if_eq (tgt := 47) hx hb dX4_cover_39 (by decide) (fun c6 => ?_) (fun c6 => ?_)
      · have hw := ite_t hw c6
        refine lv_aload_n hx hb dX4_cover_47 rfl (lv_at hl 0 rfl) ?_
        refine lv_iload_n hx hb dX4_cover_48 rfl (lv_at hl 1 rfl) ?_
        refine lv_iload_n hx hb dX4_cover_49 rfl (lv_at hl 2 rfl) ?_
        obtain ⟨r7, X8, er7, hw⟩ := bnd2_use hw
        refine va_calli (va_runV (As := [.int p1, .int p2]) (rest := []) ⟨hx, hb, hml, hown, hts⟩ (c_X4_coverOf l dC dI A a cA X p1 p2 (r7, X8) er7) ⟨callB_of 2 hts gd_X4_coverOf rfl rfl rfl (hts _ wd_39) (hts _ wd_745) hd_X4_coverOf ⟨Nat.le_of_ble_eq_true rfl, Nat.le_of_ble_eq_true rfl⟩, hts _ wd_747, hts _ wd_23⟩ ⟨blMD, va_recv hK hP (ci := 4) (q0 := 0) rfl rfl, fun U hU hW => ⟨rfl, by rw [hU]; exact hP, va_K.moved hW.alike hK, wmD hD0⟩⟩ rfl rfl hl.1 rfl (lv_room (Nat.le_of_ble_eq_true rfl)) dX4_cover_50 ⟨Nat.zero_le _, Nat.zero_le _⟩) hS (fun _ _ h => h) (fun _ h => h) (fun r_ u_ t_ H1 locs1 ht hvm hp_ hB hz1 hk1 hS1 => ?_)
        obtain ⟨q1_, q2_⟩ := Prod.mk.inj hp_
        subst q1_
        subst q2_
        obtain ⟨hP1, hK1⟩ := hB
        rw [ht] at hP1
        have hP := hP1
        have hS := hS1
        exact hret _ _ _ _ _ _ (Option.some.inj hw) hP hS dX4_cover_53
      · have hw := ite_f hw c6
        refine lv_bipush (v := (-103)) hx hb dX4_cover_42 (by decide) ?_
        refine lv_goto (tgt := 53) hx hb dX4_cover_44 (by decide) ?_
        exact hret _ _ _ _ _ _ (Option.some.inj hw) hP hS dX4_cover_53
    · have hw := ite_f hw c4
      refine lv_iload_n hx hb dX4_cover_18 rfl (lv_at hl 2 rfl) ?_
      refine lv_i2l hx hb dX4_cover_19 rfl ?_
      refine lv_ldc2 hx hb hown (hts _ wd_743) dX4_cover_20 ?_
      refine lv_ldc2 hx hb hown (hts _ wd_744) dX4_cover_23 ?_
      obtain ⟨r9, er9, hw⟩ := Option.bind_eq_some_iff.mp hw
      refine vp_callSi (va_runS (As := [.long (Int32.toInt64 p2), .long 10, .long 12]) (rest := []) ⟨hx, hb, hml, hown, hts⟩ (c_X4_in l (Int32.toInt64 p2) 10 12 r9 er9) ⟨callB_of 3 hts gd_X4_in rfl rfl rfl (hts _ wd_39) (hts _ wd_615) hd_X4_in ⟨Nat.le_of_ble_eq_true rfl, Nat.le_of_ble_eq_true rfl⟩, hts _ wd_616⟩ ⟨bl0, fun U hU hW => ⟨rfl, trivial⟩⟩ rfl rfl hl.1 rfl (lv_room (Nat.le_of_ble_eq_true rfl)) dX4_cover_26 ⟨Nat.zero_le _, Nat.zero_le _⟩).run (fun r_ e_ => ?_)
      subst r_
      refine lv_if_ne (tgt := 35) hx hb dX4_cover_29 (by decide) (fun c10 => ?_) (fun c10 => ?_)
      · have hw := ite_f hw c10
        refine lv_aload_n hx hb dX4_cover_35 rfl (lv_at hl 0 rfl) ?_
        obtain ⟨r11, er11, hw⟩ := Option.bind_eq_some_iff.mp hw
        refine vp_callSi (va_runV (As := []) (rest := []) ⟨hx, hb, hml, hown, hts⟩ (c_X4_lacks l dC dI a cA X r11 er11) ⟨callB_of 0 hts gd_X4_lacks rfl rfl rfl (hts _ wd_39) (hts _ wd_647) hd_X4_lacks ⟨Nat.le_of_ble_eq_true rfl, Nat.le_of_ble_eq_true rfl⟩, hts _ wd_649, hts _ wd_12⟩ ⟨blM, va_recv hK hP (ci := 4) (q0 := 0) rfl rfl, fun U hU hW => ⟨rfl, by rw [hU]; exact hP, va_K.moved hW.alike hK⟩⟩ rfl rfl hl.1 rfl (lv_room (Nat.le_of_ble_eq_true rfl)) dX4_cover_36 ⟨Nat.zero_le _, Nat.zero_le _⟩).run (fun r_ e_ => ?_)
        subst r_
        refine lv_if_eq (tgt := 47) hx hb dX4_cover_39 (by decide) (fun c12 => ?_) (fun c12 => ?_)
        · have hw := ite_t hw c12
          refine lv_aload_n hx hb dX4_cover_47 rfl (lv_at hl 0 rfl) ?_
          refine lv_iload_n hx hb dX4_cover_48 rfl (lv_at hl 1 rfl) ?_
          refine lv_iload_n hx hb dX4_cover_49 rfl (lv_at hl 2 rfl) ?_
          obtain ⟨r13, X14, er13, hw⟩ := bnd2_use hw
          refine va_calli (va_runV (As := [.int p1, .int p2]) (rest := []) ⟨hx, hb, hml, hown, hts⟩ (c_X4_coverOf l dC dI A a cA X p1 p2 (r13, X14) er13) ⟨callB_of 2 hts gd_X4_coverOf rfl rfl rfl (hts _ wd_39) (hts _ wd_745) hd_X4_coverOf ⟨Nat.le_of_ble_eq_true rfl, Nat.le_of_ble_eq_true rfl⟩, hts _ wd_747, hts _ wd_23⟩ ⟨blMD, va_recv hK hP (ci := 4) (q0 := 0) rfl rfl, fun U hU hW => ⟨rfl, by rw [hU]; exact hP, va_K.moved hW.alike hK, wmD hD0⟩⟩ rfl rfl hl.1 rfl (lv_room (Nat.le_of_ble_eq_true rfl)) dX4_cover_50 ⟨Nat.zero_le _, Nat.zero_le _⟩) hS (fun _ _ h => h) (fun _ h => h) (fun r_ u_ t_ H1 locs1 ht hvm hp_ hB hz1 hk1 hS1 => ?_)
          obtain ⟨q1_, q2_⟩ := Prod.mk.inj hp_
          subst q1_
          subst q2_
          obtain ⟨hP1, hK1⟩ := hB
          rw [ht] at hP1
          have hP := hP1
          have hS := hS1
          exact hret _ _ _ _ _ _ (Option.some.inj hw) hP hS dX4_cover_53
        · have hw := ite_f hw c12
          refine lv_bipush (v := (-103)) hx hb dX4_cover_42 (by decide) ?_
          refine lv_goto (tgt := 53) hx hb dX4_cover_44 (by decide) ?_
          exact hret _ _ _ _ _ _ (Option.some.inj hw) hP hS dX4_cover_53
      · have hw := ite_t hw c10
        refine lv_bipush (v := (-102)) hx hb dX4_cover_32 (by decide) ?_
        exact hret _ _ _ _ _ _ (Option.some.inj hw) hP hS dX4_cover_34
set_option maxHeartbeats 4000000 in
set_option maxRecDepth 100000 in
theorem c_X0_learns (l : Launch) (dC : Nat → ClassId) (dI : Nat → Nat → Nat) (a : Nat → Nat) (cA : ClassId) (X : WS) (p1 : Int32) (p2 : Int32) (p3 : Int32) (p4 : Int32) (out : Int32) (hw : f_X0_learns X p1 p2 p3 p4 = some out) : Met l yX0_learns (.code yX0_learns cX0_learns 5 (some .boolean) :: lw_g) ({ frames := 3, cells := 0, slots := 0, locals := 77 }) (PcX dC dI a cA X [.ref (a 3), .int p1, .int p2, .int p3, .int p4]) (vp_Si (fun r_ => r_ = out)) 0 0 (fun _ => False) := by
  unfold f_X0_learns at hw
  refine Met.ofW (cc := cX0_learns) (maxL := 5) (ret := (some .boolean)) (by decide) rfl ?_
  intro p e s m args below meth c s₁ B hml hv
  obtain ⟨rfl, hP, hK, hN⟩ := hv
  have hx := B.exec
  have hb := B.bytes
  have hr := B.returns
  have hts0 := atoms_spec (ws := (.code yX0_learns cX0_learns 5 (some .boolean) :: lw_g)) B.pre
  have hts : ∀ w ∈ lw_g, w.before (([.ref (a 3), .int p1, .int p2, .int p3, .int p4] : List Value).toArray) s = true := fun w h => hts0 w (List.mem_cons_of_mem _ h)
  clear hts0
  have hown : s.vm.findClass RX0 = some m.cls := findClass_of_methodNamed B.named
  have hlocks := B.notSynchronized
  have hret : ∀ (pc : Nat) (ls : Array Slot) (v : Int32), v = out → (hz : narrow .boolean (.int v) = .int v) → decode cX0_learns pc = .ok (.ireturn, 1) → W p l e ({ frames := 3, cells := 0, slots := 0, locals := 77 }) s m (([.ref (a 3), .int p1, .int p2, .int p3, .int p4] : List Value).toArray) below meth c s.heap [] 0 0 (MQ below (vp_Si (fun r_ => r_ = out)) (([.ref (a 3), .int p1, .int p2, .int p3, .int p4] : List Value).toArray) s 0 0 (fun _ => False)) (F0 m pc ls [.int v]) := fun pc ls v hv hz hd => W.zret hx hb hr hz (fun t ht hW => ⟨v, rfl, hv, ht⟩) (fun q hq => absurd hq List.not_mem_nil) hd
  show W p l e ({ frames := 3, cells := 0, slots := 0, locals := 77 }) s m (([.ref (a 3), .int p1, .int p2, .int p3, .int p4] : List Value).toArray) below meth c s.heap [] 0 0 (MQ below (vp_Si (fun r_ => r_ = out)) (([.ref (a 3), .int p1, .int p2, .int p3, .int p4] : List Value).toArray) s 0 0 (fun _ => False)) (entryFrame m (([.ref (a 3), .int p1, .int p2, .int p3, .int p4] : List Value).toArray) 5)
  generalize MQ below (vp_Si (fun r_ => r_ = out)) (([.ref (a 3), .int p1, .int p2, .int p3, .int p4] : List Value).toArray) s 0 0 (fun _ => False) = Q at hret ⊢
  have hl := lv_entry ([.ref (a 3), .int p1, .int p2, .int p3, .int p4]) (n := 5) (Nat.le_of_ble_eq_true rfl)
  rw [lg_entry_eq]
  generalize (lg_sl ([.ref (a 3), .int p1, .int p2, .int p3, .int p4]) ++ List.replicate (5 - (lg_sl ([.ref (a 3), .int p1, .int p2, .int p3, .int p4])).length) Slot.unset).toArray = ls at hl ⊢
  have hl : lv_has ls 5 [(0, .ref (a 3)), (1, .int p1), (2, .int p2), (3, .int p3), (4, .int p4)] := hl
  refine lv_aload_n hx hb dX0_learns_0 rfl (lv_at hl 0 rfl) ?_
  refine lv_aload_n hx hb dX0_learns_1 rfl (lv_at hl 0 rfl) ?_
  refine lv_iconst (v := 0) hx hb dX0_learns_2 (by decide) ?_
  refine lv_iload_n hx hb dX0_learns_3 rfl (lv_at hl 2 rfl) ?_
  refine lv_iload_n hx hb dX0_learns_4 rfl (lv_at hl 3 rfl) ?_
  refine lv_iload hx hb dX0_learns_5 (lv_at hl 4 rfl) ?_
  obtain ⟨r1, er1, hw⟩ := Option.bind_eq_some_iff.mp hw
  refine vp_callSi (va_runV (As := [.int 0, .int p2, .int p3, .int p4]) (rest := [.ref (a 3)]) ⟨hx, hb, hml, hown, hts⟩ (c_X2_spread l dC dI a cA X 0 p2 p3 p4 r1 er1) ⟨callB_of 4 hts gd_X2_spread rfl rfl rfl (hts _ wd_37) (hts _ wd_378) hd_X2_spread ⟨Nat.le_of_ble_eq_true rfl, Nat.le_of_ble_eq_true rfl⟩, hts _ wd_320, hts _ wd_321⟩ ⟨blX, va_recv hK hP (ci := 2) (q0 := 3) rfl rfl, fun U hU hW => ⟨rfl, by rw [hU]; exact hP, va_K.moved hW.alike hK, nst.warm hW hN⟩⟩ rfl rfl hl.1 rfl (lv_room (Nat.le_of_ble_eq_true rfl)) dX0_learns_7 ⟨Nat.zero_le _, Nat.zero_le _⟩).run (fun r_ e_ => ?_)
  subst r_
  obtain ⟨r2, er2, hw⟩ := Option.bind_eq_some_iff.mp hw
  refine vp_callSi (va_runV (As := [.int r1]) (rest := []) ⟨hx, hb, hml, hown, hts⟩ (c_X2_knowing l dC dI a cA X r1 r2 er2) ⟨callB_of 1 hts gd_X2_knowing rfl rfl rfl (hts _ wd_37) (hts _ wd_379) hd_X2_knowing ⟨Nat.le_of_ble_eq_true rfl, Nat.le_of_ble_eq_true rfl⟩, hts _ wd_291, hts _ wd_292⟩ ⟨blX, va_recv hK hP (ci := 2) (q0 := 3) rfl rfl, fun U hU hW => ⟨rfl, by rw [hU]; exact hP, va_K.moved hW.alike hK, nst.warm hW hN⟩⟩ rfl rfl hl.1 rfl (lv_room (Nat.le_of_ble_eq_true rfl)) dX0_learns_10 ⟨Nat.zero_le _, Nat.zero_le _⟩).run (fun r_ e_ => ?_)
  subst r_
  refine lv_iload_n hx hb dX0_learns_13 rfl (lv_at hl 1 rfl) ?_
  refine lv_ishr hx hb dX0_learns_14 ?_
  refine lv_iconst (v := 1) hx hb dX0_learns_15 (by decide) ?_
  refine lv_iand hx hb dX0_learns_16 ?_
  refine lv_iconst (v := 1) hx hb dX0_learns_17 (by decide) ?_
  refine lv_icmp_ne (tgt := 25) hx hb dX0_learns_18 (by decide) (fun c3 => ?_) (fun c3 => ?_)
  · have hw := ite_f hw c3
    refine lv_iconst (v := 0) hx hb dX0_learns_25 (by decide) ?_
    exact hret _ _ _ (Option.some.inj hw) rfl dX0_learns_26
  · have hw := ite_t hw c3
    refine lv_iconst (v := 1) hx hb dX0_learns_21 (by decide) ?_
    refine lv_goto (tgt := 26) hx hb dX0_learns_22 (by decide) ?_
    exact hret _ _ _ (Option.some.inj hw) rfl dX0_learns_26
set_option maxHeartbeats 4000000 in
set_option maxRecDepth 100000 in
theorem c_X0_sentAway (l : Launch) (dC : Nat → ClassId) (dI : Nat → Nat → Nat) (a : Nat → Nat) (cA : ClassId) (X : WS) (p1 : Int32) (p2 : Int32) (p3 : Int32) (out : Int32) (hw : f_X0_sentAway X p1 p2 p3 = some out) : Met l yX0_sentAway (.code yX0_sentAway cX0_sentAway 9 (some .int) :: lw_g) ({ frames := 4, cells := 0, slots := 0, locals := 101 }) (PcX dC dI a cA X [.ref (a 3), .int p1, .int p2, .int p3]) (vp_Si (fun r_ => r_ = out)) 0 0 (fun _ => False) := by
  unfold f_X0_sentAway at hw
  refine Met.ofW (cc := cX0_sentAway) (maxL := 9) (ret := (some .int)) (by decide) rfl ?_
  intro p e s m args below meth c s₁ B hml hv
  obtain ⟨rfl, hP, hK, hN⟩ := hv
  have hx := B.exec
  have hb := B.bytes
  have hr := B.returns
  have hts0 := atoms_spec (ws := (.code yX0_sentAway cX0_sentAway 9 (some .int) :: lw_g)) B.pre
  have hts : ∀ w ∈ lw_g, w.before (([.ref (a 3), .int p1, .int p2, .int p3] : List Value).toArray) s = true := fun w h => hts0 w (List.mem_cons_of_mem _ h)
  clear hts0
  have hown : s.vm.findClass RX0 = some m.cls := findClass_of_methodNamed B.named
  have hlocks := B.notSynchronized
  have hret : ∀ (pc : Nat) (ls : Array Slot) (v : Int32), v = out → decode cX0_sentAway pc = .ok (.ireturn, 1) → W p l e ({ frames := 4, cells := 0, slots := 0, locals := 101 }) s m (([.ref (a 3), .int p1, .int p2, .int p3] : List Value).toArray) below meth c s.heap [] 0 0 (MQ below (vp_Si (fun r_ => r_ = out)) (([.ref (a 3), .int p1, .int p2, .int p3] : List Value).toArray) s 0 0 (fun _ => False)) (F0 m pc ls [.int v]) := fun pc ls v hv hd => W.iret hx hb hr (fun t ht hW => ⟨v, rfl, hv, ht⟩) (fun q hq => absurd hq List.not_mem_nil) hd
  show W p l e ({ frames := 4, cells := 0, slots := 0, locals := 101 }) s m (([.ref (a 3), .int p1, .int p2, .int p3] : List Value).toArray) below meth c s.heap [] 0 0 (MQ below (vp_Si (fun r_ => r_ = out)) (([.ref (a 3), .int p1, .int p2, .int p3] : List Value).toArray) s 0 0 (fun _ => False)) (entryFrame m (([.ref (a 3), .int p1, .int p2, .int p3] : List Value).toArray) 9)
  generalize MQ below (vp_Si (fun r_ => r_ = out)) (([.ref (a 3), .int p1, .int p2, .int p3] : List Value).toArray) s 0 0 (fun _ => False) = Q at hret ⊢
  have L12 : ∀ (v1 : Int32), ∀ (v2 : Int32), ∀ (v3 : Int32), ∀ (v5 : Int32), ∀ n : Nat, ∀ (v4 : Int32), ∀ (v6 : Int32), g_X0_sentAway_12 X v1 v2 v3 v5 n v4 v6 = some out → ∀ ls : Array Slot, lv_has ls 9 [(0, .ref (a 3)), (1, .int v1), (2, .int v2), (3, .int v3), (4, .int v4), (5, .int v5), (6, .int v6)] → W p l e ({ frames := 4, cells := 0, slots := 0, locals := 101 }) s m (([.ref (a 3), .int p1, .int p2, .int p3] : List Value).toArray) below meth c s.heap [] 0 0 Q (F0 m 12 ls []) := by
    intro v1 v2 v3 v5 n
    induction n with
    | zero =>
      intro v4 v6 hw
      rw [g_X0_sentAway_12] at hw
      cases hw
    | succ n ih =>
      intro v4 v6 hw ls hl
      rw [g_X0_sentAway_12] at hw
      refine lv_iload hx hb dX0_sentAway_12 (lv_at hl 6 rfl) ?_
      refine lv_iload hx hb dX0_sentAway_14 (lv_at hl 5 rfl) ?_
      refine lv_icmp_gt (tgt := 93) hx hb dX0_sentAway_16 (by decide) (fun c2 => ?_) (fun c2 => ?_)
      · have hw := ite_t hw c2
        refine lv_iload hx hb dX0_sentAway_93 (lv_at hl 4 rfl) ?_
        exact hret _ _ _ (Option.some.inj hw) dX0_sentAway_95
      · have hw := ite_f hw c2
        refine lv_iload hx hb dX0_sentAway_19 (lv_at hl 6 rfl) ?_
        refine lv_iload_n hx hb dX0_sentAway_21 rfl (lv_at hl 1 rfl) ?_
        refine lv_ishr hx hb dX0_sentAway_22 ?_
        refine lv_iconst (v := 1) hx hb dX0_sentAway_23 (by decide) ?_
        refine lv_iand hx hb dX0_sentAway_24 ?_
        refine lv_if_ne (tgt := 32) hx hb dX0_sentAway_25 (by decide) (fun c3 => ?_) (fun c3 => ?_)
        · have hw := ite_f hw c3
          refine lv_iconst (v := 0) hx hb dX0_sentAway_32 (by decide) ?_
          refine lv_istore (lv' := [(7, .int 0), (0, .ref (a 3)), (1, .int v1), (2, .int v2), (3, .int v3), (4, .int v4), (5, .int v5), (6, .int v6)]) hx hb dX0_sentAway_33 hl (by decide) rfl (fun ls hl => ?_)
          refine lv_iload hx hb dX0_sentAway_35 (lv_at hl 5 rfl) ?_
          refine lv_iconst (v := (-1)) hx hb dX0_sentAway_37 (by decide) ?_
          refine lv_icmp_eq (tgt := 54) hx hb dX0_sentAway_38 (by decide) (fun c4 => ?_) (fun c4 => ?_)
          · have hw := ite_t hw c4
            refine lv_iconst (v := 1) hx hb dX0_sentAway_54 (by decide) ?_
            refine lv_goto (tgt := 59) hx hb dX0_sentAway_55 (by decide) ?_
            refine lv_istore (lv' := [(8, .int 1), (7, .int 0), (0, .ref (a 3)), (1, .int v1), (2, .int v2), (3, .int v3), (4, .int v4), (5, .int v5), (6, .int v6)]) hx hb dX0_sentAway_59 hl (by decide) rfl (fun ls hl => ?_)
            refine lv_iload hx hb dX0_sentAway_61 (lv_at hl 1 rfl) ?_
            refine lv_if_eq (tgt := 87) hx hb dX0_sentAway_63 (by decide) (fun c5 => ?_) (fun c5 => absurd c5 (by decide))
            obtain ⟨x6, ex6⟩ : ∃ y : Int32, y = (v6 + 1) := ⟨_, rfl⟩
            have hw := stp_use hw ex6
            refine lv_iinc (v := x6) (lv' := [(6, .int x6), (8, .int 1), (7, .int 0), (0, .ref (a 3)), (1, .int v1), (2, .int v2), (3, .int v3), (4, .int v4), (5, .int v5)]) hx hb dX0_sentAway_87 hl (k := 8) rfl (by rw [ex6]; rfl) (by decide) rfl (fun ls hl => ?_)
            refine lv_goto (tgt := 12) hx hb dX0_sentAway_90 (by decide) ?_
            exact ih v4 x6 hw ls (lv_sub hl [3, 4, 5, 6, 7, 8, 0] rfl)
          · have hw := ite_f hw c4
            refine lv_iload hx hb dX0_sentAway_41 (lv_at hl 7 rfl) ?_
            obtain ⟨r7, er7, hw⟩ := Option.bind_eq_some_iff.mp hw
            refine vp_callSi (va_runS (As := [.int v6]) (rest := []) ⟨hx, hb, hml, hown, hts⟩ (c_J6_bitCount_0f7a4 l v6 r7 er7) ⟨callB_of 1 hts gd_J6_bitCount_0f7a4 rfl rfl rfl (hts _ wd_40) (hts _ wd_380) hd_J6_bitCount_0f7a4 ⟨Nat.le_of_ble_eq_true rfl, Nat.le_of_ble_eq_true rfl⟩, hts _ wd_333⟩ ⟨bl0, fun U hU hW => ⟨rfl, trivial⟩⟩ rfl rfl hl.1 rfl (lv_room (Nat.le_of_ble_eq_true rfl)) dX0_sentAway_43 ⟨Nat.zero_le _, Nat.zero_le _⟩).run (fun r_ e_ => ?_)
            subst r_
            refine lv_iload hx hb dX0_sentAway_46 (lv_at hl 5 rfl) ?_
            obtain ⟨r8, er8, hw⟩ := Option.bind_eq_some_iff.mp hw
            refine vp_callSi (va_runS (As := [.int v4]) (rest := [.int r7]) ⟨hx, hb, hml, hown, hts⟩ (c_J6_bitCount_0f7a4 l v4 r8 er8) ⟨callB_of 1 hts gd_J6_bitCount_0f7a4 rfl rfl rfl (hts _ wd_40) (hts _ wd_380) hd_J6_bitCount_0f7a4 ⟨Nat.le_of_ble_eq_true rfl, Nat.le_of_ble_eq_true rfl⟩, hts _ wd_333⟩ ⟨bl0, fun U hU hW => ⟨rfl, trivial⟩⟩ rfl rfl hl.1 rfl (lv_room (Nat.le_of_ble_eq_true rfl)) dX0_sentAway_48 ⟨Nat.zero_le _, Nat.zero_le _⟩).run (fun r_ e_ => ?_)
            subst r_
            refine lv_icmp_ge (tgt := 58) hx hb dX0_sentAway_51 (by decide) (fun c9 => ?_) (fun c9 => ?_)
            · have hw := ite_t hw c9
              refine lv_iconst (v := 0) hx hb dX0_sentAway_58 (by decide) ?_
              refine lv_istore (lv' := [(8, .int 0), (7, .int 0), (0, .ref (a 3)), (1, .int v1), (2, .int v2), (3, .int v3), (4, .int v4), (5, .int v5), (6, .int v6)]) hx hb dX0_sentAway_59 hl (by decide) rfl (fun ls hl => ?_)
              refine lv_iload hx hb dX0_sentAway_61 (lv_at hl 1 rfl) ?_
              refine lv_if_eq (tgt := 87) hx hb dX0_sentAway_63 (by decide) (fun c10 => ?_) (fun c10 => absurd c10 (by decide))
              obtain ⟨x11, ex11⟩ : ∃ y : Int32, y = (v6 + 1) := ⟨_, rfl⟩
              have hw := stp_use hw ex11
              refine lv_iinc (v := x11) (lv' := [(6, .int x11), (8, .int 0), (7, .int 0), (0, .ref (a 3)), (1, .int v1), (2, .int v2), (3, .int v3), (4, .int v4), (5, .int v5)]) hx hb dX0_sentAway_87 hl (k := 8) rfl (by rw [ex11]; rfl) (by decide) rfl (fun ls hl => ?_)
              refine lv_goto (tgt := 12) hx hb dX0_sentAway_90 (by decide) ?_
              exact ih v4 x11 hw ls (lv_sub hl [3, 4, 5, 6, 7, 8, 0] rfl)
            · have hw := ite_f hw c9
              refine lv_iconst (v := 1) hx hb dX0_sentAway_54 (by decide) ?_
              refine lv_goto (tgt := 59) hx hb dX0_sentAway_55 (by decide) ?_
              refine lv_istore (lv' := [(8, .int 1), (7, .int 0), (0, .ref (a 3)), (1, .int v1), (2, .int v2), (3, .int v3), (4, .int v4), (5, .int v5), (6, .int v6)]) hx hb dX0_sentAway_59 hl (by decide) rfl (fun ls hl => ?_)
              refine lv_iload hx hb dX0_sentAway_61 (lv_at hl 1 rfl) ?_
              refine lv_if_eq (tgt := 87) hx hb dX0_sentAway_63 (by decide) (fun c12 => ?_) (fun c12 => absurd c12 (by decide))
              obtain ⟨x13, ex13⟩ : ∃ y : Int32, y = (v6 + 1) := ⟨_, rfl⟩
              have hw := stp_use hw ex13
              refine lv_iinc (v := x13) (lv' := [(6, .int x13), (8, .int 1), (7, .int 0), (0, .ref (a 3)), (1, .int v1), (2, .int v2), (3, .int v3), (4, .int v4), (5, .int v5)]) hx hb dX0_sentAway_87 hl (k := 8) rfl (by rw [ex13]; rfl) (by decide) rfl (fun ls hl => ?_)
              refine lv_goto (tgt := 12) hx hb dX0_sentAway_90 (by decide) ?_
              exact ih v4 x13 hw ls (lv_sub hl [3, 4, 5, 6, 7, 8, 0] rfl)
        · have hw := ite_t hw c3
          refine lv_iconst (v := 1) hx hb dX0_sentAway_28 (by decide) ?_
          refine lv_goto (tgt := 33) hx hb dX0_sentAway_29 (by decide) ?_
          refine lv_istore (lv' := [(7, .int 1), (0, .ref (a 3)), (1, .int v1), (2, .int v2), (3, .int v3), (4, .int v4), (5, .int v5), (6, .int v6)]) hx hb dX0_sentAway_33 hl (by decide) rfl (fun ls hl => ?_)
          refine lv_iload hx hb dX0_sentAway_35 (lv_at hl 5 rfl) ?_
          refine lv_iconst (v := (-1)) hx hb dX0_sentAway_37 (by decide) ?_
          refine lv_icmp_eq (tgt := 54) hx hb dX0_sentAway_38 (by decide) (fun c14 => ?_) (fun c14 => ?_)
          · have hw := ite_t hw c14
            refine lv_iconst (v := 1) hx hb dX0_sentAway_54 (by decide) ?_
            refine lv_goto (tgt := 59) hx hb dX0_sentAway_55 (by decide) ?_
            refine lv_istore (lv' := [(8, .int 1), (7, .int 1), (0, .ref (a 3)), (1, .int v1), (2, .int v2), (3, .int v3), (4, .int v4), (5, .int v5), (6, .int v6)]) hx hb dX0_sentAway_59 hl (by decide) rfl (fun ls hl => ?_)
            refine lv_iload hx hb dX0_sentAway_61 (lv_at hl 1 rfl) ?_
            refine lv_if_eq (tgt := 87) hx hb dX0_sentAway_63 (by decide) (fun c15 => absurd c15 (by decide)) (fun c15 => ?_)
            refine lv_iload hx hb dX0_sentAway_66 (lv_at hl 0 rfl) ?_
            refine lv_if_eq (tgt := 87) hx hb dX0_sentAway_68 (by decide) (fun c16 => absurd c16 (by decide)) (fun c16 => ?_)
            refine lv_aload_n hx hb dX0_sentAway_71 rfl (lv_at hl 2 rfl) ?_
            refine lv_iload_n hx hb dX0_sentAway_72 rfl (lv_at hl 3 rfl) ?_
            refine lv_iload_n hx hb dX0_sentAway_73 rfl (lv_at hl 4 rfl) ?_
            refine lv_iload_n hx hb dX0_sentAway_74 rfl (lv_at hl 5 rfl) ?_
            refine lv_iload hx hb dX0_sentAway_75 (lv_at hl 8 rfl) ?_
            obtain ⟨r17, er17, hw⟩ := Option.bind_eq_some_iff.mp hw
            refine vp_callSi (va_runS (As := [.ref (a 3), .int v1, .int v2, .int v3, .int v6]) (rest := []) ⟨hx, hb, hml, hown, hts⟩ (c_X0_learns l dC dI a cA X v1 v2 v3 v6 r17 er17) ⟨callB_of 5 hts gd_X0_learns rfl rfl rfl (hts _ wd_38) (hts _ wd_406) hd_X0_learns ⟨Nat.le_of_ble_eq_true rfl, Nat.le_of_ble_eq_true rfl⟩, hts _ wd_407⟩ ⟨blX, fun U hU hW => ⟨rfl, by rw [hU]; exact hP, va_K.moved hW.alike hK, nst.warm hW hN⟩⟩ rfl rfl hl.1 rfl (lv_room (Nat.le_of_ble_eq_true rfl)) dX0_sentAway_77 ⟨Nat.zero_le _, Nat.zero_le _⟩).run (fun r_ e_ => ?_)
            subst r_
            refine lv_if_ne (tgt := 87) hx hb dX0_sentAway_80 (by decide) (fun c18 => ?_) (fun c18 => ?_)
            · have hw := ite_f hw c18
              obtain ⟨x19, ex19⟩ : ∃ y : Int32, y = (v6 + 1) := ⟨_, rfl⟩
              have hw := stp_use hw ex19
              refine lv_iinc (v := x19) (lv' := [(6, .int x19), (8, .int 1), (7, .int 1), (0, .ref (a 3)), (1, .int v1), (2, .int v2), (3, .int v3), (4, .int v4), (5, .int v5)]) hx hb dX0_sentAway_87 hl (k := 8) rfl (by rw [ex19]; rfl) (by decide) rfl (fun ls hl => ?_)
              refine lv_goto (tgt := 12) hx hb dX0_sentAway_90 (by decide) ?_
              exact ih v4 x19 hw ls (lv_sub hl [3, 4, 5, 6, 7, 8, 0] rfl)
            · have hw := ite_t hw c18
              refine lv_iload hx hb dX0_sentAway_83 (lv_at hl 8 rfl) ?_
              refine lv_istore (lv' := [(4, .int v6), (8, .int 1), (7, .int 1), (0, .ref (a 3)), (1, .int v1), (2, .int v2), (3, .int v3), (5, .int v5), (6, .int v6)]) hx hb dX0_sentAway_85 hl (by decide) rfl (fun ls hl => ?_)
              obtain ⟨x20, ex20⟩ : ∃ y : Int32, y = (v6 + 1) := ⟨_, rfl⟩
              have hw := stp_use hw ex20
              refine lv_iinc (v := x20) (lv' := [(6, .int x20), (4, .int v6), (8, .int 1), (7, .int 1), (0, .ref (a 3)), (1, .int v1), (2, .int v2), (3, .int v3), (5, .int v5)]) hx hb dX0_sentAway_87 hl (k := 8) rfl (by rw [ex20]; rfl) (by decide) rfl (fun ls hl => ?_)
              refine lv_goto (tgt := 12) hx hb dX0_sentAway_90 (by decide) ?_
              exact ih v6 x20 hw ls (lv_sub hl [4, 5, 6, 7, 1, 8, 0] rfl)
          · have hw := ite_f hw c14
            refine lv_iload hx hb dX0_sentAway_41 (lv_at hl 7 rfl) ?_
            obtain ⟨r21, er21, hw⟩ := Option.bind_eq_some_iff.mp hw
            refine vp_callSi (va_runS (As := [.int v6]) (rest := []) ⟨hx, hb, hml, hown, hts⟩ (c_J6_bitCount_0f7a4 l v6 r21 er21) ⟨callB_of 1 hts gd_J6_bitCount_0f7a4 rfl rfl rfl (hts _ wd_40) (hts _ wd_380) hd_J6_bitCount_0f7a4 ⟨Nat.le_of_ble_eq_true rfl, Nat.le_of_ble_eq_true rfl⟩, hts _ wd_333⟩ ⟨bl0, fun U hU hW => ⟨rfl, trivial⟩⟩ rfl rfl hl.1 rfl (lv_room (Nat.le_of_ble_eq_true rfl)) dX0_sentAway_43 ⟨Nat.zero_le _, Nat.zero_le _⟩).run (fun r_ e_ => ?_)
            subst r_
            refine lv_iload hx hb dX0_sentAway_46 (lv_at hl 5 rfl) ?_
            obtain ⟨r22, er22, hw⟩ := Option.bind_eq_some_iff.mp hw
            refine vp_callSi (va_runS (As := [.int v4]) (rest := [.int r21]) ⟨hx, hb, hml, hown, hts⟩ (c_J6_bitCount_0f7a4 l v4 r22 er22) ⟨callB_of 1 hts gd_J6_bitCount_0f7a4 rfl rfl rfl (hts _ wd_40) (hts _ wd_380) hd_J6_bitCount_0f7a4 ⟨Nat.le_of_ble_eq_true rfl, Nat.le_of_ble_eq_true rfl⟩, hts _ wd_333⟩ ⟨bl0, fun U hU hW => ⟨rfl, trivial⟩⟩ rfl rfl hl.1 rfl (lv_room (Nat.le_of_ble_eq_true rfl)) dX0_sentAway_48 ⟨Nat.zero_le _, Nat.zero_le _⟩).run (fun r_ e_ => ?_)
            subst r_
            refine lv_icmp_ge (tgt := 58) hx hb dX0_sentAway_51 (by decide) (fun c23 => ?_) (fun c23 => ?_)
            · have hw := ite_t hw c23
              refine lv_iconst (v := 0) hx hb dX0_sentAway_58 (by decide) ?_
              refine lv_istore (lv' := [(8, .int 0), (7, .int 1), (0, .ref (a 3)), (1, .int v1), (2, .int v2), (3, .int v3), (4, .int v4), (5, .int v5), (6, .int v6)]) hx hb dX0_sentAway_59 hl (by decide) rfl (fun ls hl => ?_)
              refine lv_iload hx hb dX0_sentAway_61 (lv_at hl 1 rfl) ?_
              refine lv_if_eq (tgt := 87) hx hb dX0_sentAway_63 (by decide) (fun c24 => absurd c24 (by decide)) (fun c24 => ?_)
              refine lv_iload hx hb dX0_sentAway_66 (lv_at hl 0 rfl) ?_
              refine lv_if_eq (tgt := 87) hx hb dX0_sentAway_68 (by decide) (fun c25 => ?_) (fun c25 => absurd c25 (by decide))
              obtain ⟨x26, ex26⟩ : ∃ y : Int32, y = (v6 + 1) := ⟨_, rfl⟩
              have hw := stp_use hw ex26
              refine lv_iinc (v := x26) (lv' := [(6, .int x26), (8, .int 0), (7, .int 1), (0, .ref (a 3)), (1, .int v1), (2, .int v2), (3, .int v3), (4, .int v4), (5, .int v5)]) hx hb dX0_sentAway_87 hl (k := 8) rfl (by rw [ex26]; rfl) (by decide) rfl (fun ls hl => ?_)
              refine lv_goto (tgt := 12) hx hb dX0_sentAway_90 (by decide) ?_
              exact ih v4 x26 hw ls (lv_sub hl [3, 4, 5, 6, 7, 8, 0] rfl)
            · have hw := ite_f hw c23
              refine lv_iconst (v := 1) hx hb dX0_sentAway_54 (by decide) ?_
              refine lv_goto (tgt := 59) hx hb dX0_sentAway_55 (by decide) ?_
              refine lv_istore (lv' := [(8, .int 1), (7, .int 1), (0, .ref (a 3)), (1, .int v1), (2, .int v2), (3, .int v3), (4, .int v4), (5, .int v5), (6, .int v6)]) hx hb dX0_sentAway_59 hl (by decide) rfl (fun ls hl => ?_)
              refine lv_iload hx hb dX0_sentAway_61 (lv_at hl 1 rfl) ?_
              refine lv_if_eq (tgt := 87) hx hb dX0_sentAway_63 (by decide) (fun c27 => absurd c27 (by decide)) (fun c27 => ?_)
              refine lv_iload hx hb dX0_sentAway_66 (lv_at hl 0 rfl) ?_
              refine lv_if_eq (tgt := 87) hx hb dX0_sentAway_68 (by decide) (fun c28 => absurd c28 (by decide)) (fun c28 => ?_)
              refine lv_aload_n hx hb dX0_sentAway_71 rfl (lv_at hl 2 rfl) ?_
              refine lv_iload_n hx hb dX0_sentAway_72 rfl (lv_at hl 3 rfl) ?_
              refine lv_iload_n hx hb dX0_sentAway_73 rfl (lv_at hl 4 rfl) ?_
              refine lv_iload_n hx hb dX0_sentAway_74 rfl (lv_at hl 5 rfl) ?_
              refine lv_iload hx hb dX0_sentAway_75 (lv_at hl 8 rfl) ?_
              obtain ⟨r29, er29, hw⟩ := Option.bind_eq_some_iff.mp hw
              refine vp_callSi (va_runS (As := [.ref (a 3), .int v1, .int v2, .int v3, .int v6]) (rest := []) ⟨hx, hb, hml, hown, hts⟩ (c_X0_learns l dC dI a cA X v1 v2 v3 v6 r29 er29) ⟨callB_of 5 hts gd_X0_learns rfl rfl rfl (hts _ wd_38) (hts _ wd_406) hd_X0_learns ⟨Nat.le_of_ble_eq_true rfl, Nat.le_of_ble_eq_true rfl⟩, hts _ wd_407⟩ ⟨blX, fun U hU hW => ⟨rfl, by rw [hU]; exact hP, va_K.moved hW.alike hK, nst.warm hW hN⟩⟩ rfl rfl hl.1 rfl (lv_room (Nat.le_of_ble_eq_true rfl)) dX0_sentAway_77 ⟨Nat.zero_le _, Nat.zero_le _⟩).run (fun r_ e_ => ?_)
              subst r_
              refine lv_if_ne (tgt := 87) hx hb dX0_sentAway_80 (by decide) (fun c30 => ?_) (fun c30 => ?_)
              · have hw := ite_f hw c30
                obtain ⟨x31, ex31⟩ : ∃ y : Int32, y = (v6 + 1) := ⟨_, rfl⟩
                have hw := stp_use hw ex31
                refine lv_iinc (v := x31) (lv' := [(6, .int x31), (8, .int 1), (7, .int 1), (0, .ref (a 3)), (1, .int v1), (2, .int v2), (3, .int v3), (4, .int v4), (5, .int v5)]) hx hb dX0_sentAway_87 hl (k := 8) rfl (by rw [ex31]; rfl) (by decide) rfl (fun ls hl => ?_)
                refine lv_goto (tgt := 12) hx hb dX0_sentAway_90 (by decide) ?_
                exact ih v4 x31 hw ls (lv_sub hl [3, 4, 5, 6, 7, 8, 0] rfl)
              · have hw := ite_t hw c30
                refine lv_iload hx hb dX0_sentAway_83 (lv_at hl 8 rfl) ?_
                refine lv_istore (lv' := [(4, .int v6), (8, .int 1), (7, .int 1), (0, .ref (a 3)), (1, .int v1), (2, .int v2), (3, .int v3), (5, .int v5), (6, .int v6)]) hx hb dX0_sentAway_85 hl (by decide) rfl (fun ls hl => ?_)
                obtain ⟨x32, ex32⟩ : ∃ y : Int32, y = (v6 + 1) := ⟨_, rfl⟩
                have hw := stp_use hw ex32
                refine lv_iinc (v := x32) (lv' := [(6, .int x32), (4, .int v6), (8, .int 1), (7, .int 1), (0, .ref (a 3)), (1, .int v1), (2, .int v2), (3, .int v3), (5, .int v5)]) hx hb dX0_sentAway_87 hl (k := 8) rfl (by rw [ex32]; rfl) (by decide) rfl (fun ls hl => ?_)
                refine lv_goto (tgt := 12) hx hb dX0_sentAway_90 (by decide) ?_
                exact ih v6 x32 hw ls (lv_sub hl [4, 5, 6, 7, 1, 8, 0] rfl)
  have hl := lv_entry ([.ref (a 3), .int p1, .int p2, .int p3]) (n := 9) (Nat.le_of_ble_eq_true rfl)
  rw [lg_entry_eq]
  generalize (lg_sl ([.ref (a 3), .int p1, .int p2, .int p3]) ++ List.replicate (9 - (lg_sl ([.ref (a 3), .int p1, .int p2, .int p3])).length) Slot.unset).toArray = ls at hl ⊢
  have hl : lv_has ls 9 [(0, .ref (a 3)), (1, .int p1), (2, .int p2), (3, .int p3)] := hl
  refine lv_iconst (v := (-1)) hx hb dX0_sentAway_0 (by decide) ?_
  refine lv_istore (lv' := [(4, .int (-1)), (0, .ref (a 3)), (1, .int p1), (2, .int p2), (3, .int p3)]) hx hb dX0_sentAway_1 hl (by decide) rfl (fun ls hl => ?_)
  refine lv_aload_n hx hb dX0_sentAway_3 rfl (lv_at hl 1 rfl) ?_
  obtain ⟨r1, er1, hw⟩ := Option.bind_eq_some_iff.mp hw
  refine vp_callSi (va_runV (As := []) (rest := []) ⟨hx, hb, hml, hown, hts⟩ (c_X2_everyone l dC dI a cA X r1 er1) ⟨callB_of 0 hts gd_X2_everyone rfl rfl rfl (hts _ wd_37) (hts _ wd_405) hd_X2_everyone ⟨Nat.le_of_ble_eq_true rfl, Nat.le_of_ble_eq_true rfl⟩, hts _ wd_386, hts _ wd_387⟩ ⟨blX, va_recv hK hP (ci := 2) (q0 := 3) rfl rfl, fun U hU hW => ⟨rfl, by rw [hU]; exact hP, va_K.moved hW.alike hK, nst.warm hW hN⟩⟩ rfl rfl hl.1 rfl (lv_room (Nat.le_of_ble_eq_true rfl)) dX0_sentAway_4 ⟨Nat.zero_le _, Nat.zero_le _⟩).run (fun r_ e_ => ?_)
  subst r_
  refine lv_istore (lv' := [(5, .int r1), (4, .int (-1)), (0, .ref (a 3)), (1, .int p1), (2, .int p2), (3, .int p3)]) hx hb dX0_sentAway_7 hl (by decide) rfl (fun ls hl => ?_)
  refine lv_iconst (v := 0) hx hb dX0_sentAway_9 (by decide) ?_
  refine lv_istore (lv' := [(6, .int 0), (5, .int r1), (4, .int (-1)), (0, .ref (a 3)), (1, .int p1), (2, .int p2), (3, .int p3)]) hx hb dX0_sentAway_10 hl (by decide) rfl (fun ls hl => ?_)
  exact L12 p1 p2 p3 r1 NF (-1) 0 hw ls (lv_sub hl [3, 4, 5, 6, 2, 1, 0] rfl)
set_option maxHeartbeats 4000000 in
set_option maxRecDepth 100000 in
theorem c_X3_howMany (l : Launch) (p0 : Int32) (out : Int32) (hw : f_X3_howMany p0 = some out) : Met l yX3_howMany (.code yX3_howMany cX3_howMany 1 (some .int) :: lw_g) ({ frames := 1, cells := 0, slots := 0, locals := 20 }) (Pc0 [.int p0]) (vp_Si (fun r_ => r_ = out)) 0 0 (fun _ => False) := by
  unfold f_X3_howMany at hw
  refine Met.ofW (cc := cX3_howMany) (maxL := 1) (ret := (some .int)) (by decide) rfl ?_
  intro p e s m args below meth c s₁ B hml hv
  obtain ⟨rfl, -⟩ := hv
  have hx := B.exec
  have hb := B.bytes
  have hr := B.returns
  have hts0 := atoms_spec (ws := (.code yX3_howMany cX3_howMany 1 (some .int) :: lw_g)) B.pre
  have hts : ∀ w ∈ lw_g, w.before (([.int p0] : List Value).toArray) s = true := fun w h => hts0 w (List.mem_cons_of_mem _ h)
  clear hts0
  have hown : s.vm.findClass RX3 = some m.cls := findClass_of_methodNamed B.named
  have hlocks := B.notSynchronized
  have hret : ∀ (pc : Nat) (ls : Array Slot) (v : Int32), v = out → decode cX3_howMany pc = .ok (.ireturn, 1) → W p l e ({ frames := 1, cells := 0, slots := 0, locals := 20 }) s m (([.int p0] : List Value).toArray) below meth c s.heap [] 0 0 (MQ below (vp_Si (fun r_ => r_ = out)) (([.int p0] : List Value).toArray) s 0 0 (fun _ => False)) (F0 m pc ls [.int v]) := fun pc ls v hv hd => W.iret hx hb hr (fun t ht hW => ⟨v, rfl, hv, ht⟩) (fun q hq => absurd hq List.not_mem_nil) hd
  show W p l e ({ frames := 1, cells := 0, slots := 0, locals := 20 }) s m (([.int p0] : List Value).toArray) below meth c s.heap [] 0 0 (MQ below (vp_Si (fun r_ => r_ = out)) (([.int p0] : List Value).toArray) s 0 0 (fun _ => False)) (entryFrame m (([.int p0] : List Value).toArray) 1)
  generalize MQ below (vp_Si (fun r_ => r_ = out)) (([.int p0] : List Value).toArray) s 0 0 (fun _ => False) = Q at hret ⊢
  have hl := lv_entry ([.int p0]) (n := 1) (Nat.le_of_ble_eq_true rfl)
  rw [lg_entry_eq]
  generalize (lg_sl ([.int p0]) ++ List.replicate (1 - (lg_sl ([.int p0])).length) Slot.unset).toArray = ls at hl ⊢
  have hl : lv_has ls 1 [(0, .int p0)] := hl
  refine lv_iload_n hx hb dX3_howMany_0 rfl (lv_at hl 0 rfl) ?_
  refine lv_if_ge (tgt := 8) hx hb dX3_howMany_1 (by decide) (fun c1 => ?_) (fun c1 => ?_)
  · have hw := ite_t hw c1
    refine lv_iload_n hx hb dX3_howMany_8 rfl (lv_at hl 0 rfl) ?_
    obtain ⟨r2, er2, hw⟩ := Option.bind_eq_some_iff.mp hw
    refine vp_callSi (va_runS (As := [.int p0]) (rest := []) ⟨hx, hb, hml, hown, hts⟩ (c_J6_bitCount_0f7a4 l p0 r2 er2) ⟨callB_of 1 hts gd_J6_bitCount_0f7a4 rfl rfl rfl (hts _ wd_40) (hts _ wd_412) hd_J6_bitCount_0f7a4 ⟨Nat.le_of_ble_eq_true rfl, Nat.le_of_ble_eq_true rfl⟩, hts _ wd_333⟩ ⟨bl0, fun U hU hW => ⟨rfl, trivial⟩⟩ rfl rfl hl.1 rfl (lv_room (Nat.le_of_ble_eq_true rfl)) dX3_howMany_9 ⟨Nat.zero_le _, Nat.zero_le _⟩).run (fun r_ e_ => ?_)
    subst r_
    exact hret _ _ _ (Option.some.inj hw) dX3_howMany_12
  · have hw := ite_f hw c1
    refine lv_iload_n hx hb dX3_howMany_4 rfl (lv_at hl 0 rfl) ?_
    refine lv_goto (tgt := 12) hx hb dX3_howMany_5 (by decide) ?_
    exact hret _ _ _ (Option.some.inj hw) dX3_howMany_12
set_option maxHeartbeats 4000000 in
set_option maxRecDepth 100000 in
theorem c_X3_hush (l : Launch) (dC : Nat → ClassId) (dI : Nat → Nat → Nat) (a : Nat → Nat) (cA : ClassId) (X : WS) (p1 : Int32) (p2 : Int32) (p3 : Int32) (p4 : Int32) (out : Int32) (hw : f_X3_hush X p1 p2 p3 p4 = some out) : Met l yX3_hush (.code yX3_hush cX3_hush 6 (some .int) :: lw_g) ({ frames := 5, cells := 0, slots := 0, locals := 129 }) (PcX dC dI a cA X [.ref (a 0), .int p1, .int p2, .int p3, .int p4]) (vp_Si (fun r_ => r_ = out)) 0 0 (fun _ => False) := by
  unfold f_X3_hush at hw
  refine Met.ofW (cc := cX3_hush) (maxL := 6) (ret := (some .int)) (by decide) rfl ?_
  intro p e s m args below meth c s₁ B hml hv
  obtain ⟨rfl, hP, hK, hN⟩ := hv
  have hx := B.exec
  have hb := B.bytes
  have hr := B.returns
  have hts0 := atoms_spec (ws := (.code yX3_hush cX3_hush 6 (some .int) :: lw_g)) B.pre
  have hts : ∀ w ∈ lw_g, w.before (([.ref (a 0), .int p1, .int p2, .int p3, .int p4] : List Value).toArray) s = true := fun w h => hts0 w (List.mem_cons_of_mem _ h)
  clear hts0
  have hown : s.vm.findClass RX3 = some m.cls := findClass_of_methodNamed B.named
  have hlocks := B.notSynchronized
  have hret : ∀ (pc : Nat) (ls : Array Slot) (v : Int32), v = out → decode cX3_hush pc = .ok (.ireturn, 1) → W p l e ({ frames := 5, cells := 0, slots := 0, locals := 129 }) s m (([.ref (a 0), .int p1, .int p2, .int p3, .int p4] : List Value).toArray) below meth c s.heap [] 0 0 (MQ below (vp_Si (fun r_ => r_ = out)) (([.ref (a 0), .int p1, .int p2, .int p3, .int p4] : List Value).toArray) s 0 0 (fun _ => False)) (F0 m pc ls [.int v]) := fun pc ls v hv hd => W.iret hx hb hr (fun t ht hW => ⟨v, rfl, hv, ht⟩) (fun q hq => absurd hq List.not_mem_nil) hd
  show W p l e ({ frames := 5, cells := 0, slots := 0, locals := 129 }) s m (([.ref (a 0), .int p1, .int p2, .int p3, .int p4] : List Value).toArray) below meth c s.heap [] 0 0 (MQ below (vp_Si (fun r_ => r_ = out)) (([.ref (a 0), .int p1, .int p2, .int p3, .int p4] : List Value).toArray) s 0 0 (fun _ => False)) (entryFrame m (([.ref (a 0), .int p1, .int p2, .int p3, .int p4] : List Value).toArray) 6)
  generalize MQ below (vp_Si (fun r_ => r_ = out)) (([.ref (a 0), .int p1, .int p2, .int p3, .int p4] : List Value).toArray) s 0 0 (fun _ => False) = Q at hret ⊢
  have hl := lv_entry ([.ref (a 0), .int p1, .int p2, .int p3, .int p4]) (n := 6) (Nat.le_of_ble_eq_true rfl)
  rw [lg_entry_eq]
  generalize (lg_sl ([.ref (a 0), .int p1, .int p2, .int p3, .int p4]) ++ List.replicate (6 - (lg_sl ([.ref (a 0), .int p1, .int p2, .int p3, .int p4])).length) Slot.unset).toArray = ls at hl ⊢
  have hl : lv_has ls 6 [(0, .ref (a 0)), (1, .int p1), (2, .int p2), (3, .int p3), (4, .int p4)] := hl
  refine lv_aload_n hx hb dX3_hush_0 rfl (lv_at hl 0 rfl) ?_
  refine lv_iload_n hx hb dX3_hush_1 rfl (lv_at hl 1 rfl) ?_
  obtain ⟨r1, er1, hw⟩ := Option.bind_eq_some_iff.mp hw
  refine vp_callSi (va_runV (As := [.int p1]) (rest := []) ⟨hx, hb, hml, hown, hts⟩ (c_X3_isListener l dC dI a cA X p1 r1 er1) ⟨callB_of 1 hts gd_X3_isListener rfl rfl rfl (hts _ wd_35) (hts _ wd_286) hd_X3_isListener ⟨Nat.le_of_ble_eq_true rfl, Nat.le_of_ble_eq_true rfl⟩, hts _ wd_288, hts _ wd_2⟩ ⟨blX, va_recv hK hP (ci := 3) (q0 := 0) rfl rfl, fun U hU hW => ⟨rfl, by rw [hU]; exact hP, va_K.moved hW.alike hK, nst.warm hW hN⟩⟩ rfl rfl hl.1 rfl (lv_room (Nat.le_of_ble_eq_true rfl)) dX3_hush_2 ⟨Nat.zero_le _, Nat.zero_le _⟩).run (fun r_ e_ => ?_)
  subst r_
  refine lv_if_eq (tgt := 16) hx hb dX3_hush_5 (by decide) (fun c2 => ?_) (fun c2 => ?_)
  · have hw := ite_t hw c2
    refine lv_bipush (v := (-101)) hx hb dX3_hush_16 (by decide) ?_
    exact hret _ _ _ (Option.some.inj hw) dX3_hush_18
  · have hw := ite_f hw c2
    refine lv_aload_n hx hb dX3_hush_8 rfl (lv_at hl 0 rfl) ?_
    refine lv_iload_n hx hb dX3_hush_9 rfl (lv_at hl 2 rfl) ?_
    obtain ⟨r3, er3, hw⟩ := Option.bind_eq_some_iff.mp hw
    refine vp_callSi (va_runV (As := [.int p2]) (rest := []) ⟨hx, hb, hml, hown, hts⟩ (c_X3_isPlace l dC dI a cA X p2 r3 er3) ⟨callB_of 1 hts gd_X3_isPlace rfl rfl rfl (hts _ wd_35) (hts _ wd_253) hd_X3_isPlace ⟨Nat.le_of_ble_eq_true rfl, Nat.le_of_ble_eq_true rfl⟩, hts _ wd_255, hts _ wd_0⟩ ⟨blX, va_recv hK hP (ci := 3) (q0 := 0) rfl rfl, fun U hU hW => ⟨rfl, by rw [hU]; exact hP, va_K.moved hW.alike hK, nst.warm hW hN⟩⟩ rfl rfl hl.1 rfl (lv_room (Nat.le_of_ble_eq_true rfl)) dX3_hush_10 ⟨Nat.zero_le _, Nat.zero_le _⟩).run (fun r_ e_ => ?_)
    subst r_
    refine lv_if_ne (tgt := 19) hx hb dX3_hush_13 (by decide) (fun c4 => ?_) (fun c4 => ?_)
    · have hw := ite_f hw c4
      refine lv_iload_n hx hb dX3_hush_19 rfl (lv_at hl 3 rfl) ?_
      obtain ⟨r5, er5, hw⟩ := Option.bind_eq_some_iff.mp hw
      refine vp_callSi (va_runS (As := [.int p3]) (rest := []) ⟨hx, hb, hml, hown, hts⟩ (c_X3_isLoud l p3 r5 er5) ⟨callB_of 1 hts gd_X3_isLoud rfl rfl rfl (hts _ wd_35) (hts _ wd_312) hd_X3_isLoud ⟨Nat.le_of_ble_eq_true rfl, Nat.le_of_ble_eq_true rfl⟩, hts _ wd_313⟩ ⟨bl0, fun U hU hW => ⟨rfl, trivial⟩⟩ rfl rfl hl.1 rfl (lv_room (Nat.le_of_ble_eq_true rfl)) dX3_hush_20 ⟨Nat.zero_le _, Nat.zero_le _⟩).run (fun r_ e_ => ?_)
      subst r_
      refine lv_if_eq (tgt := 37) hx hb dX3_hush_23 (by decide) (fun c6 => ?_) (fun c6 => ?_)
      · have hw := ite_t hw c6
        refine lv_bipush (v := (-102)) hx hb dX3_hush_37 (by decide) ?_
        exact hret _ _ _ (Option.some.inj hw) dX3_hush_39
      · have hw := ite_f hw c6
        refine lv_iload hx hb dX3_hush_26 (lv_at hl 4 rfl) ?_
        refine lv_if_lt (tgt := 37) hx hb dX3_hush_28 (by decide) (fun c7 => ?_) (fun c7 => ?_)
        · have hw := ite_t hw c7
          refine lv_bipush (v := (-102)) hx hb dX3_hush_37 (by decide) ?_
          exact hret _ _ _ (Option.some.inj hw) dX3_hush_39
        · have hw := ite_f hw c7
          refine lv_iload hx hb dX3_hush_31 (lv_at hl 4 rfl) ?_
          refine lv_iconst (v := 1) hx hb dX3_hush_33 (by decide) ?_
          refine lv_icmp_le (tgt := 40) hx hb dX3_hush_34 (by decide) (fun c8 => ?_) (fun c8 => ?_)
          · have hw := ite_t hw c8
            refine lv_aload_n hx hb dX3_hush_40 rfl (lv_at hl 0 rfl) ?_
            refine va_get (D := (dC, dI)) (ci := 3) (v := .ref (a 3)) (C := RX3) (T := TX3) (N := 6) hx hb hts iX3 hown hK hP 0 rfl rfl 1 (by decide) (hts _ wd_179) (fun _ h9 => h9) rfl dX3_hush_41 ?_
            refine lv_iload_n hx hb dX3_hush_44 rfl (lv_at hl 1 rfl) ?_
            refine lv_iload_n hx hb dX3_hush_45 rfl (lv_at hl 2 rfl) ?_
            refine lv_iload_n hx hb dX3_hush_46 rfl (lv_at hl 3 rfl) ?_
            obtain ⟨r9, er9, hw⟩ := Option.bind_eq_some_iff.mp hw
            refine vp_callSi (va_runS (As := [.ref (a 3), .int p1, .int p2, .int p3]) (rest := []) ⟨hx, hb, hml, hown, hts⟩ (c_X0_sentAway l dC dI a cA X p1 p2 p3 r9 er9) ⟨callB_of 4 hts gd_X0_sentAway rfl rfl rfl (hts _ wd_38) (hts _ wd_402) hd_X0_sentAway ⟨Nat.le_of_ble_eq_true rfl, Nat.le_of_ble_eq_true rfl⟩, hts _ wd_403⟩ ⟨blX, fun U hU hW => ⟨rfl, by rw [hU]; exact hP, va_K.moved hW.alike hK, nst.warm hW hN⟩⟩ rfl rfl hl.1 rfl (lv_room (Nat.le_of_ble_eq_true rfl)) dX3_hush_47 ⟨Nat.zero_le _, Nat.zero_le _⟩).run (fun r_ e_ => ?_)
            subst r_
            refine lv_istore (lv' := [(5, .int r9), (0, .ref (a 0)), (1, .int p1), (2, .int p2), (3, .int p3), (4, .int p4)]) hx hb dX3_hush_50 hl (by decide) rfl (fun ls hl => ?_)
            refine lv_iload hx hb dX3_hush_52 (lv_at hl 5 rfl) ?_
            refine lv_if_ne (tgt := 65) hx hb dX3_hush_54 (by decide) (fun c10 => ?_) (fun c10 => ?_)
            · have hw := ite_f hw c10
              refine lv_iload hx hb dX3_hush_65 (lv_at hl 0 rfl) ?_
              exact hret _ _ _ (Option.some.inj hw) dX3_hush_67
            · have hw := ite_t hw c10
              refine lv_iload hx hb dX3_hush_57 (lv_at hl 0 rfl) ?_
              obtain ⟨r11, er11, hw⟩ := Option.bind_eq_some_iff.mp hw
              refine vp_callSi (va_runS (As := [.int r9]) (rest := []) ⟨hx, hb, hml, hown, hts⟩ (c_X3_howMany l r9 r11 er11) ⟨callB_of 1 hts gd_X3_howMany rfl rfl rfl (hts _ wd_35) (hts _ wd_409) hd_X3_howMany ⟨Nat.le_of_ble_eq_true rfl, Nat.le_of_ble_eq_true rfl⟩, hts _ wd_410⟩ ⟨bl0, fun U hU hW => ⟨rfl, trivial⟩⟩ rfl rfl hl.1 rfl (lv_room (Nat.le_of_ble_eq_true rfl)) dX3_hush_59 ⟨Nat.zero_le _, Nat.zero_le _⟩).run (fun r_ e_ => ?_)
              subst r_
              refine lv_goto (tgt := 67) hx hb dX3_hush_62 (by decide) ?_
              exact hret _ _ _ (Option.some.inj hw) dX3_hush_67
          · have hw := ite_f hw c8
            refine lv_bipush (v := (-102)) hx hb dX3_hush_37 (by decide) ?_
            exact hret _ _ _ (Option.some.inj hw) dX3_hush_39
    · have hw := ite_t hw c4
      refine lv_bipush (v := (-101)) hx hb dX3_hush_16 (by decide) ?_
      exact hret _ _ _ (Option.some.inj hw) dX3_hush_18
