set_option maxHeartbeats 4000000 in
set_option maxRecDepth 100000 in
theorem c_X4_hushOf (l : Launch) (dC : Nat → ClassId) (dI : Nat → Nat → Nat) (a : Nat → Nat) (cA : ClassId) (X : MS) (p1 : Int32) (p2 : Int32) (p3 : Int32) (out : Int32) (hw : f_X4_hushOf X p1 p2 p3 = some out) : Met l yX4_hushOf (.code yX4_hushOf cX4_hushOf 8 (some .int) :: lw_g) ({ frames := 3, cells := 0, slots := 0, locals := 78 }) (PcM dC dI a cA X [.ref (a 0), .int p1, .int p2, .int p3]) (vp_Si (fun r_ => r_ = out)) 0 0 (fun _ => False) := by
  unfold f_X4_hushOf at hw
  refine Met.ofW (cc := cX4_hushOf) (maxL := 8) (ret := (some .int)) (by decide) rfl ?_
  intro p e s m args below meth c s₁ B hml hv
  obtain ⟨rfl, hP, hK⟩ := hv
  have hx := B.exec
  have hb := B.bytes
  have hr := B.returns
  have hts0 := atoms_spec (ws := (.code yX4_hushOf cX4_hushOf 8 (some .int) :: lw_g)) B.pre
  have hts : ∀ w ∈ lw_g, w.before (([.ref (a 0), .int p1, .int p2, .int p3] : List Value).toArray) s = true := fun w h => hts0 w (List.mem_cons_of_mem _ h)
  clear hts0
  have hown : s.vm.findClass RX4 = some m.cls := findClass_of_methodNamed B.named
  have hlocks := B.notSynchronized
  have hret : ∀ (pc : Nat) (ls : Array Slot) (v : Int32), v = out → decode cX4_hushOf pc = .ok (.ireturn, 1) → W p l e ({ frames := 3, cells := 0, slots := 0, locals := 78 }) s m (([.ref (a 0), .int p1, .int p2, .int p3] : List Value).toArray) below meth c s.heap [] 0 0 (MQ below (vp_Si (fun r_ => r_ = out)) (([.ref (a 0), .int p1, .int p2, .int p3] : List Value).toArray) s 0 0 (fun _ => False)) (F0 m pc ls [.int v]) := fun pc ls v hv hd => W.iret hx hb hr (fun t ht hW => ⟨v, rfl, hv, ht⟩) (fun q hq => absurd hq List.not_mem_nil) hd
  show W p l e ({ frames := 3, cells := 0, slots := 0, locals := 78 }) s m (([.ref (a 0), .int p1, .int p2, .int p3] : List Value).toArray) below meth c s.heap [] 0 0 (MQ below (vp_Si (fun r_ => r_ = out)) (([.ref (a 0), .int p1, .int p2, .int p3] : List Value).toArray) s 0 0 (fun _ => False)) (entryFrame m (([.ref (a 0), .int p1, .int p2, .int p3] : List Value).toArray) 8)
  generalize MQ below (vp_Si (fun r_ => r_ = out)) (([.ref (a 0), .int p1, .int p2, .int p3] : List Value).toArray) s 0 0 (fun _ => False) = Q at hret ⊢
  have L6 : ∀ (v1 : Int32), ∀ (v2 : Int32), ∀ (v3 : Int32), ∀ n : Nat, ∀ (v4 : Int32), ∀ (v5 : Int32), g_X4_hushOf_6 X v1 v2 v3 n v4 v5 = some out → ∀ ls : Array Slot, lv_has ls 8 [(0, .ref (a 0)), (1, .int v1), (2, .int v2), (3, .int v3), (4, .int v4), (5, .int v5)] → W p l e ({ frames := 3, cells := 0, slots := 0, locals := 78 }) s m (([.ref (a 0), .int p1, .int p2, .int p3] : List Value).toArray) below meth c s.heap [] 0 0 Q (F0 m 6 ls []) := by
    intro v1 v2 v3 n
    induction n with
    | zero =>
      intro v4 v5 hw
      rw [g_X4_hushOf_6] at hw
      cases hw
    | succ n ih =>
      intro v4 v5 hw ls hl
      rw [g_X4_hushOf_6] at hw
      refine lv_iload hx hb dX4_hushOf_6 (lv_at hl 5 rfl) ?_
      refine lv_aload_n hx hb dX4_hushOf_8 rfl (lv_at hl 0 rfl) ?_
      obtain ⟨r1, er1, hw⟩ := Option.bind_eq_some_iff.mp hw
      refine vp_callSi (va_runV (As := []) (rest := [.int v5]) ⟨hx, hb, hml, hown, hts⟩ (c_X4_allListeners l dC dI a cA X r1 er1) ⟨callB_of 0 hts gd_X4_allListeners rfl rfl rfl (hts _ wd_39) (hts _ wd_699) hd_X4_allListeners ⟨Nat.le_of_ble_eq_true rfl, Nat.le_of_ble_eq_true rfl⟩, hts _ wd_701, hts _ wd_18⟩ ⟨blM, va_recv hK hP (ci := 4) (q0 := 0) rfl rfl, fun U hU hW => ⟨rfl, by rw [hU]; exact hP, va_K.moved hW.alike hK⟩⟩ rfl rfl hl.1 rfl (lv_room (Nat.le_of_ble_eq_true rfl)) dX4_hushOf_9 ⟨Nat.zero_le _, Nat.zero_le _⟩).run (fun r_ e_ => ?_)
      subst r_
      refine lv_icmp_gt (tgt := 101) hx hb dX4_hushOf_12 (by decide) (fun c2 => ?_) (fun c2 => ?_)
      · have hw := ite_t hw c2
        refine lv_iload hx hb dX4_hushOf_101 (lv_at hl 4 rfl) ?_
        exact hret _ _ _ (Option.some.inj hw) dX4_hushOf_103
      · have hw := ite_f hw c2
        refine lv_iload hx hb dX4_hushOf_15 (lv_at hl 5 rfl) ?_
        refine lv_iload_n hx hb dX4_hushOf_17 rfl (lv_at hl 1 rfl) ?_
        refine lv_ishr hx hb dX4_hushOf_18 ?_
        refine lv_iconst (v := 1) hx hb dX4_hushOf_19 (by decide) ?_
        refine lv_iand hx hb dX4_hushOf_20 ?_
        refine lv_if_ne (tgt := 47) hx hb dX4_hushOf_21 (by decide) (fun c3 => ?_) (fun c3 => ?_)
        · have hw := ite_f hw c3
          refine lv_iconst (v := 0) hx hb dX4_hushOf_47 (by decide) ?_
          refine lv_istore (lv' := [(6, .int 0), (0, .ref (a 0)), (1, .int v1), (2, .int v2), (3, .int v3), (4, .int v4), (5, .int v5)]) hx hb dX4_hushOf_48 hl (by decide) rfl (fun ls hl => ?_)
          refine lv_aload_n hx hb dX4_hushOf_50 rfl (lv_at hl 1 rfl) ?_
          refine lv_iload_n hx hb dX4_hushOf_51 rfl (lv_at hl 3 rfl) ?_
          refine lv_iload_n hx hb dX4_hushOf_52 rfl (lv_at hl 4 rfl) ?_
          refine lv_aload_n hx hb dX4_hushOf_53 rfl (lv_at hl 1 rfl) ?_
          obtain ⟨r4, er4, hw⟩ := Option.bind_eq_some_iff.mp hw
          refine vp_callSi (va_runV (As := []) (rest := [.int v3, .int v2, .ref (a 0)]) ⟨hx, hb, hml, hown, hts⟩ (c_X4_allListeners l dC dI a cA X r4 er4) ⟨callB_of 0 hts gd_X4_allListeners rfl rfl rfl (hts _ wd_39) (hts _ wd_699) hd_X4_allListeners ⟨Nat.le_of_ble_eq_true rfl, Nat.le_of_ble_eq_true rfl⟩, hts _ wd_701, hts _ wd_18⟩ ⟨blM, va_recv hK hP (ci := 4) (q0 := 0) rfl rfl, fun U hU hW => ⟨rfl, by rw [hU]; exact hP, va_K.moved hW.alike hK⟩⟩ rfl rfl hl.1 rfl (lv_room (Nat.le_of_ble_eq_true rfl)) dX4_hushOf_54 ⟨Nat.zero_le _, Nat.zero_le _⟩).run (fun r_ e_ => ?_)
          subst r_
          refine lv_iload hx hb dX4_hushOf_57 (lv_at hl 6 rfl) ?_
          refine lv_iconst (v := (-1)) hx hb dX4_hushOf_59 (by decide) ?_
          refine lv_ixor hx hb dX4_hushOf_60 ?_
          refine lv_iand hx hb dX4_hushOf_61 ?_
          refine lv_iconst (v := 0) hx hb dX4_hushOf_62 (by decide) ?_
          obtain ⟨r5, er5, hw⟩ := Option.bind_eq_some_iff.mp hw
          refine vp_callSi (va_runV (As := [.int v2, .int v3, .int (r4 &&& (v5 ^^^ (-1))), .int 0]) (rest := []) ⟨hx, hb, hml, hown, hts⟩ (c_X4_heardBy l dC dI a cA X v2 v3 (r4 &&& (v5 ^^^ (-1))) 0 r5 er5) ⟨callB_of 4 hts gd_X4_heardBy rfl rfl rfl (hts _ wd_39) (hts _ wd_703) hd_X4_heardBy ⟨Nat.le_of_ble_eq_true rfl, Nat.le_of_ble_eq_true rfl⟩, hts _ wd_705, hts _ wd_19⟩ ⟨blM, va_recv hK hP (ci := 4) (q0 := 0) rfl rfl, fun U hU hW => ⟨rfl, by rw [hU]; exact hP, va_K.moved hW.alike hK⟩⟩ rfl rfl hl.1 rfl (lv_room (Nat.le_of_ble_eq_true rfl)) dX4_hushOf_63 ⟨Nat.zero_le _, Nat.zero_le _⟩).run (fun r_ e_ => ?_)
          subst r_
          refine lv_istore (lv' := [(7, .int r5), (6, .int 0), (0, .ref (a 0)), (1, .int v1), (2, .int v2), (3, .int v3), (4, .int v4), (5, .int v5)]) hx hb dX4_hushOf_66 hl (by decide) rfl (fun ls hl => ?_)
          refine lv_iload hx hb dX4_hushOf_68 (lv_at hl 1 rfl) ?_
          refine lv_if_eq (tgt := 91) hx hb dX4_hushOf_70 (by decide) (fun c6 => ?_) (fun c6 => absurd c6 (by decide))
          refine lv_iload hx hb dX4_hushOf_91 (lv_at hl 6 rfl) ?_
          refine lv_istore (lv' := [(4, .int v4), (7, .int r5), (6, .int 0), (0, .ref (a 0)), (1, .int v1), (2, .int v2), (3, .int v3), (5, .int v5)]) hx hb dX4_hushOf_93 hl (by decide) rfl (fun ls hl => ?_)
          obtain ⟨x7, ex7⟩ : ∃ y : Int32, y = (v5 + 1) := ⟨_, rfl⟩
          have hw := stp_use hw ex7
          refine lv_iinc (v := x7) (lv' := [(5, .int x7), (4, .int v4), (7, .int r5), (6, .int 0), (0, .ref (a 0)), (1, .int v1), (2, .int v2), (3, .int v3)]) hx hb dX4_hushOf_95 hl (k := 7) rfl (by rw [ex7]; rfl) (by decide) rfl (fun ls hl => ?_)
          refine lv_goto (tgt := 6) hx hb dX4_hushOf_98 (by decide) ?_
          exact ih v4 x7 hw ls (lv_sub hl [4, 5, 6, 7, 1, 0] rfl)
        · have hw := ite_t hw c3
          refine lv_iload hx hb dX4_hushOf_24 (lv_at hl 4 rfl) ?_
          refine lv_iconst (v := (-1)) hx hb dX4_hushOf_26 (by decide) ?_
          refine lv_icmp_eq (tgt := 43) hx hb dX4_hushOf_27 (by decide) (fun c8 => ?_) (fun c8 => ?_)
          · have hw := ite_t hw c8
            refine lv_iconst (v := 1) hx hb dX4_hushOf_43 (by decide) ?_
            refine lv_goto (tgt := 48) hx hb dX4_hushOf_44 (by decide) ?_
            refine lv_istore (lv' := [(6, .int 1), (0, .ref (a 0)), (1, .int v1), (2, .int v2), (3, .int v3), (4, .int v4), (5, .int v5)]) hx hb dX4_hushOf_48 hl (by decide) rfl (fun ls hl => ?_)
            refine lv_aload_n hx hb dX4_hushOf_50 rfl (lv_at hl 1 rfl) ?_
            refine lv_iload_n hx hb dX4_hushOf_51 rfl (lv_at hl 3 rfl) ?_
            refine lv_iload_n hx hb dX4_hushOf_52 rfl (lv_at hl 4 rfl) ?_
            refine lv_aload_n hx hb dX4_hushOf_53 rfl (lv_at hl 1 rfl) ?_
            obtain ⟨r9, er9, hw⟩ := Option.bind_eq_some_iff.mp hw
            refine vp_callSi (va_runV (As := []) (rest := [.int v3, .int v2, .ref (a 0)]) ⟨hx, hb, hml, hown, hts⟩ (c_X4_allListeners l dC dI a cA X r9 er9) ⟨callB_of 0 hts gd_X4_allListeners rfl rfl rfl (hts _ wd_39) (hts _ wd_699) hd_X4_allListeners ⟨Nat.le_of_ble_eq_true rfl, Nat.le_of_ble_eq_true rfl⟩, hts _ wd_701, hts _ wd_18⟩ ⟨blM, va_recv hK hP (ci := 4) (q0 := 0) rfl rfl, fun U hU hW => ⟨rfl, by rw [hU]; exact hP, va_K.moved hW.alike hK⟩⟩ rfl rfl hl.1 rfl (lv_room (Nat.le_of_ble_eq_true rfl)) dX4_hushOf_54 ⟨Nat.zero_le _, Nat.zero_le _⟩).run (fun r_ e_ => ?_)
            subst r_
            refine lv_iload hx hb dX4_hushOf_57 (lv_at hl 6 rfl) ?_
            refine lv_iconst (v := (-1)) hx hb dX4_hushOf_59 (by decide) ?_
            refine lv_ixor hx hb dX4_hushOf_60 ?_
            refine lv_iand hx hb dX4_hushOf_61 ?_
            refine lv_iconst (v := 0) hx hb dX4_hushOf_62 (by decide) ?_
            obtain ⟨r10, er10, hw⟩ := Option.bind_eq_some_iff.mp hw
            refine vp_callSi (va_runV (As := [.int v2, .int v3, .int (r9 &&& (v5 ^^^ (-1))), .int 0]) (rest := []) ⟨hx, hb, hml, hown, hts⟩ (c_X4_heardBy l dC dI a cA X v2 v3 (r9 &&& (v5 ^^^ (-1))) 0 r10 er10) ⟨callB_of 4 hts gd_X4_heardBy rfl rfl rfl (hts _ wd_39) (hts _ wd_703) hd_X4_heardBy ⟨Nat.le_of_ble_eq_true rfl, Nat.le_of_ble_eq_true rfl⟩, hts _ wd_705, hts _ wd_19⟩ ⟨blM, va_recv hK hP (ci := 4) (q0 := 0) rfl rfl, fun U hU hW => ⟨rfl, by rw [hU]; exact hP, va_K.moved hW.alike hK⟩⟩ rfl rfl hl.1 rfl (lv_room (Nat.le_of_ble_eq_true rfl)) dX4_hushOf_63 ⟨Nat.zero_le _, Nat.zero_le _⟩).run (fun r_ e_ => ?_)
            subst r_
            refine lv_istore (lv' := [(7, .int r10), (6, .int 1), (0, .ref (a 0)), (1, .int v1), (2, .int v2), (3, .int v3), (4, .int v4), (5, .int v5)]) hx hb dX4_hushOf_66 hl (by decide) rfl (fun ls hl => ?_)
            refine lv_iload hx hb dX4_hushOf_68 (lv_at hl 1 rfl) ?_
            refine lv_if_eq (tgt := 91) hx hb dX4_hushOf_70 (by decide) (fun c11 => absurd c11 (by decide)) (fun c11 => ?_)
            refine lv_aload_n hx hb dX4_hushOf_73 rfl (lv_at hl 2 rfl) ?_
            refine lv_iload hx hb dX4_hushOf_74 (lv_at hl 0 rfl) ?_
            obtain ⟨r12, er12, hw⟩ := Option.bind_eq_some_iff.mp hw
            refine vp_callSi (va_runV (As := [.int r10]) (rest := []) ⟨hx, hb, hml, hown, hts⟩ (c_X4_knowing l dC dI a cA X r10 r12 er12) ⟨callB_of 1 hts gd_X4_knowing rfl rfl rfl (hts _ wd_39) (hts _ wd_672) hd_X4_knowing ⟨Nat.le_of_ble_eq_true rfl, Nat.le_of_ble_eq_true rfl⟩, hts _ wd_674, hts _ wd_15⟩ ⟨blM, va_recv hK hP (ci := 4) (q0 := 0) rfl rfl, fun U hU hW => ⟨rfl, by rw [hU]; exact hP, va_K.moved hW.alike hK⟩⟩ rfl rfl hl.1 rfl (lv_room (Nat.le_of_ble_eq_true rfl)) dX4_hushOf_76 ⟨Nat.zero_le _, Nat.zero_le _⟩).run (fun r_ e_ => ?_)
            subst r_
            refine lv_iload_n hx hb dX4_hushOf_79 rfl (lv_at hl 3 rfl) ?_
            refine lv_ishr hx hb dX4_hushOf_80 ?_
            refine lv_iconst (v := 1) hx hb dX4_hushOf_81 (by decide) ?_
            refine lv_iand hx hb dX4_hushOf_82 ?_
            refine lv_if_ne (tgt := 91) hx hb dX4_hushOf_83 (by decide) (fun c13 => ?_) (fun c13 => ?_)
            · have hw := ite_f hw c13
              refine lv_iload hx hb dX4_hushOf_91 (lv_at hl 6 rfl) ?_
              refine lv_istore (lv' := [(4, .int v4), (7, .int r10), (6, .int 1), (0, .ref (a 0)), (1, .int v1), (2, .int v2), (3, .int v3), (5, .int v5)]) hx hb dX4_hushOf_93 hl (by decide) rfl (fun ls hl => ?_)
              obtain ⟨x14, ex14⟩ : ∃ y : Int32, y = (v5 + 1) := ⟨_, rfl⟩
              have hw := stp_use hw ex14
              refine lv_iinc (v := x14) (lv' := [(5, .int x14), (4, .int v4), (7, .int r10), (6, .int 1), (0, .ref (a 0)), (1, .int v1), (2, .int v2), (3, .int v3)]) hx hb dX4_hushOf_95 hl (k := 7) rfl (by rw [ex14]; rfl) (by decide) rfl (fun ls hl => ?_)
              refine lv_goto (tgt := 6) hx hb dX4_hushOf_98 (by decide) ?_
              exact ih v4 x14 hw ls (lv_sub hl [4, 5, 6, 7, 1, 0] rfl)
            · have hw := ite_t hw c13
              refine lv_iload hx hb dX4_hushOf_86 (lv_at hl 7 rfl) ?_
              refine lv_goto (tgt := 93) hx hb dX4_hushOf_88 (by decide) ?_
              refine lv_istore (lv' := [(4, .int v5), (7, .int r10), (6, .int 1), (0, .ref (a 0)), (1, .int v1), (2, .int v2), (3, .int v3), (5, .int v5)]) hx hb dX4_hushOf_93 hl (by decide) rfl (fun ls hl => ?_)
              obtain ⟨x15, ex15⟩ : ∃ y : Int32, y = (v5 + 1) := ⟨_, rfl⟩
              have hw := stp_use hw ex15
              refine lv_iinc (v := x15) (lv' := [(5, .int x15), (4, .int v5), (7, .int r10), (6, .int 1), (0, .ref (a 0)), (1, .int v1), (2, .int v2), (3, .int v3)]) hx hb dX4_hushOf_95 hl (k := 7) rfl (by rw [ex15]; rfl) (by decide) rfl (fun ls hl => ?_)
              refine lv_goto (tgt := 6) hx hb dX4_hushOf_98 (by decide) ?_
              exact ih v5 x15 hw ls (lv_sub hl [4, 5, 6, 7, 1, 0] rfl)
          · have hw := ite_f hw c8
            refine lv_iload hx hb dX4_hushOf_30 (lv_at hl 5 rfl) ?_
            obtain ⟨r16, er16, hw⟩ := Option.bind_eq_some_iff.mp hw
            refine vp_callSi (va_runS (As := [.int v5]) (rest := []) ⟨hx, hb, hml, hown, hts⟩ (c_X4_ones l v5 r16 er16) ⟨callB_of 1 hts gd_X4_ones rfl rfl rfl (hts _ wd_39) (hts _ wd_696) hd_X4_ones ⟨Nat.le_of_ble_eq_true rfl, Nat.le_of_ble_eq_true rfl⟩, hts _ wd_697⟩ ⟨bl0, fun U hU hW => ⟨rfl, trivial⟩⟩ rfl rfl hl.1 rfl (lv_room (Nat.le_of_ble_eq_true rfl)) dX4_hushOf_32 ⟨Nat.zero_le _, Nat.zero_le _⟩).run (fun r_ e_ => ?_)
            subst r_
            refine lv_iload hx hb dX4_hushOf_35 (lv_at hl 4 rfl) ?_
            obtain ⟨r17, er17, hw⟩ := Option.bind_eq_some_iff.mp hw
            refine vp_callSi (va_runS (As := [.int v4]) (rest := [.int r16]) ⟨hx, hb, hml, hown, hts⟩ (c_X4_ones l v4 r17 er17) ⟨callB_of 1 hts gd_X4_ones rfl rfl rfl (hts _ wd_39) (hts _ wd_696) hd_X4_ones ⟨Nat.le_of_ble_eq_true rfl, Nat.le_of_ble_eq_true rfl⟩, hts _ wd_697⟩ ⟨bl0, fun U hU hW => ⟨rfl, trivial⟩⟩ rfl rfl hl.1 rfl (lv_room (Nat.le_of_ble_eq_true rfl)) dX4_hushOf_37 ⟨Nat.zero_le _, Nat.zero_le _⟩).run (fun r_ e_ => ?_)
            subst r_
            refine lv_icmp_ge (tgt := 47) hx hb dX4_hushOf_40 (by decide) (fun c18 => ?_) (fun c18 => ?_)
            · have hw := ite_t hw c18
              refine lv_iconst (v := 0) hx hb dX4_hushOf_47 (by decide) ?_
              refine lv_istore (lv' := [(6, .int 0), (0, .ref (a 0)), (1, .int v1), (2, .int v2), (3, .int v3), (4, .int v4), (5, .int v5)]) hx hb dX4_hushOf_48 hl (by decide) rfl (fun ls hl => ?_)
              refine lv_aload_n hx hb dX4_hushOf_50 rfl (lv_at hl 1 rfl) ?_
              refine lv_iload_n hx hb dX4_hushOf_51 rfl (lv_at hl 3 rfl) ?_
              refine lv_iload_n hx hb dX4_hushOf_52 rfl (lv_at hl 4 rfl) ?_
              refine lv_aload_n hx hb dX4_hushOf_53 rfl (lv_at hl 1 rfl) ?_
              obtain ⟨r19, er19, hw⟩ := Option.bind_eq_some_iff.mp hw
              refine vp_callSi (va_runV (As := []) (rest := [.int v3, .int v2, .ref (a 0)]) ⟨hx, hb, hml, hown, hts⟩ (c_X4_allListeners l dC dI a cA X r19 er19) ⟨callB_of 0 hts gd_X4_allListeners rfl rfl rfl (hts _ wd_39) (hts _ wd_699) hd_X4_allListeners ⟨Nat.le_of_ble_eq_true rfl, Nat.le_of_ble_eq_true rfl⟩, hts _ wd_701, hts _ wd_18⟩ ⟨blM, va_recv hK hP (ci := 4) (q0 := 0) rfl rfl, fun U hU hW => ⟨rfl, by rw [hU]; exact hP, va_K.moved hW.alike hK⟩⟩ rfl rfl hl.1 rfl (lv_room (Nat.le_of_ble_eq_true rfl)) dX4_hushOf_54 ⟨Nat.zero_le _, Nat.zero_le _⟩).run (fun r_ e_ => ?_)
              subst r_
              refine lv_iload hx hb dX4_hushOf_57 (lv_at hl 6 rfl) ?_
              refine lv_iconst (v := (-1)) hx hb dX4_hushOf_59 (by decide) ?_
              refine lv_ixor hx hb dX4_hushOf_60 ?_
              refine lv_iand hx hb dX4_hushOf_61 ?_
              refine lv_iconst (v := 0) hx hb dX4_hushOf_62 (by decide) ?_
              obtain ⟨r20, er20, hw⟩ := Option.bind_eq_some_iff.mp hw
              refine vp_callSi (va_runV (As := [.int v2, .int v3, .int (r19 &&& (v5 ^^^ (-1))), .int 0]) (rest := []) ⟨hx, hb, hml, hown, hts⟩ (c_X4_heardBy l dC dI a cA X v2 v3 (r19 &&& (v5 ^^^ (-1))) 0 r20 er20) ⟨callB_of 4 hts gd_X4_heardBy rfl rfl rfl (hts _ wd_39) (hts _ wd_703) hd_X4_heardBy ⟨Nat.le_of_ble_eq_true rfl, Nat.le_of_ble_eq_true rfl⟩, hts _ wd_705, hts _ wd_19⟩ ⟨blM, va_recv hK hP (ci := 4) (q0 := 0) rfl rfl, fun U hU hW => ⟨rfl, by rw [hU]; exact hP, va_K.moved hW.alike hK⟩⟩ rfl rfl hl.1 rfl (lv_room (Nat.le_of_ble_eq_true rfl)) dX4_hushOf_63 ⟨Nat.zero_le _, Nat.zero_le _⟩).run (fun r_ e_ => ?_)
              subst r_
              refine lv_istore (lv' := [(7, .int r20), (6, .int 0), (0, .ref (a 0)), (1, .int v1), (2, .int v2), (3, .int v3), (4, .int v4), (5, .int v5)]) hx hb dX4_hushOf_66 hl (by decide) rfl (fun ls hl => ?_)
              refine lv_iload hx hb dX4_hushOf_68 (lv_at hl 1 rfl) ?_
              refine lv_if_eq (tgt := 91) hx hb dX4_hushOf_70 (by decide) (fun c21 => ?_) (fun c21 => absurd c21 (by decide))
              refine lv_iload hx hb dX4_hushOf_91 (lv_at hl 6 rfl) ?_
              refine lv_istore (lv' := [(4, .int v4), (7, .int r20), (6, .int 0), (0, .ref (a 0)), (1, .int v1), (2, .int v2), (3, .int v3), (5, .int v5)]) hx hb dX4_hushOf_93 hl (by decide) rfl (fun ls hl => ?_)
              obtain ⟨x22, ex22⟩ : ∃ y : Int32, y = (v5 + 1) := ⟨_, rfl⟩
              have hw := stp_use hw ex22
              refine lv_iinc (v := x22) (lv' := [(5, .int x22), (4, .int v4), (7, .int r20), (6, .int 0), (0, .ref (a 0)), (1, .int v1), (2, .int v2), (3, .int v3)]) hx hb dX4_hushOf_95 hl (k := 7) rfl (by rw [ex22]; rfl) (by decide) rfl (fun ls hl => ?_)
              refine lv_goto (tgt := 6) hx hb dX4_hushOf_98 (by decide) ?_
              exact ih v4 x22 hw ls (lv_sub hl [4, 5, 6, 7, 1, 0] rfl)
            · have hw := ite_f hw c18
              refine lv_iconst (v := 1) hx hb dX4_hushOf_43 (by decide) ?_
              refine lv_goto (tgt := 48) hx hb dX4_hushOf_44 (by decide) ?_
              refine lv_istore (lv' := [(6, .int 1), (0, .ref (a 0)), (1, .int v1), (2, .int v2), (3, .int v3), (4, .int v4), (5, .int v5)]) hx hb dX4_hushOf_48 hl (by decide) rfl (fun ls hl => ?_)
              refine lv_aload_n hx hb dX4_hushOf_50 rfl (lv_at hl 1 rfl) ?_
              refine lv_iload_n hx hb dX4_hushOf_51 rfl (lv_at hl 3 rfl) ?_
              refine lv_iload_n hx hb dX4_hushOf_52 rfl (lv_at hl 4 rfl) ?_
              refine lv_aload_n hx hb dX4_hushOf_53 rfl (lv_at hl 1 rfl) ?_
              obtain ⟨r23, er23, hw⟩ := Option.bind_eq_some_iff.mp hw
              refine vp_callSi (va_runV (As := []) (rest := [.int v3, .int v2, .ref (a 0)]) ⟨hx, hb, hml, hown, hts⟩ (c_X4_allListeners l dC dI a cA X r23 er23) ⟨callB_of 0 hts gd_X4_allListeners rfl rfl rfl (hts _ wd_39) (hts _ wd_699) hd_X4_allListeners ⟨Nat.le_of_ble_eq_true rfl, Nat.le_of_ble_eq_true rfl⟩, hts _ wd_701, hts _ wd_18⟩ ⟨blM, va_recv hK hP (ci := 4) (q0 := 0) rfl rfl, fun U hU hW => ⟨rfl, by rw [hU]; exact hP, va_K.moved hW.alike hK⟩⟩ rfl rfl hl.1 rfl (lv_room (Nat.le_of_ble_eq_true rfl)) dX4_hushOf_54 ⟨Nat.zero_le _, Nat.zero_le _⟩).run (fun r_ e_ => ?_)
              subst r_
              refine lv_iload hx hb dX4_hushOf_57 (lv_at hl 6 rfl) ?_
              refine lv_iconst (v := (-1)) hx hb dX4_hushOf_59 (by decide) ?_
              refine lv_ixor hx hb dX4_hushOf_60 ?_
              refine lv_iand hx hb dX4_hushOf_61 ?_
              refine lv_iconst (v := 0) hx hb dX4_hushOf_62 (by decide) ?_
              obtain ⟨r24, er24, hw⟩ := Option.bind_eq_some_iff.mp hw
              refine vp_callSi (va_runV (As := [.int v2, .int v3, .int (r23 &&& (v5 ^^^ (-1))), .int 0]) (rest := []) ⟨hx, hb, hml, hown, hts⟩ (c_X4_heardBy l dC dI a cA X v2 v3 (r23 &&& (v5 ^^^ (-1))) 0 r24 er24) ⟨callB_of 4 hts gd_X4_heardBy rfl rfl rfl (hts _ wd_39) (hts _ wd_703) hd_X4_heardBy ⟨Nat.le_of_ble_eq_true rfl, Nat.le_of_ble_eq_true rfl⟩, hts _ wd_705, hts _ wd_19⟩ ⟨blM, va_recv hK hP (ci := 4) (q0 := 0) rfl rfl, fun U hU hW => ⟨rfl, by rw [hU]; exact hP, va_K.moved hW.alike hK⟩⟩ rfl rfl hl.1 rfl (lv_room (Nat.le_of_ble_eq_true rfl)) dX4_hushOf_63 ⟨Nat.zero_le _, Nat.zero_le _⟩).run (fun r_ e_ => ?_)
              subst r_
              refine lv_istore (lv' := [(7, .int r24), (6, .int 1), (0, .ref (a 0)), (1, .int v1), (2, .int v2), (3, .int v3), (4, .int v4), (5, .int v5)]) hx hb dX4_hushOf_66 hl (by decide) rfl (fun ls hl => ?_)
              refine lv_iload hx hb dX4_hushOf_68 (lv_at hl 1 rfl) ?_
              refine lv_if_eq (tgt := 91) hx hb dX4_hushOf_70 (by decide) (fun c25 => absurd c25 (by decide)) (fun c25 => ?_)
              refine lv_aload_n hx hb dX4_hushOf_73 rfl (lv_at hl 2 rfl) ?_
              refine lv_iload hx hb dX4_hushOf_74 (lv_at hl 0 rfl) ?_
              obtain ⟨r26, er26, hw⟩ := Option.bind_eq_some_iff.mp hw
              refine vp_callSi (va_runV (As := [.int r24]) (rest := []) ⟨hx, hb, hml, hown, hts⟩ (c_X4_knowing l dC dI a cA X r24 r26 er26) ⟨callB_of 1 hts gd_X4_knowing rfl rfl rfl (hts _ wd_39) (hts _ wd_672) hd_X4_knowing ⟨Nat.le_of_ble_eq_true rfl, Nat.le_of_ble_eq_true rfl⟩, hts _ wd_674, hts _ wd_15⟩ ⟨blM, va_recv hK hP (ci := 4) (q0 := 0) rfl rfl, fun U hU hW => ⟨rfl, by rw [hU]; exact hP, va_K.moved hW.alike hK⟩⟩ rfl rfl hl.1 rfl (lv_room (Nat.le_of_ble_eq_true rfl)) dX4_hushOf_76 ⟨Nat.zero_le _, Nat.zero_le _⟩).run (fun r_ e_ => ?_)
              subst r_
              refine lv_iload_n hx hb dX4_hushOf_79 rfl (lv_at hl 3 rfl) ?_
              refine lv_ishr hx hb dX4_hushOf_80 ?_
              refine lv_iconst (v := 1) hx hb dX4_hushOf_81 (by decide) ?_
              refine lv_iand hx hb dX4_hushOf_82 ?_
              refine lv_if_ne (tgt := 91) hx hb dX4_hushOf_83 (by decide) (fun c27 => ?_) (fun c27 => ?_)
              · have hw := ite_f hw c27
                refine lv_iload hx hb dX4_hushOf_91 (lv_at hl 6 rfl) ?_
                refine lv_istore (lv' := [(4, .int v4), (7, .int r24), (6, .int 1), (0, .ref (a 0)), (1, .int v1), (2, .int v2), (3, .int v3), (5, .int v5)]) hx hb dX4_hushOf_93 hl (by decide) rfl (fun ls hl => ?_)
                obtain ⟨x28, ex28⟩ : ∃ y : Int32, y = (v5 + 1) := ⟨_, rfl⟩
                have hw := stp_use hw ex28
                refine lv_iinc (v := x28) (lv' := [(5, .int x28), (4, .int v4), (7, .int r24), (6, .int 1), (0, .ref (a 0)), (1, .int v1), (2, .int v2), (3, .int v3)]) hx hb dX4_hushOf_95 hl (k := 7) rfl (by rw [ex28]; rfl) (by decide) rfl (fun ls hl => ?_)
                refine lv_goto (tgt := 6) hx hb dX4_hushOf_98 (by decide) ?_
                exact ih v4 x28 hw ls (lv_sub hl [4, 5, 6, 7, 1, 0] rfl)
              · have hw := ite_t hw c27
                refine lv_iload hx hb dX4_hushOf_86 (lv_at hl 7 rfl) ?_
                refine lv_goto (tgt := 93) hx hb dX4_hushOf_88 (by decide) ?_
                refine lv_istore (lv' := [(4, .int v5), (7, .int r24), (6, .int 1), (0, .ref (a 0)), (1, .int v1), (2, .int v2), (3, .int v3), (5, .int v5)]) hx hb dX4_hushOf_93 hl (by decide) rfl (fun ls hl => ?_)
                obtain ⟨x29, ex29⟩ : ∃ y : Int32, y = (v5 + 1) := ⟨_, rfl⟩
                have hw := stp_use hw ex29
                refine lv_iinc (v := x29) (lv' := [(5, .int x29), (4, .int v5), (7, .int r24), (6, .int 1), (0, .ref (a 0)), (1, .int v1), (2, .int v2), (3, .int v3)]) hx hb dX4_hushOf_95 hl (k := 7) rfl (by rw [ex29]; rfl) (by decide) rfl (fun ls hl => ?_)
                refine lv_goto (tgt := 6) hx hb dX4_hushOf_98 (by decide) ?_
                exact ih v5 x29 hw ls (lv_sub hl [4, 5, 6, 7, 1, 0] rfl)
  have hl := lv_entry ([.ref (a 0), .int p1, .int p2, .int p3]) (n := 8) (Nat.le_of_ble_eq_true rfl)
  rw [lg_entry_eq]
  generalize (lg_sl ([.ref (a 0), .int p1, .int p2, .int p3]) ++ List.replicate (8 - (lg_sl ([.ref (a 0), .int p1, .int p2, .int p3])).length) Slot.unset).toArray = ls at hl ⊢
  have hl : lv_has ls 8 [(0, .ref (a 0)), (1, .int p1), (2, .int p2), (3, .int p3)] := hl
  refine lv_iconst (v := (-1)) hx hb dX4_hushOf_0 (by decide) ?_
  refine lv_istore (lv' := [(4, .int (-1)), (0, .ref (a 0)), (1, .int p1), (2, .int p2), (3, .int p3)]) hx hb dX4_hushOf_1 hl (by decide) rfl (fun ls hl => ?_)
  refine lv_iconst (v := 0) hx hb dX4_hushOf_3 (by decide) ?_
  refine lv_istore (lv' := [(5, .int 0), (4, .int (-1)), (0, .ref (a 0)), (1, .int p1), (2, .int p2), (3, .int p3)]) hx hb dX4_hushOf_4 hl (by decide) rfl (fun ls hl => ?_)
  exact L6 p1 p2 p3 NF (-1) 0 hw ls (lv_sub hl [2, 3, 4, 5, 1, 0] rfl)
set_option maxHeartbeats 4000000 in
set_option maxRecDepth 100000 in
theorem c_X4_tellHush (l : Launch) (dC : Nat → ClassId) (dI : Nat → Nat → Nat) (a : Nat → Nat) (cA : ClassId) (X : MS) (p1 : Int32) (p2 : Int32) (p3 : Int32) (p4 : Int32) (out : Int32) (hw : f_X4_tellHush X p1 p2 p3 p4 = some out) : Met l yX4_tellHush (.code yX4_tellHush cX4_tellHush 6 (some .int) :: lw_g) ({ frames := 4, cells := 0, slots := 0, locals := 105 }) (PcM dC dI a cA X [.ref (a 0), .int p1, .int p2, .int p3, .int p4]) (vp_Si (fun r_ => r_ = out)) 0 0 (fun _ => False) := by
  unfold f_X4_tellHush at hw
  refine Met.ofW (cc := cX4_tellHush) (maxL := 6) (ret := (some .int)) (by decide) rfl ?_
  intro p e s m args below meth c s₁ B hml hv
  obtain ⟨rfl, hP, hK⟩ := hv
  have hx := B.exec
  have hb := B.bytes
  have hr := B.returns
  have hts0 := atoms_spec (ws := (.code yX4_tellHush cX4_tellHush 6 (some .int) :: lw_g)) B.pre
  have hts : ∀ w ∈ lw_g, w.before (([.ref (a 0), .int p1, .int p2, .int p3, .int p4] : List Value).toArray) s = true := fun w h => hts0 w (List.mem_cons_of_mem _ h)
  clear hts0
  have hown : s.vm.findClass RX4 = some m.cls := findClass_of_methodNamed B.named
  have hlocks := B.notSynchronized
  have hret : ∀ (pc : Nat) (ls : Array Slot) (v : Int32), v = out → decode cX4_tellHush pc = .ok (.ireturn, 1) → W p l e ({ frames := 4, cells := 0, slots := 0, locals := 105 }) s m (([.ref (a 0), .int p1, .int p2, .int p3, .int p4] : List Value).toArray) below meth c s.heap [] 0 0 (MQ below (vp_Si (fun r_ => r_ = out)) (([.ref (a 0), .int p1, .int p2, .int p3, .int p4] : List Value).toArray) s 0 0 (fun _ => False)) (F0 m pc ls [.int v]) := fun pc ls v hv hd => W.iret hx hb hr (fun t ht hW => ⟨v, rfl, hv, ht⟩) (fun q hq => absurd hq List.not_mem_nil) hd
  show W p l e ({ frames := 4, cells := 0, slots := 0, locals := 105 }) s m (([.ref (a 0), .int p1, .int p2, .int p3, .int p4] : List Value).toArray) below meth c s.heap [] 0 0 (MQ below (vp_Si (fun r_ => r_ = out)) (([.ref (a 0), .int p1, .int p2, .int p3, .int p4] : List Value).toArray) s 0 0 (fun _ => False)) (entryFrame m (([.ref (a 0), .int p1, .int p2, .int p3, .int p4] : List Value).toArray) 6)
  generalize MQ below (vp_Si (fun r_ => r_ = out)) (([.ref (a 0), .int p1, .int p2, .int p3, .int p4] : List Value).toArray) s 0 0 (fun _ => False) = Q at hret ⊢
  have hl := lv_entry ([.ref (a 0), .int p1, .int p2, .int p3, .int p4]) (n := 6) (Nat.le_of_ble_eq_true rfl)
  rw [lg_entry_eq]
  generalize (lg_sl ([.ref (a 0), .int p1, .int p2, .int p3, .int p4]) ++ List.replicate (6 - (lg_sl ([.ref (a 0), .int p1, .int p2, .int p3, .int p4])).length) Slot.unset).toArray = ls at hl ⊢
  have hl : lv_has ls 6 [(0, .ref (a 0)), (1, .int p1), (2, .int p2), (3, .int p3), (4, .int p4)] := hl
  refine lv_aload_n hx hb dX4_tellHush_0 rfl (lv_at hl 0 rfl) ?_
  refine lv_iload_n hx hb dX4_tellHush_1 rfl (lv_at hl 1 rfl) ?_
  refine lv_iload_n hx hb dX4_tellHush_2 rfl (lv_at hl 2 rfl) ?_
  refine lv_iload_n hx hb dX4_tellHush_3 rfl (lv_at hl 3 rfl) ?_
  obtain ⟨r1, er1, hw⟩ := Option.bind_eq_some_iff.mp hw
  refine vp_callSi (va_runV (As := [.int p1, .int p2, .int p3]) (rest := []) ⟨hx, hb, hml, hown, hts⟩ (c_X4_hushOf l dC dI a cA X p1 p2 p3 r1 er1) ⟨callB_of 3 hts gd_X4_hushOf rfl rfl rfl (hts _ wd_39) (hts _ wd_761) hd_X4_hushOf ⟨Nat.le_of_ble_eq_true rfl, Nat.le_of_ble_eq_true rfl⟩, hts _ wd_763, hts _ wd_26⟩ ⟨blM, va_recv hK hP (ci := 4) (q0 := 0) rfl rfl, fun U hU hW => ⟨rfl, by rw [hU]; exact hP, va_K.moved hW.alike hK⟩⟩ rfl rfl hl.1 rfl (lv_room (Nat.le_of_ble_eq_true rfl)) dX4_tellHush_4 ⟨Nat.zero_le _, Nat.zero_le _⟩).run (fun r_ e_ => ?_)
  subst r_
  refine lv_istore (lv' := [(5, .int r1), (0, .ref (a 0)), (1, .int p1), (2, .int p2), (3, .int p3), (4, .int p4)]) hx hb dX4_tellHush_7 hl (by decide) rfl (fun ls hl => ?_)
  refine lv_iload hx hb dX4_tellHush_9 (lv_at hl 0 rfl) ?_
  refine lv_iconst (v := (-1)) hx hb dX4_tellHush_11 (by decide) ?_
  refine lv_icmp_eq (tgt := 21) hx hb dX4_tellHush_12 (by decide) (fun c2 => ?_) (fun c2 => ?_)
  · have hw := ite_t hw c2
    refine lv_iload hx hb dX4_tellHush_21 (lv_at hl 0 rfl) ?_
    refine lv_goto (tgt := 31) hx hb dX4_tellHush_23 (by decide) ?_
    exact hret _ _ _ (Option.some.inj hw) dX4_tellHush_31
  · have hw := ite_f hw c2
    refine lv_iload hx hb dX4_tellHush_15 (lv_at hl 5 rfl) ?_
    refine lv_iconst (v := 1) hx hb dX4_tellHush_17 (by decide) ?_
    refine lv_icmp_ne (tgt := 26) hx hb dX4_tellHush_18 (by decide) (fun c3 => ?_) (fun c3 => ?_)
    · have hw := ite_f hw c3
      refine lv_iload hx hb dX4_tellHush_26 (lv_at hl 0 rfl) ?_
      obtain ⟨r4, er4, hw⟩ := Option.bind_eq_some_iff.mp hw
      refine vp_callSi (va_runS (As := [.int r1]) (rest := []) ⟨hx, hb, hml, hown, hts⟩ (c_X4_ones l r1 r4 er4) ⟨callB_of 1 hts gd_X4_ones rfl rfl rfl (hts _ wd_39) (hts _ wd_696) hd_X4_ones ⟨Nat.le_of_ble_eq_true rfl, Nat.le_of_ble_eq_true rfl⟩, hts _ wd_697⟩ ⟨bl0, fun U hU hW => ⟨rfl, trivial⟩⟩ rfl rfl hl.1 rfl (lv_room (Nat.le_of_ble_eq_true rfl)) dX4_tellHush_28 ⟨Nat.zero_le _, Nat.zero_le _⟩).run (fun r_ e_ => ?_)
      subst r_
      exact hret _ _ _ (Option.some.inj hw) dX4_tellHush_31
    · have hw := ite_t hw c3
      refine lv_iload hx hb dX4_tellHush_21 (lv_at hl 0 rfl) ?_
      refine lv_goto (tgt := 31) hx hb dX4_tellHush_23 (by decide) ?_
      exact hret _ _ _ (Option.some.inj hw) dX4_tellHush_31
set_option maxHeartbeats 4000000 in
set_option maxRecDepth 100000 in
theorem c_X4_hush (l : Launch) (dC : Nat → ClassId) (dI : Nat → Nat → Nat) (a : Nat → Nat) (cA : ClassId) (X : MS) (p1 : Int32) (p2 : Int32) (p3 : Int32) (p4 : Int32) (out : Int32) (hw : f_X4_hush X p1 p2 p3 p4 = some out) : Met l yX4_hush (.code yX4_hush cX4_hush 5 (some .int) :: lw_g) ({ frames := 5, cells := 0, slots := 0, locals := 130 }) (PcM dC dI a cA X [.ref (a 0), .int p1, .int p2, .int p3, .int p4]) (vp_Si (fun r_ => r_ = out)) 0 0 (fun _ => False) := by
  unfold f_X4_hush at hw
  refine Met.ofW (cc := cX4_hush) (maxL := 5) (ret := (some .int)) (by decide) rfl ?_
  intro p e s m args below meth c s₁ B hml hv
  obtain ⟨rfl, hP, hK⟩ := hv
  have hx := B.exec
  have hb := B.bytes
  have hr := B.returns
  have hts0 := atoms_spec (ws := (.code yX4_hush cX4_hush 5 (some .int) :: lw_g)) B.pre
  have hts : ∀ w ∈ lw_g, w.before (([.ref (a 0), .int p1, .int p2, .int p3, .int p4] : List Value).toArray) s = true := fun w h => hts0 w (List.mem_cons_of_mem _ h)
  clear hts0
  have hown : s.vm.findClass RX4 = some m.cls := findClass_of_methodNamed B.named
  have hlocks := B.notSynchronized
  have hret : ∀ (pc : Nat) (ls : Array Slot) (v : Int32), v = out → decode cX4_hush pc = .ok (.ireturn, 1) → W p l e ({ frames := 5, cells := 0, slots := 0, locals := 130 }) s m (([.ref (a 0), .int p1, .int p2, .int p3, .int p4] : List Value).toArray) below meth c s.heap [] 0 0 (MQ below (vp_Si (fun r_ => r_ = out)) (([.ref (a 0), .int p1, .int p2, .int p3, .int p4] : List Value).toArray) s 0 0 (fun _ => False)) (F0 m pc ls [.int v]) := fun pc ls v hv hd => W.iret hx hb hr (fun t ht hW => ⟨v, rfl, hv, ht⟩) (fun q hq => absurd hq List.not_mem_nil) hd
  show W p l e ({ frames := 5, cells := 0, slots := 0, locals := 130 }) s m (([.ref (a 0), .int p1, .int p2, .int p3, .int p4] : List Value).toArray) below meth c s.heap [] 0 0 (MQ below (vp_Si (fun r_ => r_ = out)) (([.ref (a 0), .int p1, .int p2, .int p3, .int p4] : List Value).toArray) s 0 0 (fun _ => False)) (entryFrame m (([.ref (a 0), .int p1, .int p2, .int p3, .int p4] : List Value).toArray) 5)
  generalize MQ below (vp_Si (fun r_ => r_ = out)) (([.ref (a 0), .int p1, .int p2, .int p3, .int p4] : List Value).toArray) s 0 0 (fun _ => False) = Q at hret ⊢
  have hl := lv_entry ([.ref (a 0), .int p1, .int p2, .int p3, .int p4]) (n := 5) (Nat.le_of_ble_eq_true rfl)
  rw [lg_entry_eq]
  generalize (lg_sl ([.ref (a 0), .int p1, .int p2, .int p3, .int p4]) ++ List.replicate (5 - (lg_sl ([.ref (a 0), .int p1, .int p2, .int p3, .int p4])).length) Slot.unset).toArray = ls at hl ⊢
  have hl : lv_has ls 5 [(0, .ref (a 0)), (1, .int p1), (2, .int p2), (3, .int p3), (4, .int p4)] := hl
  refine lv_aload_n hx hb dX4_hush_0 rfl (lv_at hl 0 rfl) ?_
  refine lv_iload_n hx hb dX4_hush_1 rfl (lv_at hl 1 rfl) ?_
  obtain ⟨r1, er1, hw⟩ := Option.bind_eq_some_iff.mp hw
  refine vp_callSi (va_runV (As := [.int p1]) (rest := []) ⟨hx, hb, hml, hown, hts⟩ (c_X4_isListener l dC dI a cA X p1 r1 er1) ⟨callB_of 1 hts gd_X4_isListener rfl rfl rfl (hts _ wd_39) (hts _ wd_664) hd_X4_isListener ⟨Nat.le_of_ble_eq_true rfl, Nat.le_of_ble_eq_true rfl⟩, hts _ wd_666, hts _ wd_13⟩ ⟨blM, va_recv hK hP (ci := 4) (q0 := 0) rfl rfl, fun U hU hW => ⟨rfl, by rw [hU]; exact hP, va_K.moved hW.alike hK⟩⟩ rfl rfl hl.1 rfl (lv_room (Nat.le_of_ble_eq_true rfl)) dX4_hush_2 ⟨Nat.zero_le _, Nat.zero_le _⟩).run (fun r_ e_ => ?_)
  subst r_
  refine lv_if_eq (tgt := 16) hx hb dX4_hush_5 (by decide) (fun c2 => ?_) (fun c2 => ?_)
  · have hw := ite_t hw c2
    refine lv_bipush (v := (-101)) hx hb dX4_hush_16 (by decide) ?_
    exact hret _ _ _ (Option.some.inj hw) dX4_hush_18
  · have hw := ite_f hw c2
    refine lv_aload_n hx hb dX4_hush_8 rfl (lv_at hl 0 rfl) ?_
    refine lv_iload_n hx hb dX4_hush_9 rfl (lv_at hl 2 rfl) ?_
    obtain ⟨r3, er3, hw⟩ := Option.bind_eq_some_iff.mp hw
    refine vp_callSi (va_runV (As := [.int p2]) (rest := []) ⟨hx, hb, hml, hown, hts⟩ (c_X4_isPlace l dC dI a cA X p2 r3 er3) ⟨callB_of 1 hts gd_X4_isPlace rfl rfl rfl (hts _ wd_39) (hts _ wd_643) hd_X4_isPlace ⟨Nat.le_of_ble_eq_true rfl, Nat.le_of_ble_eq_true rfl⟩, hts _ wd_645, hts _ wd_11⟩ ⟨blM, va_recv hK hP (ci := 4) (q0 := 0) rfl rfl, fun U hU hW => ⟨rfl, by rw [hU]; exact hP, va_K.moved hW.alike hK⟩⟩ rfl rfl hl.1 rfl (lv_room (Nat.le_of_ble_eq_true rfl)) dX4_hush_10 ⟨Nat.zero_le _, Nat.zero_le _⟩).run (fun r_ e_ => ?_)
    subst r_
    refine lv_if_ne (tgt := 19) hx hb dX4_hush_13 (by decide) (fun c4 => ?_) (fun c4 => ?_)
    · have hw := ite_f hw c4
      refine lv_iload_n hx hb dX4_hush_19 rfl (lv_at hl 3 rfl) ?_
      refine lv_i2l hx hb dX4_hush_20 rfl ?_
      refine lv_lconst (v := 1) hx hb dX4_hush_21 (by decide) ?_
      refine lv_ldc2 hx hb hown (hts _ wd_633) dX4_hush_22 ?_
      obtain ⟨r5, er5, hw⟩ := Option.bind_eq_some_iff.mp hw
      refine vp_callSi (va_runS (As := [.long (Int32.toInt64 p3), .long 1, .long 9]) (rest := []) ⟨hx, hb, hml, hown, hts⟩ (c_X4_in l (Int32.toInt64 p3) 1 9 r5 er5) ⟨callB_of 3 hts gd_X4_in rfl rfl rfl (hts _ wd_39) (hts _ wd_615) hd_X4_in ⟨Nat.le_of_ble_eq_true rfl, Nat.le_of_ble_eq_true rfl⟩, hts _ wd_616⟩ ⟨bl0, fun U hU hW => ⟨rfl, trivial⟩⟩ rfl rfl hl.1 rfl (lv_room (Nat.le_of_ble_eq_true rfl)) dX4_hush_25 ⟨Nat.zero_le _, Nat.zero_le _⟩).run (fun r_ e_ => ?_)
      subst r_
      refine lv_if_eq (tgt := 54) hx hb dX4_hush_28 (by decide) (fun c6 => ?_) (fun c6 => ?_)
      · have hw := ite_t hw c6
        refine lv_bipush (v := (-102)) hx hb dX4_hush_54 (by decide) ?_
        exact hret _ _ _ (Option.some.inj hw) dX4_hush_56
      · have hw := ite_f hw c6
        refine lv_iload hx hb dX4_hush_31 (lv_at hl 4 rfl) ?_
        refine lv_i2l hx hb dX4_hush_33 rfl ?_
        refine lv_lconst (v := 0) hx hb dX4_hush_34 (by decide) ?_
        refine lv_lconst (v := 1) hx hb dX4_hush_35 (by decide) ?_
        obtain ⟨r7, er7, hw⟩ := Option.bind_eq_some_iff.mp hw
        refine vp_callSi (va_runS (As := [.long (Int32.toInt64 p4), .long 0, .long 1]) (rest := []) ⟨hx, hb, hml, hown, hts⟩ (c_X4_in l (Int32.toInt64 p4) 0 1 r7 er7) ⟨callB_of 3 hts gd_X4_in rfl rfl rfl (hts _ wd_39) (hts _ wd_615) hd_X4_in ⟨Nat.le_of_ble_eq_true rfl, Nat.le_of_ble_eq_true rfl⟩, hts _ wd_616⟩ ⟨bl0, fun U hU hW => ⟨rfl, trivial⟩⟩ rfl rfl hl.1 rfl (lv_room (Nat.le_of_ble_eq_true rfl)) dX4_hush_36 ⟨Nat.zero_le _, Nat.zero_le _⟩).run (fun r_ e_ => ?_)
        subst r_
        refine lv_if_eq (tgt := 54) hx hb dX4_hush_39 (by decide) (fun c8 => ?_) (fun c8 => ?_)
        · have hw := ite_t hw c8
          refine lv_bipush (v := (-102)) hx hb dX4_hush_54 (by decide) ?_
          exact hret _ _ _ (Option.some.inj hw) dX4_hush_56
        · have hw := ite_f hw c8
          refine lv_aload_n hx hb dX4_hush_42 rfl (lv_at hl 0 rfl) ?_
          refine lv_iload_n hx hb dX4_hush_43 rfl (lv_at hl 1 rfl) ?_
          refine lv_iload_n hx hb dX4_hush_44 rfl (lv_at hl 2 rfl) ?_
          refine lv_iload_n hx hb dX4_hush_45 rfl (lv_at hl 3 rfl) ?_
          refine lv_iload hx hb dX4_hush_46 (lv_at hl 4 rfl) ?_
          obtain ⟨r9, er9, hw⟩ := Option.bind_eq_some_iff.mp hw
          refine vp_callSi (va_runV (As := [.int p1, .int p2, .int p3, .int p4]) (rest := []) ⟨hx, hb, hml, hown, hts⟩ (c_X4_tellHush l dC dI a cA X p1 p2 p3 p4 r9 er9) ⟨callB_of 4 hts gd_X4_tellHush rfl rfl rfl (hts _ wd_39) (hts _ wd_757) hd_X4_tellHush ⟨Nat.le_of_ble_eq_true rfl, Nat.le_of_ble_eq_true rfl⟩, hts _ wd_759, hts _ wd_25⟩ ⟨blM, va_recv hK hP (ci := 4) (q0 := 0) rfl rfl, fun U hU hW => ⟨rfl, by rw [hU]; exact hP, va_K.moved hW.alike hK⟩⟩ rfl rfl hl.1 rfl (lv_room (Nat.le_of_ble_eq_true rfl)) dX4_hush_48 ⟨Nat.zero_le _, Nat.zero_le _⟩).run (fun r_ e_ => ?_)
          subst r_
          refine lv_goto (tgt := 56) hx hb dX4_hush_51 (by decide) ?_
          exact hret _ _ _ (Option.some.inj hw) dX4_hush_56
    · have hw := ite_t hw c4
      refine lv_bipush (v := (-101)) hx hb dX4_hush_16 (by decide) ?_
      exact hret _ _ _ (Option.some.inj hw) dX4_hush_18
set_option maxHeartbeats 4000000 in
set_option maxRecDepth 100000 in
theorem c_X2_note (l : Launch) (dC : Nat → ClassId) (dI : Nat → Nat → Nat) (A : Nat → Prop) (a : Nat → Nat) (cA : ClassId) (X : WS) (p1 : Int32) (p2 : Int32) (out : (Int32 × WS)) (hw : f_X2_note X p1 p2 = some out) : Met l yX2_note (.code yX2_note cX2_note 3 (some .int) :: lw_g) ({ frames := 0, cells := 0, slots := 0, locals := 0 }) (PcXD dC dI A a cA X [.ref (a 3), .int p1, .int p2]) (va_Qi (fun (r_ : Int32) (X_ : WS) => out = (r_, X_)) (fun X_ t => va_P (dC, dI) classes (wl a cA X_) t.heap ∧ va_K (dC, dI) classes [(cA, .int)] t) A) 0 0 (A) := by
  unfold f_X2_note at hw
  refine Met.ofW (cc := cX2_note) (maxL := 3) (ret := (some .int)) (by decide) rfl ?_
  intro p e s m args below meth c s₁ B hml hv
  obtain ⟨rfl, hP, hK, hN, hD0⟩ := hv
  have hx := B.exec
  have hb := B.bytes
  have hr := B.returns
  have hts0 := atoms_spec (ws := (.code yX2_note cX2_note 3 (some .int) :: lw_g)) B.pre
  have hts : ∀ w ∈ lw_g, w.before (([.ref (a 3), .int p1, .int p2] : List Value).toArray) s = true := fun w h => hts0 w (List.mem_cons_of_mem _ h)
  clear hts0
  have hown : s.vm.findClass RX2 = some m.cls := findClass_of_methodNamed B.named
  have hlocks := B.notSynchronized
  have hret : ∀ (pc : Nat) (ls : Array Slot) (v : Int32) (X_ : WS) (H : Heap) (locs : List Loc), (v, X_) = out → va_P (dC, dI) classes (wl a cA X_) H → va_S A s.heap H locs → decode cX2_note pc = .ok (.ireturn, 1) → W p l e ({ frames := 0, cells := 0, slots := 0, locals := 0 }) s m (([.ref (a 3), .int p1, .int p2] : List Value).toArray) below meth c H locs 0 0 (MQ below (va_Qi (fun (r_ : Int32) (X_ : WS) => out = (r_, X_)) (fun X_ t => va_P (dC, dI) classes (wl a cA X_) t.heap ∧ va_K (dC, dI) classes [(cA, .int)] t) A) (([.ref (a 3), .int p1, .int p2] : List Value).toArray) s 0 0 (A)) (F0 m pc ls [.int v]) := fun pc ls v X_ H locs hv hP hS hd => W.iret hx hb hr (fun t ht hW => ⟨⟨v, X_, rfl, hv.symm, by rw [ht]; exact hP, va_K.moved hW.alike hK⟩, hS.F ht⟩) hS.2.2 hd
  show W p l e ({ frames := 0, cells := 0, slots := 0, locals := 0 }) s m (([.ref (a 3), .int p1, .int p2] : List Value).toArray) below meth c s.heap [] 0 0 (MQ below (va_Qi (fun (r_ : Int32) (X_ : WS) => out = (r_, X_)) (fun X_ t => va_P (dC, dI) classes (wl a cA X_) t.heap ∧ va_K (dC, dI) classes [(cA, .int)] t) A) (([.ref (a 3), .int p1, .int p2] : List Value).toArray) s 0 0 (A)) (entryFrame m (([.ref (a 3), .int p1, .int p2] : List Value).toArray) 3)
  generalize MQ below (va_Qi (fun (r_ : Int32) (X_ : WS) => out = (r_, X_)) (fun X_ t => va_P (dC, dI) classes (wl a cA X_) t.heap ∧ va_K (dC, dI) classes [(cA, .int)] t) A) (([.ref (a 3), .int p1, .int p2] : List Value).toArray) s 0 0 (A) = Q at hret ⊢
  have hS : va_S A s.heap s.heap [] := va_S.rf
  have hl := lv_entry ([.ref (a 3), .int p1, .int p2]) (n := 3) (Nat.le_of_ble_eq_true rfl)
  rw [lg_entry_eq]
  generalize (lg_sl ([.ref (a 3), .int p1, .int p2]) ++ List.replicate (3 - (lg_sl ([.ref (a 3), .int p1, .int p2])).length) Slot.unset).toArray = ls at hl ⊢
  have hl : lv_has ls 3 [(0, .ref (a 3)), (1, .int p1), (2, .int p2)] := hl
  refine lv_iload_n hx hb dX2_note_0 rfl (lv_at hl 2 rfl) ?_
  refine lv_if_eq (tgt := 19) hx hb dX2_note_1 (by decide) (fun c1 => ?_) (fun c1 => ?_)
  · have hw := ite_t hw c1
    refine lv_aload_n hx hb dX2_note_19 rfl (lv_at hl 0 rfl) ?_
    refine lv_dup hx hb dX2_note_20 rfl ?_
    refine va_get (D := (dC, dI)) (ci := 2) (v := .int (X 3 16)) (C := RX2) (T := TX2) (N := 17) hx hb hts iX2 hown hK hP 3 rfl rfl 16 (by decide) (hts _ wd_104) (fun _ h9 => h9) rfl dX2_note_21 ?_
    refine lv_iconst (v := 1) hx hb dX2_note_24 (by decide) ?_
    refine lv_iload_n hx hb dX2_note_25 rfl (lv_at hl 1 rfl) ?_
    refine lv_ishl hx hb dX2_note_26 ?_
    refine lv_ior hx hb dX2_note_27 ?_
    refine lv_topi (fun x2 ex2 => ?_)
    have hw := stp_use hw ex2
    refine va_put (D := (dC, dI)) (ci := 2) (v := .int x2) (ty := .int) (C := RX2) (T := TX2) (N := 17) hx hb hts iX2 tyX2 tyX2_ok nmX2 hown hK hP (wlD hD0) hS 3 rfl rfl 16 (by decide) (hts _ wd_104) (fun _ h9 => h9) rfl (by decide +kernel) rfl rfl (Nat.le_of_ble_eq_true rfl) dX2_note_28 (fun H locs hP hD_ hS => ?_)
    obtain ⟨X3, eX3⟩ : ∃ y : WS, y = (ups X 3 16 x2) := ⟨_, rfl⟩
    have hw := stp_use hw eX3
    have hP : va_P (dC, dI) classes (wl a cA X3) H := by rw [eX3]; exact hP
    refine lv_aload_n hx hb dX2_note_31 rfl (lv_at hl 0 rfl) ?_
    refine lv_dup hx hb dX2_note_32 rfl ?_
    refine va_get (D := (dC, dI)) (ci := 2) (v := .int (X3 3 14)) (C := RX2) (T := TX2) (N := 17) hx hb hts iX2 hown hK hP 3 rfl rfl 14 (by decide) (hts _ wd_101) (fun _ h9 => h9) rfl dX2_note_33 ?_
    refine lv_iconst (v := 1) hx hb dX2_note_36 (by decide) ?_
    refine lv_iadd hx hb dX2_note_37 ?_
    refine lv_topi (fun x4 ex4 => ?_)
    have hw := stp_use hw ex4
    refine va_put (D := (dC, dI)) (ci := 2) (v := .int x4) (ty := .int) (C := RX2) (T := TX2) (N := 17) hx hb hts iX2 tyX2 tyX2_ok nmX2 hown hK hP (wlD hD0) hS 3 rfl rfl 14 (by decide) (hts _ wd_101) (fun _ h9 => h9) rfl (by decide +kernel) rfl rfl (Nat.le_of_ble_eq_true rfl) dX2_note_38 (fun H locs hP hD_ hS => ?_)
    obtain ⟨X5, eX5⟩ : ∃ y : WS, y = (ups X3 3 14 x4) := ⟨_, rfl⟩
    have hw := stp_use hw eX5
    have hP : va_P (dC, dI) classes (wl a cA X5) H := by rw [eX5]; exact hP
    refine lv_aload_n hx hb dX2_note_41 rfl (lv_at hl 0 rfl) ?_
    refine va_get (D := (dC, dI)) (ci := 2) (v := .int (X5 3 14)) (C := RX2) (T := TX2) (N := 17) hx hb hts iX2 hown hK hP 3 rfl rfl 14 (by decide) (hts _ wd_101) (fun _ h9 => h9) rfl dX2_note_42 ?_
    exact hret _ _ _ _ _ _ (Option.some.inj hw) hP hS dX2_note_45
  · have hw := ite_f hw c1
    refine lv_aload_n hx hb dX2_note_4 rfl (lv_at hl 0 rfl) ?_
    refine lv_dup hx hb dX2_note_5 rfl ?_
    refine va_get (D := (dC, dI)) (ci := 2) (v := .int (X 3 15)) (C := RX2) (T := TX2) (N := 17) hx hb hts iX2 hown hK hP 3 rfl rfl 15 (by decide) (hts _ wd_103) (fun _ h9 => h9) rfl dX2_note_6 ?_
    refine lv_iconst (v := 1) hx hb dX2_note_9 (by decide) ?_
    refine lv_iload_n hx hb dX2_note_10 rfl (lv_at hl 1 rfl) ?_
    refine lv_ishl hx hb dX2_note_11 ?_
    refine lv_ior hx hb dX2_note_12 ?_
    refine lv_topi (fun x6 ex6 => ?_)
    have hw := stp_use hw ex6
    refine va_put (D := (dC, dI)) (ci := 2) (v := .int x6) (ty := .int) (C := RX2) (T := TX2) (N := 17) hx hb hts iX2 tyX2 tyX2_ok nmX2 hown hK hP (wlD hD0) hS 3 rfl rfl 15 (by decide) (hts _ wd_103) (fun _ h9 => h9) rfl (by decide +kernel) rfl rfl (Nat.le_of_ble_eq_true rfl) dX2_note_13 (fun H locs hP hD_ hS => ?_)
    obtain ⟨X7, eX7⟩ : ∃ y : WS, y = (ups X 3 15 x6) := ⟨_, rfl⟩
    have hw := stp_use hw eX7
    have hP : va_P (dC, dI) classes (wl a cA X7) H := by rw [eX7]; exact hP
    refine lv_goto (tgt := 31) hx hb dX2_note_16 (by decide) ?_
    refine lv_aload_n hx hb dX2_note_31 rfl (lv_at hl 0 rfl) ?_
    refine lv_dup hx hb dX2_note_32 rfl ?_
    refine va_get (D := (dC, dI)) (ci := 2) (v := .int (X7 3 14)) (C := RX2) (T := TX2) (N := 17) hx hb hts iX2 hown hK hP 3 rfl rfl 14 (by decide) (hts _ wd_101) (fun _ h9 => h9) rfl dX2_note_33 ?_
    refine lv_iconst (v := 1) hx hb dX2_note_36 (by decide) ?_
    refine lv_iadd hx hb dX2_note_37 ?_
    refine lv_topi (fun x8 ex8 => ?_)
    have hw := stp_use hw ex8
    refine va_put (D := (dC, dI)) (ci := 2) (v := .int x8) (ty := .int) (C := RX2) (T := TX2) (N := 17) hx hb hts iX2 tyX2 tyX2_ok nmX2 hown hK hP (wlD hD0) hS 3 rfl rfl 14 (by decide) (hts _ wd_101) (fun _ h9 => h9) rfl (by decide +kernel) rfl rfl (Nat.le_of_ble_eq_true rfl) dX2_note_38 (fun H locs hP hD_ hS => ?_)
    obtain ⟨X9, eX9⟩ : ∃ y : WS, y = (ups X7 3 14 x8) := ⟨_, rfl⟩
    have hw := stp_use hw eX9
    have hP : va_P (dC, dI) classes (wl a cA X9) H := by rw [eX9]; exact hP
    refine lv_aload_n hx hb dX2_note_41 rfl (lv_at hl 0 rfl) ?_
    refine va_get (D := (dC, dI)) (ci := 2) (v := .int (X9 3 14)) (C := RX2) (T := TX2) (N := 17) hx hb hts iX2 hown hK hP 3 rfl rfl 14 (by decide) (hts _ wd_101) (fun _ h9 => h9) rfl dX2_note_42 ?_
    exact hret _ _ _ _ _ _ (Option.some.inj hw) hP hS dX2_note_45
set_option maxHeartbeats 4000000 in
set_option maxRecDepth 100000 in
theorem c_X3_tell (l : Launch) (dC : Nat → ClassId) (dI : Nat → Nat → Nat) (A : Nat → Prop) (a : Nat → Nat) (cA : ClassId) (X : WS) (p1 : Int32) (p2 : Int32) (out : (Int32 × WS)) (hw : f_X3_tell X p1 p2 = some out) : Met l yX3_tell (.code yX3_tell cX3_tell 3 (some .int) :: lw_g) ({ frames := 1, cells := 0, slots := 0, locals := 22 }) (PcXD dC dI A a cA X [.ref (a 0), .int p1, .int p2]) (va_Qi (fun (r_ : Int32) (X_ : WS) => out = (r_, X_)) (fun X_ t => va_P (dC, dI) classes (wl a cA X_) t.heap ∧ va_K (dC, dI) classes [(cA, .int)] t) A) 0 0 (A) := by
  unfold f_X3_tell at hw
  refine Met.ofW (cc := cX3_tell) (maxL := 3) (ret := (some .int)) (by decide) rfl ?_
  intro p e s m args below meth c s₁ B hml hv
  obtain ⟨rfl, hP, hK, hN, hD0⟩ := hv
  have hx := B.exec
  have hb := B.bytes
  have hr := B.returns
  have hts0 := atoms_spec (ws := (.code yX3_tell cX3_tell 3 (some .int) :: lw_g)) B.pre
  have hts : ∀ w ∈ lw_g, w.before (([.ref (a 0), .int p1, .int p2] : List Value).toArray) s = true := fun w h => hts0 w (List.mem_cons_of_mem _ h)
  clear hts0
  have hown : s.vm.findClass RX3 = some m.cls := findClass_of_methodNamed B.named
  have hlocks := B.notSynchronized
  have hret : ∀ (pc : Nat) (ls : Array Slot) (v : Int32) (X_ : WS) (H : Heap) (locs : List Loc), (v, X_) = out → va_P (dC, dI) classes (wl a cA X_) H → va_S A s.heap H locs → decode cX3_tell pc = .ok (.ireturn, 1) → W p l e ({ frames := 1, cells := 0, slots := 0, locals := 22 }) s m (([.ref (a 0), .int p1, .int p2] : List Value).toArray) below meth c H locs 0 0 (MQ below (va_Qi (fun (r_ : Int32) (X_ : WS) => out = (r_, X_)) (fun X_ t => va_P (dC, dI) classes (wl a cA X_) t.heap ∧ va_K (dC, dI) classes [(cA, .int)] t) A) (([.ref (a 0), .int p1, .int p2] : List Value).toArray) s 0 0 (A)) (F0 m pc ls [.int v]) := fun pc ls v X_ H locs hv hP hS hd => W.iret hx hb hr (fun t ht hW => ⟨⟨v, X_, rfl, hv.symm, by rw [ht]; exact hP, va_K.moved hW.alike hK⟩, hS.F ht⟩) hS.2.2 hd
  show W p l e ({ frames := 1, cells := 0, slots := 0, locals := 22 }) s m (([.ref (a 0), .int p1, .int p2] : List Value).toArray) below meth c s.heap [] 0 0 (MQ below (va_Qi (fun (r_ : Int32) (X_ : WS) => out = (r_, X_)) (fun X_ t => va_P (dC, dI) classes (wl a cA X_) t.heap ∧ va_K (dC, dI) classes [(cA, .int)] t) A) (([.ref (a 0), .int p1, .int p2] : List Value).toArray) s 0 0 (A)) (entryFrame m (([.ref (a 0), .int p1, .int p2] : List Value).toArray) 3)
  generalize MQ below (va_Qi (fun (r_ : Int32) (X_ : WS) => out = (r_, X_)) (fun X_ t => va_P (dC, dI) classes (wl a cA X_) t.heap ∧ va_K (dC, dI) classes [(cA, .int)] t) A) (([.ref (a 0), .int p1, .int p2] : List Value).toArray) s 0 0 (A) = Q at hret ⊢
  have hS : va_S A s.heap s.heap [] := va_S.rf
  have hl := lv_entry ([.ref (a 0), .int p1, .int p2]) (n := 3) (Nat.le_of_ble_eq_true rfl)
  rw [lg_entry_eq]
  generalize (lg_sl ([.ref (a 0), .int p1, .int p2]) ++ List.replicate (3 - (lg_sl ([.ref (a 0), .int p1, .int p2])).length) Slot.unset).toArray = ls at hl ⊢
  have hl : lv_has ls 3 [(0, .ref (a 0)), (1, .int p1), (2, .int p2)] := hl
  refine lv_aload_n hx hb dX3_tell_0 rfl (lv_at hl 0 rfl) ?_
  refine lv_iload_n hx hb dX3_tell_1 rfl (lv_at hl 1 rfl) ?_
  obtain ⟨r1, er1, hw⟩ := Option.bind_eq_some_iff.mp hw
  refine vp_callSi (va_runV (As := [.int p1]) (rest := []) ⟨hx, hb, hml, hown, hts⟩ (c_X3_isListener l dC dI a cA X p1 r1 er1) ⟨callB_of 1 hts gd_X3_isListener rfl rfl rfl (hts _ wd_35) (hts _ wd_286) hd_X3_isListener ⟨Nat.le_of_ble_eq_true rfl, Nat.le_of_ble_eq_true rfl⟩, hts _ wd_288, hts _ wd_2⟩ ⟨blX, va_recv hK hP (ci := 3) (q0 := 0) rfl rfl, fun U hU hW => ⟨rfl, by rw [hU]; exact hP, va_K.moved hW.alike hK, nst.warm hW hN⟩⟩ rfl rfl hl.1 rfl (lv_room (Nat.le_of_ble_eq_true rfl)) dX3_tell_2 ⟨Nat.zero_le _, Nat.zero_le _⟩).run (fun r_ e_ => ?_)
  subst r_
  refine lv_if_ne (tgt := 11) hx hb dX3_tell_5 (by decide) (fun c2 => ?_) (fun c2 => ?_)
  · have hw := ite_f hw c2
    refine lv_aload_n hx hb dX3_tell_11 rfl (lv_at hl 0 rfl) ?_
    refine va_get (D := (dC, dI)) (ci := 3) (v := .ref (a 3)) (C := RX3) (T := TX3) (N := 6) hx hb hts iX3 hown hK hP 0 rfl rfl 1 (by decide) (hts _ wd_179) (fun _ h9 => h9) rfl dX3_tell_12 ?_
    refine va_getN (D := (dC, dI)) (ci := 2) (v := .int (X 3 14)) (C := RX2) (T := TX2) (N := 17) hx hb hts iX2 hown hK hP 3 rfl rfl 14 (by decide) (va_Nw.use rfl (hN _ nk_102)) (fun _ h9 => h9) rfl dX3_tell_15 ?_
    refine lv_bipush (v := 8) hx hb dX3_tell_18 (by decide) ?_
    refine lv_icmp_lt (tgt := 28) hx hb dX3_tell_20 (by decide) (fun c3 => ?_) (fun c3 => ?_)
    · have hw := ite_t hw c3
      refine lv_aload_n hx hb dX3_tell_28 rfl (lv_at hl 0 rfl) ?_
      refine va_get (D := (dC, dI)) (ci := 3) (v := .ref (a 3)) (C := RX3) (T := TX3) (N := 6) hx hb hts iX3 hown hK hP 0 rfl rfl 1 (by decide) (hts _ wd_179) (fun _ h9 => h9) rfl dX3_tell_29 ?_
      refine lv_iload_n hx hb dX3_tell_32 rfl (lv_at hl 1 rfl) ?_
      refine lv_iload_n hx hb dX3_tell_33 rfl (lv_at hl 2 rfl) ?_
      obtain ⟨r4, X5, er4, hw⟩ := bnd2_use hw
      refine va_calli (va_runV (As := [.int p1, .int p2]) (rest := []) ⟨hx, hb, hml, hown, hts⟩ (c_X2_note l dC dI A a cA X p1 p2 (r4, X5) er4) ⟨callB_of 2 hts gd_X2_note rfl rfl rfl (hts _ wd_37) (hts _ wd_417) hd_X2_note ⟨Nat.le_of_ble_eq_true rfl, Nat.le_of_ble_eq_true rfl⟩, hts _ wd_418, hts _ wd_419⟩ ⟨blXD, va_recv hK hP (ci := 2) (q0 := 3) rfl rfl, fun U hU hW => ⟨rfl, by rw [hU]; exact hP, va_K.moved hW.alike hK, nst.warm hW hN, wlD hD0⟩⟩ rfl rfl hl.1 rfl (lv_room (Nat.le_of_ble_eq_true rfl)) dX3_tell_34 ⟨Nat.zero_le _, Nat.zero_le _⟩) hS (fun _ _ h => h) (fun _ h => h) (fun r_ u_ t_ H1 locs1 ht hvm hp_ hB hz1 hk1 hS1 => ?_)
      obtain ⟨q1_, q2_⟩ := Prod.mk.inj hp_
      subst q1_
      subst q2_
      obtain ⟨hP1, hK1⟩ := hB
      rw [ht] at hP1
      have hP := hP1
      have hS := hS1
      exact hret _ _ _ _ _ _ (Option.some.inj hw) hP hS dX3_tell_37
    · have hw := ite_f hw c3
      refine lv_bipush (v := (-104)) hx hb dX3_tell_23 (by decide) ?_
      refine lv_goto (tgt := 37) hx hb dX3_tell_25 (by decide) ?_
      exact hret _ _ _ _ _ _ (Option.some.inj hw) hP hS dX3_tell_37
  · have hw := ite_t hw c2
    refine lv_bipush (v := (-101)) hx hb dX3_tell_8 (by decide) ?_
    exact hret _ _ _ _ _ _ (Option.some.inj hw) hP hS dX3_tell_10
set_option maxHeartbeats 4000000 in
set_option maxRecDepth 100000 in
theorem c_X4_tell (l : Launch) (dC : Nat → ClassId) (dI : Nat → Nat → Nat) (A : Nat → Prop) (a : Nat → Nat) (cA : ClassId) (X : MS) (p1 : Int32) (p2 : Int32) (out : (Int32 × MS)) (hw : f_X4_tell X p1 p2 = some out) : Met l yX4_tell (.code yX4_tell cX4_tell 3 (some .int) :: lw_g) ({ frames := 2, cells := 0, slots := 0, locals := 46 }) (PcMD dC dI A a cA X [.ref (a 0), .int p1, .int p2]) (va_Qi (fun (r_ : Int32) (X_ : MS) => out = (r_, X_)) (fun X_ t => va_P (dC, dI) classes (wm a cA X_) t.heap ∧ va_K (dC, dI) classes [(cA, .int)] t) A) 0 0 (A) := by
  unfold f_X4_tell at hw
  refine Met.ofW (cc := cX4_tell) (maxL := 3) (ret := (some .int)) (by decide) rfl ?_
  intro p e s m args below meth c s₁ B hml hv
  obtain ⟨rfl, hP, hK, hD0⟩ := hv
  have hx := B.exec
  have hb := B.bytes
  have hr := B.returns
  have hts0 := atoms_spec (ws := (.code yX4_tell cX4_tell 3 (some .int) :: lw_g)) B.pre
  have hts : ∀ w ∈ lw_g, w.before (([.ref (a 0), .int p1, .int p2] : List Value).toArray) s = true := fun w h => hts0 w (List.mem_cons_of_mem _ h)
  clear hts0
  have hown : s.vm.findClass RX4 = some m.cls := findClass_of_methodNamed B.named
  have hlocks := B.notSynchronized
  have hret : ∀ (pc : Nat) (ls : Array Slot) (v : Int32) (X_ : MS) (H : Heap) (locs : List Loc), (v, X_) = out → va_P (dC, dI) classes (wm a cA X_) H → va_S A s.heap H locs → decode cX4_tell pc = .ok (.ireturn, 1) → W p l e ({ frames := 2, cells := 0, slots := 0, locals := 46 }) s m (([.ref (a 0), .int p1, .int p2] : List Value).toArray) below meth c H locs 0 0 (MQ below (va_Qi (fun (r_ : Int32) (X_ : MS) => out = (r_, X_)) (fun X_ t => va_P (dC, dI) classes (wm a cA X_) t.heap ∧ va_K (dC, dI) classes [(cA, .int)] t) A) (([.ref (a 0), .int p1, .int p2] : List Value).toArray) s 0 0 (A)) (F0 m pc ls [.int v]) := fun pc ls v X_ H locs hv hP hS hd => W.iret hx hb hr (fun t ht hW => ⟨⟨v, X_, rfl, hv.symm, by rw [ht]; exact hP, va_K.moved hW.alike hK⟩, hS.F ht⟩) hS.2.2 hd
  show W p l e ({ frames := 2, cells := 0, slots := 0, locals := 46 }) s m (([.ref (a 0), .int p1, .int p2] : List Value).toArray) below meth c s.heap [] 0 0 (MQ below (va_Qi (fun (r_ : Int32) (X_ : MS) => out = (r_, X_)) (fun X_ t => va_P (dC, dI) classes (wm a cA X_) t.heap ∧ va_K (dC, dI) classes [(cA, .int)] t) A) (([.ref (a 0), .int p1, .int p2] : List Value).toArray) s 0 0 (A)) (entryFrame m (([.ref (a 0), .int p1, .int p2] : List Value).toArray) 3)
  generalize MQ below (va_Qi (fun (r_ : Int32) (X_ : MS) => out = (r_, X_)) (fun X_ t => va_P (dC, dI) classes (wm a cA X_) t.heap ∧ va_K (dC, dI) classes [(cA, .int)] t) A) (([.ref (a 0), .int p1, .int p2] : List Value).toArray) s 0 0 (A) = Q at hret ⊢
  have hS : va_S A s.heap s.heap [] := va_S.rf
  have hl := lv_entry ([.ref (a 0), .int p1, .int p2]) (n := 3) (Nat.le_of_ble_eq_true rfl)
  rw [lg_entry_eq]
  generalize (lg_sl ([.ref (a 0), .int p1, .int p2]) ++ List.replicate (3 - (lg_sl ([.ref (a 0), .int p1, .int p2])).length) Slot.unset).toArray = ls at hl ⊢
  have hl : lv_has ls 3 [(0, .ref (a 0)), (1, .int p1), (2, .int p2)] := hl
  refine lv_aload_n hx hb dX4_tell_0 rfl (lv_at hl 0 rfl) ?_
  refine lv_iload_n hx hb dX4_tell_1 rfl (lv_at hl 1 rfl) ?_
  obtain ⟨r1, er1, hw⟩ := Option.bind_eq_some_iff.mp hw
  refine vp_callSi (va_runV (As := [.int p1]) (rest := []) ⟨hx, hb, hml, hown, hts⟩ (c_X4_isListener l dC dI a cA X p1 r1 er1) ⟨callB_of 1 hts gd_X4_isListener rfl rfl rfl (hts _ wd_39) (hts _ wd_664) hd_X4_isListener ⟨Nat.le_of_ble_eq_true rfl, Nat.le_of_ble_eq_true rfl⟩, hts _ wd_666, hts _ wd_13⟩ ⟨blM, va_recv hK hP (ci := 4) (q0 := 0) rfl rfl, fun U hU hW => ⟨rfl, by rw [hU]; exact hP, va_K.moved hW.alike hK⟩⟩ rfl rfl hl.1 rfl (lv_room (Nat.le_of_ble_eq_true rfl)) dX4_tell_2 ⟨Nat.zero_le _, Nat.zero_le _⟩).run (fun r_ e_ => ?_)
  subst r_
  refine lv_if_ne (tgt := 11) hx hb dX4_tell_5 (by decide) (fun c2 => ?_) (fun c2 => ?_)
  · have hw := ite_f hw c2
    refine lv_aload_n hx hb dX4_tell_11 rfl (lv_at hl 0 rfl) ?_
    refine va_get (D := (dC, dI)) (ci := 4) (v := .int (X.1 0 14)) (C := RX4) (T := TX4) (N := 29) hx hb hts iX4 hown hK hP 0 rfl rfl 14 (by decide) (hts _ wd_536) (fun _ h9 => h9) rfl dX4_tell_12 ?_
    refine lv_bipush (v := 8) hx hb dX4_tell_15 (by decide) ?_
    refine lv_icmp_ne (tgt := 23) hx hb dX4_tell_17 (by decide) (fun c3 => ?_) (fun c3 => ?_)
    · have hw := ite_f hw c3
      refine lv_aload_n hx hb dX4_tell_23 rfl (lv_at hl 0 rfl) ?_
      refine va_get (D := (dC, dI)) (ci := 4) (v := .ref (a 5)) (C := RX4) (T := TX4) (N := 29) hx hb hts iX4 hown hK hP 0 rfl rfl 15 (by decide) (hts _ wd_537) (fun _ h9 => h9) rfl dX4_tell_24 ?_
      refine lv_iconst (v := 2) hx hb dX4_tell_27 (by decide) ?_
      refine lv_aload_n hx hb dX4_tell_28 rfl (lv_at hl 0 rfl) ?_
      refine va_get (D := (dC, dI)) (ci := 4) (v := .int (X.1 0 14)) (C := RX4) (T := TX4) (N := 29) hx hb hts iX4 hown hK hP 0 rfl rfl 14 (by decide) (hts _ wd_536) (fun _ h9 => h9) rfl dX4_tell_29 ?_
      refine lv_imul hx hb dX4_tell_32 ?_
      refine lv_iload_n hx hb dX4_tell_33 rfl (lv_at hl 1 rfl) ?_
      obtain ⟨h4, hw⟩ := ixc_use hw
      refine va_iast hx hb hK hP (wmD hD0) hS 5 0 rfl rfl h4 dX4_tell_34 (fun H locs hP hD_ hS => ?_)
      obtain ⟨X5, eX5⟩ : ∃ y : MS, y = (ups X.1 5 (Int32.toNatClampNeg (2 * (X.1 0 14))) p1, X.2) := ⟨_, rfl⟩
      have hw := stp_use hw eX5
      have hP : va_P (dC, dI) classes (wm a cA X5) H := by rw [eX5]; exact hP
      refine lv_aload_n hx hb dX4_tell_35 rfl (lv_at hl 0 rfl) ?_
      refine va_get (D := (dC, dI)) (ci := 4) (v := .ref (a 5)) (C := RX4) (T := TX4) (N := 29) hx hb hts iX4 hown hK hP 0 rfl rfl 15 (by decide) (hts _ wd_537) (fun _ h9 => h9) rfl dX4_tell_36 ?_
      refine lv_iconst (v := 2) hx hb dX4_tell_39 (by decide) ?_
      refine lv_aload_n hx hb dX4_tell_40 rfl (lv_at hl 0 rfl) ?_
      refine va_get (D := (dC, dI)) (ci := 4) (v := .int (X5.1 0 14)) (C := RX4) (T := TX4) (N := 29) hx hb hts iX4 hown hK hP 0 rfl rfl 14 (by decide) (hts _ wd_536) (fun _ h9 => h9) rfl dX4_tell_41 ?_
      refine lv_imul hx hb dX4_tell_44 ?_
      refine lv_iconst (v := 1) hx hb dX4_tell_45 (by decide) ?_
      refine lv_iadd hx hb dX4_tell_46 ?_
      refine lv_iload_n hx hb dX4_tell_47 rfl (lv_at hl 2 rfl) ?_
      refine lv_if_eq (tgt := 55) hx hb dX4_tell_48 (by decide) (fun c6 => ?_) (fun c6 => ?_)
      · have hw := ite_t hw c6
        refine lv_iconst (v := 0) hx hb dX4_tell_55 (by decide) ?_
        obtain ⟨h7, hw⟩ := ixc_use hw
        refine va_iast hx hb hK hP (wmD hD0) hS 5 0 rfl rfl h7 dX4_tell_56 (fun H locs hP hD_ hS => ?_)
        obtain ⟨X8, eX8⟩ : ∃ y : MS, y = (ups X5.1 5 (Int32.toNatClampNeg ((2 * (X5.1 0 14)) + 1)) 0, X5.2) := ⟨_, rfl⟩
        have hw := stp_use hw eX8
        have hP : va_P (dC, dI) classes (wm a cA X8) H := by rw [eX8]; exact hP
        refine lv_aload_n hx hb dX4_tell_57 rfl (lv_at hl 0 rfl) ?_
        refine lv_dup hx hb dX4_tell_58 rfl ?_
        refine va_get (D := (dC, dI)) (ci := 4) (v := .int (X8.1 0 14)) (C := RX4) (T := TX4) (N := 29) hx hb hts iX4 hown hK hP 0 rfl rfl 14 (by decide) (hts _ wd_536) (fun _ h9 => h9) rfl dX4_tell_59 ?_
        refine lv_iconst (v := 1) hx hb dX4_tell_62 (by decide) ?_
        refine lv_iadd hx hb dX4_tell_63 ?_
        refine lv_topi (fun x9 ex9 => ?_)
        have hw := stp_use hw ex9
        refine va_put (D := (dC, dI)) (ci := 4) (v := .int x9) (ty := .int) (C := RX4) (T := TX4) (N := 29) hx hb hts iX4 tyX4 tyX4_ok nmX4 hown hK hP (wmD hD0) hS 0 rfl rfl 14 (by decide) (hts _ wd_536) (fun _ h9 => h9) rfl (by decide +kernel) rfl rfl (Nat.le_of_ble_eq_true rfl) dX4_tell_64 (fun H locs hP hD_ hS => ?_)
        obtain ⟨X10, eX10⟩ : ∃ y : MS, y = (ups X8.1 0 14 x9, X8.2) := ⟨_, rfl⟩
        have hw := stp_use hw eX10
        have hP : va_P (dC, dI) classes (wm a cA X10) H := by rw [eX10]; exact hP
        refine lv_aload_n hx hb dX4_tell_67 rfl (lv_at hl 0 rfl) ?_
        refine va_get (D := (dC, dI)) (ci := 4) (v := .int (X10.1 0 14)) (C := RX4) (T := TX4) (N := 29) hx hb hts iX4 hown hK hP 0 rfl rfl 14 (by decide) (hts _ wd_536) (fun _ h9 => h9) rfl dX4_tell_68 ?_
        exact hret _ _ _ _ _ _ (Option.some.inj hw) hP hS dX4_tell_71
      · have hw := ite_f hw c6
        refine lv_iconst (v := 1) hx hb dX4_tell_51 (by decide) ?_
        refine lv_goto (tgt := 56) hx hb dX4_tell_52 (by decide) ?_
        obtain ⟨h11, hw⟩ := ixc_use hw
        refine va_iast hx hb hK hP (wmD hD0) hS 5 0 rfl rfl h11 dX4_tell_56 (fun H locs hP hD_ hS => ?_)
        obtain ⟨X12, eX12⟩ : ∃ y : MS, y = (ups X5.1 5 (Int32.toNatClampNeg ((2 * (X5.1 0 14)) + 1)) 1, X5.2) := ⟨_, rfl⟩
        have hw := stp_use hw eX12
        have hP : va_P (dC, dI) classes (wm a cA X12) H := by rw [eX12]; exact hP
        refine lv_aload_n hx hb dX4_tell_57 rfl (lv_at hl 0 rfl) ?_
        refine lv_dup hx hb dX4_tell_58 rfl ?_
        refine va_get (D := (dC, dI)) (ci := 4) (v := .int (X12.1 0 14)) (C := RX4) (T := TX4) (N := 29) hx hb hts iX4 hown hK hP 0 rfl rfl 14 (by decide) (hts _ wd_536) (fun _ h9 => h9) rfl dX4_tell_59 ?_
        refine lv_iconst (v := 1) hx hb dX4_tell_62 (by decide) ?_
        refine lv_iadd hx hb dX4_tell_63 ?_
        refine lv_topi (fun x13 ex13 => ?_)
        have hw := stp_use hw ex13
        refine va_put (D := (dC, dI)) (ci := 4) (v := .int x13) (ty := .int) (C := RX4) (T := TX4) (N := 29) hx hb hts iX4 tyX4 tyX4_ok nmX4 hown hK hP (wmD hD0) hS 0 rfl rfl 14 (by decide) (hts _ wd_536) (fun _ h9 => h9) rfl (by decide +kernel) rfl rfl (Nat.le_of_ble_eq_true rfl) dX4_tell_64 (fun H locs hP hD_ hS => ?_)
        obtain ⟨X14, eX14⟩ : ∃ y : MS, y = (ups X12.1 0 14 x13, X12.2) := ⟨_, rfl⟩
        have hw := stp_use hw eX14
        have hP : va_P (dC, dI) classes (wm a cA X14) H := by rw [eX14]; exact hP
        refine lv_aload_n hx hb dX4_tell_67 rfl (lv_at hl 0 rfl) ?_
        refine va_get (D := (dC, dI)) (ci := 4) (v := .int (X14.1 0 14)) (C := RX4) (T := TX4) (N := 29) hx hb hts iX4 hown hK hP 0 rfl rfl 14 (by decide) (hts _ wd_536) (fun _ h9 => h9) rfl dX4_tell_68 ?_
        exact hret _ _ _ _ _ _ (Option.some.inj hw) hP hS dX4_tell_71
    · have hw := ite_t hw c3
      refine lv_bipush (v := (-104)) hx hb dX4_tell_20 (by decide) ?_
      exact hret _ _ _ _ _ _ (Option.some.inj hw) hP hS dX4_tell_22
  · have hw := ite_t hw c2
    refine lv_bipush (v := (-101)) hx hb dX4_tell_8 (by decide) ?_
    exact hret _ _ _ _ _ _ (Option.some.inj hw) hP hS dX4_tell_10
set_option maxHeartbeats 4000000 in
set_option maxRecDepth 100000 in
theorem c_X3_forget (l : Launch) (dC : Nat → ClassId) (dI : Nat → Nat → Nat) (A : Nat → Prop) (a : Nat → Nat) (cA : ClassId) (X : WS) (out : (Int32 × WS)) (hw : f_X3_forget X = some out) : Met l yX3_forget (.code yX3_forget cX3_forget 1 (some .int) :: lw_g) ({ frames := 1, cells := 0, slots := 0, locals := 21 }) (PcXD dC dI A a cA X [.ref (a 0)]) (va_Qi (fun (r_ : Int32) (X_ : WS) => out = (r_, X_)) (fun X_ t => va_P (dC, dI) classes (wl a cA X_) t.heap ∧ va_K (dC, dI) classes [(cA, .int)] t) A) 0 0 (A) := by
  unfold f_X3_forget at hw
  refine Met.ofW (cc := cX3_forget) (maxL := 1) (ret := (some .int)) (by decide) rfl ?_
  intro p e s m args below meth c s₁ B hml hv
  obtain ⟨rfl, hP, hK, hN, hD0⟩ := hv
  have hx := B.exec
  have hb := B.bytes
  have hr := B.returns
  have hts0 := atoms_spec (ws := (.code yX3_forget cX3_forget 1 (some .int) :: lw_g)) B.pre
  have hts : ∀ w ∈ lw_g, w.before (([.ref (a 0)] : List Value).toArray) s = true := fun w h => hts0 w (List.mem_cons_of_mem _ h)
  clear hts0
  have hown : s.vm.findClass RX3 = some m.cls := findClass_of_methodNamed B.named
  have hlocks := B.notSynchronized
  have hret : ∀ (pc : Nat) (ls : Array Slot) (v : Int32) (X_ : WS) (H : Heap) (locs : List Loc), (v, X_) = out → va_P (dC, dI) classes (wl a cA X_) H → va_S A s.heap H locs → decode cX3_forget pc = .ok (.ireturn, 1) → W p l e ({ frames := 1, cells := 0, slots := 0, locals := 21 }) s m (([.ref (a 0)] : List Value).toArray) below meth c H locs 0 0 (MQ below (va_Qi (fun (r_ : Int32) (X_ : WS) => out = (r_, X_)) (fun X_ t => va_P (dC, dI) classes (wl a cA X_) t.heap ∧ va_K (dC, dI) classes [(cA, .int)] t) A) (([.ref (a 0)] : List Value).toArray) s 0 0 (A)) (F0 m pc ls [.int v]) := fun pc ls v X_ H locs hv hP hS hd => W.iret hx hb hr (fun t ht hW => ⟨⟨v, X_, rfl, hv.symm, by rw [ht]; exact hP, va_K.moved hW.alike hK⟩, hS.F ht⟩) hS.2.2 hd
  show W p l e ({ frames := 1, cells := 0, slots := 0, locals := 21 }) s m (([.ref (a 0)] : List Value).toArray) below meth c s.heap [] 0 0 (MQ below (va_Qi (fun (r_ : Int32) (X_ : WS) => out = (r_, X_)) (fun X_ t => va_P (dC, dI) classes (wl a cA X_) t.heap ∧ va_K (dC, dI) classes [(cA, .int)] t) A) (([.ref (a 0)] : List Value).toArray) s 0 0 (A)) (entryFrame m (([.ref (a 0)] : List Value).toArray) 1)
  generalize MQ below (va_Qi (fun (r_ : Int32) (X_ : WS) => out = (r_, X_)) (fun X_ t => va_P (dC, dI) classes (wl a cA X_) t.heap ∧ va_K (dC, dI) classes [(cA, .int)] t) A) (([.ref (a 0)] : List Value).toArray) s 0 0 (A) = Q at hret ⊢
  have hS : va_S A s.heap s.heap [] := va_S.rf
  have hl := lv_entry ([.ref (a 0)]) (n := 1) (Nat.le_of_ble_eq_true rfl)
  rw [lg_entry_eq]
  generalize (lg_sl ([.ref (a 0)]) ++ List.replicate (1 - (lg_sl ([.ref (a 0)])).length) Slot.unset).toArray = ls at hl ⊢
  have hl : lv_has ls 1 [(0, .ref (a 0))] := hl
  refine lv_aload_n hx hb dX3_forget_0 rfl (lv_at hl 0 rfl) ?_
  refine va_get (D := (dC, dI)) (ci := 3) (v := .ref (a 3)) (C := RX3) (T := TX3) (N := 6) hx hb hts iX3 hown hK hP 0 rfl rfl 1 (by decide) (hts _ wd_179) (fun _ h9 => h9) rfl dX3_forget_1 ?_
  obtain ⟨r1, X2, er1, hw⟩ := bnd2_use hw
  refine va_calli (va_runV (As := []) (rest := []) ⟨hx, hb, hml, hown, hts⟩ (c_X2_dropTold l dC dI A a cA X (r1, X2) er1) ⟨callB_of 0 hts gd_X2_dropTold rfl rfl rfl (hts _ wd_37) (hts _ wd_425) hd_X2_dropTold ⟨Nat.le_of_ble_eq_true rfl, Nat.le_of_ble_eq_true rfl⟩, hts _ wd_242, hts _ wd_243⟩ ⟨blXD, va_recv hK hP (ci := 2) (q0 := 3) rfl rfl, fun U hU hW => ⟨rfl, by rw [hU]; exact hP, va_K.moved hW.alike hK, nst.warm hW hN, wlD hD0⟩⟩ rfl rfl hl.1 rfl (lv_room (Nat.le_of_ble_eq_true rfl)) dX3_forget_4 ⟨Nat.zero_le _, Nat.zero_le _⟩) hS (fun _ _ h => h) (fun _ h => h) (fun r_ u_ t_ H1 locs1 ht hvm hp_ hB hz1 hk1 hS1 => ?_)
  obtain ⟨q1_, q2_⟩ := Prod.mk.inj hp_
  subst q1_
  subst q2_
  obtain ⟨hP1, hK1⟩ := hB
  rw [ht] at hP1
  have hP := hP1
  have hS := hS1
  exact hret _ _ _ _ _ _ (Option.some.inj hw) hP hS dX3_forget_7
set_option maxHeartbeats 4000000 in
set_option maxRecDepth 100000 in
theorem c_X4_forget (l : Launch) (dC : Nat → ClassId) (dI : Nat → Nat → Nat) (A : Nat → Prop) (a : Nat → Nat) (cA : ClassId) (X : MS) (out : (Int32 × MS)) (hw : f_X4_forget X = some out) : Met l yX4_forget (.code yX4_forget cX4_forget 2 (some .int) :: lw_g) ({ frames := 0, cells := 0, slots := 0, locals := 0 }) (PcMD dC dI A a cA X [.ref (a 0)]) (va_Qi (fun (r_ : Int32) (X_ : MS) => out = (r_, X_)) (fun X_ t => va_P (dC, dI) classes (wm a cA X_) t.heap ∧ va_K (dC, dI) classes [(cA, .int)] t) A) 0 0 (A) := by
  unfold f_X4_forget at hw
  refine Met.ofW (cc := cX4_forget) (maxL := 2) (ret := (some .int)) (by decide) rfl ?_
  intro p e s m args below meth c s₁ B hml hv
  obtain ⟨rfl, hP, hK, hD0⟩ := hv
  have hx := B.exec
  have hb := B.bytes
  have hr := B.returns
  have hts0 := atoms_spec (ws := (.code yX4_forget cX4_forget 2 (some .int) :: lw_g)) B.pre
  have hts : ∀ w ∈ lw_g, w.before (([.ref (a 0)] : List Value).toArray) s = true := fun w h => hts0 w (List.mem_cons_of_mem _ h)
  clear hts0
  have hown : s.vm.findClass RX4 = some m.cls := findClass_of_methodNamed B.named
  have hlocks := B.notSynchronized
  have hret : ∀ (pc : Nat) (ls : Array Slot) (v : Int32) (X_ : MS) (H : Heap) (locs : List Loc), (v, X_) = out → va_P (dC, dI) classes (wm a cA X_) H → va_S A s.heap H locs → decode cX4_forget pc = .ok (.ireturn, 1) → W p l e ({ frames := 0, cells := 0, slots := 0, locals := 0 }) s m (([.ref (a 0)] : List Value).toArray) below meth c H locs 0 0 (MQ below (va_Qi (fun (r_ : Int32) (X_ : MS) => out = (r_, X_)) (fun X_ t => va_P (dC, dI) classes (wm a cA X_) t.heap ∧ va_K (dC, dI) classes [(cA, .int)] t) A) (([.ref (a 0)] : List Value).toArray) s 0 0 (A)) (F0 m pc ls [.int v]) := fun pc ls v X_ H locs hv hP hS hd => W.iret hx hb hr (fun t ht hW => ⟨⟨v, X_, rfl, hv.symm, by rw [ht]; exact hP, va_K.moved hW.alike hK⟩, hS.F ht⟩) hS.2.2 hd
  show W p l e ({ frames := 0, cells := 0, slots := 0, locals := 0 }) s m (([.ref (a 0)] : List Value).toArray) below meth c s.heap [] 0 0 (MQ below (va_Qi (fun (r_ : Int32) (X_ : MS) => out = (r_, X_)) (fun X_ t => va_P (dC, dI) classes (wm a cA X_) t.heap ∧ va_K (dC, dI) classes [(cA, .int)] t) A) (([.ref (a 0)] : List Value).toArray) s 0 0 (A)) (entryFrame m (([.ref (a 0)] : List Value).toArray) 2)
  generalize MQ below (va_Qi (fun (r_ : Int32) (X_ : MS) => out = (r_, X_)) (fun X_ t => va_P (dC, dI) classes (wm a cA X_) t.heap ∧ va_K (dC, dI) classes [(cA, .int)] t) A) (([.ref (a 0)] : List Value).toArray) s 0 0 (A) = Q at hret ⊢
  have hS : va_S A s.heap s.heap [] := va_S.rf
  have hl := lv_entry ([.ref (a 0)]) (n := 2) (Nat.le_of_ble_eq_true rfl)
  rw [lg_entry_eq]
  generalize (lg_sl ([.ref (a 0)]) ++ List.replicate (2 - (lg_sl ([.ref (a 0)])).length) Slot.unset).toArray = ls at hl ⊢
  have hl : lv_has ls 2 [(0, .ref (a 0))] := hl
  refine lv_aload_n hx hb dX4_forget_0 rfl (lv_at hl 0 rfl) ?_
  refine va_get (D := (dC, dI)) (ci := 4) (v := .int (X.1 0 14)) (C := RX4) (T := TX4) (N := 29) hx hb hts iX4 hown hK hP 0 rfl rfl 14 (by decide) (hts _ wd_536) (fun _ h9 => h9) rfl dX4_forget_1 ?_
  refine lv_topi (fun x1 ex1 => ?_)
  have hw := stp_use hw ex1
  refine lv_istore_n (lv' := [(1, .int x1), (0, .ref (a 0))]) hx hb dX4_forget_4 rfl hl (by decide) rfl (fun ls hl => ?_)
  refine lv_aload_n hx hb dX4_forget_5 rfl (lv_at hl 1 rfl) ?_
  refine lv_iconst (v := 0) hx hb dX4_forget_6 (by decide) ?_
  refine va_put (D := (dC, dI)) (ci := 4) (v := .int 0) (ty := .int) (C := RX4) (T := TX4) (N := 29) hx hb hts iX4 tyX4 tyX4_ok nmX4 hown hK hP (wmD hD0) hS 0 rfl rfl 14 (by decide) (hts _ wd_536) (fun _ h9 => h9) rfl (by decide +kernel) rfl rfl (Nat.le_of_ble_eq_true rfl) dX4_forget_7 (fun H locs hP hD_ hS => ?_)
  obtain ⟨X2, eX2⟩ : ∃ y : MS, y = (ups X.1 0 14 0, X.2) := ⟨_, rfl⟩
  have hw := stp_use hw eX2
  have hP : va_P (dC, dI) classes (wm a cA X2) H := by rw [eX2]; exact hP
  refine lv_iload_n hx hb dX4_forget_10 rfl (lv_at hl 0 rfl) ?_
  exact hret _ _ _ _ _ _ (Option.some.inj hw) hP hS dX4_forget_11
set_option maxHeartbeats 4000000 in
set_option maxRecDepth 100000 in
theorem c_X2_isAsTold (l : Launch) (dC : Nat → ClassId) (dI : Nat → Nat → Nat) (a : Nat → Nat) (cA : ClassId) (X : WS) (p1 : Int32) (out : Int32) (hw : f_X2_isAsTold X p1 = some out) : Met l yX2_isAsTold (.code yX2_isAsTold cX2_isAsTold 2 (some .boolean) :: lw_g) ({ frames := 0, cells := 0, slots := 0, locals := 0 }) (PcX dC dI a cA X [.ref (a 3), .int p1]) (vp_Si (fun r_ => r_ = out)) 0 0 (fun _ => False) := by
  unfold f_X2_isAsTold at hw
  refine Met.ofW (cc := cX2_isAsTold) (maxL := 2) (ret := (some .boolean)) (by decide) rfl ?_
  intro p e s m args below meth c s₁ B hml hv
  obtain ⟨rfl, hP, hK, hN⟩ := hv
  have hx := B.exec
  have hb := B.bytes
  have hr := B.returns
  have hts0 := atoms_spec (ws := (.code yX2_isAsTold cX2_isAsTold 2 (some .boolean) :: lw_g)) B.pre
  have hts : ∀ w ∈ lw_g, w.before (([.ref (a 3), .int p1] : List Value).toArray) s = true := fun w h => hts0 w (List.mem_cons_of_mem _ h)
  clear hts0
  have hown : s.vm.findClass RX2 = some m.cls := findClass_of_methodNamed B.named
  have hlocks := B.notSynchronized
  have hret : ∀ (pc : Nat) (ls : Array Slot) (v : Int32), v = out → (hz : narrow .boolean (.int v) = .int v) → decode cX2_isAsTold pc = .ok (.ireturn, 1) → W p l e ({ frames := 0, cells := 0, slots := 0, locals := 0 }) s m (([.ref (a 3), .int p1] : List Value).toArray) below meth c s.heap [] 0 0 (MQ below (vp_Si (fun r_ => r_ = out)) (([.ref (a 3), .int p1] : List Value).toArray) s 0 0 (fun _ => False)) (F0 m pc ls [.int v]) := fun pc ls v hv hz hd => W.zret hx hb hr hz (fun t ht hW => ⟨v, rfl, hv, ht⟩) (fun q hq => absurd hq List.not_mem_nil) hd
  show W p l e ({ frames := 0, cells := 0, slots := 0, locals := 0 }) s m (([.ref (a 3), .int p1] : List Value).toArray) below meth c s.heap [] 0 0 (MQ below (vp_Si (fun r_ => r_ = out)) (([.ref (a 3), .int p1] : List Value).toArray) s 0 0 (fun _ => False)) (entryFrame m (([.ref (a 3), .int p1] : List Value).toArray) 2)
  generalize MQ below (vp_Si (fun r_ => r_ = out)) (([.ref (a 3), .int p1] : List Value).toArray) s 0 0 (fun _ => False) = Q at hret ⊢
  have hl := lv_entry ([.ref (a 3), .int p1]) (n := 2) (Nat.le_of_ble_eq_true rfl)
  rw [lg_entry_eq]
  generalize (lg_sl ([.ref (a 3), .int p1]) ++ List.replicate (2 - (lg_sl ([.ref (a 3), .int p1])).length) Slot.unset).toArray = ls at hl ⊢
  have hl : lv_has ls 2 [(0, .ref (a 3)), (1, .int p1)] := hl
  refine lv_aload_n hx hb dX2_isAsTold_0 rfl (lv_at hl 0 rfl) ?_
  refine va_get (D := (dC, dI)) (ci := 2) (v := .int (X 3 15)) (C := RX2) (T := TX2) (N := 17) hx hb hts iX2 hown hK hP 3 rfl rfl 15 (by decide) (hts _ wd_103) (fun _ h9 => h9) rfl dX2_isAsTold_1 ?_
  refine lv_iload_n hx hb dX2_isAsTold_4 rfl (lv_at hl 1 rfl) ?_
  refine lv_iconst (v := (-1)) hx hb dX2_isAsTold_5 (by decide) ?_
  refine lv_ixor hx hb dX2_isAsTold_6 ?_
  refine lv_iand hx hb dX2_isAsTold_7 ?_
  refine lv_if_ne (tgt := 24) hx hb dX2_isAsTold_8 (by decide) (fun c1 => ?_) (fun c1 => ?_)
  · have hw := ite_f hw c1
    refine lv_iconst (v := 0) hx hb dX2_isAsTold_24 (by decide) ?_
    exact hret _ _ _ (Option.some.inj hw) rfl dX2_isAsTold_25
  · have hw := ite_t hw c1
    refine lv_aload_n hx hb dX2_isAsTold_11 rfl (lv_at hl 0 rfl) ?_
    refine va_get (D := (dC, dI)) (ci := 2) (v := .int (X 3 16)) (C := RX2) (T := TX2) (N := 17) hx hb hts iX2 hown hK hP 3 rfl rfl 16 (by decide) (hts _ wd_104) (fun _ h9 => h9) rfl dX2_isAsTold_12 ?_
    refine lv_iload_n hx hb dX2_isAsTold_15 rfl (lv_at hl 1 rfl) ?_
    refine lv_iand hx hb dX2_isAsTold_16 ?_
    refine lv_if_ne (tgt := 24) hx hb dX2_isAsTold_17 (by decide) (fun c2 => ?_) (fun c2 => ?_)
    · have hw := ite_f hw c2
      refine lv_iconst (v := 0) hx hb dX2_isAsTold_24 (by decide) ?_
      exact hret _ _ _ (Option.some.inj hw) rfl dX2_isAsTold_25
    · have hw := ite_t hw c2
      refine lv_iconst (v := 1) hx hb dX2_isAsTold_20 (by decide) ?_
      refine lv_goto (tgt := 25) hx hb dX2_isAsTold_21 (by decide) ?_
      exact hret _ _ _ (Option.some.inj hw) rfl dX2_isAsTold_25
set_option maxHeartbeats 4000000 in
set_option maxRecDepth 100000 in
theorem c_X0_tally (l : Launch) (dC : Nat → ClassId) (dI : Nat → Nat → Nat) (A : Nat → Prop) (a : Nat → Nat) (cA : ClassId) (X : WS) (p1 : Int32) (out : WS) (hw : f_X0_tally X p1 = some out) : Met l yX0_tally (.code yX0_tally cX0_tally 3 none :: lw_g) ({ frames := 0, cells := 0, slots := 0, locals := 0 }) (PcXD dC dI A a cA X [.ref (a 15), .int p1]) (va_Qv (fun X_ : WS => out = X_) (fun X_ t => va_P (dC, dI) classes (wl a cA X_) t.heap ∧ va_K (dC, dI) classes [(cA, .int)] t) A) 0 0 (A) := by
  unfold f_X0_tally at hw
  refine Met.ofW (cc := cX0_tally) (maxL := 3) (ret := none) (by decide) rfl ?_
  intro p e s m args below meth c s₁ B hml hv
  obtain ⟨rfl, hP, hK, hN, hD0⟩ := hv
  have hx := B.exec
  have hb := B.bytes
  have hr := B.returns
  have hts0 := atoms_spec (ws := (.code yX0_tally cX0_tally 3 none :: lw_g)) B.pre
  have hts : ∀ w ∈ lw_g, w.before (([.ref (a 15), .int p1] : List Value).toArray) s = true := fun w h => hts0 w (List.mem_cons_of_mem _ h)
  clear hts0
  have hown : s.vm.findClass RX0 = some m.cls := findClass_of_methodNamed B.named
  have hlocks := B.notSynchronized
  have hret : ∀ (pc : Nat) (ls : Array Slot) (X_ : WS) (H : Heap) (locs : List Loc), X_ = out → va_P (dC, dI) classes (wl a cA X_) H → va_S A s.heap H locs → decode cX0_tally pc = .ok (.return_, 1) → W p l e ({ frames := 0, cells := 0, slots := 0, locals := 0 }) s m (([.ref (a 15), .int p1] : List Value).toArray) below meth c H locs 0 0 (MQ below (va_Qv (fun X_ : WS => out = X_) (fun X_ t => va_P (dC, dI) classes (wl a cA X_) t.heap ∧ va_K (dC, dI) classes [(cA, .int)] t) A) (([.ref (a 15), .int p1] : List Value).toArray) s 0 0 (A)) (F0 m pc ls []) := fun pc ls X_ H locs hv hP hS hd => W.vret hx hb hr (fun t ht hW => ⟨⟨X_, rfl, hv.symm, by rw [ht]; exact hP, va_K.moved hW.alike hK⟩, hS.F ht⟩) hS.2.2 hd
  show W p l e ({ frames := 0, cells := 0, slots := 0, locals := 0 }) s m (([.ref (a 15), .int p1] : List Value).toArray) below meth c s.heap [] 0 0 (MQ below (va_Qv (fun X_ : WS => out = X_) (fun X_ t => va_P (dC, dI) classes (wl a cA X_) t.heap ∧ va_K (dC, dI) classes [(cA, .int)] t) A) (([.ref (a 15), .int p1] : List Value).toArray) s 0 0 (A)) (entryFrame m (([.ref (a 15), .int p1] : List Value).toArray) 3)
  generalize MQ below (va_Qv (fun X_ : WS => out = X_) (fun X_ t => va_P (dC, dI) classes (wl a cA X_) t.heap ∧ va_K (dC, dI) classes [(cA, .int)] t) A) (([.ref (a 15), .int p1] : List Value).toArray) s 0 0 (A) = Q at hret ⊢
  have hS : va_S A s.heap s.heap [] := va_S.rf
  have L2 : ∀ (v1 : Int32), ∀ n : Nat, ∀ (X : WS), ∀ (v2 : Int32), g_X0_tally_2 v1 n X v2 = some out → ∀ (H : Heap) (locs : List Loc), va_P (dC, dI) classes (wl a cA X) H → va_S A s.heap H locs → ∀ ls : Array Slot, lv_has ls 3 [(0, .ref (a 15)), (1, .int v1), (2, .int v2)] → W p l e ({ frames := 0, cells := 0, slots := 0, locals := 0 }) s m (([.ref (a 15), .int p1] : List Value).toArray) below meth c H locs 0 0 Q (F0 m 2 ls []) := by
    intro v1 n
    induction n with
    | zero =>
      intro X v2 hw
      rw [g_X0_tally_2] at hw
      cases hw
    | succ n ih =>
      intro X v2 hw H locs hP hS ls hl
      rw [g_X0_tally_2] at hw
      refine lv_iload_n hx hb dX0_tally_2 rfl (lv_at hl 2 rfl) ?_
      refine lv_bipush (v := 6) hx hb dX0_tally_3 (by decide) ?_
      refine lv_icmp_ge (tgt := 28) hx hb dX0_tally_5 (by decide) (fun c1 => ?_) (fun c1 => ?_)
      · have hw := ite_t hw c1
        exact hret _ _ _ _ _ (Option.some.inj hw) hP hS dX0_tally_28
      · have hw := ite_f hw c1
        refine lv_aload_n hx hb dX0_tally_8 rfl (lv_at hl 0 rfl) ?_
        refine va_get (D := (dC, dI)) (ci := 0) (v := .ref (a 16)) (C := RX0) (T := TX0) (N := 8) hx hb hts iX0 hown hK hP 15 rfl rfl 0 (by decide) (hts _ wd_146) (fun _ h9 => h9) rfl dX0_tally_9 ?_
        refine lv_iload_n hx hb dX0_tally_12 rfl (lv_at hl 2 rfl) ?_
        refine lv_dup2_11 hx hb dX0_tally_13 rfl rfl ?_
        obtain ⟨h2, hw⟩ := ixc_use hw
        refine va_iald hx hb hK hP 16 0 rfl rfl h2 dX0_tally_14 ?_
        refine lv_iload_n hx hb dX0_tally_15 rfl (lv_at hl 1 rfl) ?_
        refine lv_iload_n hx hb dX0_tally_16 rfl (lv_at hl 2 rfl) ?_
        refine lv_ishr hx hb dX0_tally_17 ?_
        refine lv_iconst (v := 1) hx hb dX0_tally_18 (by decide) ?_
        refine lv_iand hx hb dX0_tally_19 ?_
        refine lv_iadd hx hb dX0_tally_20 ?_
        refine lv_topi (fun x4 ex4 => ?_)
        have hw := stp_use hw ex4
        obtain ⟨h3, hw⟩ := ixc_use hw
        refine va_iast hx hb hK hP (wlD hD0) hS 16 0 rfl rfl h3 dX0_tally_21 (fun H locs hP hD_ hS => ?_)
        obtain ⟨X5, eX5⟩ : ∃ y : WS, y = (ups X 16 (Int32.toNatClampNeg v2) x4) := ⟨_, rfl⟩
        have hw := stp_use hw eX5
        have hP : va_P (dC, dI) classes (wl a cA X5) H := by rw [eX5]; exact hP
        obtain ⟨x6, ex6⟩ : ∃ y : Int32, y = (v2 + 1) := ⟨_, rfl⟩
        have hw := stp_use hw ex6
        refine lv_iinc (v := x6) (lv' := [(2, .int x6), (0, .ref (a 15)), (1, .int v1)]) hx hb dX0_tally_22 hl (k := 2) rfl (by rw [ex6]; rfl) (by decide) rfl (fun ls hl => ?_)
        refine lv_goto (tgt := 2) hx hb dX0_tally_25 (by decide) ?_
        exact ih X5 x6 hw _ _ hP hS ls (lv_sub hl [1, 2, 0] rfl)
  have hl := lv_entry ([.ref (a 15), .int p1]) (n := 3) (Nat.le_of_ble_eq_true rfl)
  rw [lg_entry_eq]
  generalize (lg_sl ([.ref (a 15), .int p1]) ++ List.replicate (3 - (lg_sl ([.ref (a 15), .int p1])).length) Slot.unset).toArray = ls at hl ⊢
  have hl : lv_has ls 3 [(0, .ref (a 15)), (1, .int p1)] := hl
  refine lv_iconst (v := 0) hx hb dX0_tally_0 (by decide) ?_
  refine lv_istore_n (lv' := [(2, .int 0), (0, .ref (a 15)), (1, .int p1)]) hx hb dX0_tally_1 rfl hl (by decide) rfl (fun ls hl => ?_)
  exact L2 p1 NF X 0 hw _ _ hP hS ls (lv_sub hl [1, 2, 0] rfl)
set_option maxHeartbeats 4000000 in
set_option maxRecDepth 100000 in
theorem c_X0_seek (l : Launch) (dC : Nat → ClassId) (dI : Nat → Nat → Nat) (A : Nat → Prop) (a : Nat → Nat) (cA : ClassId) (X : WS) (out : WS) (hw : f_X0_seek X = some out) : Met l yX0_seek (.code yX0_seek cX0_seek 5 none :: lw_g) ({ frames := 3, cells := 0, slots := 0, locals := 77 }) (PcXD dC dI A a cA X [.ref (a 15), .ref (a 3)]) (va_Qv (fun X_ : WS => out = X_) (fun X_ t => va_P (dC, dI) classes (wl a cA X_) t.heap ∧ va_K (dC, dI) classes [(cA, .int)] t) A) 0 0 (A) := by
  unfold f_X0_seek at hw
  refine Met.ofW (cc := cX0_seek) (maxL := 5) (ret := none) (by decide) rfl ?_
  intro p e s m args below meth c s₁ B hml hv
  obtain ⟨rfl, hP, hK, hN, hD0⟩ := hv
  have hx := B.exec
  have hb := B.bytes
  have hr := B.returns
  have hts0 := atoms_spec (ws := (.code yX0_seek cX0_seek 5 none :: lw_g)) B.pre
  have hts : ∀ w ∈ lw_g, w.before (([.ref (a 15), .ref (a 3)] : List Value).toArray) s = true := fun w h => hts0 w (List.mem_cons_of_mem _ h)
  clear hts0
  have hown : s.vm.findClass RX0 = some m.cls := findClass_of_methodNamed B.named
  have hlocks := B.notSynchronized
  have hret : ∀ (pc : Nat) (ls : Array Slot) (X_ : WS) (H : Heap) (locs : List Loc), X_ = out → va_P (dC, dI) classes (wl a cA X_) H → va_S A s.heap H locs → decode cX0_seek pc = .ok (.return_, 1) → W p l e ({ frames := 3, cells := 0, slots := 0, locals := 77 }) s m (([.ref (a 15), .ref (a 3)] : List Value).toArray) below meth c H locs 0 0 (MQ below (va_Qv (fun X_ : WS => out = X_) (fun X_ t => va_P (dC, dI) classes (wl a cA X_) t.heap ∧ va_K (dC, dI) classes [(cA, .int)] t) A) (([.ref (a 15), .ref (a 3)] : List Value).toArray) s 0 0 (A)) (F0 m pc ls []) := fun pc ls X_ H locs hv hP hS hd => W.vret hx hb hr (fun t ht hW => ⟨⟨X_, rfl, hv.symm, by rw [ht]; exact hP, va_K.moved hW.alike hK⟩, hS.F ht⟩) hS.2.2 hd
  show W p l e ({ frames := 3, cells := 0, slots := 0, locals := 77 }) s m (([.ref (a 15), .ref (a 3)] : List Value).toArray) below meth c s.heap [] 0 0 (MQ below (va_Qv (fun X_ : WS => out = X_) (fun X_ t => va_P (dC, dI) classes (wl a cA X_) t.heap ∧ va_K (dC, dI) classes [(cA, .int)] t) A) (([.ref (a 15), .ref (a 3)] : List Value).toArray) s 0 0 (A)) (entryFrame m (([.ref (a 15), .ref (a 3)] : List Value).toArray) 5)
  generalize MQ below (va_Qv (fun X_ : WS => out = X_) (fun X_ t => va_P (dC, dI) classes (wl a cA X_) t.heap ∧ va_K (dC, dI) classes [(cA, .int)] t) A) (([.ref (a 15), .ref (a 3)] : List Value).toArray) s 0 0 (A) = Q at hret ⊢
  have hS : va_S A s.heap s.heap [] := va_S.rf
  have L41 : ∀ (k33 : WS → Int32 → Option WS), (∀ (X : WS), ∀ (v2 : Int32), k33 X v2 = some out → ∀ (H : Heap) (locs : List Loc), va_P (dC, dI) classes (wl a cA X) H → va_S A s.heap H locs → ∀ ls : Array Slot, lv_has ls 5 [(0, .ref (a 15)), (1, .ref (a 3)), (2, .int v2)] → W p l e ({ frames := 3, cells := 0, slots := 0, locals := 77 }) s m (([.ref (a 15), .ref (a 3)] : List Value).toArray) below meth c H locs 0 0 Q (F0 m 33 ls [])) → ∀ n : Nat, ∀ (X : WS), ∀ (v2 : Int32), ∀ (v3 : Int32), g_X0_seek_41 k33 n X v2 v3 = some out → ∀ (H : Heap) (locs : List Loc), va_P (dC, dI) classes (wl a cA X) H → va_S A s.heap H locs → ∀ ls : Array Slot, lv_has ls 5 [(0, .ref (a 15)), (1, .ref (a 3)), (2, .int v2), (3, .int v3)] → W p l e ({ frames := 3, cells := 0, slots := 0, locals := 77 }) s m (([.ref (a 15), .ref (a 3)] : List Value).toArray) below meth c H locs 0 0 Q (F0 m 41 ls []) := by
    intro k33 hk33 n
    induction n with
    | zero =>
      intro X v2 v3 hw
      rw [g_X0_seek_41] at hw
      cases hw
    | succ n ih =>
      intro X v2 v3 hw H locs hP hS ls hl
      rw [g_X0_seek_41] at hw
      refine lv_iload_n hx hb dX0_seek_41 rfl (lv_at hl 3 rfl) ?_
      refine lv_bipush (v := 9) hx hb dX0_seek_42 (by decide) ?_
      refine lv_icmp_gt (tgt := 116) hx hb dX0_seek_44 (by decide) (fun c5 => ?_) (fun c5 => ?_)
      · have hw := ite_t hw c5
        obtain ⟨x6, ex6⟩ : ∃ y : Int32, y = (v2 + 1) := ⟨_, rfl⟩
        have hw := stp_use hw ex6
        refine lv_iinc (v := x6) (lv' := [(2, .int x6), (0, .ref (a 15)), (1, .ref (a 3)), (3, .int v3)]) hx hb dX0_seek_116 hl (k := 2) rfl (by rw [ex6]; rfl) (by decide) rfl (fun ls hl => ?_)
        refine lv_goto (tgt := 33) hx hb dX0_seek_119 (by decide) ?_
        exact hk33 X x6 hw _ _ hP hS ls (lv_sub hl [1, 2, 0] rfl)
      · have hw := ite_f hw c5
        refine lv_aload_n hx hb dX0_seek_47 rfl (lv_at hl 1 rfl) ?_
        refine lv_aload_n hx hb dX0_seek_48 rfl (lv_at hl 1 rfl) ?_
        refine lv_iconst (v := 0) hx hb dX0_seek_49 (by decide) ?_
        refine lv_iload_n hx hb dX0_seek_50 rfl (lv_at hl 2 rfl) ?_
        refine lv_iload_n hx hb dX0_seek_51 rfl (lv_at hl 3 rfl) ?_
        refine lv_iconst (v := 0) hx hb dX0_seek_52 (by decide) ?_
        obtain ⟨r7, er7, hw⟩ := Option.bind_eq_some_iff.mp hw
        refine vp_callSi (va_runV (As := [.int 0, .int v2, .int v3, .int 0]) (rest := [.ref (a 3)]) ⟨hx, hb, hml, hown, hts⟩ (c_X2_spread l dC dI a cA X 0 v2 v3 0 r7 er7) ⟨callB_of 4 hts gd_X2_spread rfl rfl rfl (hts _ wd_37) (hts _ wd_378) hd_X2_spread ⟨Nat.le_of_ble_eq_true rfl, Nat.le_of_ble_eq_true rfl⟩, hts _ wd_320, hts _ wd_321⟩ ⟨blX, va_recv hK hP (ci := 2) (q0 := 3) rfl rfl, fun U hU hW => ⟨rfl, by rw [hU]; exact hP, va_K.moved hW.alike hK, nst.warm hW hN⟩⟩ rfl rfl hl.1 rfl (lv_room (Nat.le_of_ble_eq_true rfl)) dX0_seek_53 ⟨Nat.zero_le _, Nat.zero_le _⟩).run (fun r_ e_ => ?_)
        subst r_
        obtain ⟨r8, er8, hw⟩ := Option.bind_eq_some_iff.mp hw
        refine vp_callSi (va_runV (As := [.int r7]) (rest := []) ⟨hx, hb, hml, hown, hts⟩ (c_X2_knowing l dC dI a cA X r7 r8 er8) ⟨callB_of 1 hts gd_X2_knowing rfl rfl rfl (hts _ wd_37) (hts _ wd_379) hd_X2_knowing ⟨Nat.le_of_ble_eq_true rfl, Nat.le_of_ble_eq_true rfl⟩, hts _ wd_291, hts _ wd_292⟩ ⟨blX, va_recv hK hP (ci := 2) (q0 := 3) rfl rfl, fun U hU hW => ⟨rfl, by rw [hU]; exact hP, va_K.moved hW.alike hK, nst.warm hW hN⟩⟩ rfl rfl hl.1 rfl (lv_room (Nat.le_of_ble_eq_true rfl)) dX0_seek_56 ⟨Nat.zero_le _, Nat.zero_le _⟩).run (fun r_ e_ => ?_)
        subst r_
        refine lv_istore (lv' := [(4, .int r8), (0, .ref (a 15)), (1, .ref (a 3)), (2, .int v2), (3, .int v3)]) hx hb dX0_seek_59 hl (by decide) rfl (fun ls hl => ?_)
        refine lv_aload_n hx hb dX0_seek_61 rfl (lv_at hl 2 rfl) ?_
        refine lv_iload hx hb dX0_seek_62 (lv_at hl 0 rfl) ?_
        obtain ⟨r9, er9, hw⟩ := Option.bind_eq_some_iff.mp hw
        refine vp_callSi (va_runV (As := [.int r8]) (rest := []) ⟨hx, hb, hml, hown, hts⟩ (c_X2_isAsTold l dC dI a cA X r8 r9 er9) ⟨callB_of 1 hts gd_X2_isAsTold rfl rfl rfl (hts _ wd_37) (hts _ wd_434) hd_X2_isAsTold ⟨Nat.le_of_ble_eq_true rfl, Nat.le_of_ble_eq_true rfl⟩, hts _ wd_435, hts _ wd_436⟩ ⟨blX, va_recv hK hP (ci := 2) (q0 := 3) rfl rfl, fun U hU hW => ⟨rfl, by rw [hU]; exact hP, va_K.moved hW.alike hK, nst.warm hW hN⟩⟩ rfl rfl hl.1 rfl (lv_room (Nat.le_of_ble_eq_true rfl)) dX0_seek_64 ⟨Nat.zero_le _, Nat.zero_le _⟩).run (fun r_ e_ => ?_)
        subst r_
        refine lv_if_eq (tgt := 110) hx hb dX0_seek_67 (by decide) (fun c10 => ?_) (fun c10 => ?_)
        · have hw := ite_t hw c10
          obtain ⟨x11, ex11⟩ : ∃ y : Int32, y = (v3 + 1) := ⟨_, rfl⟩
          have hw := stp_use hw ex11
          refine lv_iinc (v := x11) (lv' := [(3, .int x11), (4, .int r8), (0, .ref (a 15)), (1, .ref (a 3)), (2, .int v2)]) hx hb dX0_seek_110 hl (k := 4) rfl (by rw [ex11]; rfl) (by decide) rfl (fun ls hl => ?_)
          refine lv_goto (tgt := 41) hx hb dX0_seek_113 (by decide) ?_
          exact ih X v2 x11 hw _ _ hP hS ls (lv_sub hl [2, 3, 4, 0] rfl)
        · have hw := ite_f hw c10
          refine lv_aload_n hx hb dX0_seek_70 rfl (lv_at hl 1 rfl) ?_
          refine lv_aload_n hx hb dX0_seek_71 rfl (lv_at hl 1 rfl) ?_
          refine va_get (D := (dC, dI)) (ci := 0) (v := .int (X 15 3)) (C := RX0) (T := TX0) (N := 8) hx hb hts iX0 hown hK hP 15 rfl rfl 3 (by decide) (hts _ wd_151) (fun _ h9 => h9) rfl dX0_seek_72 ?_
          refine lv_if_ne (tgt := 87) hx hb dX0_seek_75 (by decide) (fun c12 => ?_) (fun c12 => ?_)
          · have hw := ite_f hw c12
            refine lv_aload_n hx hb dX0_seek_87 rfl (lv_at hl 1 rfl) ?_
            refine va_get (D := (dC, dI)) (ci := 0) (v := .int (X 15 4)) (C := RX0) (T := TX0) (N := 8) hx hb hts iX0 hown hK hP 15 rfl rfl 4 (by decide) (hts _ wd_153) (fun _ h9 => h9) rfl dX0_seek_88 ?_
            refine lv_topi (fun x13 ex13 => ?_)
            have hw := stp_use hw ex13
            refine va_put (D := (dC, dI)) (ci := 0) (v := .int x13) (ty := .int) (C := RX0) (T := TX0) (N := 8) hx hb hts iX0 tyX0 tyX0_ok nmX0 hown hK hP (wlD hD0) hS 15 rfl rfl 4 (by decide) (hts _ wd_153) (fun _ h9 => h9) rfl (by decide +kernel) rfl rfl (Nat.le_of_ble_eq_true rfl) dX0_seek_91 (fun H locs hP hD_ hS => ?_)
            obtain ⟨X14, eX14⟩ : ∃ y : WS, y = (ups X 15 4 x13) := ⟨_, rfl⟩
            have hw := stp_use hw eX14
            have hP : va_P (dC, dI) classes (wl a cA X14) H := by rw [eX14]; exact hP
            refine lv_aload_n hx hb dX0_seek_94 rfl (lv_at hl 1 rfl) ?_
            refine lv_dup hx hb dX0_seek_95 rfl ?_
            refine va_get (D := (dC, dI)) (ci := 0) (v := .int (X14 15 3)) (C := RX0) (T := TX0) (N := 8) hx hb hts iX0 hown hK hP 15 rfl rfl 3 (by decide) (hts _ wd_151) (fun _ h9 => h9) rfl dX0_seek_96 ?_
            refine lv_iconst (v := 1) hx hb dX0_seek_99 (by decide) ?_
            refine lv_iadd hx hb dX0_seek_100 ?_
            refine lv_topi (fun x15 ex15 => ?_)
            have hw := stp_use hw ex15
            refine va_put (D := (dC, dI)) (ci := 0) (v := .int x15) (ty := .int) (C := RX0) (T := TX0) (N := 8) hx hb hts iX0 tyX0 tyX0_ok nmX0 hown hK hP (wlD hD0) hS 15 rfl rfl 3 (by decide) (hts _ wd_151) (fun _ h9 => h9) rfl (by decide +kernel) rfl rfl (Nat.le_of_ble_eq_true rfl) dX0_seek_101 (fun H locs hP hD_ hS => ?_)
            obtain ⟨X16, eX16⟩ : ∃ y : WS, y = (ups X14 15 3 x15) := ⟨_, rfl⟩
            have hw := stp_use hw eX16
            have hP : va_P (dC, dI) classes (wl a cA X16) H := by rw [eX16]; exact hP
            refine lv_aload_n hx hb dX0_seek_104 rfl (lv_at hl 1 rfl) ?_
            refine lv_iload hx hb dX0_seek_105 (lv_at hl 0 rfl) ?_
            obtain ⟨X17, eX17, hw⟩ := Option.bind_eq_some_iff.mp hw
            refine va_callv (va_runV (As := [.int r8]) (rest := []) ⟨hx, hb, hml, hown, hts⟩ (c_X0_tally l dC dI A a cA X16 r8 X17 eX17) ⟨callB_of 1 hts gd_X0_tally rfl rfl rfl (hts _ wd_38) (hts _ wd_438) hd_X0_tally ⟨Nat.le_of_ble_eq_true rfl, Nat.le_of_ble_eq_true rfl⟩, hts _ wd_440, hts _ wd_5⟩ ⟨blXD, va_recv hK hP (ci := 0) (q0 := 15) rfl rfl, fun U hU hW => ⟨rfl, by rw [hU]; exact hP, va_K.moved hW.alike hK, nst.warm hW hN, wlD hD0⟩⟩ rfl rfl hl.1 rfl (lv_room (Nat.le_of_ble_eq_true rfl)) dX0_seek_107 ⟨Nat.zero_le _, Nat.zero_le _⟩) hS (fun _ _ h => h) (fun _ h => h) (fun u_ t_ H1 locs1 ht hvm hp_ hB hz1 hk1 hS1 => ?_)
            subst hp_
            obtain ⟨hP1, hK1⟩ := hB
            rw [ht] at hP1
            have hP := hP1
            have hS := hS1
            obtain ⟨x18, ex18⟩ : ∃ y : Int32, y = (v3 + 1) := ⟨_, rfl⟩
            have hw := stp_use hw ex18
            refine lv_iinc (v := x18) (lv' := [(3, .int x18), (4, .int r8), (0, .ref (a 15)), (1, .ref (a 3)), (2, .int v2)]) hx hb dX0_seek_110 hl (k := 4) rfl (by rw [ex18]; rfl) (by decide) rfl (fun ls hl => ?_)
            refine lv_goto (tgt := 41) hx hb dX0_seek_113 (by decide) ?_
            exact ih X17 v2 x18 hw _ _ hP hS ls (lv_sub hl [2, 3, 4, 0] rfl)
          · have hw := ite_t hw c12
            refine lv_bipush (v := 10) hx hb dX0_seek_78 (by decide) ?_
            refine lv_iload_n hx hb dX0_seek_80 rfl (lv_at hl 3 rfl) ?_
            refine lv_imul hx hb dX0_seek_81 ?_
            refine lv_iload_n hx hb dX0_seek_82 rfl (lv_at hl 4 rfl) ?_
            refine lv_iadd hx hb dX0_seek_83 ?_
            refine lv_goto (tgt := 91) hx hb dX0_seek_84 (by decide) ?_
            refine lv_topi (fun x19 ex19 => ?_)
            have hw := stp_use hw ex19
            refine va_put (D := (dC, dI)) (ci := 0) (v := .int x19) (ty := .int) (C := RX0) (T := TX0) (N := 8) hx hb hts iX0 tyX0 tyX0_ok nmX0 hown hK hP (wlD hD0) hS 15 rfl rfl 4 (by decide) (hts _ wd_153) (fun _ h9 => h9) rfl (by decide +kernel) rfl rfl (Nat.le_of_ble_eq_true rfl) dX0_seek_91 (fun H locs hP hD_ hS => ?_)
            obtain ⟨X20, eX20⟩ : ∃ y : WS, y = (ups X 15 4 x19) := ⟨_, rfl⟩
            have hw := stp_use hw eX20
            have hP : va_P (dC, dI) classes (wl a cA X20) H := by rw [eX20]; exact hP
            refine lv_aload_n hx hb dX0_seek_94 rfl (lv_at hl 1 rfl) ?_
            refine lv_dup hx hb dX0_seek_95 rfl ?_
            refine va_get (D := (dC, dI)) (ci := 0) (v := .int (X20 15 3)) (C := RX0) (T := TX0) (N := 8) hx hb hts iX0 hown hK hP 15 rfl rfl 3 (by decide) (hts _ wd_151) (fun _ h9 => h9) rfl dX0_seek_96 ?_
            refine lv_iconst (v := 1) hx hb dX0_seek_99 (by decide) ?_
            refine lv_iadd hx hb dX0_seek_100 ?_
            refine lv_topi (fun x21 ex21 => ?_)
            have hw := stp_use hw ex21
            refine va_put (D := (dC, dI)) (ci := 0) (v := .int x21) (ty := .int) (C := RX0) (T := TX0) (N := 8) hx hb hts iX0 tyX0 tyX0_ok nmX0 hown hK hP (wlD hD0) hS 15 rfl rfl 3 (by decide) (hts _ wd_151) (fun _ h9 => h9) rfl (by decide +kernel) rfl rfl (Nat.le_of_ble_eq_true rfl) dX0_seek_101 (fun H locs hP hD_ hS => ?_)
            obtain ⟨X22, eX22⟩ : ∃ y : WS, y = (ups X20 15 3 x21) := ⟨_, rfl⟩
            have hw := stp_use hw eX22
            have hP : va_P (dC, dI) classes (wl a cA X22) H := by rw [eX22]; exact hP
            refine lv_aload_n hx hb dX0_seek_104 rfl (lv_at hl 1 rfl) ?_
            refine lv_iload hx hb dX0_seek_105 (lv_at hl 0 rfl) ?_
            obtain ⟨X23, eX23, hw⟩ := Option.bind_eq_some_iff.mp hw
            refine va_callv (va_runV (As := [.int r8]) (rest := []) ⟨hx, hb, hml, hown, hts⟩ (c_X0_tally l dC dI A a cA X22 r8 X23 eX23) ⟨callB_of 1 hts gd_X0_tally rfl rfl rfl (hts _ wd_38) (hts _ wd_438) hd_X0_tally ⟨Nat.le_of_ble_eq_true rfl, Nat.le_of_ble_eq_true rfl⟩, hts _ wd_440, hts _ wd_5⟩ ⟨blXD, va_recv hK hP (ci := 0) (q0 := 15) rfl rfl, fun U hU hW => ⟨rfl, by rw [hU]; exact hP, va_K.moved hW.alike hK, nst.warm hW hN, wlD hD0⟩⟩ rfl rfl hl.1 rfl (lv_room (Nat.le_of_ble_eq_true rfl)) dX0_seek_107 ⟨Nat.zero_le _, Nat.zero_le _⟩) hS (fun _ _ h => h) (fun _ h => h) (fun u_ t_ H1 locs1 ht hvm hp_ hB hz1 hk1 hS1 => ?_)
            subst hp_
            obtain ⟨hP1, hK1⟩ := hB
            rw [ht] at hP1
            have hP := hP1
            have hS := hS1
            obtain ⟨x24, ex24⟩ : ∃ y : Int32, y = (v3 + 1) := ⟨_, rfl⟩
            have hw := stp_use hw ex24
            refine lv_iinc (v := x24) (lv' := [(3, .int x24), (4, .int r8), (0, .ref (a 15)), (1, .ref (a 3)), (2, .int v2)]) hx hb dX0_seek_110 hl (k := 4) rfl (by rw [ex24]; rfl) (by decide) rfl (fun ls hl => ?_)
            refine lv_goto (tgt := 41) hx hb dX0_seek_113 (by decide) ?_
            exact ih X23 v2 x24 hw _ _ hP hS ls (lv_sub hl [2, 3, 4, 0] rfl)
  have L33 : ∀ n : Nat, ∀ (X : WS), ∀ (v2 : Int32), g_X0_seek_33 n X v2 = some out → ∀ (H : Heap) (locs : List Loc), va_P (dC, dI) classes (wl a cA X) H → va_S A s.heap H locs → ∀ ls : Array Slot, lv_has ls 5 [(0, .ref (a 15)), (1, .ref (a 3)), (2, .int v2)] → W p l e ({ frames := 3, cells := 0, slots := 0, locals := 77 }) s m (([.ref (a 15), .ref (a 3)] : List Value).toArray) below meth c H locs 0 0 Q (F0 m 33 ls []) := by
    intro n
    induction n with
    | zero =>
      intro X v2 hw
      rw [g_X0_seek_33] at hw
      cases hw
    | succ n ih =>
      intro X v2 hw H locs hP hS ls hl
      rw [g_X0_seek_33] at hw
      refine lv_iload_n hx hb dX0_seek_33 rfl (lv_at hl 2 rfl) ?_
      refine lv_bipush (v := 6) hx hb dX0_seek_34 (by decide) ?_
      refine lv_icmp_ge (tgt := 122) hx hb dX0_seek_36 (by decide) (fun c4 => ?_) (fun c4 => ?_)
      · have hw := ite_t hw c4
        exact hret _ _ _ _ _ (Option.some.inj hw) hP hS dX0_seek_122
      · have hw := ite_f hw c4
        refine lv_iconst (v := 1) hx hb dX0_seek_39 (by decide) ?_
        refine lv_istore_n (lv' := [(3, .int 1), (0, .ref (a 15)), (1, .ref (a 3)), (2, .int v2)]) hx hb dX0_seek_40 rfl hl (by decide) rfl (fun ls hl => ?_)
        exact L41 _ ih NF X v2 1 hw _ _ hP hS ls (lv_sub hl [1, 2, 3, 0] rfl)
  have L12 : ∀ n : Nat, ∀ (X : WS), ∀ (v2 : Int32), g_X0_seek_12 n X v2 = some out → ∀ (H : Heap) (locs : List Loc), va_P (dC, dI) classes (wl a cA X) H → va_S A s.heap H locs → ∀ ls : Array Slot, lv_has ls 5 [(0, .ref (a 15)), (1, .ref (a 3)), (2, .int v2)] → W p l e ({ frames := 3, cells := 0, slots := 0, locals := 77 }) s m (([.ref (a 15), .ref (a 3)] : List Value).toArray) below meth c H locs 0 0 Q (F0 m 12 ls []) := by
    intro n
    induction n with
    | zero =>
      intro X v2 hw
      rw [g_X0_seek_12] at hw
      cases hw
    | succ n ih =>
      intro X v2 hw H locs hP hS ls hl
      rw [g_X0_seek_12] at hw
      refine lv_iload_n hx hb dX0_seek_12 rfl (lv_at hl 2 rfl) ?_
      refine lv_bipush (v := 6) hx hb dX0_seek_13 (by decide) ?_
      refine lv_icmp_ge (tgt := 31) hx hb dX0_seek_15 (by decide) (fun c3 => ?_) (fun c3 => ?_)
      · have hw := ite_t hw c3
        refine lv_iconst (v := 0) hx hb dX0_seek_31 (by decide) ?_
        refine lv_istore_n (lv' := [(2, .int 0), (0, .ref (a 15)), (1, .ref (a 3))]) hx hb dX0_seek_32 rfl hl (by decide) rfl (fun ls hl => ?_)
        exact L33 NF X 0 hw _ _ hP hS ls (lv_sub hl [1, 2, 0] rfl)
      · have hw := ite_f hw c3
        refine lv_aload_n hx hb dX0_seek_18 rfl (lv_at hl 0 rfl) ?_
        refine va_get (D := (dC, dI)) (ci := 0) (v := .ref (a 16)) (C := RX0) (T := TX0) (N := 8) hx hb hts iX0 hown hK hP 15 rfl rfl 0 (by decide) (hts _ wd_146) (fun _ h9 => h9) rfl dX0_seek_19 ?_
        refine lv_iload_n hx hb dX0_seek_22 rfl (lv_at hl 2 rfl) ?_
        refine lv_iconst (v := 0) hx hb dX0_seek_23 (by decide) ?_
        obtain ⟨h25, hw⟩ := ixc_use hw
        refine va_iast hx hb hK hP (wlD hD0) hS 16 0 rfl rfl h25 dX0_seek_24 (fun H locs hP hD_ hS => ?_)
        obtain ⟨X26, eX26⟩ : ∃ y : WS, y = (ups X 16 (Int32.toNatClampNeg v2) 0) := ⟨_, rfl⟩
        have hw := stp_use hw eX26
        have hP : va_P (dC, dI) classes (wl a cA X26) H := by rw [eX26]; exact hP
        obtain ⟨x27, ex27⟩ : ∃ y : Int32, y = (v2 + 1) := ⟨_, rfl⟩
        have hw := stp_use hw ex27
        refine lv_iinc (v := x27) (lv' := [(2, .int x27), (0, .ref (a 15)), (1, .ref (a 3))]) hx hb dX0_seek_25 hl (k := 2) rfl (by rw [ex27]; rfl) (by decide) rfl (fun ls hl => ?_)
        refine lv_goto (tgt := 12) hx hb dX0_seek_28 (by decide) ?_
        exact ih X26 x27 hw _ _ hP hS ls (lv_sub hl [1, 2, 0] rfl)
  have hl := lv_entry ([.ref (a 15), .ref (a 3)]) (n := 5) (Nat.le_of_ble_eq_true rfl)
  rw [lg_entry_eq]
  generalize (lg_sl ([.ref (a 15), .ref (a 3)]) ++ List.replicate (5 - (lg_sl ([.ref (a 15), .ref (a 3)])).length) Slot.unset).toArray = ls at hl ⊢
  have hl : lv_has ls 5 [(0, .ref (a 15)), (1, .ref (a 3))] := hl
  refine lv_aload_n hx hb dX0_seek_0 rfl (lv_at hl 0 rfl) ?_
  refine lv_iconst (v := 0) hx hb dX0_seek_1 (by decide) ?_
  refine va_put (D := (dC, dI)) (ci := 0) (v := .int 0) (ty := .int) (C := RX0) (T := TX0) (N := 8) hx hb hts iX0 tyX0 tyX0_ok nmX0 hown hK hP (wlD hD0) hS 15 rfl rfl 3 (by decide) (hts _ wd_151) (fun _ h9 => h9) rfl (by decide +kernel) rfl rfl (Nat.le_of_ble_eq_true rfl) dX0_seek_2 (fun H locs hP hD_ hS => ?_)
  obtain ⟨X1, eX1⟩ : ∃ y : WS, y = (ups X 15 3 0) := ⟨_, rfl⟩
  have hw := stp_use hw eX1
  have hP : va_P (dC, dI) classes (wl a cA X1) H := by rw [eX1]; exact hP
  refine lv_aload_n hx hb dX0_seek_5 rfl (lv_at hl 0 rfl) ?_
  refine lv_iconst (v := (-1)) hx hb dX0_seek_6 (by decide) ?_
  refine va_put (D := (dC, dI)) (ci := 0) (v := .int (-1)) (ty := .int) (C := RX0) (T := TX0) (N := 8) hx hb hts iX0 tyX0 tyX0_ok nmX0 hown hK hP (wlD hD0) hS 15 rfl rfl 4 (by decide) (hts _ wd_153) (fun _ h9 => h9) rfl (by decide +kernel) rfl rfl (Nat.le_of_ble_eq_true rfl) dX0_seek_7 (fun H locs hP hD_ hS => ?_)
  obtain ⟨X2, eX2⟩ : ∃ y : WS, y = (ups X1 15 4 (-1)) := ⟨_, rfl⟩
  have hw := stp_use hw eX2
  have hP : va_P (dC, dI) classes (wl a cA X2) H := by rw [eX2]; exact hP
  refine lv_iconst (v := 0) hx hb dX0_seek_10 (by decide) ?_
  refine lv_istore_n (lv' := [(2, .int 0), (0, .ref (a 15)), (1, .ref (a 3))]) hx hb dX0_seek_11 rfl hl (by decide) rfl (fun ls hl => ?_)
  exact L12 NF X2 0 hw _ _ hP hS ls (lv_sub hl [1, 2, 0] rfl)
set_option maxHeartbeats 4000000 in
set_option maxRecDepth 100000 in
theorem c_X3_where (l : Launch) (dC : Nat → ClassId) (dI : Nat → Nat → Nat) (A : Nat → Prop) (a : Nat → Nat) (cA : ClassId) (X : WS) (p1 : Int32) (out : (Int32 × WS)) (hw : f_X3_where X p1 = some out) : Met l yX3_where (.code yX3_where cX3_where 2 (some .int) :: lw_g) ({ frames := 4, cells := 0, slots := 0, locals := 101 }) (PcXD dC dI A a cA X [.ref (a 0), .int p1]) (va_Qi (fun (r_ : Int32) (X_ : WS) => out = (r_, X_)) (fun X_ t => va_P (dC, dI) classes (wl a cA X_) t.heap ∧ va_K (dC, dI) classes [(cA, .int)] t) A) 0 0 (A) := by
  unfold f_X3_where at hw
  refine Met.ofW (cc := cX3_where) (maxL := 2) (ret := (some .int)) (by decide) rfl ?_
  intro p e s m args below meth c s₁ B hml hv
  obtain ⟨rfl, hP, hK, hN, hD0⟩ := hv
  have hx := B.exec
  have hb := B.bytes
  have hr := B.returns
  have hts0 := atoms_spec (ws := (.code yX3_where cX3_where 2 (some .int) :: lw_g)) B.pre
  have hts : ∀ w ∈ lw_g, w.before (([.ref (a 0), .int p1] : List Value).toArray) s = true := fun w h => hts0 w (List.mem_cons_of_mem _ h)
  clear hts0
  have hown : s.vm.findClass RX3 = some m.cls := findClass_of_methodNamed B.named
  have hlocks := B.notSynchronized
  have hret : ∀ (pc : Nat) (ls : Array Slot) (v : Int32) (X_ : WS) (H : Heap) (locs : List Loc), (v, X_) = out → va_P (dC, dI) classes (wl a cA X_) H → va_S A s.heap H locs → decode cX3_where pc = .ok (.ireturn, 1) → W p l e ({ frames := 4, cells := 0, slots := 0, locals := 101 }) s m (([.ref (a 0), .int p1] : List Value).toArray) below meth c H locs 0 0 (MQ below (va_Qi (fun (r_ : Int32) (X_ : WS) => out = (r_, X_)) (fun X_ t => va_P (dC, dI) classes (wl a cA X_) t.heap ∧ va_K (dC, dI) classes [(cA, .int)] t) A) (([.ref (a 0), .int p1] : List Value).toArray) s 0 0 (A)) (F0 m pc ls [.int v]) := fun pc ls v X_ H locs hv hP hS hd => W.iret hx hb hr (fun t ht hW => ⟨⟨v, X_, rfl, hv.symm, by rw [ht]; exact hP, va_K.moved hW.alike hK⟩, hS.F ht⟩) hS.2.2 hd
  show W p l e ({ frames := 4, cells := 0, slots := 0, locals := 101 }) s m (([.ref (a 0), .int p1] : List Value).toArray) below meth c s.heap [] 0 0 (MQ below (va_Qi (fun (r_ : Int32) (X_ : WS) => out = (r_, X_)) (fun X_ t => va_P (dC, dI) classes (wl a cA X_) t.heap ∧ va_K (dC, dI) classes [(cA, .int)] t) A) (([.ref (a 0), .int p1] : List Value).toArray) s 0 0 (A)) (entryFrame m (([.ref (a 0), .int p1] : List Value).toArray) 2)
  generalize MQ below (va_Qi (fun (r_ : Int32) (X_ : WS) => out = (r_, X_)) (fun X_ t => va_P (dC, dI) classes (wl a cA X_) t.heap ∧ va_K (dC, dI) classes [(cA, .int)] t) A) (([.ref (a 0), .int p1] : List Value).toArray) s 0 0 (A) = Q at hret ⊢
  have hS : va_S A s.heap s.heap [] := va_S.rf
  have hl := lv_entry ([.ref (a 0), .int p1]) (n := 2) (Nat.le_of_ble_eq_true rfl)
  rw [lg_entry_eq]
  generalize (lg_sl ([.ref (a 0), .int p1]) ++ List.replicate (2 - (lg_sl ([.ref (a 0), .int p1])).length) Slot.unset).toArray = ls at hl ⊢
  have hl : lv_has ls 2 [(0, .ref (a 0)), (1, .int p1)] := hl
  refine lv_iload_n hx hb dX3_where_0 rfl (lv_at hl 1 rfl) ?_
  refine lv_if_lt (tgt := 9) hx hb dX3_where_1 (by decide) (fun c1 => ?_) (fun c1 => ?_)
  · have hw := ite_t hw c1
    refine lv_bipush (v := (-102)) hx hb dX3_where_9 (by decide) ?_
    exact hret _ _ _ _ _ _ (Option.some.inj hw) hP hS dX3_where_11
  · have hw := ite_f hw c1
    refine lv_iload_n hx hb dX3_where_4 rfl (lv_at hl 1 rfl) ?_
    refine lv_iconst (v := 1) hx hb dX3_where_5 (by decide) ?_
    refine lv_icmp_le (tgt := 12) hx hb dX3_where_6 (by decide) (fun c2 => ?_) (fun c2 => ?_)
    · have hw := ite_t hw c2
      refine lv_aload_n hx hb dX3_where_12 rfl (lv_at hl 0 rfl) ?_
      obtain ⟨r3, er3, hw⟩ := Option.bind_eq_some_iff.mp hw
      refine vp_callSi (va_runV (As := []) (rest := []) ⟨hx, hb, hml, hown, hts⟩ (c_X3_hasTown l dC dI a cA X r3 er3) ⟨callB_of 0 hts gd_X3_hasTown rfl rfl rfl (hts _ wd_35) (hts _ wd_257) hd_X3_hasTown ⟨Nat.le_of_ble_eq_true rfl, Nat.le_of_ble_eq_true rfl⟩, hts _ wd_259, hts _ wd_1⟩ ⟨blX, va_recv hK hP (ci := 3) (q0 := 0) rfl rfl, fun U hU hW => ⟨rfl, by rw [hU]; exact hP, va_K.moved hW.alike hK, nst.warm hW hN⟩⟩ rfl rfl hl.1 rfl (lv_room (Nat.le_of_ble_eq_true rfl)) dX3_where_13 ⟨Nat.zero_le _, Nat.zero_le _⟩).run (fun r_ e_ => ?_)
      subst r_
      refine lv_if_ne (tgt := 22) hx hb dX3_where_16 (by decide) (fun c4 => ?_) (fun c4 => ?_)
      · have hw := ite_f hw c4
        refine lv_aload_n hx hb dX3_where_22 rfl (lv_at hl 0 rfl) ?_
        refine va_get (D := (dC, dI)) (ci := 3) (v := .ref (a 15)) (C := RX3) (T := TX3) (N := 6) hx hb hts iX3 hown hK hP 0 rfl rfl 3 (by decide) (hts _ wd_181) (fun _ h9 => h9) rfl dX3_where_23 ?_
        refine lv_aload_n hx hb dX3_where_26 rfl (lv_at hl 0 rfl) ?_
        refine va_get (D := (dC, dI)) (ci := 3) (v := .ref (a 3)) (C := RX3) (T := TX3) (N := 6) hx hb hts iX3 hown hK hP 0 rfl rfl 1 (by decide) (hts _ wd_179) (fun _ h9 => h9) rfl dX3_where_27 ?_
        obtain ⟨X5, eX5, hw⟩ := Option.bind_eq_some_iff.mp hw
        refine va_callv (va_runV (As := [.ref (a 3)]) (rest := []) ⟨hx, hb, hml, hown, hts⟩ (c_X0_seek l dC dI A a cA X X5 eX5) ⟨callB_of 1 hts gd_X0_seek rfl rfl rfl (hts _ wd_38) (hts _ wd_430) hd_X0_seek ⟨Nat.le_of_ble_eq_true rfl, Nat.le_of_ble_eq_true rfl⟩, hts _ wd_431, hts _ wd_432⟩ ⟨blXD, va_recv hK hP (ci := 0) (q0 := 15) rfl rfl, fun U hU hW => ⟨rfl, by rw [hU]; exact hP, va_K.moved hW.alike hK, nst.warm hW hN, wlD hD0⟩⟩ rfl rfl hl.1 rfl (lv_room (Nat.le_of_ble_eq_true rfl)) dX3_where_30 ⟨Nat.zero_le _, Nat.zero_le _⟩) hS (fun _ _ h => h) (fun _ h => h) (fun u_ t_ H1 locs1 ht hvm hp_ hB hz1 hk1 hS1 => ?_)
        subst hp_
        obtain ⟨hP1, hK1⟩ := hB
        rw [ht] at hP1
        have hP := hP1
        have hS := hS1
        refine lv_iload_n hx hb dX3_where_33 rfl (lv_at hl 1 rfl) ?_
        refine lv_if_ne (tgt := 47) hx hb dX3_where_34 (by decide) (fun c6 => ?_) (fun c6 => ?_)
        · have hw := ite_f hw c6
          refine lv_aload_n hx hb dX3_where_47 rfl (lv_at hl 0 rfl) ?_
          refine va_get (D := (dC, dI)) (ci := 3) (v := .ref (a 15)) (C := RX3) (T := TX3) (N := 6) hx hb hts iX3 hown hK hP 0 rfl rfl 3 (by decide) (hts _ wd_181) (fun _ h9 => h9) rfl dX3_where_48 ?_
          refine va_getN (D := (dC, dI)) (ci := 0) (v := .int (X5 15 4)) (C := RX0) (T := TX0) (N := 8) hx hb hts iX0 hown hK hP 15 rfl rfl 4 (by decide) (va_Nw.use rfl (hN _ nk_154)) (fun _ h9 => h9) rfl dX3_where_51 ?_
          exact hret _ _ _ _ _ _ (Option.some.inj hw) hP hS dX3_where_54
        · have hw := ite_t hw c6
          refine lv_aload_n hx hb dX3_where_37 rfl (lv_at hl 0 rfl) ?_
          refine va_get (D := (dC, dI)) (ci := 3) (v := .ref (a 15)) (C := RX3) (T := TX3) (N := 6) hx hb hts iX3 hown hK hP 0 rfl rfl 3 (by decide) (hts _ wd_181) (fun _ h9 => h9) rfl dX3_where_38 ?_
          refine va_getN (D := (dC, dI)) (ci := 0) (v := .int (X5 15 3)) (C := RX0) (T := TX0) (N := 8) hx hb hts iX0 hown hK hP 15 rfl rfl 3 (by decide) (va_Nw.use rfl (hN _ nk_152)) (fun _ h9 => h9) rfl dX3_where_41 ?_
          refine lv_goto (tgt := 54) hx hb dX3_where_44 (by decide) ?_
          exact hret _ _ _ _ _ _ (Option.some.inj hw) hP hS dX3_where_54
      · have hw := ite_t hw c4
        refine lv_bipush (v := (-103)) hx hb dX3_where_19 (by decide) ?_
        exact hret _ _ _ _ _ _ (Option.some.inj hw) hP hS dX3_where_21
    · have hw := ite_f hw c2
      refine lv_bipush (v := (-102)) hx hb dX3_where_9 (by decide) ?_
      exact hret _ _ _ _ _ _ (Option.some.inj hw) hP hS dX3_where_11
set_option maxHeartbeats 4000000 in
set_option maxRecDepth 100000 in
theorem c_X4_isTold (l : Launch) (dC : Nat → ClassId) (dI : Nat → Nat → Nat) (a : Nat → Nat) (cA : ClassId) (X : MS) (p1 : Int32) (out : Int32) (hw : f_X4_isTold X p1 = some out) : Met l yX4_isTold (.code yX4_isTold cX4_isTold 5 (some .boolean) :: lw_g) ({ frames := 4, cells := 0, slots := 0, locals := 101 }) (PcM dC dI a cA X [.ref (a 0), .int p1]) (vp_Si (fun r_ => r_ = out)) 0 0 (fun _ => False) := by
  unfold f_X4_isTold at hw
  refine Met.ofW (cc := cX4_isTold) (maxL := 5) (ret := (some .boolean)) (by decide) rfl ?_
  intro p e s m args below meth c s₁ B hml hv
  obtain ⟨rfl, hP, hK⟩ := hv
  have hx := B.exec
  have hb := B.bytes
  have hr := B.returns
  have hts0 := atoms_spec (ws := (.code yX4_isTold cX4_isTold 5 (some .boolean) :: lw_g)) B.pre
  have hts : ∀ w ∈ lw_g, w.before (([.ref (a 0), .int p1] : List Value).toArray) s = true := fun w h => hts0 w (List.mem_cons_of_mem _ h)
  clear hts0
  have hown : s.vm.findClass RX4 = some m.cls := findClass_of_methodNamed B.named
  have hlocks := B.notSynchronized
  have hret : ∀ (pc : Nat) (ls : Array Slot) (v : Int32), v = out → (hz : narrow .boolean (.int v) = .int v) → decode cX4_isTold pc = .ok (.ireturn, 1) → W p l e ({ frames := 4, cells := 0, slots := 0, locals := 101 }) s m (([.ref (a 0), .int p1] : List Value).toArray) below meth c s.heap [] 0 0 (MQ below (vp_Si (fun r_ => r_ = out)) (([.ref (a 0), .int p1] : List Value).toArray) s 0 0 (fun _ => False)) (F0 m pc ls [.int v]) := fun pc ls v hv hz hd => W.zret hx hb hr hz (fun t ht hW => ⟨v, rfl, hv, ht⟩) (fun q hq => absurd hq List.not_mem_nil) hd
  show W p l e ({ frames := 4, cells := 0, slots := 0, locals := 101 }) s m (([.ref (a 0), .int p1] : List Value).toArray) below meth c s.heap [] 0 0 (MQ below (vp_Si (fun r_ => r_ = out)) (([.ref (a 0), .int p1] : List Value).toArray) s 0 0 (fun _ => False)) (entryFrame m (([.ref (a 0), .int p1] : List Value).toArray) 5)
  generalize MQ below (vp_Si (fun r_ => r_ = out)) (([.ref (a 0), .int p1] : List Value).toArray) s 0 0 (fun _ => False) = Q at hret ⊢
  have L19 : ∀ (v2 : Int32), ∀ n : Nat, ∀ (v3 : Int32), ∀ (v4 : Int32), g_X4_isTold_19 X v2 n v3 v4 = some out → ∀ ls : Array Slot, lv_has ls 5 [(0, .ref (a 0)), (2, .int v2), (3, .int v3), (4, .int v4)] → W p l e ({ frames := 4, cells := 0, slots := 0, locals := 101 }) s m (([.ref (a 0), .int p1] : List Value).toArray) below meth c s.heap [] 0 0 Q (F0 m 19 ls []) := by
    intro v2 n
    induction n with
    | zero =>
      intro v3 v4 hw
      rw [g_X4_isTold_19] at hw
      cases hw
    | succ n ih =>
      intro v3 v4 hw ls hl
      rw [g_X4_isTold_19] at hw
      refine lv_iload hx hb dX4_isTold_19 (lv_at hl 3 rfl) ?_
      refine lv_aload_n hx hb dX4_isTold_21 rfl (lv_at hl 0 rfl) ?_
      refine va_get (D := (dC, dI)) (ci := 4) (v := .int (X.1 0 14)) (C := RX4) (T := TX4) (N := 29) hx hb hts iX4 hown hK hP 0 rfl rfl 14 (by decide) (hts _ wd_536) (fun _ h9 => h9) rfl dX4_isTold_22 ?_
      refine lv_icmp_ge (tgt := 71) hx hb dX4_isTold_25 (by decide) (fun c2 => ?_) (fun c2 => ?_)
      · have hw := ite_t hw c2
        refine lv_iload_n hx hb dX4_isTold_71 rfl (lv_at hl 2 rfl) ?_
        obtain ⟨hz_, hw⟩ := zck_use hw
        exact hret _ _ _ (Option.some.inj hw) (nz hz_) dX4_isTold_72
      · have hw := ite_f hw c2
        refine lv_iload_n hx hb dX4_isTold_28 rfl (lv_at hl 2 rfl) ?_
        refine lv_if_eq (tgt := 63) hx hb dX4_isTold_29 (by decide) (fun c3 => ?_) (fun c3 => ?_)
        · have hw := ite_t hw c3
          refine lv_iconst (v := 0) hx hb dX4_isTold_63 (by decide) ?_
          refine lv_istore_n (lv' := [(3, .int 0), (0, .ref (a 0)), (2, .int v2), (4, .int v4)]) hx hb dX4_isTold_64 rfl hl (by decide) rfl (fun ls hl => ?_)
          obtain ⟨x4, ex4⟩ : ∃ y : Int32, y = (v4 + 1) := ⟨_, rfl⟩
          have hw := stp_use hw ex4
          refine lv_iinc (v := x4) (lv' := [(4, .int x4), (3, .int 0), (0, .ref (a 0)), (2, .int v2)]) hx hb dX4_isTold_65 hl (k := 3) rfl (by rw [ex4]; rfl) (by decide) rfl (fun ls hl => ?_)
          refine lv_goto (tgt := 19) hx hb dX4_isTold_68 (by decide) ?_
          exact ih 0 x4 hw ls (lv_sub hl [2, 3, 1, 0] rfl)
        · have hw := ite_f hw c3
          refine lv_iload_n hx hb dX4_isTold_32 rfl (lv_at hl 1 rfl) ?_
          refine lv_aload_n hx hb dX4_isTold_33 rfl (lv_at hl 0 rfl) ?_
          refine va_get (D := (dC, dI)) (ci := 4) (v := .ref (a 5)) (C := RX4) (T := TX4) (N := 29) hx hb hts iX4 hown hK hP 0 rfl rfl 15 (by decide) (hts _ wd_537) (fun _ h9 => h9) rfl dX4_isTold_34 ?_
          refine lv_iconst (v := 2) hx hb dX4_isTold_37 (by decide) ?_
          refine lv_iload hx hb dX4_isTold_38 (lv_at hl 3 rfl) ?_
          refine lv_imul hx hb dX4_isTold_40 ?_
          obtain ⟨h5, hw⟩ := ixc_use hw
          refine va_iald hx hb hK hP 5 0 rfl rfl h5 dX4_isTold_41 ?_
          refine lv_ishr hx hb dX4_isTold_42 ?_
          refine lv_iconst (v := 1) hx hb dX4_isTold_43 (by decide) ?_
          refine lv_iand hx hb dX4_isTold_44 ?_
          refine lv_aload_n hx hb dX4_isTold_45 rfl (lv_at hl 0 rfl) ?_
          refine va_get (D := (dC, dI)) (ci := 4) (v := .ref (a 5)) (C := RX4) (T := TX4) (N := 29) hx hb hts iX4 hown hK hP 0 rfl rfl 15 (by decide) (hts _ wd_537) (fun _ h9 => h9) rfl dX4_isTold_46 ?_
          refine lv_iconst (v := 2) hx hb dX4_isTold_49 (by decide) ?_
          refine lv_iload hx hb dX4_isTold_50 (lv_at hl 3 rfl) ?_
          refine lv_imul hx hb dX4_isTold_52 ?_
          refine lv_iconst (v := 1) hx hb dX4_isTold_53 (by decide) ?_
          refine lv_iadd hx hb dX4_isTold_54 ?_
          obtain ⟨h6, hw⟩ := ixc_use hw
          refine va_iald hx hb hK hP 5 0 rfl rfl h6 dX4_isTold_55 ?_
          refine lv_icmp_ne (tgt := 63) hx hb dX4_isTold_56 (by decide) (fun c7 => ?_) (fun c7 => ?_)
          · have hw := ite_f hw c7
            refine lv_iconst (v := 0) hx hb dX4_isTold_63 (by decide) ?_
            refine lv_istore_n (lv' := [(3, .int 0), (0, .ref (a 0)), (2, .int v2), (4, .int v4)]) hx hb dX4_isTold_64 rfl hl (by decide) rfl (fun ls hl => ?_)
            obtain ⟨x8, ex8⟩ : ∃ y : Int32, y = (v4 + 1) := ⟨_, rfl⟩
            have hw := stp_use hw ex8
            refine lv_iinc (v := x8) (lv' := [(4, .int x8), (3, .int 0), (0, .ref (a 0)), (2, .int v2)]) hx hb dX4_isTold_65 hl (k := 3) rfl (by rw [ex8]; rfl) (by decide) rfl (fun ls hl => ?_)
            refine lv_goto (tgt := 19) hx hb dX4_isTold_68 (by decide) ?_
            exact ih 0 x8 hw ls (lv_sub hl [2, 3, 1, 0] rfl)
          · have hw := ite_t hw c7
            refine lv_iconst (v := 1) hx hb dX4_isTold_59 (by decide) ?_
            refine lv_goto (tgt := 64) hx hb dX4_isTold_60 (by decide) ?_
            refine lv_istore_n (lv' := [(3, .int 1), (0, .ref (a 0)), (2, .int v2), (4, .int v4)]) hx hb dX4_isTold_64 rfl hl (by decide) rfl (fun ls hl => ?_)
            obtain ⟨x9, ex9⟩ : ∃ y : Int32, y = (v4 + 1) := ⟨_, rfl⟩
            have hw := stp_use hw ex9
            refine lv_iinc (v := x9) (lv' := [(4, .int x9), (3, .int 1), (0, .ref (a 0)), (2, .int v2)]) hx hb dX4_isTold_65 hl (k := 3) rfl (by rw [ex9]; rfl) (by decide) rfl (fun ls hl => ?_)
            refine lv_goto (tgt := 19) hx hb dX4_isTold_68 (by decide) ?_
            exact ih 1 x9 hw ls (lv_sub hl [2, 3, 1, 0] rfl)
  have hl := lv_entry ([.ref (a 0), .int p1]) (n := 5) (Nat.le_of_ble_eq_true rfl)
  rw [lg_entry_eq]
  generalize (lg_sl ([.ref (a 0), .int p1]) ++ List.replicate (5 - (lg_sl ([.ref (a 0), .int p1])).length) Slot.unset).toArray = ls at hl ⊢
  have hl : lv_has ls 5 [(0, .ref (a 0)), (1, .int p1)] := hl
  refine lv_aload_n hx hb dX4_isTold_0 rfl (lv_at hl 0 rfl) ?_
  refine lv_iload_n hx hb dX4_isTold_1 rfl (lv_at hl 1 rfl) ?_
  refine lv_bipush (v := 10) hx hb dX4_isTold_2 (by decide) ?_
  refine lv_idiv hx hb dX4_isTold_4 (by decide) ?_
  refine lv_iload_n hx hb dX4_isTold_5 rfl (lv_at hl 1 rfl) ?_
  refine lv_bipush (v := 10) hx hb dX4_isTold_6 (by decide) ?_
  refine lv_irem hx hb dX4_isTold_8 (by decide) ?_
  refine lv_iconst (v := 0) hx hb dX4_isTold_9 (by decide) ?_
  obtain ⟨r1, er1, hw⟩ := Option.bind_eq_some_iff.mp hw
  refine vp_callSi (va_runV (As := [.int (p1 / 10), .int (p1 - p1 / 10 * 10), .int 0]) (rest := []) ⟨hx, hb, hml, hown, hts⟩ (c_X4_knowThen l dC dI a cA X (p1 / 10) (p1 - p1 / 10 * 10) 0 r1 er1) ⟨callB_of 3 hts gd_X4_knowThen rfl rfl rfl (hts _ wd_39) (hts _ wd_715) hd_X4_knowThen ⟨Nat.le_of_ble_eq_true rfl, Nat.le_of_ble_eq_true rfl⟩, hts _ wd_717, hts _ wd_21⟩ ⟨blM, va_recv hK hP (ci := 4) (q0 := 0) rfl rfl, fun U hU hW => ⟨rfl, by rw [hU]; exact hP, va_K.moved hW.alike hK⟩⟩ rfl rfl hl.1 rfl (lv_room (Nat.le_of_ble_eq_true rfl)) dX4_isTold_10 ⟨Nat.zero_le _, Nat.zero_le _⟩).run (fun r_ e_ => ?_)
  subst r_
  refine lv_istore_n (lv' := [(2, .int r1), (0, .ref (a 0)), (1, .int p1)]) hx hb dX4_isTold_13 rfl hl (by decide) rfl (fun ls hl => ?_)
  refine lv_iconst (v := 1) hx hb dX4_isTold_14 (by decide) ?_
  refine lv_istore_n (lv' := [(3, .int 1), (2, .int r1), (0, .ref (a 0)), (1, .int p1)]) hx hb dX4_isTold_15 rfl hl (by decide) rfl (fun ls hl => ?_)
  refine lv_iconst (v := 0) hx hb dX4_isTold_16 (by decide) ?_
  refine lv_istore (lv' := [(4, .int 0), (3, .int 1), (2, .int r1), (0, .ref (a 0)), (1, .int p1)]) hx hb dX4_isTold_17 hl (by decide) rfl (fun ls hl => ?_)
  exact L19 r1 NF 1 0 hw ls (lv_sub hl [3, 2, 1, 0] rfl)
set_option maxHeartbeats 4000000 in
set_option maxRecDepth 100000 in
theorem c_X4_whereOf (l : Launch) (dC : Nat → ClassId) (dI : Nat → Nat → Nat) (a : Nat → Nat) (cA : ClassId) (X : MS) (p1 : Int32) (out : Int32) (hw : f_X4_whereOf X p1 = some out) : Met l yX4_whereOf (.code yX4_whereOf cX4_whereOf 5 (some .int) :: lw_g) ({ frames := 5, cells := 0, slots := 0, locals := 125 }) (PcM dC dI a cA X [.ref (a 0), .int p1]) (vp_Si (fun r_ => r_ = out)) 0 0 (fun _ => False) := by
  unfold f_X4_whereOf at hw
  refine Met.ofW (cc := cX4_whereOf) (maxL := 5) (ret := (some .int)) (by decide) rfl ?_
  intro p e s m args below meth c s₁ B hml hv
  obtain ⟨rfl, hP, hK⟩ := hv
  have hx := B.exec
  have hb := B.bytes
  have hr := B.returns
  have hts0 := atoms_spec (ws := (.code yX4_whereOf cX4_whereOf 5 (some .int) :: lw_g)) B.pre
  have hts : ∀ w ∈ lw_g, w.before (([.ref (a 0), .int p1] : List Value).toArray) s = true := fun w h => hts0 w (List.mem_cons_of_mem _ h)
  clear hts0
  have hown : s.vm.findClass RX4 = some m.cls := findClass_of_methodNamed B.named
  have hlocks := B.notSynchronized
  have hret : ∀ (pc : Nat) (ls : Array Slot) (v : Int32), v = out → decode cX4_whereOf pc = .ok (.ireturn, 1) → W p l e ({ frames := 5, cells := 0, slots := 0, locals := 125 }) s m (([.ref (a 0), .int p1] : List Value).toArray) below meth c s.heap [] 0 0 (MQ below (vp_Si (fun r_ => r_ = out)) (([.ref (a 0), .int p1] : List Value).toArray) s 0 0 (fun _ => False)) (F0 m pc ls [.int v]) := fun pc ls v hv hd => W.iret hx hb hr (fun t ht hW => ⟨v, rfl, hv, ht⟩) (fun q hq => absurd hq List.not_mem_nil) hd
  show W p l e ({ frames := 5, cells := 0, slots := 0, locals := 125 }) s m (([.ref (a 0), .int p1] : List Value).toArray) below meth c s.heap [] 0 0 (MQ below (vp_Si (fun r_ => r_ = out)) (([.ref (a 0), .int p1] : List Value).toArray) s 0 0 (fun _ => False)) (entryFrame m (([.ref (a 0), .int p1] : List Value).toArray) 5)
  generalize MQ below (vp_Si (fun r_ => r_ = out)) (([.ref (a 0), .int p1] : List Value).toArray) s 0 0 (fun _ => False) = Q at hret ⊢
  have L8 : ∀ (v1 : Int32), ∀ n : Nat, ∀ (v2 : Int32), ∀ (v3 : Int32), ∀ (v4 : Int32), g_X4_whereOf_8 X v1 n v2 v3 v4 = some out → ∀ ls : Array Slot, lv_has ls 5 [(0, .ref (a 0)), (1, .int v1), (2, .int v2), (3, .int v3), (4, .int v4)] → W p l e ({ frames := 5, cells := 0, slots := 0, locals := 125 }) s m (([.ref (a 0), .int p1] : List Value).toArray) below meth c s.heap [] 0 0 Q (F0 m 8 ls []) := by
    intro v1 n
    induction n with
    | zero =>
      intro v2 v3 v4 hw
      rw [g_X4_whereOf_8] at hw
      cases hw
    | succ n ih =>
      intro v2 v3 v4 hw ls hl
      rw [g_X4_whereOf_8] at hw
      refine lv_iload hx hb dX4_whereOf_8 (lv_at hl 4 rfl) ?_
      refine lv_if_le (tgt := 42) hx hb dX4_whereOf_10 (by decide) (fun c1 => ?_) (fun c1 => ?_)
      · have hw := ite_t hw c1
        refine lv_iload_n hx hb dX4_whereOf_42 rfl (lv_at hl 1 rfl) ?_
        refine lv_if_ne (tgt := 50) hx hb dX4_whereOf_43 (by decide) (fun c2 => ?_) (fun c2 => ?_)
        · have hw := ite_f hw c2
          refine lv_iload_n hx hb dX4_whereOf_50 rfl (lv_at hl 3 rfl) ?_
          exact hret _ _ _ (Option.some.inj hw) dX4_whereOf_51
        · have hw := ite_t hw c2
          refine lv_iload_n hx hb dX4_whereOf_46 rfl (lv_at hl 2 rfl) ?_
          refine lv_goto (tgt := 51) hx hb dX4_whereOf_47 (by decide) ?_
          exact hret _ _ _ (Option.some.inj hw) dX4_whereOf_51
      · have hw := ite_f hw c1
        refine lv_iload hx hb dX4_whereOf_13 (lv_at hl 4 rfl) ?_
        refine lv_bipush (v := 10) hx hb dX4_whereOf_15 (by decide) ?_
        refine lv_irem hx hb dX4_whereOf_17 (by decide) ?_
        refine lv_if_le (tgt := 36) hx hb dX4_whereOf_18 (by decide) (fun c3 => ?_) (fun c3 => ?_)
        · have hw := ite_t hw c3
          obtain ⟨x4, ex4⟩ : ∃ y : Int32, y = (v4 + (-1)) := ⟨_, rfl⟩
          have hw := stp_use hw ex4
          refine lv_iinc (v := x4) (lv' := [(4, .int x4), (0, .ref (a 0)), (1, .int v1), (2, .int v2), (3, .int v3)]) hx hb dX4_whereOf_36 hl (k := 4) rfl (by rw [ex4]; rfl) (by decide) rfl (fun ls hl => ?_)
          refine lv_goto (tgt := 8) hx hb dX4_whereOf_39 (by decide) ?_
          exact ih v2 v3 x4 hw ls (lv_sub hl [1, 2, 3, 4, 0] rfl)
        · have hw := ite_f hw c3
          refine lv_aload_n hx hb dX4_whereOf_21 rfl (lv_at hl 0 rfl) ?_
          refine lv_iload hx hb dX4_whereOf_22 (lv_at hl 4 rfl) ?_
          obtain ⟨r5, er5, hw⟩ := Option.bind_eq_some_iff.mp hw
          refine vp_callSi (va_runV (As := [.int v4]) (rest := []) ⟨hx, hb, hml, hown, hts⟩ (c_X4_isTold l dC dI a cA X v4 r5 er5) ⟨callB_of 1 hts gd_X4_isTold rfl rfl rfl (hts _ wd_39) (hts _ wd_781) hd_X4_isTold ⟨Nat.le_of_ble_eq_true rfl, Nat.le_of_ble_eq_true rfl⟩, hts _ wd_783, hts _ wd_28⟩ ⟨blM, va_recv hK hP (ci := 4) (q0 := 0) rfl rfl, fun U hU hW => ⟨rfl, by rw [hU]; exact hP, va_K.moved hW.alike hK⟩⟩ rfl rfl hl.1 rfl (lv_room (Nat.le_of_ble_eq_true rfl)) dX4_whereOf_24 ⟨Nat.zero_le _, Nat.zero_le _⟩).run (fun r_ e_ => ?_)
          subst r_
          refine lv_if_eq (tgt := 36) hx hb dX4_whereOf_27 (by decide) (fun c6 => ?_) (fun c6 => ?_)
          · have hw := ite_t hw c6
            obtain ⟨x7, ex7⟩ : ∃ y : Int32, y = (v4 + (-1)) := ⟨_, rfl⟩
            have hw := stp_use hw ex7
            refine lv_iinc (v := x7) (lv' := [(4, .int x7), (0, .ref (a 0)), (1, .int v1), (2, .int v2), (3, .int v3)]) hx hb dX4_whereOf_36 hl (k := 4) rfl (by rw [ex7]; rfl) (by decide) rfl (fun ls hl => ?_)
            refine lv_goto (tgt := 8) hx hb dX4_whereOf_39 (by decide) ?_
            exact ih v2 v3 x7 hw ls (lv_sub hl [1, 2, 3, 4, 0] rfl)
          · have hw := ite_f hw c6
            obtain ⟨x8, ex8⟩ : ∃ y : Int32, y = (v2 + 1) := ⟨_, rfl⟩
            have hw := stp_use hw ex8
            refine lv_iinc (v := x8) (lv' := [(2, .int x8), (0, .ref (a 0)), (1, .int v1), (3, .int v3), (4, .int v4)]) hx hb dX4_whereOf_30 hl (k := 2) rfl (by rw [ex8]; rfl) (by decide) rfl (fun ls hl => ?_)
            refine lv_iload hx hb dX4_whereOf_33 (lv_at hl 4 rfl) ?_
            refine lv_istore_n (lv' := [(3, .int v4), (2, .int x8), (0, .ref (a 0)), (1, .int v1), (4, .int v4)]) hx hb dX4_whereOf_35 rfl hl (by decide) rfl (fun ls hl => ?_)
            obtain ⟨x9, ex9⟩ : ∃ y : Int32, y = (v4 + (-1)) := ⟨_, rfl⟩
            have hw := stp_use hw ex9
            refine lv_iinc (v := x9) (lv' := [(4, .int x9), (3, .int v4), (2, .int x8), (0, .ref (a 0)), (1, .int v1)]) hx hb dX4_whereOf_36 hl (k := 4) rfl (by rw [ex9]; rfl) (by decide) rfl (fun ls hl => ?_)
            refine lv_goto (tgt := 8) hx hb dX4_whereOf_39 (by decide) ?_
            exact ih x8 v4 x9 hw ls (lv_sub hl [3, 4, 2, 1, 0] rfl)
  have hl := lv_entry ([.ref (a 0), .int p1]) (n := 5) (Nat.le_of_ble_eq_true rfl)
  rw [lg_entry_eq]
  generalize (lg_sl ([.ref (a 0), .int p1]) ++ List.replicate (5 - (lg_sl ([.ref (a 0), .int p1])).length) Slot.unset).toArray = ls at hl ⊢
  have hl : lv_has ls 5 [(0, .ref (a 0)), (1, .int p1)] := hl
  refine lv_iconst (v := 0) hx hb dX4_whereOf_0 (by decide) ?_
  refine lv_istore_n (lv' := [(2, .int 0), (0, .ref (a 0)), (1, .int p1)]) hx hb dX4_whereOf_1 rfl hl (by decide) rfl (fun ls hl => ?_)
  refine lv_iconst (v := (-1)) hx hb dX4_whereOf_2 (by decide) ?_
  refine lv_istore_n (lv' := [(3, .int (-1)), (2, .int 0), (0, .ref (a 0)), (1, .int p1)]) hx hb dX4_whereOf_3 rfl hl (by decide) rfl (fun ls hl => ?_)
  refine lv_bipush (v := 59) hx hb dX4_whereOf_4 (by decide) ?_
  refine lv_istore (lv' := [(4, .int 59), (3, .int (-1)), (2, .int 0), (0, .ref (a 0)), (1, .int p1)]) hx hb dX4_whereOf_6 hl (by decide) rfl (fun ls hl => ?_)
  exact L8 p1 NF 0 (-1) 59 hw ls (lv_sub hl [3, 4, 2, 1, 0] rfl)
set_option maxHeartbeats 4000000 in
set_option maxRecDepth 100000 in
theorem c_X4_where (l : Launch) (dC : Nat → ClassId) (dI : Nat → Nat → Nat) (a : Nat → Nat) (cA : ClassId) (X : MS) (p1 : Int32) (out : Int32) (hw : f_X4_where X p1 = some out) : Met l yX4_where (.code yX4_where cX4_where 2 (some .int) :: lw_g) ({ frames := 6, cells := 0, slots := 0, locals := 149 }) (PcM dC dI a cA X [.ref (a 0), .int p1]) (vp_Si (fun r_ => r_ = out)) 0 0 (fun _ => False) := by
  unfold f_X4_where at hw
  refine Met.ofW (cc := cX4_where) (maxL := 2) (ret := (some .int)) (by decide) rfl ?_
  intro p e s m args below meth c s₁ B hml hv
  obtain ⟨rfl, hP, hK⟩ := hv
  have hx := B.exec
  have hb := B.bytes
  have hr := B.returns
  have hts0 := atoms_spec (ws := (.code yX4_where cX4_where 2 (some .int) :: lw_g)) B.pre
  have hts : ∀ w ∈ lw_g, w.before (([.ref (a 0), .int p1] : List Value).toArray) s = true := fun w h => hts0 w (List.mem_cons_of_mem _ h)
  clear hts0
  have hown : s.vm.findClass RX4 = some m.cls := findClass_of_methodNamed B.named
  have hlocks := B.notSynchronized
  have hret : ∀ (pc : Nat) (ls : Array Slot) (v : Int32), v = out → decode cX4_where pc = .ok (.ireturn, 1) → W p l e ({ frames := 6, cells := 0, slots := 0, locals := 149 }) s m (([.ref (a 0), .int p1] : List Value).toArray) below meth c s.heap [] 0 0 (MQ below (vp_Si (fun r_ => r_ = out)) (([.ref (a 0), .int p1] : List Value).toArray) s 0 0 (fun _ => False)) (F0 m pc ls [.int v]) := fun pc ls v hv hd => W.iret hx hb hr (fun t ht hW => ⟨v, rfl, hv, ht⟩) (fun q hq => absurd hq List.not_mem_nil) hd
  show W p l e ({ frames := 6, cells := 0, slots := 0, locals := 149 }) s m (([.ref (a 0), .int p1] : List Value).toArray) below meth c s.heap [] 0 0 (MQ below (vp_Si (fun r_ => r_ = out)) (([.ref (a 0), .int p1] : List Value).toArray) s 0 0 (fun _ => False)) (entryFrame m (([.ref (a 0), .int p1] : List Value).toArray) 2)
  generalize MQ below (vp_Si (fun r_ => r_ = out)) (([.ref (a 0), .int p1] : List Value).toArray) s 0 0 (fun _ => False) = Q at hret ⊢
  have hl := lv_entry ([.ref (a 0), .int p1]) (n := 2) (Nat.le_of_ble_eq_true rfl)
  rw [lg_entry_eq]
  generalize (lg_sl ([.ref (a 0), .int p1]) ++ List.replicate (2 - (lg_sl ([.ref (a 0), .int p1])).length) Slot.unset).toArray = ls at hl ⊢
  have hl : lv_has ls 2 [(0, .ref (a 0)), (1, .int p1)] := hl
  refine lv_iload_n hx hb dX4_where_0 rfl (lv_at hl 1 rfl) ?_
  refine lv_i2l hx hb dX4_where_1 rfl ?_
  refine lv_lconst (v := 0) hx hb dX4_where_2 (by decide) ?_
  refine lv_lconst (v := 1) hx hb dX4_where_3 (by decide) ?_
  obtain ⟨r1, er1, hw⟩ := Option.bind_eq_some_iff.mp hw
  refine vp_callSi (va_runS (As := [.long (Int32.toInt64 p1), .long 0, .long 1]) (rest := []) ⟨hx, hb, hml, hown, hts⟩ (c_X4_in l (Int32.toInt64 p1) 0 1 r1 er1) ⟨callB_of 3 hts gd_X4_in rfl rfl rfl (hts _ wd_39) (hts _ wd_615) hd_X4_in ⟨Nat.le_of_ble_eq_true rfl, Nat.le_of_ble_eq_true rfl⟩, hts _ wd_616⟩ ⟨bl0, fun U hU hW => ⟨rfl, trivial⟩⟩ rfl rfl hl.1 rfl (lv_room (Nat.le_of_ble_eq_true rfl)) dX4_where_4 ⟨Nat.zero_le _, Nat.zero_le _⟩).run (fun r_ e_ => ?_)
  subst r_
  refine lv_if_ne (tgt := 13) hx hb dX4_where_7 (by decide) (fun c2 => ?_) (fun c2 => ?_)
  · have hw := ite_f hw c2
    refine lv_aload_n hx hb dX4_where_13 rfl (lv_at hl 0 rfl) ?_
    obtain ⟨r3, er3, hw⟩ := Option.bind_eq_some_iff.mp hw
    refine vp_callSi (va_runV (As := []) (rest := []) ⟨hx, hb, hml, hown, hts⟩ (c_X4_lacks l dC dI a cA X r3 er3) ⟨callB_of 0 hts gd_X4_lacks rfl rfl rfl (hts _ wd_39) (hts _ wd_647) hd_X4_lacks ⟨Nat.le_of_ble_eq_true rfl, Nat.le_of_ble_eq_true rfl⟩, hts _ wd_649, hts _ wd_12⟩ ⟨blM, va_recv hK hP (ci := 4) (q0 := 0) rfl rfl, fun U hU hW => ⟨rfl, by rw [hU]; exact hP, va_K.moved hW.alike hK⟩⟩ rfl rfl hl.1 rfl (lv_room (Nat.le_of_ble_eq_true rfl)) dX4_where_14 ⟨Nat.zero_le _, Nat.zero_le _⟩).run (fun r_ e_ => ?_)
    subst r_
    refine lv_if_eq (tgt := 25) hx hb dX4_where_17 (by decide) (fun c4 => ?_) (fun c4 => ?_)
    · have hw := ite_t hw c4
      refine lv_aload_n hx hb dX4_where_25 rfl (lv_at hl 0 rfl) ?_
      refine lv_iload_n hx hb dX4_where_26 rfl (lv_at hl 1 rfl) ?_
      obtain ⟨r5, er5, hw⟩ := Option.bind_eq_some_iff.mp hw
      refine vp_callSi (va_runV (As := [.int p1]) (rest := []) ⟨hx, hb, hml, hown, hts⟩ (c_X4_whereOf l dC dI a cA X p1 r5 er5) ⟨callB_of 1 hts gd_X4_whereOf rfl rfl rfl (hts _ wd_39) (hts _ wd_777) hd_X4_whereOf ⟨Nat.le_of_ble_eq_true rfl, Nat.le_of_ble_eq_true rfl⟩, hts _ wd_779, hts _ wd_27⟩ ⟨blM, va_recv hK hP (ci := 4) (q0 := 0) rfl rfl, fun U hU hW => ⟨rfl, by rw [hU]; exact hP, va_K.moved hW.alike hK⟩⟩ rfl rfl hl.1 rfl (lv_room (Nat.le_of_ble_eq_true rfl)) dX4_where_27 ⟨Nat.zero_le _, Nat.zero_le _⟩).run (fun r_ e_ => ?_)
      subst r_
      exact hret _ _ _ (Option.some.inj hw) dX4_where_30
    · have hw := ite_f hw c4
      refine lv_bipush (v := (-103)) hx hb dX4_where_20 (by decide) ?_
      refine lv_goto (tgt := 30) hx hb dX4_where_22 (by decide) ?_
      exact hret _ _ _ (Option.some.inj hw) dX4_where_30
  · have hw := ite_t hw c2
    refine lv_bipush (v := (-102)) hx hb dX4_where_10 (by decide) ?_
    exact hret _ _ _ (Option.some.inj hw) dX4_where_12
