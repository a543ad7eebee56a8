set_option maxHeartbeats 4000000 in
set_option maxRecDepth 100000 in
theorem c_X3_foldQuestions (l : Launch) (dC : Nat → ClassId) (dI : Nat → Nat → Nat) (A : Nat → Prop) (a : Nat → Nat) (cA : ClassId) (X : WS) (p1 : Int64) (out : (Int64 × WS)) (hw : f_X3_foldQuestions X p1 = some out) : Met l yX3_foldQuestions (.code yX3_foldQuestions cX3_foldQuestions 7 (some .long) :: lw_g) ({ frames := 16, cells := 0, slots := 0, locals := 436 }) (PcXD dC dI A a cA X [.ref (a 0), .long p1]) (va_Ql (fun (r_ : Int64) (X_ : WS) => out = (r_, X_)) (fun X_ t => va_P (dC, dI) classes (wl a cA X_) t.heap ∧ va_K (dC, dI) classes [(cA, .int)] t) A) 0 0 (A) := by
  unfold f_X3_foldQuestions at hw
  refine Met.ofW (cc := cX3_foldQuestions) (maxL := 7) (ret := (some .long)) (by decide) rfl ?_
  intro p e s m args below meth c s₁ B hml hv
  obtain ⟨rfl, hP, hK, hN, hD0⟩ := hv
  have hx := B.exec
  have hb := B.bytes
  have hr := B.returns
  have hts0 := atoms_spec (ws := (.code yX3_foldQuestions cX3_foldQuestions 7 (some .long) :: lw_g)) B.pre
  have hts : ∀ w ∈ lw_g, w.before (([.ref (a 0), .long p1] : List Value).toArray) s = true := fun w h => hts0 w (List.mem_cons_of_mem _ h)
  clear hts0
  have hown : s.vm.findClass RX3 = some m.cls := findClass_of_methodNamed B.named
  have hlocks := B.notSynchronized
  have hret : ∀ (pc : Nat) (ls : Array Slot) (v : Int64) (X_ : WS) (H : Heap) (locs : List Loc), (v, X_) = out → va_P (dC, dI) classes (wl a cA X_) H → va_S A s.heap H locs → decode cX3_foldQuestions pc = .ok (.lreturn, 1) → W p l e ({ frames := 16, cells := 0, slots := 0, locals := 436 }) s m (([.ref (a 0), .long p1] : List Value).toArray) below meth c H locs 0 0 (MQ below (va_Ql (fun (r_ : Int64) (X_ : WS) => out = (r_, X_)) (fun X_ t => va_P (dC, dI) classes (wl a cA X_) t.heap ∧ va_K (dC, dI) classes [(cA, .int)] t) A) (([.ref (a 0), .long p1] : List Value).toArray) s 0 0 (A)) (F0 m pc ls [.long v]) := fun pc ls v X_ H locs hv hP hS hd => W.lret hx hb hr (fun t ht hW => ⟨⟨v, X_, rfl, hv.symm, by rw [ht]; exact hP, va_K.moved hW.alike hK⟩, hS.F ht⟩) hS.2.2 hd
  show W p l e ({ frames := 16, cells := 0, slots := 0, locals := 436 }) s m (([.ref (a 0), .long p1] : List Value).toArray) below meth c s.heap [] 0 0 (MQ below (va_Ql (fun (r_ : Int64) (X_ : WS) => out = (r_, X_)) (fun X_ t => va_P (dC, dI) classes (wl a cA X_) t.heap ∧ va_K (dC, dI) classes [(cA, .int)] t) A) (([.ref (a 0), .long p1] : List Value).toArray) s 0 0 (A)) (entryFrame m (([.ref (a 0), .long p1] : List Value).toArray) 7)
  generalize MQ below (va_Ql (fun (r_ : Int64) (X_ : WS) => out = (r_, X_)) (fun X_ t => va_P (dC, dI) classes (wl a cA X_) t.heap ∧ va_K (dC, dI) classes [(cA, .int)] t) A) (([.ref (a 0), .long p1] : List Value).toArray) s 0 0 (A) = Q at hret ⊢
  have hS : va_S A s.heap s.heap [] := va_S.rf
  have L52 : ∀ (v5 : Int32), ∀ n : Nat, ∀ (X : WS), ∀ (v3 : Int64), ∀ (v6 : Int32), g_X3_foldQuestions_52 v5 n X v3 v6 = some out → ∀ (H : Heap) (locs : List Loc), va_P (dC, dI) classes (wl a cA X) H → va_S A s.heap H locs → ∀ ls : Array Slot, lv_has ls 7 [(0, .ref (a 0)), (3, .long v3), (5, .int v5), (6, .int v6)] → W p l e ({ frames := 16, cells := 0, slots := 0, locals := 436 }) s m (([.ref (a 0), .long p1] : List Value).toArray) below meth c H locs 0 0 Q (F0 m 52 ls []) := by
    intro v5 n
    induction n with
    | zero =>
      intro X v3 v6 hw
      rw [g_X3_foldQuestions_52] at hw
      cases hw
    | succ n ih =>
      intro X v3 v6 hw H locs hP hS ls hl
      rw [g_X3_foldQuestions_52] at hw
      refine lv_iload hx hb dX3_foldQuestions_52 (lv_at hl 3 rfl) ?_
      refine lv_bipush (v := 12) hx hb dX3_foldQuestions_54 (by decide) ?_
      refine lv_icmp_gt (tgt := 78) hx hb dX3_foldQuestions_56 (by decide) (fun c11 => ?_) (fun c11 => ?_)
      · have hw := ite_t hw c11
        refine lv_lload_n hx hb dX3_foldQuestions_78 rfl (lv_at hl 1 rfl) ?_
        refine lv_aload_n hx hb dX3_foldQuestions_79 rfl (lv_at hl 0 rfl) ?_
        refine lv_iconst (v := 0) hx hb dX3_foldQuestions_80 (by decide) ?_
        obtain ⟨r12, X13, er12, hw⟩ := bnd2_use hw
        refine va_calli (va_runV (As := [.int 0]) (rest := [.long v3]) ⟨hx, hb, hml, hown, hts⟩ (c_X3_where l dC dI A a cA X 0 (r12, X13) er12) ⟨callB_of 1 hts gd_X3_where rfl rfl rfl (hts _ wd_35) (hts _ wd_513) hd_X3_where ⟨Nat.le_of_ble_eq_true rfl, Nat.le_of_ble_eq_true rfl⟩, hts _ wd_427, hts _ wd_428⟩ ⟨blXD, va_recv hK hP (ci := 3) (q0 := 0) rfl rfl, fun U hU hW => ⟨rfl, by rw [hU]; exact hP, va_K.moved hW.alike hK, nst.warm hW hN, wlD hD0⟩⟩ rfl rfl hl.1 rfl (lv_room (Nat.le_of_ble_eq_true rfl)) dX3_foldQuestions_81 ⟨Nat.zero_le _, Nat.zero_le _⟩) hS (fun _ _ h => h) (fun _ h => h) (fun r_ u_ t_ H1 locs1 ht hvm hp_ hB hz1 hk1 hS1 => ?_)
        obtain ⟨q1_, q2_⟩ := Prod.mk.inj hp_
        subst q1_
        subst q2_
        obtain ⟨hP1, hK1⟩ := hB
        rw [ht] at hP1
        have hP := hP1
        have hS := hS1
        refine lv_i2l hx hb dX3_foldQuestions_84 rfl ?_
        obtain ⟨r14, er14, hw⟩ := Option.bind_eq_some_iff.mp hw
        refine vp_callSl (va_runS (As := [.long v3, .long (Int32.toInt64 r12)]) (rest := []) ⟨hx, hb, hml, hown, hts⟩ (c_X3_fold l v3 (Int32.toInt64 r12) r14 er14) ⟨callB_of 2 hts gd_X3_fold rfl rfl rfl (hts _ wd_35) (hts _ wd_498) hd_X3_fold ⟨Nat.le_of_ble_eq_true rfl, Nat.le_of_ble_eq_true rfl⟩, hts _ wd_499⟩ ⟨bl0, fun U hU hW => ⟨rfl, trivial⟩⟩ rfl rfl hl.1 rfl (lv_room (Nat.le_of_ble_eq_true rfl)) dX3_foldQuestions_85 ⟨Nat.zero_le _, Nat.zero_le _⟩).run (fun r_ e_ => ?_)
        subst r_
        refine lv_aload_n hx hb dX3_foldQuestions_88 rfl (lv_at hl 0 rfl) ?_
        refine lv_iconst (v := 1) hx hb dX3_foldQuestions_89 (by decide) ?_
        obtain ⟨r15, X16, er15, hw⟩ := bnd2_use hw
        refine va_calli (va_runV (As := [.int 1]) (rest := [.long r14]) ⟨hx, hb, hml, hown, hts⟩ (c_X3_where l dC dI A a cA X13 1 (r15, X16) er15) ⟨callB_of 1 hts gd_X3_where rfl rfl rfl (hts _ wd_35) (hts _ wd_513) hd_X3_where ⟨Nat.le_of_ble_eq_true rfl, Nat.le_of_ble_eq_true rfl⟩, hts _ wd_427, hts _ wd_428⟩ ⟨blXD, va_recv hK hP (ci := 3) (q0 := 0) rfl rfl, fun U hU hW => ⟨rfl, by rw [hU]; exact hP, va_K.moved hW.alike hK, nst.warm hW hN, wlD hD0⟩⟩ rfl rfl hl.1 rfl (lv_room (Nat.le_of_ble_eq_true rfl)) dX3_foldQuestions_90 ⟨Nat.zero_le _, Nat.zero_le _⟩) hS (fun _ _ h => h) (fun _ h => h) (fun r_ u_ t_ H1 locs1 ht hvm hp_ hB hz1 hk1 hS1 => ?_)
        obtain ⟨q1_, q2_⟩ := Prod.mk.inj hp_
        subst q1_
        subst q2_
        obtain ⟨hP1, hK1⟩ := hB
        rw [ht] at hP1
        have hP := hP1
        have hS := hS1
        refine lv_i2l hx hb dX3_foldQuestions_93 rfl ?_
        obtain ⟨r17, er17, hw⟩ := Option.bind_eq_some_iff.mp hw
        refine vp_callSl (va_runS (As := [.long r14, .long (Int32.toInt64 r15)]) (rest := []) ⟨hx, hb, hml, hown, hts⟩ (c_X3_fold l r14 (Int32.toInt64 r15) r17 er17) ⟨callB_of 2 hts gd_X3_fold rfl rfl rfl (hts _ wd_35) (hts _ wd_498) hd_X3_fold ⟨Nat.le_of_ble_eq_true rfl, Nat.le_of_ble_eq_true rfl⟩, hts _ wd_499⟩ ⟨bl0, fun U hU hW => ⟨rfl, trivial⟩⟩ rfl rfl hl.1 rfl (lv_room (Nat.le_of_ble_eq_true rfl)) dX3_foldQuestions_94 ⟨Nat.zero_le _, Nat.zero_le _⟩).run (fun r_ e_ => ?_)
        subst r_
        refine lv_aload_n hx hb dX3_foldQuestions_97 rfl (lv_at hl 0 rfl) ?_
        obtain ⟨r18, X19, er18, hw⟩ := bnd2_use hw
        refine va_calli (va_runV (As := []) (rest := [.long r17]) ⟨hx, hb, hml, hown, hts⟩ (c_X3_ask l dC dI A a cA X16 (r18, X19) er18) ⟨callB_of 0 hts gd_X3_ask rfl rfl rfl (hts _ wd_35) (hts _ wd_514) hd_X3_ask ⟨Nat.le_of_ble_eq_true rfl, Nat.le_of_ble_eq_true rfl⟩, hts _ wd_443, hts _ wd_444⟩ ⟨blXD, va_recv hK hP (ci := 3) (q0 := 0) rfl rfl, fun U hU hW => ⟨rfl, by rw [hU]; exact hP, va_K.moved hW.alike hK, nst.warm hW hN, wlD hD0⟩⟩ rfl rfl hl.1 rfl (lv_room (Nat.le_of_ble_eq_true rfl)) dX3_foldQuestions_98 ⟨Nat.zero_le _, Nat.zero_le _⟩) hS (fun _ _ h => h) (fun _ h => h) (fun r_ u_ t_ H1 locs1 ht hvm hp_ hB hz1 hk1 hS1 => ?_)
        obtain ⟨q1_, q2_⟩ := Prod.mk.inj hp_
        subst q1_
        subst q2_
        obtain ⟨hP1, hK1⟩ := hB
        rw [ht] at hP1
        have hP := hP1
        have hS := hS1
        refine lv_i2l hx hb dX3_foldQuestions_101 rfl ?_
        obtain ⟨r20, er20, hw⟩ := Option.bind_eq_some_iff.mp hw
        refine vp_callSl (va_runS (As := [.long r17, .long (Int32.toInt64 r18)]) (rest := []) ⟨hx, hb, hml, hown, hts⟩ (c_X3_fold l r17 (Int32.toInt64 r18) r20 er20) ⟨callB_of 2 hts gd_X3_fold rfl rfl rfl (hts _ wd_35) (hts _ wd_498) hd_X3_fold ⟨Nat.le_of_ble_eq_true rfl, Nat.le_of_ble_eq_true rfl⟩, hts _ wd_499⟩ ⟨bl0, fun U hU hW => ⟨rfl, trivial⟩⟩ rfl rfl hl.1 rfl (lv_room (Nat.le_of_ble_eq_true rfl)) dX3_foldQuestions_102 ⟨Nat.zero_le _, Nat.zero_le _⟩).run (fun r_ e_ => ?_)
        subst r_
        exact hret _ _ _ _ _ _ (Option.some.inj hw) hP hS dX3_foldQuestions_105
      · have hw := ite_f hw c11
        refine lv_lload_n hx hb dX3_foldQuestions_59 rfl (lv_at hl 1 rfl) ?_
        refine lv_iload hx hb dX3_foldQuestions_60 (lv_at hl 2 rfl) ?_
        refine lv_iload hx hb dX3_foldQuestions_62 (lv_at hl 3 rfl) ?_
        obtain ⟨r21, er21, hw⟩ := Option.bind_eq_some_iff.mp hw
        refine vp_callSi (va_runS (As := [.int v5, .int v6]) (rest := [.long v3]) ⟨hx, hb, hml, hown, hts⟩ (c_X0_partOfPlan l v5 v6 r21 er21) ⟨callB_of 2 hts gd_X0_partOfPlan rfl rfl rfl (hts _ wd_38) (hts _ wd_395) hd_X0_partOfPlan ⟨Nat.le_of_ble_eq_true rfl, Nat.le_of_ble_eq_true rfl⟩, hts _ wd_396⟩ ⟨bl0, fun U hU hW => ⟨rfl, trivial⟩⟩ rfl rfl hl.1 rfl (lv_room (Nat.le_of_ble_eq_true rfl)) dX3_foldQuestions_64 ⟨Nat.zero_le _, Nat.zero_le _⟩).run (fun r_ e_ => ?_)
        subst r_
        refine lv_i2l hx hb dX3_foldQuestions_67 rfl ?_
        obtain ⟨r22, er22, hw⟩ := Option.bind_eq_some_iff.mp hw
        refine vp_callSl (va_runS (As := [.long v3, .long (Int32.toInt64 r21)]) (rest := []) ⟨hx, hb, hml, hown, hts⟩ (c_X3_fold l v3 (Int32.toInt64 r21) r22 er22) ⟨callB_of 2 hts gd_X3_fold rfl rfl rfl (hts _ wd_35) (hts _ wd_498) hd_X3_fold ⟨Nat.le_of_ble_eq_true rfl, Nat.le_of_ble_eq_true rfl⟩, hts _ wd_499⟩ ⟨bl0, fun U hU hW => ⟨rfl, trivial⟩⟩ rfl rfl hl.1 rfl (lv_room (Nat.le_of_ble_eq_true rfl)) dX3_foldQuestions_68 ⟨Nat.zero_le _, Nat.zero_le _⟩).run (fun r_ e_ => ?_)
        subst r_
        refine lv_lstore_n (lv' := [(3, .long r22), (0, .ref (a 0)), (5, .int v5), (6, .int v6)]) hx hb dX3_foldQuestions_71 rfl hl (by decide) rfl (fun ls hl => ?_)
        obtain ⟨x23, ex23⟩ : ∃ y : Int32, y = (v6 + 1) := ⟨_, rfl⟩
        have hw := stp_use hw ex23
        refine lv_iinc (v := x23) (lv' := [(6, .int x23), (3, .long r22), (0, .ref (a 0)), (5, .int v5)]) hx hb dX3_foldQuestions_72 hl (k := 3) rfl (by rw [ex23]; rfl) (by decide) rfl (fun ls hl => ?_)
        refine lv_goto (tgt := 52) hx hb dX3_foldQuestions_75 (by decide) ?_
        exact ih X r22 x23 hw _ _ hP hS ls (lv_sub hl [2, 1, 3, 0] rfl)
  have hl := lv_entry ([.ref (a 0), .long p1]) (n := 7) (Nat.le_of_ble_eq_true rfl)
  rw [lg_entry_eq]
  generalize (lg_sl ([.ref (a 0), .long p1]) ++ List.replicate (7 - (lg_sl ([.ref (a 0), .long p1])).length) Slot.unset).toArray = ls at hl ⊢
  have hl : lv_has ls 7 [(0, .ref (a 0)), (1, .long p1)] := hl
  refine lv_lload_n hx hb dX3_foldQuestions_0 rfl (lv_at hl 1 rfl) ?_
  refine lv_aload_n hx hb dX3_foldQuestions_1 rfl (lv_at hl 0 rfl) ?_
  refine lv_iconst (v := 0) hx hb dX3_foldQuestions_2 (by decide) ?_
  obtain ⟨r1, X2, er1, hw⟩ := bnd2_use hw
  refine va_calli (va_runV (As := [.int 0]) (rest := [.long p1]) ⟨hx, hb, hml, hown, hts⟩ (c_X3_least l dC dI A a cA X 0 (r1, X2) er1) ⟨callB_of 1 hts gd_X3_least rfl rfl rfl (hts _ wd_35) (hts _ wd_512) hd_X3_least ⟨Nat.le_of_ble_eq_true rfl, Nat.le_of_ble_eq_true rfl⟩, hts _ wd_371, hts _ wd_372⟩ ⟨blXD, va_recv hK hP (ci := 3) (q0 := 0) rfl rfl, fun U hU hW => ⟨rfl, by rw [hU]; exact hP, va_K.moved hW.alike hK, nst.warm hW hN, wlD hD0⟩⟩ rfl rfl hl.1 rfl (lv_room (Nat.le_of_ble_eq_true rfl)) dX3_foldQuestions_3 ⟨Nat.zero_le _, Nat.zero_le _⟩) hS (fun _ _ h => h) (fun _ h => h) (fun r_ u_ t_ H1 locs1 ht hvm hp_ hB hz1 hk1 hS1 => ?_)
  obtain ⟨q1_, q2_⟩ := Prod.mk.inj hp_
  subst q1_
  subst q2_
  obtain ⟨hP1, hK1⟩ := hB
  rw [ht] at hP1
  have hP := hP1
  have hS := hS1
  refine lv_i2l hx hb dX3_foldQuestions_6 rfl ?_
  obtain ⟨r3, er3, hw⟩ := Option.bind_eq_some_iff.mp hw
  refine vp_callSl (va_runS (As := [.long p1, .long (Int32.toInt64 r1)]) (rest := []) ⟨hx, hb, hml, hown, hts⟩ (c_X3_fold l p1 (Int32.toInt64 r1) r3 er3) ⟨callB_of 2 hts gd_X3_fold rfl rfl rfl (hts _ wd_35) (hts _ wd_498) hd_X3_fold ⟨Nat.le_of_ble_eq_true rfl, Nat.le_of_ble_eq_true rfl⟩, hts _ wd_499⟩ ⟨bl0, fun U hU hW => ⟨rfl, trivial⟩⟩ rfl rfl hl.1 rfl (lv_room (Nat.le_of_ble_eq_true rfl)) dX3_foldQuestions_7 ⟨Nat.zero_le _, Nat.zero_le _⟩).run (fun r_ e_ => ?_)
  subst r_
  refine lv_aload_n hx hb dX3_foldQuestions_10 rfl (lv_at hl 0 rfl) ?_
  refine lv_iconst (v := 1) hx hb dX3_foldQuestions_11 (by decide) ?_
  obtain ⟨r4, X5, er4, hw⟩ := bnd2_use hw
  refine va_calli (va_runV (As := [.int 1]) (rest := [.long r3]) ⟨hx, hb, hml, hown, hts⟩ (c_X3_least l dC dI A a cA X2 1 (r4, X5) er4) ⟨callB_of 1 hts gd_X3_least rfl rfl rfl (hts _ wd_35) (hts _ wd_512) hd_X3_least ⟨Nat.le_of_ble_eq_true rfl, Nat.le_of_ble_eq_true rfl⟩, hts _ wd_371, hts _ wd_372⟩ ⟨blXD, va_recv hK hP (ci := 3) (q0 := 0) rfl rfl, fun U hU hW => ⟨rfl, by rw [hU]; exact hP, va_K.moved hW.alike hK, nst.warm hW hN, wlD hD0⟩⟩ rfl rfl hl.1 rfl (lv_room (Nat.le_of_ble_eq_true rfl)) dX3_foldQuestions_12 ⟨Nat.zero_le _, Nat.zero_le _⟩) hS (fun _ _ h => h) (fun _ h => h) (fun r_ u_ t_ H1 locs1 ht hvm hp_ hB hz1 hk1 hS1 => ?_)
  obtain ⟨q1_, q2_⟩ := Prod.mk.inj hp_
  subst q1_
  subst q2_
  obtain ⟨hP1, hK1⟩ := hB
  rw [ht] at hP1
  have hP := hP1
  have hS := hS1
  refine lv_i2l hx hb dX3_foldQuestions_15 rfl ?_
  obtain ⟨r6, er6, hw⟩ := Option.bind_eq_some_iff.mp hw
  refine vp_callSl (va_runS (As := [.long r3, .long (Int32.toInt64 r4)]) (rest := []) ⟨hx, hb, hml, hown, hts⟩ (c_X3_fold l r3 (Int32.toInt64 r4) r6 er6) ⟨callB_of 2 hts gd_X3_fold rfl rfl rfl (hts _ wd_35) (hts _ wd_498) hd_X3_fold ⟨Nat.le_of_ble_eq_true rfl, Nat.le_of_ble_eq_true rfl⟩, hts _ wd_499⟩ ⟨bl0, fun U hU hW => ⟨rfl, trivial⟩⟩ rfl rfl hl.1 rfl (lv_room (Nat.le_of_ble_eq_true rfl)) dX3_foldQuestions_16 ⟨Nat.zero_le _, Nat.zero_le _⟩).run (fun r_ e_ => ?_)
  subst r_
  refine lv_lstore_n (lv' := [(3, .long r6), (0, .ref (a 0)), (1, .long p1)]) hx hb dX3_foldQuestions_19 rfl hl (by decide) rfl (fun ls hl => ?_)
  refine lv_aload_n hx hb dX3_foldQuestions_20 rfl (lv_at hl 1 rfl) ?_
  refine va_get (D := (dC, dI)) (ci := 3) (v := .ref (a 3)) (C := RX3) (T := TX3) (N := 6) hx hb hts iX3 hown hK hP 0 rfl rfl 1 (by decide) (hts _ wd_179) (fun _ h9 => h9) rfl dX3_foldQuestions_21 ?_
  refine lv_aload_n hx hb dX3_foldQuestions_24 rfl (lv_at hl 1 rfl) ?_
  refine va_get (D := (dC, dI)) (ci := 3) (v := .ref (a 3)) (C := RX3) (T := TX3) (N := 6) hx hb hts iX3 hown hK hP 0 rfl rfl 1 (by decide) (hts _ wd_179) (fun _ h9 => h9) rfl dX3_foldQuestions_25 ?_
  obtain ⟨r7, er7, hw⟩ := Option.bind_eq_some_iff.mp hw
  refine vp_callSi (va_runV (As := []) (rest := [.ref (a 3)]) ⟨hx, hb, hml, hown, hts⟩ (c_X2_everyone l dC dI a cA X5 r7 er7) ⟨callB_of 0 hts gd_X2_everyone rfl rfl rfl (hts _ wd_37) (hts _ wd_385) hd_X2_everyone ⟨Nat.le_of_ble_eq_true rfl, Nat.le_of_ble_eq_true rfl⟩, hts _ wd_386, hts _ wd_387⟩ ⟨blX, va_recv hK hP (ci := 2) (q0 := 3) rfl rfl, fun U hU hW => ⟨rfl, by rw [hU]; exact hP, va_K.moved hW.alike hK, nst.warm hW hN⟩⟩ rfl rfl hl.1 rfl (lv_room (Nat.le_of_ble_eq_true rfl)) dX3_foldQuestions_28 ⟨Nat.zero_le _, Nat.zero_le _⟩).run (fun r_ e_ => ?_)
  subst r_
  obtain ⟨r8, er8, hw⟩ := Option.bind_eq_some_iff.mp hw
  refine vp_callSi (va_runS (As := [.ref (a 3), .int r7]) (rest := []) ⟨hx, hb, hml, hown, hts⟩ (c_X0_coverPlan l dC dI a cA X5 r7 r8 er8) ⟨callB_of 2 hts gd_X0_coverPlan rfl rfl rfl (hts _ wd_38) (hts _ wd_389) hd_X0_coverPlan ⟨Nat.le_of_ble_eq_true rfl, Nat.le_of_ble_eq_true rfl⟩, hts _ wd_390⟩ ⟨blX, fun U hU hW => ⟨rfl, by rw [hU]; exact hP, va_K.moved hW.alike hK, nst.warm hW hN⟩⟩ rfl rfl hl.1 rfl (lv_room (Nat.le_of_ble_eq_true rfl)) dX3_foldQuestions_31 ⟨Nat.zero_le _, Nat.zero_le _⟩).run (fun r_ e_ => ?_)
  subst r_
  refine lv_istore (lv' := [(5, .int r8), (3, .long r6), (0, .ref (a 0)), (1, .long p1)]) hx hb dX3_foldQuestions_34 hl (by decide) rfl (fun ls hl => ?_)
  refine lv_lload_n hx hb dX3_foldQuestions_36 rfl (lv_at hl 1 rfl) ?_
  refine lv_iload hx hb dX3_foldQuestions_37 (lv_at hl 0 rfl) ?_
  refine lv_iconst (v := 0) hx hb dX3_foldQuestions_39 (by decide) ?_
  obtain ⟨r9, er9, hw⟩ := Option.bind_eq_some_iff.mp hw
  refine vp_callSi (va_runS (As := [.int r8, .int 0]) (rest := [.long r6]) ⟨hx, hb, hml, hown, hts⟩ (c_X0_partOfPlan l r8 0 r9 er9) ⟨callB_of 2 hts gd_X0_partOfPlan rfl rfl rfl (hts _ wd_38) (hts _ wd_395) hd_X0_partOfPlan ⟨Nat.le_of_ble_eq_true rfl, Nat.le_of_ble_eq_true rfl⟩, hts _ wd_396⟩ ⟨bl0, fun U hU hW => ⟨rfl, trivial⟩⟩ rfl rfl hl.1 rfl (lv_room (Nat.le_of_ble_eq_true rfl)) dX3_foldQuestions_40 ⟨Nat.zero_le _, Nat.zero_le _⟩).run (fun r_ e_ => ?_)
  subst r_
  refine lv_i2l hx hb dX3_foldQuestions_43 rfl ?_
  obtain ⟨r10, er10, hw⟩ := Option.bind_eq_some_iff.mp hw
  refine vp_callSl (va_runS (As := [.long r6, .long (Int32.toInt64 r9)]) (rest := []) ⟨hx, hb, hml, hown, hts⟩ (c_X3_fold l r6 (Int32.toInt64 r9) r10 er10) ⟨callB_of 2 hts gd_X3_fold rfl rfl rfl (hts _ wd_35) (hts _ wd_498) hd_X3_fold ⟨Nat.le_of_ble_eq_true rfl, Nat.le_of_ble_eq_true rfl⟩, hts _ wd_499⟩ ⟨bl0, fun U hU hW => ⟨rfl, trivial⟩⟩ rfl rfl hl.1 rfl (lv_room (Nat.le_of_ble_eq_true rfl)) dX3_foldQuestions_44 ⟨Nat.zero_le _, Nat.zero_le _⟩).run (fun r_ e_ => ?_)
  subst r_
  refine lv_lstore_n (lv' := [(3, .long r10), (5, .int r8), (0, .ref (a 0)), (1, .long p1)]) hx hb dX3_foldQuestions_47 rfl hl (by decide) rfl (fun ls hl => ?_)
  refine lv_bipush (v := 10) hx hb dX3_foldQuestions_48 (by decide) ?_
  refine lv_istore (lv' := [(6, .int 10), (3, .long r10), (5, .int r8), (0, .ref (a 0)), (1, .long p1)]) hx hb dX3_foldQuestions_50 hl (by decide) rfl (fun ls hl => ?_)
  exact L52 r8 NF X5 r10 10 hw _ _ hP hS ls (lv_sub hl [3, 1, 2, 0] rfl)
set_option maxHeartbeats 4000000 in
set_option maxRecDepth 100000 in
theorem c_X3_digest (l : Launch) (dC : Nat → ClassId) (dI : Nat → Nat → Nat) (A : Nat → Prop) (a : Nat → Nat) (cA : ClassId) (X : WS) (out : (Int64 × WS)) (hw : f_X3_digest X = some out) : Met l yX3_digest (.code yX3_digest cX3_digest 4 (some .long) :: lw_g) ({ frames := 17, cells := 0, slots := 0, locals := 462 }) (PcXD dC dI A a cA X [.ref (a 0)]) (va_Ql (fun (r_ : Int64) (X_ : WS) => out = (r_, X_)) (fun X_ t => va_P (dC, dI) classes (wl a cA X_) t.heap ∧ va_K (dC, dI) classes [(cA, .int)] t) A) 0 0 (A) := by
  unfold f_X3_digest at hw
  refine Met.ofW (cc := cX3_digest) (maxL := 4) (ret := (some .long)) (by decide) rfl ?_
  intro p e s m args below meth c s₁ B hml hv
  obtain ⟨rfl, hP, hK, hN, hD0⟩ := hv
  have hx := B.exec
  have hb := B.bytes
  have hr := B.returns
  have hts0 := atoms_spec (ws := (.code yX3_digest cX3_digest 4 (some .long) :: lw_g)) B.pre
  have hts : ∀ w ∈ lw_g, w.before (([.ref (a 0)] : List Value).toArray) s = true := fun w h => hts0 w (List.mem_cons_of_mem _ h)
  clear hts0
  have hown : s.vm.findClass RX3 = some m.cls := findClass_of_methodNamed B.named
  have hlocks := B.notSynchronized
  have hret : ∀ (pc : Nat) (ls : Array Slot) (v : Int64) (X_ : WS) (H : Heap) (locs : List Loc), (v, X_) = out → va_P (dC, dI) classes (wl a cA X_) H → va_S A s.heap H locs → decode cX3_digest pc = .ok (.lreturn, 1) → W p l e ({ frames := 17, cells := 0, slots := 0, locals := 462 }) s m (([.ref (a 0)] : List Value).toArray) below meth c H locs 0 0 (MQ below (va_Ql (fun (r_ : Int64) (X_ : WS) => out = (r_, X_)) (fun X_ t => va_P (dC, dI) classes (wl a cA X_) t.heap ∧ va_K (dC, dI) classes [(cA, .int)] t) A) (([.ref (a 0)] : List Value).toArray) s 0 0 (A)) (F0 m pc ls [.long v]) := fun pc ls v X_ H locs hv hP hS hd => W.lret hx hb hr (fun t ht hW => ⟨⟨v, X_, rfl, hv.symm, by rw [ht]; exact hP, va_K.moved hW.alike hK⟩, hS.F ht⟩) hS.2.2 hd
  show W p l e ({ frames := 17, cells := 0, slots := 0, locals := 462 }) s m (([.ref (a 0)] : List Value).toArray) below meth c s.heap [] 0 0 (MQ below (va_Ql (fun (r_ : Int64) (X_ : WS) => out = (r_, X_)) (fun X_ t => va_P (dC, dI) classes (wl a cA X_) t.heap ∧ va_K (dC, dI) classes [(cA, .int)] t) A) (([.ref (a 0)] : List Value).toArray) s 0 0 (A)) (entryFrame m (([.ref (a 0)] : List Value).toArray) 4)
  generalize MQ below (va_Ql (fun (r_ : Int64) (X_ : WS) => out = (r_, X_)) (fun X_ t => va_P (dC, dI) classes (wl a cA X_) t.heap ∧ va_K (dC, dI) classes [(cA, .int)] t) A) (([.ref (a 0)] : List Value).toArray) s 0 0 (A) = Q at hret ⊢
  have hS : va_S A s.heap s.heap [] := va_S.rf
  have L61 : ∀ n : Nat, ∀ (X : WS), ∀ (v1 : Int64), ∀ (v3 : Int32), g_X3_digest_61 n X v1 v3 = some out → ∀ (H : Heap) (locs : List Loc), va_P (dC, dI) classes (wl a cA X) H → va_S A s.heap H locs → ∀ ls : Array Slot, lv_has ls 4 [(0, .ref (a 0)), (1, .long v1), (3, .int v3)] → W p l e ({ frames := 17, cells := 0, slots := 0, locals := 462 }) s m (([.ref (a 0)] : List Value).toArray) below meth c H locs 0 0 Q (F0 m 61 ls []) := by
    intro n
    induction n with
    | zero =>
      intro X v1 v3 hw
      rw [g_X3_digest_61] at hw
      cases hw
    | succ n ih =>
      intro X v1 v3 hw H locs hP hS ls hl
      rw [g_X3_digest_61] at hw
      refine lv_iload_n hx hb dX3_digest_61 rfl (lv_at hl 2 rfl) ?_
      refine lv_bipush (v := 9) hx hb dX3_digest_62 (by decide) ?_
      refine lv_icmp_gt (tgt := 84) hx hb dX3_digest_64 (by decide) (fun c5 => ?_) (fun c5 => ?_)
      · have hw := ite_t hw c5
        refine lv_lload_n hx hb dX3_digest_84 rfl (lv_at hl 1 rfl) ?_
        exact hret _ _ _ _ _ _ (Option.some.inj hw) hP hS dX3_digest_85
      · have hw := ite_f hw c5
        refine lv_lload_n hx hb dX3_digest_67 rfl (lv_at hl 1 rfl) ?_
        refine lv_aload_n hx hb dX3_digest_68 rfl (lv_at hl 0 rfl) ?_
        refine lv_iload_n hx hb dX3_digest_69 rfl (lv_at hl 2 rfl) ?_
        obtain ⟨r6, er6, hw⟩ := Option.bind_eq_some_iff.mp hw
        refine vp_callSi (va_runV (As := [.int v3]) (rest := [.long v1]) ⟨hx, hb, hml, hown, hts⟩ (c_X3_count l dC dI a cA X v3 r6 er6) ⟨callB_of 1 hts gd_X3_count rfl rfl rfl (hts _ wd_35) (hts _ wd_515) hd_X3_count ⟨Nat.le_of_ble_eq_true rfl, Nat.le_of_ble_eq_true rfl⟩, hts _ wd_485, hts _ wd_486⟩ ⟨blX, va_recv hK hP (ci := 3) (q0 := 0) rfl rfl, fun U hU hW => ⟨rfl, by rw [hU]; exact hP, va_K.moved hW.alike hK, nst.warm hW hN⟩⟩ rfl rfl hl.1 rfl (lv_room (Nat.le_of_ble_eq_true rfl)) dX3_digest_70 ⟨Nat.zero_le _, Nat.zero_le _⟩).run (fun r_ e_ => ?_)
        subst r_
        refine lv_i2l hx hb dX3_digest_73 rfl ?_
        obtain ⟨r7, er7, hw⟩ := Option.bind_eq_some_iff.mp hw
        refine vp_callSl (va_runS (As := [.long v1, .long (Int32.toInt64 r6)]) (rest := []) ⟨hx, hb, hml, hown, hts⟩ (c_X3_fold l v1 (Int32.toInt64 r6) r7 er7) ⟨callB_of 2 hts gd_X3_fold rfl rfl rfl (hts _ wd_35) (hts _ wd_498) hd_X3_fold ⟨Nat.le_of_ble_eq_true rfl, Nat.le_of_ble_eq_true rfl⟩, hts _ wd_499⟩ ⟨bl0, fun U hU hW => ⟨rfl, trivial⟩⟩ rfl rfl hl.1 rfl (lv_room (Nat.le_of_ble_eq_true rfl)) dX3_digest_74 ⟨Nat.zero_le _, Nat.zero_le _⟩).run (fun r_ e_ => ?_)
        subst r_
        refine lv_lstore_n (lv' := [(1, .long r7), (0, .ref (a 0)), (3, .int v3)]) hx hb dX3_digest_77 rfl hl (by decide) rfl (fun ls hl => ?_)
        obtain ⟨x8, ex8⟩ : ∃ y : Int32, y = (v3 + 1) := ⟨_, rfl⟩
        have hw := stp_use hw ex8
        refine lv_iinc (v := x8) (lv' := [(3, .int x8), (1, .long r7), (0, .ref (a 0))]) hx hb dX3_digest_78 hl (k := 2) rfl (by rw [ex8]; rfl) (by decide) rfl (fun ls hl => ?_)
        refine lv_goto (tgt := 61) hx hb dX3_digest_81 (by decide) ?_
        exact ih X r7 x8 hw _ _ hP hS ls (lv_sub hl [2, 1, 0] rfl)
  have L27 : ∀ n : Nat, ∀ (X : WS), ∀ (v1 : Int64), ∀ (v3 : Int32), g_X3_digest_27 n X v1 v3 = some out → ∀ (H : Heap) (locs : List Loc), va_P (dC, dI) classes (wl a cA X) H → va_S A s.heap H locs → ∀ ls : Array Slot, lv_has ls 4 [(0, .ref (a 0)), (1, .long v1), (3, .int v3)] → W p l e ({ frames := 17, cells := 0, slots := 0, locals := 462 }) s m (([.ref (a 0)] : List Value).toArray) below meth c H locs 0 0 Q (F0 m 27 ls []) := by
    intro n
    induction n with
    | zero =>
      intro X v1 v3 hw
      rw [g_X3_digest_27] at hw
      cases hw
    | succ n ih =>
      intro X v1 v3 hw H locs hP hS ls hl
      rw [g_X3_digest_27] at hw
      refine lv_iload_n hx hb dX3_digest_27 rfl (lv_at hl 2 rfl) ?_
      refine lv_aload_n hx hb dX3_digest_28 rfl (lv_at hl 0 rfl) ?_
      refine va_get (D := (dC, dI)) (ci := 3) (v := .ref (a 1)) (C := RX3) (T := TX3) (N := 6) hx hb hts iX3 hown hK hP 0 rfl rfl 0 (by decide) (hts _ wd_178) (fun _ h9 => h9) rfl dX3_digest_29 ?_
      refine va_getN (D := (dC, dI)) (ci := 1) (v := .int (X 1 1)) (C := RX1) (T := TX1) (N := 2) hx hb hts iX1 hown hK hP 1 rfl rfl 1 (by decide) (va_Nw.use rfl (hN _ nk_60)) (fun _ h9 => h9) rfl dX3_digest_32 ?_
      refine lv_icmp_ge (tgt := 59) hx hb dX3_digest_35 (by decide) (fun c4 => ?_) (fun c4 => ?_)
      · have hw := ite_t hw c4
        refine lv_iconst (v := 0) hx hb dX3_digest_59 (by decide) ?_
        refine lv_istore_n (lv' := [(3, .int 0), (0, .ref (a 0)), (1, .long v1)]) hx hb dX3_digest_60 rfl hl (by decide) rfl (fun ls hl => ?_)
        exact L61 NF X v1 0 hw _ _ hP hS ls (lv_sub hl [1, 2, 0] rfl)
      · have hw := ite_f hw c4
        refine lv_lload_n hx hb dX3_digest_38 rfl (lv_at hl 1 rfl) ?_
        refine lv_aload_n hx hb dX3_digest_39 rfl (lv_at hl 0 rfl) ?_
        refine va_get (D := (dC, dI)) (ci := 3) (v := .ref (a 1)) (C := RX3) (T := TX3) (N := 6) hx hb hts iX3 hown hK hP 0 rfl rfl 0 (by decide) (hts _ wd_178) (fun _ h9 => h9) rfl dX3_digest_40 ?_
        refine va_getN (D := (dC, dI)) (ci := 1) (v := .ref (a 2)) (C := RX1) (T := TX1) (N := 2) hx hb hts iX1 hown hK hP 1 rfl rfl 0 (by decide) (va_Nw.use rfl (hN _ nk_58)) (fun _ h9 => h9) rfl dX3_digest_43 ?_
        refine lv_iload_n hx hb dX3_digest_46 rfl (lv_at hl 2 rfl) ?_
        obtain ⟨h9, hw⟩ := ixc_use hw
        refine va_iald hx hb hK hP 2 0 rfl rfl h9 dX3_digest_47 ?_
        refine lv_i2l hx hb dX3_digest_48 rfl ?_
        obtain ⟨r10, er10, hw⟩ := Option.bind_eq_some_iff.mp hw
        refine vp_callSl (va_runS (As := [.long v1, .long (Int32.toInt64 (X 2 (Int32.toNatClampNeg v3)))]) (rest := []) ⟨hx, hb, hml, hown, hts⟩ (c_X3_fold l v1 (Int32.toInt64 (X 2 (Int32.toNatClampNeg v3))) r10 er10) ⟨callB_of 2 hts gd_X3_fold rfl rfl rfl (hts _ wd_35) (hts _ wd_498) hd_X3_fold ⟨Nat.le_of_ble_eq_true rfl, Nat.le_of_ble_eq_true rfl⟩, hts _ wd_499⟩ ⟨bl0, fun U hU hW => ⟨rfl, trivial⟩⟩ rfl rfl hl.1 rfl (lv_room (Nat.le_of_ble_eq_true rfl)) dX3_digest_49 ⟨Nat.zero_le _, Nat.zero_le _⟩).run (fun r_ e_ => ?_)
        subst r_
        refine lv_lstore_n (lv' := [(1, .long r10), (0, .ref (a 0)), (3, .int v3)]) hx hb dX3_digest_52 rfl hl (by decide) rfl (fun ls hl => ?_)
        obtain ⟨x11, ex11⟩ : ∃ y : Int32, y = (v3 + 1) := ⟨_, rfl⟩
        have hw := stp_use hw ex11
        refine lv_iinc (v := x11) (lv' := [(3, .int x11), (1, .long r10), (0, .ref (a 0))]) hx hb dX3_digest_53 hl (k := 2) rfl (by rw [ex11]; rfl) (by decide) rfl (fun ls hl => ?_)
        refine lv_goto (tgt := 27) hx hb dX3_digest_56 (by decide) ?_
        exact ih X r10 x11 hw _ _ hP hS ls (lv_sub hl [2, 1, 0] rfl)
  have hl := lv_entry ([.ref (a 0)]) (n := 4) (Nat.le_of_ble_eq_true rfl)
  rw [lg_entry_eq]
  generalize (lg_sl ([.ref (a 0)]) ++ List.replicate (4 - (lg_sl ([.ref (a 0)])).length) Slot.unset).toArray = ls at hl ⊢
  have hl : lv_has ls 4 [(0, .ref (a 0))] := hl
  refine lv_aload_n hx hb dX3_digest_0 rfl (lv_at hl 0 rfl) ?_
  refine lv_ldc2 hx hb hown (hts _ wd_492) dX3_digest_1 ?_
  obtain ⟨r1, er1, hw⟩ := Option.bind_eq_some_iff.mp hw
  refine vp_callSl (va_runV (As := [.long 1009]) (rest := []) ⟨hx, hb, hml, hown, hts⟩ (c_X3_foldListeners l dC dI a cA X 1009 r1 er1) ⟨callB_of 1 hts gd_X3_foldListeners rfl rfl rfl (hts _ wd_35) (hts _ wd_493) hd_X3_foldListeners ⟨Nat.le_of_ble_eq_true rfl, Nat.le_of_ble_eq_true rfl⟩, hts _ wd_495, hts _ wd_7⟩ ⟨blX, va_recv hK hP (ci := 3) (q0 := 0) rfl rfl, fun U hU hW => ⟨rfl, by rw [hU]; exact hP, va_K.moved hW.alike hK, nst.warm hW hN⟩⟩ rfl rfl hl.1 rfl (lv_room (Nat.le_of_ble_eq_true rfl)) dX3_digest_4 ⟨Nat.zero_le _, Nat.zero_le _⟩).run (fun r_ e_ => ?_)
  subst r_
  refine lv_lstore_n (lv' := [(1, .long r1), (0, .ref (a 0))]) hx hb dX3_digest_7 rfl hl (by decide) rfl (fun ls hl => ?_)
  refine lv_aload_n hx hb dX3_digest_8 rfl (lv_at hl 1 rfl) ?_
  obtain ⟨r2, er2, hw⟩ := Option.bind_eq_some_iff.mp hw
  refine vp_callSi (va_runV (As := []) (rest := []) ⟨hx, hb, hml, hown, hts⟩ (c_X3_hasTown l dC dI a cA X r2 er2) ⟨callB_of 0 hts gd_X3_hasTown rfl rfl rfl (hts _ wd_35) (hts _ wd_257) hd_X3_hasTown ⟨Nat.le_of_ble_eq_true rfl, Nat.le_of_ble_eq_true rfl⟩, hts _ wd_259, hts _ wd_1⟩ ⟨blX, va_recv hK hP (ci := 3) (q0 := 0) rfl rfl, fun U hU hW => ⟨rfl, by rw [hU]; exact hP, va_K.moved hW.alike hK, nst.warm hW hN⟩⟩ rfl rfl hl.1 rfl (lv_room (Nat.le_of_ble_eq_true rfl)) dX3_digest_9 ⟨Nat.zero_le _, Nat.zero_le _⟩).run (fun r_ e_ => ?_)
  subst r_
  refine lv_if_eq (tgt := 25) hx hb dX3_digest_12 (by decide) (fun c3 => ?_) (fun c3 => ?_)
  · have hw := ite_t hw c3
    refine lv_iconst (v := 0) hx hb dX3_digest_25 (by decide) ?_
    refine lv_istore_n (lv' := [(3, .int 0), (1, .long r1), (0, .ref (a 0))]) hx hb dX3_digest_26 rfl hl (by decide) rfl (fun ls hl => ?_)
    exact L27 NF X r1 0 hw _ _ hP hS ls (lv_sub hl [2, 1, 0] rfl)
  · have hw := ite_f hw c3
    refine lv_aload_n hx hb dX3_digest_15 rfl (lv_at hl 1 rfl) ?_
    refine lv_aload_n hx hb dX3_digest_16 rfl (lv_at hl 1 rfl) ?_
    refine lv_lload_n hx hb dX3_digest_17 rfl (lv_at hl 0 rfl) ?_
    obtain ⟨r12, er12, hw⟩ := Option.bind_eq_some_iff.mp hw
    refine vp_callSl (va_runV (As := [.long r1]) (rest := [.ref (a 0)]) ⟨hx, hb, hml, hown, hts⟩ (c_X3_foldPlaces l dC dI a cA X r1 r12 er12) ⟨callB_of 1 hts gd_X3_foldPlaces rfl rfl rfl (hts _ wd_35) (hts _ wd_502) hd_X3_foldPlaces ⟨Nat.le_of_ble_eq_true rfl, Nat.le_of_ble_eq_true rfl⟩, hts _ wd_504, hts _ wd_8⟩ ⟨blX, va_recv hK hP (ci := 3) (q0 := 0) rfl rfl, fun U hU hW => ⟨rfl, by rw [hU]; exact hP, va_K.moved hW.alike hK, nst.warm hW hN⟩⟩ rfl rfl hl.1 rfl (lv_room (Nat.le_of_ble_eq_true rfl)) dX3_digest_18 ⟨Nat.zero_le _, Nat.zero_le _⟩).run (fun r_ e_ => ?_)
    subst r_
    obtain ⟨r13, X14, er13, hw⟩ := bnd2_use hw
    refine va_calll (va_runV (As := [.long r12]) (rest := []) ⟨hx, hb, hml, hown, hts⟩ (c_X3_foldQuestions l dC dI A a cA X r12 (r13, X14) er13) ⟨callB_of 1 hts gd_X3_foldQuestions rfl rfl rfl (hts _ wd_35) (hts _ wd_508) hd_X3_foldQuestions ⟨Nat.le_of_ble_eq_true rfl, Nat.le_of_ble_eq_true rfl⟩, hts _ wd_510, hts _ wd_9⟩ ⟨blXD, va_recv hK hP (ci := 3) (q0 := 0) rfl rfl, fun U hU hW => ⟨rfl, by rw [hU]; exact hP, va_K.moved hW.alike hK, nst.warm hW hN, wlD hD0⟩⟩ rfl rfl hl.1 rfl (lv_room (Nat.le_of_ble_eq_true rfl)) dX3_digest_21 ⟨Nat.zero_le _, Nat.zero_le _⟩) hS (fun _ _ h => h) (fun _ h => h) (fun r_ u_ t_ H1 locs1 ht hvm hp_ hB hz1 hk1 hS1 => ?_)
    obtain ⟨q1_, q2_⟩ := Prod.mk.inj hp_
    subst q1_
    subst q2_
    obtain ⟨hP1, hK1⟩ := hB
    rw [ht] at hP1
    have hP := hP1
    have hS := hS1
    refine lv_lstore_n (lv' := [(1, .long r13), (0, .ref (a 0))]) hx hb dX3_digest_24 rfl hl (by decide) rfl (fun ls hl => ?_)
    refine lv_iconst (v := 0) hx hb dX3_digest_25 (by decide) ?_
    refine lv_istore_n (lv' := [(3, .int 0), (1, .long r13), (0, .ref (a 0))]) hx hb dX3_digest_26 rfl hl (by decide) rfl (fun ls hl => ?_)
    exact L27 NF X14 r13 0 hw _ _ hP hS ls (lv_sub hl [2, 1, 0] rfl)
set_option maxHeartbeats 4000000 in
set_option maxRecDepth 100000 in
theorem c_X4_say (l : Launch) (dC : Nat → ClassId) (dI : Nat → Nat → Nat) (A : Nat → Prop) (a : Nat → Nat) (cA : ClassId) (X : MS) (p1 : Int64) (out : MS) (hw : f_X4_say X p1 = some out) : Met l yX4_say (.code yX4_say cX4_say 3 none :: lw_g) ({ frames := 0, cells := 0, slots := 0, locals := 0 }) (PcMD dC dI A a cA X [.ref (a 0), .long p1]) (va_Qv (fun X_ : MS => out = X_) (fun X_ t => va_P (dC, dI) classes (wm a cA X_) t.heap ∧ va_K (dC, dI) classes [(cA, .int)] t) A) 0 0 (A) := by
  unfold f_X4_say at hw
  refine Met.ofW (cc := cX4_say) (maxL := 3) (ret := none) (by decide) rfl ?_
  intro p e s m args below meth c s₁ B hml hv
  obtain ⟨rfl, hP, hK, hD0⟩ := hv
  have hx := B.exec
  have hb := B.bytes
  have hr := B.returns
  have hts0 := atoms_spec (ws := (.code yX4_say cX4_say 3 none :: lw_g)) B.pre
  have hts : ∀ w ∈ lw_g, w.before (([.ref (a 0), .long p1] : List Value).toArray) s = true := fun w h => hts0 w (List.mem_cons_of_mem _ h)
  clear hts0
  have hown : s.vm.findClass RX4 = some m.cls := findClass_of_methodNamed B.named
  have hlocks := B.notSynchronized
  have hret : ∀ (pc : Nat) (ls : Array Slot) (X_ : MS) (H : Heap) (locs : List Loc), X_ = out → va_P (dC, dI) classes (wm a cA X_) H → va_S A s.heap H locs → decode cX4_say pc = .ok (.return_, 1) → W p l e ({ frames := 0, cells := 0, slots := 0, locals := 0 }) s m (([.ref (a 0), .long p1] : List Value).toArray) below meth c H locs 0 0 (MQ below (va_Qv (fun X_ : MS => out = X_) (fun X_ t => va_P (dC, dI) classes (wm a cA X_) t.heap ∧ va_K (dC, dI) classes [(cA, .int)] t) A) (([.ref (a 0), .long p1] : List Value).toArray) s 0 0 (A)) (F0 m pc ls []) := fun pc ls X_ H locs hv hP hS hd => W.vret hx hb hr (fun t ht hW => ⟨⟨X_, rfl, hv.symm, by rw [ht]; exact hP, va_K.moved hW.alike hK⟩, hS.F ht⟩) hS.2.2 hd
  show W p l e ({ frames := 0, cells := 0, slots := 0, locals := 0 }) s m (([.ref (a 0), .long p1] : List Value).toArray) below meth c s.heap [] 0 0 (MQ below (va_Qv (fun X_ : MS => out = X_) (fun X_ t => va_P (dC, dI) classes (wm a cA X_) t.heap ∧ va_K (dC, dI) classes [(cA, .int)] t) A) (([.ref (a 0), .long p1] : List Value).toArray) s 0 0 (A)) (entryFrame m (([.ref (a 0), .long p1] : List Value).toArray) 3)
  generalize MQ below (va_Qv (fun X_ : MS => out = X_) (fun X_ t => va_P (dC, dI) classes (wm a cA X_) t.heap ∧ va_K (dC, dI) classes [(cA, .int)] t) A) (([.ref (a 0), .long p1] : List Value).toArray) s 0 0 (A) = Q at hret ⊢
  have hS : va_S A s.heap s.heap [] := va_S.rf
  have hl := lv_entry ([.ref (a 0), .long p1]) (n := 3) (Nat.le_of_ble_eq_true rfl)
  rw [lg_entry_eq]
  generalize (lg_sl ([.ref (a 0), .long p1]) ++ List.replicate (3 - (lg_sl ([.ref (a 0), .long p1])).length) Slot.unset).toArray = ls at hl ⊢
  have hl : lv_has ls 3 [(0, .ref (a 0)), (1, .long p1)] := hl
  refine lv_aload_n hx hb dX4_say_0 rfl (lv_at hl 0 rfl) ?_
  refine lv_ldc2 hx hb hown (hts _ wd_835) dX4_say_1 ?_
  refine lv_aload_n hx hb dX4_say_4 rfl (lv_at hl 0 rfl) ?_
  refine va_get (D := (dC, dI)) (ci := 4) (v := .long X.2) (C := RX4) (T := TX4) (N := 29) hx hb hts iX4 hown hK hP 0 rfl rfl 28 (by decide) (hts _ wd_550) (fun _ h9 => h9) rfl dX4_say_5 ?_
  refine lv_lmul hx hb dX4_say_8 ?_
  refine lv_lload_n hx hb dX4_say_9 rfl (lv_at hl 1 rfl) ?_
  refine lv_ladd hx hb dX4_say_10 ?_
  refine lv_topl (fun x1 ex1 => ?_)
  have hw := stp_use hw ex1
  refine va_put (D := (dC, dI)) (ci := 4) (v := .long x1) (ty := .long) (C := RX4) (T := TX4) (N := 29) hx hb hts iX4 tyX4 tyX4_ok nmX4 hown hK hP (wmD hD0) hS 0 rfl rfl 28 (by decide) (hts _ wd_550) (fun _ h9 => h9) rfl (by decide +kernel) rfl rfl (Nat.le_of_ble_eq_true rfl) dX4_say_11 (fun H locs hP hD_ hS => ?_)
  obtain ⟨X2, eX2⟩ : ∃ y : MS, y = (X.1, x1) := ⟨_, rfl⟩
  have hw := stp_use hw eX2
  have hP : va_P (dC, dI) classes (wm a cA X2) H := by rw [eX2]; exact hP
  exact hret _ _ _ _ _ (Option.some.inj hw) hP hS dX4_say_14
set_option maxHeartbeats 4000000 in
set_option maxRecDepth 100000 in
theorem c_X4_sayTown (l : Launch) (dC : Nat → ClassId) (dI : Nat → Nat → Nat) (A : Nat → Prop) (a : Nat → Nat) (cA : ClassId) (X : MS) (out : MS) (hw : f_X4_sayTown X = some out) : Met l yX4_sayTown (.code yX4_sayTown cX4_sayTown 2 none :: lw_g) ({ frames := 7, cells := 0, slots := 0, locals := 176 }) (PcMD dC dI A a cA X [.ref (a 0)]) (va_Qv (fun X_ : MS => out = X_) (fun X_ t => va_P (dC, dI) classes (wm a cA X_) t.heap ∧ va_K (dC, dI) classes [(cA, .int)] t) A) 0 0 (A) := by
  unfold f_X4_sayTown at hw
  refine Met.ofW (cc := cX4_sayTown) (maxL := 2) (ret := none) (by decide) rfl ?_
  intro p e s m args below meth c s₁ B hml hv
  obtain ⟨rfl, hP, hK, hD0⟩ := hv
  have hx := B.exec
  have hb := B.bytes
  have hr := B.returns
  have hts0 := atoms_spec (ws := (.code yX4_sayTown cX4_sayTown 2 none :: lw_g)) B.pre
  have hts : ∀ w ∈ lw_g, w.before (([.ref (a 0)] : List Value).toArray) s = true := fun w h => hts0 w (List.mem_cons_of_mem _ h)
  clear hts0
  have hown : s.vm.findClass RX4 = some m.cls := findClass_of_methodNamed B.named
  have hlocks := B.notSynchronized
  have hret : ∀ (pc : Nat) (ls : Array Slot) (X_ : MS) (H : Heap) (locs : List Loc), X_ = out → va_P (dC, dI) classes (wm a cA X_) H → va_S A s.heap H locs → decode cX4_sayTown pc = .ok (.return_, 1) → W p l e ({ frames := 7, cells := 0, slots := 0, locals := 176 }) s m (([.ref (a 0)] : List Value).toArray) below meth c H locs 0 0 (MQ below (va_Qv (fun X_ : MS => out = X_) (fun X_ t => va_P (dC, dI) classes (wm a cA X_) t.heap ∧ va_K (dC, dI) classes [(cA, .int)] t) A) (([.ref (a 0)] : List Value).toArray) s 0 0 (A)) (F0 m pc ls []) := fun pc ls X_ H locs hv hP hS hd => W.vret hx hb hr (fun t ht hW => ⟨⟨X_, rfl, hv.symm, by rw [ht]; exact hP, va_K.moved hW.alike hK⟩, hS.F ht⟩) hS.2.2 hd
  show W p l e ({ frames := 7, cells := 0, slots := 0, locals := 176 }) s m (([.ref (a 0)] : List Value).toArray) below meth c s.heap [] 0 0 (MQ below (va_Qv (fun X_ : MS => out = X_) (fun X_ t => va_P (dC, dI) classes (wm a cA X_) t.heap ∧ va_K (dC, dI) classes [(cA, .int)] t) A) (([.ref (a 0)] : List Value).toArray) s 0 0 (A)) (entryFrame m (([.ref (a 0)] : List Value).toArray) 2)
  generalize MQ below (va_Qv (fun X_ : MS => out = X_) (fun X_ t => va_P (dC, dI) classes (wm a cA X_) t.heap ∧ va_K (dC, dI) classes [(cA, .int)] t) A) (([.ref (a 0)] : List Value).toArray) s 0 0 (A) = Q at hret ⊢
  have hS : va_S A s.heap s.heap [] := va_S.rf
  have L77 : ∀ n : Nat, ∀ (X : MS), ∀ (v1 : Int32), g_X4_sayTown_77 n X v1 = some out → ∀ (H : Heap) (locs : List Loc), va_P (dC, dI) classes (wm a cA X) H → va_S A s.heap H locs → ∀ ls : Array Slot, lv_has ls 2 [(0, .ref (a 0)), (1, .int v1)] → W p l e ({ frames := 7, cells := 0, slots := 0, locals := 176 }) s m (([.ref (a 0)] : List Value).toArray) below meth c H locs 0 0 Q (F0 m 77 ls []) := by
    intro n
    induction n with
    | zero =>
      intro X v1 hw
      rw [g_X4_sayTown_77] at hw
      cases hw
    | succ n ih =>
      intro X v1 hw H locs hP hS ls hl
      rw [g_X4_sayTown_77] at hw
      refine lv_iload_n hx hb dX4_sayTown_77 rfl (lv_at hl 1 rfl) ?_
      refine lv_bipush (v := 13) hx hb dX4_sayTown_78 (by decide) ?_
      refine lv_icmp_ge (tgt := 103) hx hb dX4_sayTown_80 (by decide) (fun c10 => ?_) (fun c10 => ?_)
      · have hw := ite_t hw c10
        refine lv_aload_n hx hb dX4_sayTown_103 rfl (lv_at hl 0 rfl) ?_
        refine lv_aload_n hx hb dX4_sayTown_104 rfl (lv_at hl 0 rfl) ?_
        refine lv_iconst (v := 0) hx hb dX4_sayTown_105 (by decide) ?_
        obtain ⟨r11, er11, hw⟩ := Option.bind_eq_some_iff.mp hw
        refine vp_callSi (va_runV (As := [.int 0]) (rest := [.ref (a 0)]) ⟨hx, hb, hml, hown, hts⟩ (c_X4_whereOf l dC dI a cA X 0 r11 er11) ⟨callB_of 1 hts gd_X4_whereOf rfl rfl rfl (hts _ wd_39) (hts _ wd_777) hd_X4_whereOf ⟨Nat.le_of_ble_eq_true rfl, Nat.le_of_ble_eq_true rfl⟩, hts _ wd_779, hts _ wd_27⟩ ⟨blM, va_recv hK hP (ci := 4) (q0 := 0) rfl rfl, fun U hU hW => ⟨rfl, by rw [hU]; exact hP, va_K.moved hW.alike hK⟩⟩ rfl rfl hl.1 rfl (lv_room (Nat.le_of_ble_eq_true rfl)) dX4_sayTown_106 ⟨Nat.zero_le _, Nat.zero_le _⟩).run (fun r_ e_ => ?_)
        subst r_
        refine lv_i2l hx hb dX4_sayTown_109 rfl ?_
        obtain ⟨X12, eX12, hw⟩ := Option.bind_eq_some_iff.mp hw
        refine va_callv (va_runV (As := [.long (Int32.toInt64 r11)]) (rest := []) ⟨hx, hb, hml, hown, hts⟩ (c_X4_say l dC dI A a cA X (Int32.toInt64 r11) X12 eX12) ⟨callB_of 1 hts gd_X4_say rfl rfl rfl (hts _ wd_39) (hts _ wd_831) hd_X4_say ⟨Nat.le_of_ble_eq_true rfl, Nat.le_of_ble_eq_true rfl⟩, hts _ wd_833, hts _ wd_32⟩ ⟨blMD, va_recv hK hP (ci := 4) (q0 := 0) rfl rfl, fun U hU hW => ⟨rfl, by rw [hU]; exact hP, va_K.moved hW.alike hK, wmD hD0⟩⟩ rfl rfl hl.1 rfl (lv_room (Nat.le_of_ble_eq_true rfl)) dX4_sayTown_110 ⟨Nat.zero_le _, Nat.zero_le _⟩) hS (fun _ _ h => h) (fun _ h => h) (fun u_ t_ H1 locs1 ht hvm hp_ hB hz1 hk1 hS1 => ?_)
        subst hp_
        obtain ⟨hP1, hK1⟩ := hB
        rw [ht] at hP1
        have hP := hP1
        have hS := hS1
        refine lv_aload_n hx hb dX4_sayTown_113 rfl (lv_at hl 0 rfl) ?_
        refine lv_aload_n hx hb dX4_sayTown_114 rfl (lv_at hl 0 rfl) ?_
        refine lv_iconst (v := 1) hx hb dX4_sayTown_115 (by decide) ?_
        obtain ⟨r13, er13, hw⟩ := Option.bind_eq_some_iff.mp hw
        refine vp_callSi (va_runV (As := [.int 1]) (rest := [.ref (a 0)]) ⟨hx, hb, hml, hown, hts⟩ (c_X4_whereOf l dC dI a cA X12 1 r13 er13) ⟨callB_of 1 hts gd_X4_whereOf rfl rfl rfl (hts _ wd_39) (hts _ wd_777) hd_X4_whereOf ⟨Nat.le_of_ble_eq_true rfl, Nat.le_of_ble_eq_true rfl⟩, hts _ wd_779, hts _ wd_27⟩ ⟨blM, va_recv hK hP (ci := 4) (q0 := 0) rfl rfl, fun U hU hW => ⟨rfl, by rw [hU]; exact hP, va_K.moved hW.alike hK⟩⟩ rfl rfl hl.1 rfl (lv_room (Nat.le_of_ble_eq_true rfl)) dX4_sayTown_116 ⟨Nat.zero_le _, Nat.zero_le _⟩).run (fun r_ e_ => ?_)
        subst r_
        refine lv_i2l hx hb dX4_sayTown_119 rfl ?_
        obtain ⟨X14, eX14, hw⟩ := Option.bind_eq_some_iff.mp hw
        refine va_callv (va_runV (As := [.long (Int32.toInt64 r13)]) (rest := []) ⟨hx, hb, hml, hown, hts⟩ (c_X4_say l dC dI A a cA X12 (Int32.toInt64 r13) X14 eX14) ⟨callB_of 1 hts gd_X4_say rfl rfl rfl (hts _ wd_39) (hts _ wd_831) hd_X4_say ⟨Nat.le_of_ble_eq_true rfl, Nat.le_of_ble_eq_true rfl⟩, hts _ wd_833, hts _ wd_32⟩ ⟨blMD, va_recv hK hP (ci := 4) (q0 := 0) rfl rfl, fun U hU hW => ⟨rfl, by rw [hU]; exact hP, va_K.moved hW.alike hK, wmD hD0⟩⟩ rfl rfl hl.1 rfl (lv_room (Nat.le_of_ble_eq_true rfl)) dX4_sayTown_120 ⟨Nat.zero_le _, Nat.zero_le _⟩) hS (fun _ _ h => h) (fun _ h => h) (fun u_ t_ H1 locs1 ht hvm hp_ hB hz1 hk1 hS1 => ?_)
        subst hp_
        obtain ⟨hP1, hK1⟩ := hB
        rw [ht] at hP1
        have hP := hP1
        have hS := hS1
        refine lv_aload_n hx hb dX4_sayTown_123 rfl (lv_at hl 0 rfl) ?_
        refine lv_aload_n hx hb dX4_sayTown_124 rfl (lv_at hl 0 rfl) ?_
        obtain ⟨r15, er15, hw⟩ := Option.bind_eq_some_iff.mp hw
        refine vp_callSi (va_runV (As := []) (rest := [.ref (a 0)]) ⟨hx, hb, hml, hown, hts⟩ (c_X4_askOf l dC dI a cA X14 r15 er15) ⟨callB_of 0 hts gd_X4_askOf rfl rfl rfl (hts _ wd_39) (hts _ wd_789) hd_X4_askOf ⟨Nat.le_of_ble_eq_true rfl, Nat.le_of_ble_eq_true rfl⟩, hts _ wd_791, hts _ wd_29⟩ ⟨blM, va_recv hK hP (ci := 4) (q0 := 0) rfl rfl, fun U hU hW => ⟨rfl, by rw [hU]; exact hP, va_K.moved hW.alike hK⟩⟩ rfl rfl hl.1 rfl (lv_room (Nat.le_of_ble_eq_true rfl)) dX4_sayTown_125 ⟨Nat.zero_le _, Nat.zero_le _⟩).run (fun r_ e_ => ?_)
        subst r_
        refine lv_i2l hx hb dX4_sayTown_128 rfl ?_
        obtain ⟨X16, eX16, hw⟩ := Option.bind_eq_some_iff.mp hw
        refine va_callv (va_runV (As := [.long (Int32.toInt64 r15)]) (rest := []) ⟨hx, hb, hml, hown, hts⟩ (c_X4_say l dC dI A a cA X14 (Int32.toInt64 r15) X16 eX16) ⟨callB_of 1 hts gd_X4_say rfl rfl rfl (hts _ wd_39) (hts _ wd_831) hd_X4_say ⟨Nat.le_of_ble_eq_true rfl, Nat.le_of_ble_eq_true rfl⟩, hts _ wd_833, hts _ wd_32⟩ ⟨blMD, va_recv hK hP (ci := 4) (q0 := 0) rfl rfl, fun U hU hW => ⟨rfl, by rw [hU]; exact hP, va_K.moved hW.alike hK, wmD hD0⟩⟩ rfl rfl hl.1 rfl (lv_room (Nat.le_of_ble_eq_true rfl)) dX4_sayTown_129 ⟨Nat.zero_le _, Nat.zero_le _⟩) hS (fun _ _ h => h) (fun _ h => h) (fun u_ t_ H1 locs1 ht hvm hp_ hB hz1 hk1 hS1 => ?_)
        subst hp_
        obtain ⟨hP1, hK1⟩ := hB
        rw [ht] at hP1
        have hP := hP1
        have hS := hS1
        exact hret _ _ _ _ _ (Option.some.inj hw) hP hS dX4_sayTown_132
      · have hw := ite_f hw c10
        refine lv_aload_n hx hb dX4_sayTown_83 rfl (lv_at hl 0 rfl) ?_
        refine lv_aload_n hx hb dX4_sayTown_84 rfl (lv_at hl 0 rfl) ?_
        refine lv_aload_n hx hb dX4_sayTown_85 rfl (lv_at hl 0 rfl) ?_
        obtain ⟨r17, er17, hw⟩ := Option.bind_eq_some_iff.mp hw
        refine vp_callSi (va_runV (As := []) (rest := [.ref (a 0), .ref (a 0)]) ⟨hx, hb, hml, hown, hts⟩ (c_X4_allListeners l dC dI a cA X r17 er17) ⟨callB_of 0 hts gd_X4_allListeners rfl rfl rfl (hts _ wd_39) (hts _ wd_699) hd_X4_allListeners ⟨Nat.le_of_ble_eq_true rfl, Nat.le_of_ble_eq_true rfl⟩, hts _ wd_701, hts _ wd_18⟩ ⟨blM, va_recv hK hP (ci := 4) (q0 := 0) rfl rfl, fun U hU hW => ⟨rfl, by rw [hU]; exact hP, va_K.moved hW.alike hK⟩⟩ rfl rfl hl.1 rfl (lv_room (Nat.le_of_ble_eq_true rfl)) dX4_sayTown_86 ⟨Nat.zero_le _, Nat.zero_le _⟩).run (fun r_ e_ => ?_)
        subst r_
        refine lv_iload_n hx hb dX4_sayTown_89 rfl (lv_at hl 1 rfl) ?_
        obtain ⟨r18, X19, er18, hw⟩ := bnd2_use hw
        refine va_calli (va_runV (As := [.int r17, .int v1]) (rest := [.ref (a 0)]) ⟨hx, hb, hml, hown, hts⟩ (c_X4_coverOf l dC dI A a cA X r17 v1 (r18, X19) er18) ⟨callB_of 2 hts gd_X4_coverOf rfl rfl rfl (hts _ wd_39) (hts _ wd_745) hd_X4_coverOf ⟨Nat.le_of_ble_eq_true rfl, Nat.le_of_ble_eq_true rfl⟩, hts _ wd_747, hts _ wd_23⟩ ⟨blMD, va_recv hK hP (ci := 4) (q0 := 0) rfl rfl, fun U hU hW => ⟨rfl, by rw [hU]; exact hP, va_K.moved hW.alike hK, wmD hD0⟩⟩ rfl rfl hl.1 rfl (lv_room (Nat.le_of_ble_eq_true rfl)) dX4_sayTown_90 ⟨Nat.zero_le _, Nat.zero_le _⟩) hS (fun _ _ h => h) (fun _ h => h) (fun r_ u_ t_ H1 locs1 ht hvm hp_ hB hz1 hk1 hS1 => ?_)
        obtain ⟨q1_, q2_⟩ := Prod.mk.inj hp_
        subst q1_
        subst q2_
        obtain ⟨hP1, hK1⟩ := hB
        rw [ht] at hP1
        have hP := hP1
        have hS := hS1
        refine lv_i2l hx hb dX4_sayTown_93 rfl ?_
        obtain ⟨X20, eX20, hw⟩ := Option.bind_eq_some_iff.mp hw
        refine va_callv (va_runV (As := [.long (Int32.toInt64 r18)]) (rest := []) ⟨hx, hb, hml, hown, hts⟩ (c_X4_say l dC dI A a cA X19 (Int32.toInt64 r18) X20 eX20) ⟨callB_of 1 hts gd_X4_say rfl rfl rfl (hts _ wd_39) (hts _ wd_831) hd_X4_say ⟨Nat.le_of_ble_eq_true rfl, Nat.le_of_ble_eq_true rfl⟩, hts _ wd_833, hts _ wd_32⟩ ⟨blMD, va_recv hK hP (ci := 4) (q0 := 0) rfl rfl, fun U hU hW => ⟨rfl, by rw [hU]; exact hP, va_K.moved hW.alike hK, wmD hD0⟩⟩ rfl rfl hl.1 rfl (lv_room (Nat.le_of_ble_eq_true rfl)) dX4_sayTown_94 ⟨Nat.zero_le _, Nat.zero_le _⟩) hS (fun _ _ h => h) (fun _ h => h) (fun u_ t_ H1 locs1 ht hvm hp_ hB hz1 hk1 hS1 => ?_)
        subst hp_
        obtain ⟨hP1, hK1⟩ := hB
        rw [ht] at hP1
        have hP := hP1
        have hS := hS1
        obtain ⟨x21, ex21⟩ : ∃ y : Int32, y = (v1 + 1) := ⟨_, rfl⟩
        have hw := stp_use hw ex21
        refine lv_iinc (v := x21) (lv' := [(1, .int x21), (0, .ref (a 0))]) hx hb dX4_sayTown_97 hl (k := 1) rfl (by rw [ex21]; rfl) (by decide) rfl (fun ls hl => ?_)
        refine lv_goto (tgt := 77) hx hb dX4_sayTown_100 (by decide) ?_
        exact ih X20 x21 hw _ _ hP hS ls (lv_sub hl [1, 0] rfl)
  have L2 : ∀ n : Nat, ∀ (X : MS), ∀ (v1 : Int32), g_X4_sayTown_2 n X v1 = some out → ∀ (H : Heap) (locs : List Loc), va_P (dC, dI) classes (wm a cA X) H → va_S A s.heap H locs → ∀ ls : Array Slot, lv_has ls 2 [(0, .ref (a 0)), (1, .int v1)] → W p l e ({ frames := 7, cells := 0, slots := 0, locals := 176 }) s m (([.ref (a 0)] : List Value).toArray) below meth c H locs 0 0 Q (F0 m 2 ls []) := by
    intro n
    induction n with
    | zero =>
      intro X v1 hw
      rw [g_X4_sayTown_2] at hw
      cases hw
    | succ n ih =>
      intro X v1 hw H locs hP hS ls hl
      rw [g_X4_sayTown_2] at hw
      refine lv_iload_n hx hb dX4_sayTown_2 rfl (lv_at hl 1 rfl) ?_
      refine lv_bipush (v := 6) hx hb dX4_sayTown_3 (by decide) ?_
      refine lv_icmp_ge (tgt := 40) hx hb dX4_sayTown_5 (by decide) (fun c1 => ?_) (fun c1 => ?_)
      · have hw := ite_t hw c1
        refine lv_aload_n hx hb dX4_sayTown_40 rfl (lv_at hl 0 rfl) ?_
        refine lv_aload_n hx hb dX4_sayTown_41 rfl (lv_at hl 0 rfl) ?_
        refine lv_iconst (v := 0) hx hb dX4_sayTown_42 (by decide) ?_
        obtain ⟨r2, er2, hw⟩ := Option.bind_eq_some_iff.mp hw
        refine vp_callSi (va_runV (As := [.int 0]) (rest := [.ref (a 0)]) ⟨hx, hb, hml, hown, hts⟩ (c_X4_leastOf l dC dI a cA X 0 r2 er2) ⟨callB_of 1 hts gd_X4_leastOf rfl rfl rfl (hts _ wd_39) (hts _ wd_735) hd_X4_leastOf ⟨Nat.le_of_ble_eq_true rfl, Nat.le_of_ble_eq_true rfl⟩, hts _ wd_737, hts _ wd_22⟩ ⟨blM, va_recv hK hP (ci := 4) (q0 := 0) rfl rfl, fun U hU hW => ⟨rfl, by rw [hU]; exact hP, va_K.moved hW.alike hK⟩⟩ rfl rfl hl.1 rfl (lv_room (Nat.le_of_ble_eq_true rfl)) dX4_sayTown_43 ⟨Nat.zero_le _, Nat.zero_le _⟩).run (fun r_ e_ => ?_)
        subst r_
        refine lv_i2l hx hb dX4_sayTown_46 rfl ?_
        obtain ⟨X3, eX3, hw⟩ := Option.bind_eq_some_iff.mp hw
        refine va_callv (va_runV (As := [.long (Int32.toInt64 r2)]) (rest := []) ⟨hx, hb, hml, hown, hts⟩ (c_X4_say l dC dI A a cA X (Int32.toInt64 r2) X3 eX3) ⟨callB_of 1 hts gd_X4_say rfl rfl rfl (hts _ wd_39) (hts _ wd_831) hd_X4_say ⟨Nat.le_of_ble_eq_true rfl, Nat.le_of_ble_eq_true rfl⟩, hts _ wd_833, hts _ wd_32⟩ ⟨blMD, va_recv hK hP (ci := 4) (q0 := 0) rfl rfl, fun U hU hW => ⟨rfl, by rw [hU]; exact hP, va_K.moved hW.alike hK, wmD hD0⟩⟩ rfl rfl hl.1 rfl (lv_room (Nat.le_of_ble_eq_true rfl)) dX4_sayTown_47 ⟨Nat.zero_le _, Nat.zero_le _⟩) hS (fun _ _ h => h) (fun _ h => h) (fun u_ t_ H1 locs1 ht hvm hp_ hB hz1 hk1 hS1 => ?_)
        subst hp_
        obtain ⟨hP1, hK1⟩ := hB
        rw [ht] at hP1
        have hP := hP1
        have hS := hS1
        refine lv_aload_n hx hb dX4_sayTown_50 rfl (lv_at hl 0 rfl) ?_
        refine lv_aload_n hx hb dX4_sayTown_51 rfl (lv_at hl 0 rfl) ?_
        refine lv_iconst (v := 1) hx hb dX4_sayTown_52 (by decide) ?_
        obtain ⟨r4, er4, hw⟩ := Option.bind_eq_some_iff.mp hw
        refine vp_callSi (va_runV (As := [.int 1]) (rest := [.ref (a 0)]) ⟨hx, hb, hml, hown, hts⟩ (c_X4_leastOf l dC dI a cA X3 1 r4 er4) ⟨callB_of 1 hts gd_X4_leastOf rfl rfl rfl (hts _ wd_39) (hts _ wd_735) hd_X4_leastOf ⟨Nat.le_of_ble_eq_true rfl, Nat.le_of_ble_eq_true rfl⟩, hts _ wd_737, hts _ wd_22⟩ ⟨blM, va_recv hK hP (ci := 4) (q0 := 0) rfl rfl, fun U hU hW => ⟨rfl, by rw [hU]; exact hP, va_K.moved hW.alike hK⟩⟩ rfl rfl hl.1 rfl (lv_room (Nat.le_of_ble_eq_true rfl)) dX4_sayTown_53 ⟨Nat.zero_le _, Nat.zero_le _⟩).run (fun r_ e_ => ?_)
        subst r_
        refine lv_i2l hx hb dX4_sayTown_56 rfl ?_
        obtain ⟨X5, eX5, hw⟩ := Option.bind_eq_some_iff.mp hw
        refine va_callv (va_runV (As := [.long (Int32.toInt64 r4)]) (rest := []) ⟨hx, hb, hml, hown, hts⟩ (c_X4_say l dC dI A a cA X3 (Int32.toInt64 r4) X5 eX5) ⟨callB_of 1 hts gd_X4_say rfl rfl rfl (hts _ wd_39) (hts _ wd_831) hd_X4_say ⟨Nat.le_of_ble_eq_true rfl, Nat.le_of_ble_eq_true rfl⟩, hts _ wd_833, hts _ wd_32⟩ ⟨blMD, va_recv hK hP (ci := 4) (q0 := 0) rfl rfl, fun U hU hW => ⟨rfl, by rw [hU]; exact hP, va_K.moved hW.alike hK, wmD hD0⟩⟩ rfl rfl hl.1 rfl (lv_room (Nat.le_of_ble_eq_true rfl)) dX4_sayTown_57 ⟨Nat.zero_le _, Nat.zero_le _⟩) hS (fun _ _ h => h) (fun _ h => h) (fun u_ t_ H1 locs1 ht hvm hp_ hB hz1 hk1 hS1 => ?_)
        subst hp_
        obtain ⟨hP1, hK1⟩ := hB
        rw [ht] at hP1
        have hP := hP1
        have hS := hS1
        refine lv_aload_n hx hb dX4_sayTown_60 rfl (lv_at hl 0 rfl) ?_
        refine lv_aload_n hx hb dX4_sayTown_61 rfl (lv_at hl 0 rfl) ?_
        refine lv_aload_n hx hb dX4_sayTown_62 rfl (lv_at hl 0 rfl) ?_
        obtain ⟨r6, er6, hw⟩ := Option.bind_eq_some_iff.mp hw
        refine vp_callSi (va_runV (As := []) (rest := [.ref (a 0), .ref (a 0)]) ⟨hx, hb, hml, hown, hts⟩ (c_X4_allListeners l dC dI a cA X5 r6 er6) ⟨callB_of 0 hts gd_X4_allListeners rfl rfl rfl (hts _ wd_39) (hts _ wd_699) hd_X4_allListeners ⟨Nat.le_of_ble_eq_true rfl, Nat.le_of_ble_eq_true rfl⟩, hts _ wd_701, hts _ wd_18⟩ ⟨blM, va_recv hK hP (ci := 4) (q0 := 0) rfl rfl, fun U hU hW => ⟨rfl, by rw [hU]; exact hP, va_K.moved hW.alike hK⟩⟩ rfl rfl hl.1 rfl (lv_room (Nat.le_of_ble_eq_true rfl)) dX4_sayTown_63 ⟨Nat.zero_le _, Nat.zero_le _⟩).run (fun r_ e_ => ?_)
        subst r_
        refine lv_iconst (v := 0) hx hb dX4_sayTown_66 (by decide) ?_
        obtain ⟨r7, X8, er7, hw⟩ := bnd2_use hw
        refine va_calli (va_runV (As := [.int r6, .int 0]) (rest := [.ref (a 0)]) ⟨hx, hb, hml, hown, hts⟩ (c_X4_coverOf l dC dI A a cA X5 r6 0 (r7, X8) er7) ⟨callB_of 2 hts gd_X4_coverOf rfl rfl rfl (hts _ wd_39) (hts _ wd_745) hd_X4_coverOf ⟨Nat.le_of_ble_eq_true rfl, Nat.le_of_ble_eq_true rfl⟩, hts _ wd_747, hts _ wd_23⟩ ⟨blMD, va_recv hK hP (ci := 4) (q0 := 0) rfl rfl, fun U hU hW => ⟨rfl, by rw [hU]; exact hP, va_K.moved hW.alike hK, wmD hD0⟩⟩ rfl rfl hl.1 rfl (lv_room (Nat.le_of_ble_eq_true rfl)) dX4_sayTown_67 ⟨Nat.zero_le _, Nat.zero_le _⟩) hS (fun _ _ h => h) (fun _ h => h) (fun r_ u_ t_ H1 locs1 ht hvm hp_ hB hz1 hk1 hS1 => ?_)
        obtain ⟨q1_, q2_⟩ := Prod.mk.inj hp_
        subst q1_
        subst q2_
        obtain ⟨hP1, hK1⟩ := hB
        rw [ht] at hP1
        have hP := hP1
        have hS := hS1
        refine lv_i2l hx hb dX4_sayTown_70 rfl ?_
        obtain ⟨X9, eX9, hw⟩ := Option.bind_eq_some_iff.mp hw
        refine va_callv (va_runV (As := [.long (Int32.toInt64 r7)]) (rest := []) ⟨hx, hb, hml, hown, hts⟩ (c_X4_say l dC dI A a cA X8 (Int32.toInt64 r7) X9 eX9) ⟨callB_of 1 hts gd_X4_say rfl rfl rfl (hts _ wd_39) (hts _ wd_831) hd_X4_say ⟨Nat.le_of_ble_eq_true rfl, Nat.le_of_ble_eq_true rfl⟩, hts _ wd_833, hts _ wd_32⟩ ⟨blMD, va_recv hK hP (ci := 4) (q0 := 0) rfl rfl, fun U hU hW => ⟨rfl, by rw [hU]; exact hP, va_K.moved hW.alike hK, wmD hD0⟩⟩ rfl rfl hl.1 rfl (lv_room (Nat.le_of_ble_eq_true rfl)) dX4_sayTown_71 ⟨Nat.zero_le _, Nat.zero_le _⟩) hS (fun _ _ h => h) (fun _ h => h) (fun u_ t_ H1 locs1 ht hvm hp_ hB hz1 hk1 hS1 => ?_)
        subst hp_
        obtain ⟨hP1, hK1⟩ := hB
        rw [ht] at hP1
        have hP := hP1
        have hS := hS1
        refine lv_bipush (v := 10) hx hb dX4_sayTown_74 (by decide) ?_
        refine lv_istore_n (lv' := [(1, .int 10), (0, .ref (a 0))]) hx hb dX4_sayTown_76 rfl hl (by decide) rfl (fun ls hl => ?_)
        exact L77 NF X9 10 hw _ _ hP hS ls (lv_sub hl [1, 0] rfl)
      · have hw := ite_f hw c1
        refine lv_aload_n hx hb dX4_sayTown_8 rfl (lv_at hl 0 rfl) ?_
        refine lv_aload_n hx hb dX4_sayTown_9 rfl (lv_at hl 0 rfl) ?_
        refine va_get (D := (dC, dI)) (ci := 4) (v := .ref (a 2)) (C := RX4) (T := TX4) (N := 29) hx hb hts iX4 hown hK hP 0 rfl rfl 10 (by decide) (hts _ wd_532) (fun _ h9 => h9) rfl dX4_sayTown_10 ?_
        refine lv_iload_n hx hb dX4_sayTown_13 rfl (lv_at hl 1 rfl) ?_
        obtain ⟨h22, hw⟩ := ixc_use hw
        refine va_iald hx hb hK hP 2 0 rfl rfl h22 dX4_sayTown_14 ?_
        refine lv_i2l hx hb dX4_sayTown_15 rfl ?_
        obtain ⟨X23, eX23, hw⟩ := Option.bind_eq_some_iff.mp hw
        refine va_callv (va_runV (As := [.long (Int32.toInt64 (X.1 2 (Int32.toNatClampNeg v1)))]) (rest := []) ⟨hx, hb, hml, hown, hts⟩ (c_X4_say l dC dI A a cA X (Int32.toInt64 (X.1 2 (Int32.toNatClampNeg v1))) X23 eX23) ⟨callB_of 1 hts gd_X4_say rfl rfl rfl (hts _ wd_39) (hts _ wd_831) hd_X4_say ⟨Nat.le_of_ble_eq_true rfl, Nat.le_of_ble_eq_true rfl⟩, hts _ wd_833, hts _ wd_32⟩ ⟨blMD, va_recv hK hP (ci := 4) (q0 := 0) rfl rfl, fun U hU hW => ⟨rfl, by rw [hU]; exact hP, va_K.moved hW.alike hK, wmD hD0⟩⟩ rfl rfl hl.1 rfl (lv_room (Nat.le_of_ble_eq_true rfl)) dX4_sayTown_16 ⟨Nat.zero_le _, Nat.zero_le _⟩) hS (fun _ _ h => h) (fun _ h => h) (fun u_ t_ H1 locs1 ht hvm hp_ hB hz1 hk1 hS1 => ?_)
        subst hp_
        obtain ⟨hP1, hK1⟩ := hB
        rw [ht] at hP1
        have hP := hP1
        have hS := hS1
        refine lv_aload_n hx hb dX4_sayTown_19 rfl (lv_at hl 0 rfl) ?_
        refine lv_aload_n hx hb dX4_sayTown_20 rfl (lv_at hl 0 rfl) ?_
        refine lv_iload_n hx hb dX4_sayTown_21 rfl (lv_at hl 1 rfl) ?_
        refine lv_iconst (v := 5) hx hb dX4_sayTown_22 (by decide) ?_
        refine lv_aload_n hx hb dX4_sayTown_23 rfl (lv_at hl 0 rfl) ?_
        refine va_get (D := (dC, dI)) (ci := 4) (v := .int (X23.1 0 6)) (C := RX4) (T := TX4) (N := 29) hx hb hts iX4 hown hK hP 0 rfl rfl 6 (by decide) (hts _ wd_528) (fun _ h9 => h9) rfl dX4_sayTown_24 ?_
        obtain ⟨r24, er24, hw⟩ := Option.bind_eq_some_iff.mp hw
        refine vp_callSi (va_runV (As := [.int v1, .int 5, .int (X23.1 0 6)]) (rest := [.ref (a 0)]) ⟨hx, hb, hml, hown, hts⟩ (c_X4_knowThen l dC dI a cA X23 v1 5 (X23.1 0 6) r24 er24) ⟨callB_of 3 hts gd_X4_knowThen rfl rfl rfl (hts _ wd_39) (hts _ wd_715) hd_X4_knowThen ⟨Nat.le_of_ble_eq_true rfl, Nat.le_of_ble_eq_true rfl⟩, hts _ wd_717, hts _ wd_21⟩ ⟨blM, va_recv hK hP (ci := 4) (q0 := 0) rfl rfl, fun U hU hW => ⟨rfl, by rw [hU]; exact hP, va_K.moved hW.alike hK⟩⟩ rfl rfl hl.1 rfl (lv_room (Nat.le_of_ble_eq_true rfl)) dX4_sayTown_27 ⟨Nat.zero_le _, Nat.zero_le _⟩).run (fun r_ e_ => ?_)
        subst r_
        refine lv_i2l hx hb dX4_sayTown_30 rfl ?_
        obtain ⟨X25, eX25, hw⟩ := Option.bind_eq_some_iff.mp hw
        refine va_callv (va_runV (As := [.long (Int32.toInt64 r24)]) (rest := []) ⟨hx, hb, hml, hown, hts⟩ (c_X4_say l dC dI A a cA X23 (Int32.toInt64 r24) X25 eX25) ⟨callB_of 1 hts gd_X4_say rfl rfl rfl (hts _ wd_39) (hts _ wd_831) hd_X4_say ⟨Nat.le_of_ble_eq_true rfl, Nat.le_of_ble_eq_true rfl⟩, hts _ wd_833, hts _ wd_32⟩ ⟨blMD, va_recv hK hP (ci := 4) (q0 := 0) rfl rfl, fun U hU hW => ⟨rfl, by rw [hU]; exact hP, va_K.moved hW.alike hK, wmD hD0⟩⟩ rfl rfl hl.1 rfl (lv_room (Nat.le_of_ble_eq_true rfl)) dX4_sayTown_31 ⟨Nat.zero_le _, Nat.zero_le _⟩) hS (fun _ _ h => h) (fun _ h => h) (fun u_ t_ H1 locs1 ht hvm hp_ hB hz1 hk1 hS1 => ?_)
        subst hp_
        obtain ⟨hP1, hK1⟩ := hB
        rw [ht] at hP1
        have hP := hP1
        have hS := hS1
        obtain ⟨x26, ex26⟩ : ∃ y : Int32, y = (v1 + 1) := ⟨_, rfl⟩
        have hw := stp_use hw ex26
        refine lv_iinc (v := x26) (lv' := [(1, .int x26), (0, .ref (a 0))]) hx hb dX4_sayTown_34 hl (k := 1) rfl (by rw [ex26]; rfl) (by decide) rfl (fun ls hl => ?_)
        refine lv_goto (tgt := 2) hx hb dX4_sayTown_37 (by decide) ?_
        exact ih X25 x26 hw _ _ hP hS ls (lv_sub hl [1, 0] rfl)
  have hl := lv_entry ([.ref (a 0)]) (n := 2) (Nat.le_of_ble_eq_true rfl)
  rw [lg_entry_eq]
  generalize (lg_sl ([.ref (a 0)]) ++ List.replicate (2 - (lg_sl ([.ref (a 0)])).length) Slot.unset).toArray = ls at hl ⊢
  have hl : lv_has ls 2 [(0, .ref (a 0))] := hl
  refine lv_iconst (v := 0) hx hb dX4_sayTown_0 (by decide) ?_
  refine lv_istore_n (lv' := [(1, .int 0), (0, .ref (a 0))]) hx hb dX4_sayTown_1 rfl hl (by decide) rfl (fun ls hl => ?_)
  exact L2 NF X 0 hw _ _ hP hS ls (lv_sub hl [1, 0] rfl)
set_option maxHeartbeats 4000000 in
set_option maxRecDepth 100000 in
theorem c_X4_digest (l : Launch) (dC : Nat → ClassId) (dI : Nat → Nat → Nat) (A : Nat → Prop) (a : Nat → Nat) (cA : ClassId) (X : MS) (out : (Int64 × MS)) (hw : f_X4_digest X = some out) : Met l yX4_digest (.code yX4_digest cX4_digest 3 (some .long) :: lw_g) ({ frames := 8, cells := 0, slots := 0, locals := 197 }) (PcMD dC dI A a cA X [.ref (a 0)]) (va_Ql (fun (r_ : Int64) (X_ : MS) => out = (r_, X_)) (fun X_ t => va_P (dC, dI) classes (wm a cA X_) t.heap ∧ va_K (dC, dI) classes [(cA, .int)] t) A) 0 0 (A) := by
  unfold f_X4_digest at hw
  refine Met.ofW (cc := cX4_digest) (maxL := 3) (ret := (some .long)) (by decide) rfl ?_
  intro p e s m args below meth c s₁ B hml hv
  obtain ⟨rfl, hP, hK, hD0⟩ := hv
  have hx := B.exec
  have hb := B.bytes
  have hr := B.returns
  have hts0 := atoms_spec (ws := (.code yX4_digest cX4_digest 3 (some .long) :: lw_g)) B.pre
  have hts : ∀ w ∈ lw_g, w.before (([.ref (a 0)] : List Value).toArray) s = true := fun w h => hts0 w (List.mem_cons_of_mem _ h)
  clear hts0
  have hown : s.vm.findClass RX4 = some m.cls := findClass_of_methodNamed B.named
  have hlocks := B.notSynchronized
  have hret : ∀ (pc : Nat) (ls : Array Slot) (v : Int64) (X_ : MS) (H : Heap) (locs : List Loc), (v, X_) = out → va_P (dC, dI) classes (wm a cA X_) H → va_S A s.heap H locs → decode cX4_digest pc = .ok (.lreturn, 1) → W p l e ({ frames := 8, cells := 0, slots := 0, locals := 197 }) s m (([.ref (a 0)] : List Value).toArray) below meth c H locs 0 0 (MQ below (va_Ql (fun (r_ : Int64) (X_ : MS) => out = (r_, X_)) (fun X_ t => va_P (dC, dI) classes (wm a cA X_) t.heap ∧ va_K (dC, dI) classes [(cA, .int)] t) A) (([.ref (a 0)] : List Value).toArray) s 0 0 (A)) (F0 m pc ls [.long v]) := fun pc ls v X_ H locs hv hP hS hd => W.lret hx hb hr (fun t ht hW => ⟨⟨v, X_, rfl, hv.symm, by rw [ht]; exact hP, va_K.moved hW.alike hK⟩, hS.F ht⟩) hS.2.2 hd
  show W p l e ({ frames := 8, cells := 0, slots := 0, locals := 197 }) s m (([.ref (a 0)] : List Value).toArray) below meth c s.heap [] 0 0 (MQ below (va_Ql (fun (r_ : Int64) (X_ : MS) => out = (r_, X_)) (fun X_ t => va_P (dC, dI) classes (wm a cA X_) t.heap ∧ va_K (dC, dI) classes [(cA, .int)] t) A) (([.ref (a 0)] : List Value).toArray) s 0 0 (A)) (entryFrame m (([.ref (a 0)] : List Value).toArray) 3)
  generalize MQ below (va_Ql (fun (r_ : Int64) (X_ : MS) => out = (r_, X_)) (fun X_ t => va_P (dC, dI) classes (wm a cA X_) t.heap ∧ va_K (dC, dI) classes [(cA, .int)] t) A) (([.ref (a 0)] : List Value).toArray) s 0 0 (A) = Q at hret ⊢
  have hS : va_S A s.heap s.heap [] := va_S.rf
  have L116 : ∀ n : Nat, ∀ (X : MS), ∀ (v1 : Int32), g_X4_digest_116 n X v1 = some out → ∀ (H : Heap) (locs : List Loc), va_P (dC, dI) classes (wm a cA X) H → va_S A s.heap H locs → ∀ ls : Array Slot, lv_has ls 3 [(0, .ref (a 0)), (1, .int v1)] → W p l e ({ frames := 8, cells := 0, slots := 0, locals := 197 }) s m (([.ref (a 0)] : List Value).toArray) below meth c H locs 0 0 Q (F0 m 116 ls []) := by
    intro n
    induction n with
    | zero =>
      intro X v1 hw
      rw [g_X4_digest_116] at hw
      cases hw
    | succ n ih =>
      intro X v1 hw H locs hP hS ls hl
      rw [g_X4_digest_116] at hw
      refine lv_iload_n hx hb dX4_digest_116 rfl (lv_at hl 1 rfl) ?_
      refine lv_bipush (v := 10) hx hb dX4_digest_117 (by decide) ?_
      refine lv_icmp_ge (tgt := 138) hx hb dX4_digest_119 (by decide) (fun c6 => ?_) (fun c6 => ?_)
      · have hw := ite_t hw c6
        refine lv_aload_n hx hb dX4_digest_138 rfl (lv_at hl 0 rfl) ?_
        refine va_get (D := (dC, dI)) (ci := 4) (v := .long X.2) (C := RX4) (T := TX4) (N := 29) hx hb hts iX4 hown hK hP 0 rfl rfl 28 (by decide) (hts _ wd_550) (fun _ h9 => h9) rfl dX4_digest_139 ?_
        exact hret _ _ _ _ _ _ (Option.some.inj hw) hP hS dX4_digest_142
      · have hw := ite_f hw c6
        refine lv_aload_n hx hb dX4_digest_122 rfl (lv_at hl 0 rfl) ?_
        refine lv_aload_n hx hb dX4_digest_123 rfl (lv_at hl 0 rfl) ?_
        refine lv_iload_n hx hb dX4_digest_124 rfl (lv_at hl 1 rfl) ?_
        obtain ⟨r7, er7, hw⟩ := Option.bind_eq_some_iff.mp hw
        refine vp_callSi (va_runV (As := [.int v1]) (rest := [.ref (a 0)]) ⟨hx, hb, hml, hown, hts⟩ (c_X4_countOf l dC dI a cA X v1 r7 er7) ⟨callB_of 1 hts gd_X4_countOf rfl rfl rfl (hts _ wd_39) (hts _ wd_822) hd_X4_countOf ⟨Nat.le_of_ble_eq_true rfl, Nat.le_of_ble_eq_true rfl⟩, hts _ wd_824, hts _ wd_31⟩ ⟨blM, va_recv hK hP (ci := 4) (q0 := 0) rfl rfl, fun U hU hW => ⟨rfl, by rw [hU]; exact hP, va_K.moved hW.alike hK⟩⟩ rfl rfl hl.1 rfl (lv_room (Nat.le_of_ble_eq_true rfl)) dX4_digest_125 ⟨Nat.zero_le _, Nat.zero_le _⟩).run (fun r_ e_ => ?_)
        subst r_
        refine lv_i2l hx hb dX4_digest_128 rfl ?_
        obtain ⟨X8, eX8, hw⟩ := Option.bind_eq_some_iff.mp hw
        refine va_callv (va_runV (As := [.long (Int32.toInt64 r7)]) (rest := []) ⟨hx, hb, hml, hown, hts⟩ (c_X4_say l dC dI A a cA X (Int32.toInt64 r7) X8 eX8) ⟨callB_of 1 hts gd_X4_say rfl rfl rfl (hts _ wd_39) (hts _ wd_831) hd_X4_say ⟨Nat.le_of_ble_eq_true rfl, Nat.le_of_ble_eq_true rfl⟩, hts _ wd_833, hts _ wd_32⟩ ⟨blMD, va_recv hK hP (ci := 4) (q0 := 0) rfl rfl, fun U hU hW => ⟨rfl, by rw [hU]; exact hP, va_K.moved hW.alike hK, wmD hD0⟩⟩ rfl rfl hl.1 rfl (lv_room (Nat.le_of_ble_eq_true rfl)) dX4_digest_129 ⟨Nat.zero_le _, Nat.zero_le _⟩) hS (fun _ _ h => h) (fun _ h => h) (fun u_ t_ H1 locs1 ht hvm hp_ hB hz1 hk1 hS1 => ?_)
        subst hp_
        obtain ⟨hP1, hK1⟩ := hB
        rw [ht] at hP1
        have hP := hP1
        have hS := hS1
        obtain ⟨x9, ex9⟩ : ∃ y : Int32, y = (v1 + 1) := ⟨_, rfl⟩
        have hw := stp_use hw ex9
        refine lv_iinc (v := x9) (lv' := [(1, .int x9), (0, .ref (a 0))]) hx hb dX4_digest_132 hl (k := 1) rfl (by rw [ex9]; rfl) (by decide) rfl (fun ls hl => ?_)
        refine lv_goto (tgt := 116) hx hb dX4_digest_135 (by decide) ?_
        exact ih X8 x9 hw _ _ hP hS ls (lv_sub hl [1, 0] rfl)
  have L89 : ∀ n : Nat, ∀ (X : MS), ∀ (v1 : Int32), g_X4_digest_89 n X v1 = some out → ∀ (H : Heap) (locs : List Loc), va_P (dC, dI) classes (wm a cA X) H → va_S A s.heap H locs → ∀ ls : Array Slot, lv_has ls 3 [(0, .ref (a 0)), (1, .int v1)] → W p l e ({ frames := 8, cells := 0, slots := 0, locals := 197 }) s m (([.ref (a 0)] : List Value).toArray) below meth c H locs 0 0 Q (F0 m 89 ls []) := by
    intro n
    induction n with
    | zero =>
      intro X v1 hw
      rw [g_X4_digest_89] at hw
      cases hw
    | succ n ih =>
      intro X v1 hw H locs hP hS ls hl
      rw [g_X4_digest_89] at hw
      refine lv_iload_n hx hb dX4_digest_89 rfl (lv_at hl 1 rfl) ?_
      refine lv_aload_n hx hb dX4_digest_90 rfl (lv_at hl 0 rfl) ?_
      refine va_get (D := (dC, dI)) (ci := 4) (v := .int (X.1 0 1)) (C := RX4) (T := TX4) (N := 29) hx hb hts iX4 hown hK hP 0 rfl rfl 1 (by decide) (hts _ wd_523) (fun _ h9 => h9) rfl dX4_digest_91 ?_
      refine lv_icmp_ge (tgt := 114) hx hb dX4_digest_94 (by decide) (fun c5 => ?_) (fun c5 => ?_)
      · have hw := ite_t hw c5
        refine lv_iconst (v := 0) hx hb dX4_digest_114 (by decide) ?_
        refine lv_istore_n (lv' := [(1, .int 0), (0, .ref (a 0))]) hx hb dX4_digest_115 rfl hl (by decide) rfl (fun ls hl => ?_)
        exact L116 NF X 0 hw _ _ hP hS ls (lv_sub hl [1, 0] rfl)
      · have hw := ite_f hw c5
        refine lv_aload_n hx hb dX4_digest_97 rfl (lv_at hl 0 rfl) ?_
        refine lv_aload_n hx hb dX4_digest_98 rfl (lv_at hl 0 rfl) ?_
        refine va_get (D := (dC, dI)) (ci := 4) (v := .ref (a 1)) (C := RX4) (T := TX4) (N := 29) hx hb hts iX4 hown hK hP 0 rfl rfl 0 (by decide) (hts _ wd_522) (fun _ h9 => h9) rfl dX4_digest_99 ?_
        refine lv_iload_n hx hb dX4_digest_102 rfl (lv_at hl 1 rfl) ?_
        obtain ⟨h10, hw⟩ := ixc_use hw
        refine va_iald hx hb hK hP 1 0 rfl rfl h10 dX4_digest_103 ?_
        refine lv_i2l hx hb dX4_digest_104 rfl ?_
        obtain ⟨X11, eX11, hw⟩ := Option.bind_eq_some_iff.mp hw
        refine va_callv (va_runV (As := [.long (Int32.toInt64 (X.1 1 (Int32.toNatClampNeg v1)))]) (rest := []) ⟨hx, hb, hml, hown, hts⟩ (c_X4_say l dC dI A a cA X (Int32.toInt64 (X.1 1 (Int32.toNatClampNeg v1))) X11 eX11) ⟨callB_of 1 hts gd_X4_say rfl rfl rfl (hts _ wd_39) (hts _ wd_831) hd_X4_say ⟨Nat.le_of_ble_eq_true rfl, Nat.le_of_ble_eq_true rfl⟩, hts _ wd_833, hts _ wd_32⟩ ⟨blMD, va_recv hK hP (ci := 4) (q0 := 0) rfl rfl, fun U hU hW => ⟨rfl, by rw [hU]; exact hP, va_K.moved hW.alike hK, wmD hD0⟩⟩ rfl rfl hl.1 rfl (lv_room (Nat.le_of_ble_eq_true rfl)) dX4_digest_105 ⟨Nat.zero_le _, Nat.zero_le _⟩) hS (fun _ _ h => h) (fun _ h => h) (fun u_ t_ H1 locs1 ht hvm hp_ hB hz1 hk1 hS1 => ?_)
        subst hp_
        obtain ⟨hP1, hK1⟩ := hB
        rw [ht] at hP1
        have hP := hP1
        have hS := hS1
        obtain ⟨x12, ex12⟩ : ∃ y : Int32, y = (v1 + 1) := ⟨_, rfl⟩
        have hw := stp_use hw ex12
        refine lv_iinc (v := x12) (lv' := [(1, .int x12), (0, .ref (a 0))]) hx hb dX4_digest_108 hl (k := 1) rfl (by rw [ex12]; rfl) (by decide) rfl (fun ls hl => ?_)
        refine lv_goto (tgt := 89) hx hb dX4_digest_111 (by decide) ?_
        exact ih X11 x12 hw _ _ hP hS ls (lv_sub hl [1, 0] rfl)
  have L19 : ∀ (k9 : MS → Int32 → Option (Int64 × MS)), (∀ (X : MS), ∀ (v1 : Int32), k9 X v1 = some out → ∀ (H : Heap) (locs : List Loc), va_P (dC, dI) classes (wm a cA X) H → va_S A s.heap H locs → ∀ ls : Array Slot, lv_has ls 3 [(0, .ref (a 0)), (1, .int v1)] → W p l e ({ frames := 8, cells := 0, slots := 0, locals := 197 }) s m (([.ref (a 0)] : List Value).toArray) below meth c H locs 0 0 Q (F0 m 9 ls [])) → ∀ n : Nat, ∀ (X : MS), ∀ (v1 : Int32), ∀ (v2 : Int32), g_X4_digest_19 k9 n X v1 v2 = some out → ∀ (H : Heap) (locs : List Loc), va_P (dC, dI) classes (wm a cA X) H → va_S A s.heap H locs → ∀ ls : Array Slot, lv_has ls 3 [(0, .ref (a 0)), (1, .int v1), (2, .int v2)] → W p l e ({ frames := 8, cells := 0, slots := 0, locals := 197 }) s m (([.ref (a 0)] : List Value).toArray) below meth c H locs 0 0 Q (F0 m 19 ls []) := by
    intro k9 hk9 n
    induction n with
    | zero =>
      intro X v1 v2 hw
      rw [g_X4_digest_19] at hw
      cases hw
    | succ n ih =>
      intro X v1 v2 hw H locs hP hS ls hl
      rw [g_X4_digest_19] at hw
      refine lv_iload_n hx hb dX4_digest_19 rfl (lv_at hl 2 rfl) ?_
      refine lv_bipush (v := 6) hx hb dX4_digest_20 (by decide) ?_
      refine lv_icmp_ge (tgt := 42) hx hb dX4_digest_22 (by decide) (fun c14 => ?_) (fun c14 => ?_)
      · have hw := ite_t hw c14
        refine lv_aload_n hx hb dX4_digest_42 rfl (lv_at hl 0 rfl) ?_
        refine lv_aload_n hx hb dX4_digest_43 rfl (lv_at hl 0 rfl) ?_
        refine lv_iload_n hx hb dX4_digest_44 rfl (lv_at hl 1 rfl) ?_
        refine lv_iconst (v := 2) hx hb dX4_digest_45 (by decide) ?_
        refine lv_bipush (v := 9) hx hb dX4_digest_46 (by decide) ?_
        refine lv_iconst (v := 0) hx hb dX4_digest_48 (by decide) ?_
        obtain ⟨r15, er15, hw⟩ := Option.bind_eq_some_iff.mp hw
        refine vp_callSi (va_runV (As := [.int v1, .int 2, .int 9, .int 0]) (rest := [.ref (a 0)]) ⟨hx, hb, hml, hown, hts⟩ (c_X4_tellHush l dC dI a cA X v1 2 9 0 r15 er15) ⟨callB_of 4 hts gd_X4_tellHush rfl rfl rfl (hts _ wd_39) (hts _ wd_757) hd_X4_tellHush ⟨Nat.le_of_ble_eq_true rfl, Nat.le_of_ble_eq_true rfl⟩, hts _ wd_759, hts _ wd_25⟩ ⟨blM, va_recv hK hP (ci := 4) (q0 := 0) rfl rfl, fun U hU hW => ⟨rfl, by rw [hU]; exact hP, va_K.moved hW.alike hK⟩⟩ rfl rfl hl.1 rfl (lv_room (Nat.le_of_ble_eq_true rfl)) dX4_digest_49 ⟨Nat.zero_le _, Nat.zero_le _⟩).run (fun r_ e_ => ?_)
        subst r_
        refine lv_i2l hx hb dX4_digest_52 rfl ?_
        obtain ⟨X16, eX16, hw⟩ := Option.bind_eq_some_iff.mp hw
        refine va_callv (va_runV (As := [.long (Int32.toInt64 r15)]) (rest := []) ⟨hx, hb, hml, hown, hts⟩ (c_X4_say l dC dI A a cA X (Int32.toInt64 r15) X16 eX16) ⟨callB_of 1 hts gd_X4_say rfl rfl rfl (hts _ wd_39) (hts _ wd_831) hd_X4_say ⟨Nat.le_of_ble_eq_true rfl, Nat.le_of_ble_eq_true rfl⟩, hts _ wd_833, hts _ wd_32⟩ ⟨blMD, va_recv hK hP (ci := 4) (q0 := 0) rfl rfl, fun U hU hW => ⟨rfl, by rw [hU]; exact hP, va_K.moved hW.alike hK, wmD hD0⟩⟩ rfl rfl hl.1 rfl (lv_room (Nat.le_of_ble_eq_true rfl)) dX4_digest_53 ⟨Nat.zero_le _, Nat.zero_le _⟩) hS (fun _ _ h => h) (fun _ h => h) (fun u_ t_ H1 locs1 ht hvm hp_ hB hz1 hk1 hS1 => ?_)
        subst hp_
        obtain ⟨hP1, hK1⟩ := hB
        rw [ht] at hP1
        have hP := hP1
        have hS := hS1
        refine lv_aload_n hx hb dX4_digest_56 rfl (lv_at hl 0 rfl) ?_
        refine lv_aload_n hx hb dX4_digest_57 rfl (lv_at hl 0 rfl) ?_
        refine lv_iload_n hx hb dX4_digest_58 rfl (lv_at hl 1 rfl) ?_
        refine lv_iconst (v := 2) hx hb dX4_digest_59 (by decide) ?_
        refine lv_bipush (v := 9) hx hb dX4_digest_60 (by decide) ?_
        refine lv_iconst (v := 1) hx hb dX4_digest_62 (by decide) ?_
        obtain ⟨r17, er17, hw⟩ := Option.bind_eq_some_iff.mp hw
        refine vp_callSi (va_runV (As := [.int v1, .int 2, .int 9, .int 1]) (rest := [.ref (a 0)]) ⟨hx, hb, hml, hown, hts⟩ (c_X4_tellHush l dC dI a cA X16 v1 2 9 1 r17 er17) ⟨callB_of 4 hts gd_X4_tellHush rfl rfl rfl (hts _ wd_39) (hts _ wd_757) hd_X4_tellHush ⟨Nat.le_of_ble_eq_true rfl, Nat.le_of_ble_eq_true rfl⟩, hts _ wd_759, hts _ wd_25⟩ ⟨blM, va_recv hK hP (ci := 4) (q0 := 0) rfl rfl, fun U hU hW => ⟨rfl, by rw [hU]; exact hP, va_K.moved hW.alike hK⟩⟩ rfl rfl hl.1 rfl (lv_room (Nat.le_of_ble_eq_true rfl)) dX4_digest_63 ⟨Nat.zero_le _, Nat.zero_le _⟩).run (fun r_ e_ => ?_)
        subst r_
        refine lv_i2l hx hb dX4_digest_66 rfl ?_
        obtain ⟨X18, eX18, hw⟩ := Option.bind_eq_some_iff.mp hw
        refine va_callv (va_runV (As := [.long (Int32.toInt64 r17)]) (rest := []) ⟨hx, hb, hml, hown, hts⟩ (c_X4_say l dC dI A a cA X16 (Int32.toInt64 r17) X18 eX18) ⟨callB_of 1 hts gd_X4_say rfl rfl rfl (hts _ wd_39) (hts _ wd_831) hd_X4_say ⟨Nat.le_of_ble_eq_true rfl, Nat.le_of_ble_eq_true rfl⟩, hts _ wd_833, hts _ wd_32⟩ ⟨blMD, va_recv hK hP (ci := 4) (q0 := 0) rfl rfl, fun U hU hW => ⟨rfl, by rw [hU]; exact hP, va_K.moved hW.alike hK, wmD hD0⟩⟩ rfl rfl hl.1 rfl (lv_room (Nat.le_of_ble_eq_true rfl)) dX4_digest_67 ⟨Nat.zero_le _, Nat.zero_le _⟩) hS (fun _ _ h => h) (fun _ h => h) (fun u_ t_ H1 locs1 ht hvm hp_ hB hz1 hk1 hS1 => ?_)
        subst hp_
        obtain ⟨hP1, hK1⟩ := hB
        rw [ht] at hP1
        have hP := hP1
        have hS := hS1
        obtain ⟨x19, ex19⟩ : ∃ y : Int32, y = (v1 + 1) := ⟨_, rfl⟩
        have hw := stp_use hw ex19
        refine lv_iinc (v := x19) (lv' := [(1, .int x19), (0, .ref (a 0)), (2, .int v2)]) hx hb dX4_digest_70 hl (k := 1) rfl (by rw [ex19]; rfl) (by decide) rfl (fun ls hl => ?_)
        refine lv_goto (tgt := 9) hx hb dX4_digest_73 (by decide) ?_
        exact hk9 X18 x19 hw _ _ hP hS ls (lv_sub hl [1, 0] rfl)
      · have hw := ite_f hw c14
        refine lv_aload_n hx hb dX4_digest_25 rfl (lv_at hl 0 rfl) ?_
        refine lv_aload_n hx hb dX4_digest_26 rfl (lv_at hl 0 rfl) ?_
        refine lv_iload_n hx hb dX4_digest_27 rfl (lv_at hl 1 rfl) ?_
        refine lv_iload_n hx hb dX4_digest_28 rfl (lv_at hl 2 rfl) ?_
        obtain ⟨r20, er20, hw⟩ := Option.bind_eq_some_iff.mp hw
        refine vp_callSi (va_runV (As := [.int v1, .int v2]) (rest := [.ref (a 0)]) ⟨hx, hb, hml, hown, hts⟩ (c_X4_listenerOf l dC dI a cA X v1 v2 r20 er20) ⟨callB_of 2 hts gd_X4_listenerOf rfl rfl rfl (hts _ wd_39) (hts _ wd_668) hd_X4_listenerOf ⟨Nat.le_of_ble_eq_true rfl, Nat.le_of_ble_eq_true rfl⟩, hts _ wd_670, hts _ wd_14⟩ ⟨blM, va_recv hK hP (ci := 4) (q0 := 0) rfl rfl, fun U hU hW => ⟨rfl, by rw [hU]; exact hP, va_K.moved hW.alike hK⟩⟩ rfl rfl hl.1 rfl (lv_room (Nat.le_of_ble_eq_true rfl)) dX4_digest_29 ⟨Nat.zero_le _, Nat.zero_le _⟩).run (fun r_ e_ => ?_)
        subst r_
        refine lv_i2l hx hb dX4_digest_32 rfl ?_
        obtain ⟨X21, eX21, hw⟩ := Option.bind_eq_some_iff.mp hw
        refine va_callv (va_runV (As := [.long (Int32.toInt64 r20)]) (rest := []) ⟨hx, hb, hml, hown, hts⟩ (c_X4_say l dC dI A a cA X (Int32.toInt64 r20) X21 eX21) ⟨callB_of 1 hts gd_X4_say rfl rfl rfl (hts _ wd_39) (hts _ wd_831) hd_X4_say ⟨Nat.le_of_ble_eq_true rfl, Nat.le_of_ble_eq_true rfl⟩, hts _ wd_833, hts _ wd_32⟩ ⟨blMD, va_recv hK hP (ci := 4) (q0 := 0) rfl rfl, fun U hU hW => ⟨rfl, by rw [hU]; exact hP, va_K.moved hW.alike hK, wmD hD0⟩⟩ rfl rfl hl.1 rfl (lv_room (Nat.le_of_ble_eq_true rfl)) dX4_digest_33 ⟨Nat.zero_le _, Nat.zero_le _⟩) hS (fun _ _ h => h) (fun _ h => h) (fun u_ t_ H1 locs1 ht hvm hp_ hB hz1 hk1 hS1 => ?_)
        subst hp_
        obtain ⟨hP1, hK1⟩ := hB
        rw [ht] at hP1
        have hP := hP1
        have hS := hS1
        obtain ⟨x22, ex22⟩ : ∃ y : Int32, y = (v2 + 1) := ⟨_, rfl⟩
        have hw := stp_use hw ex22
        refine lv_iinc (v := x22) (lv' := [(2, .int x22), (0, .ref (a 0)), (1, .int v1)]) hx hb dX4_digest_36 hl (k := 2) rfl (by rw [ex22]; rfl) (by decide) rfl (fun ls hl => ?_)
        refine lv_goto (tgt := 19) hx hb dX4_digest_39 (by decide) ?_
        exact ih X21 v1 x22 hw _ _ hP hS ls (lv_sub hl [1, 2, 0] rfl)
  have L9 : ∀ n : Nat, ∀ (X : MS), ∀ (v1 : Int32), g_X4_digest_9 n X v1 = some out → ∀ (H : Heap) (locs : List Loc), va_P (dC, dI) classes (wm a cA X) H → va_S A s.heap H locs → ∀ ls : Array Slot, lv_has ls 3 [(0, .ref (a 0)), (1, .int v1)] → W p l e ({ frames := 8, cells := 0, slots := 0, locals := 197 }) s m (([.ref (a 0)] : List Value).toArray) below meth c H locs 0 0 Q (F0 m 9 ls []) := by
    intro n
    induction n with
    | zero =>
      intro X v1 hw
      rw [g_X4_digest_9] at hw
      cases hw
    | succ n ih =>
      intro X v1 hw H locs hP hS ls hl
      rw [g_X4_digest_9] at hw
      refine lv_iload_n hx hb dX4_digest_9 rfl (lv_at hl 1 rfl) ?_
      refine lv_aload_n hx hb dX4_digest_10 rfl (lv_at hl 0 rfl) ?_
      refine va_get (D := (dC, dI)) (ci := 4) (v := .int (X.1 0 11)) (C := RX4) (T := TX4) (N := 29) hx hb hts iX4 hown hK hP 0 rfl rfl 11 (by decide) (hts _ wd_533) (fun _ h9 => h9) rfl dX4_digest_11 ?_
      refine lv_icmp_ge (tgt := 76) hx hb dX4_digest_14 (by decide) (fun c2 => ?_) (fun c2 => ?_)
      · have hw := ite_t hw c2
        refine lv_aload_n hx hb dX4_digest_76 rfl (lv_at hl 0 rfl) ?_
        obtain ⟨r3, er3, hw⟩ := Option.bind_eq_some_iff.mp hw
        refine vp_callSi (va_runV (As := []) (rest := []) ⟨hx, hb, hml, hown, hts⟩ (c_X4_lacks l dC dI a cA X r3 er3) ⟨callB_of 0 hts gd_X4_lacks rfl rfl rfl (hts _ wd_39) (hts _ wd_647) hd_X4_lacks ⟨Nat.le_of_ble_eq_true rfl, Nat.le_of_ble_eq_true rfl⟩, hts _ wd_649, hts _ wd_12⟩ ⟨blM, va_recv hK hP (ci := 4) (q0 := 0) rfl rfl, fun U hU hW => ⟨rfl, by rw [hU]; exact hP, va_K.moved hW.alike hK⟩⟩ rfl rfl hl.1 rfl (lv_room (Nat.le_of_ble_eq_true rfl)) dX4_digest_77 ⟨Nat.zero_le _, Nat.zero_le _⟩).run (fun r_ e_ => ?_)
        subst r_
        refine lv_if_ne (tgt := 87) hx hb dX4_digest_80 (by decide) (fun c4 => ?_) (fun c4 => ?_)
        · have hw := ite_f hw c4
          refine lv_iconst (v := 0) hx hb dX4_digest_87 (by decide) ?_
          refine lv_istore_n (lv' := [(1, .int 0), (0, .ref (a 0))]) hx hb dX4_digest_88 rfl hl (by decide) rfl (fun ls hl => ?_)
          exact L89 NF X 0 hw _ _ hP hS ls (lv_sub hl [1, 0] rfl)
        · have hw := ite_t hw c4
          refine lv_aload_n hx hb dX4_digest_83 rfl (lv_at hl 0 rfl) ?_
          obtain ⟨X13, eX13, hw⟩ := Option.bind_eq_some_iff.mp hw
          refine va_callv (va_runV (As := []) (rest := []) ⟨hx, hb, hml, hown, hts⟩ (c_X4_sayTown l dC dI A a cA X X13 eX13) ⟨callB_of 0 hts gd_X4_sayTown rfl rfl rfl (hts _ wd_39) (hts _ wd_836) hd_X4_sayTown ⟨Nat.le_of_ble_eq_true rfl, Nat.le_of_ble_eq_true rfl⟩, hts _ wd_838, hts _ wd_33⟩ ⟨blMD, va_recv hK hP (ci := 4) (q0 := 0) rfl rfl, fun U hU hW => ⟨rfl, by rw [hU]; exact hP, va_K.moved hW.alike hK, wmD hD0⟩⟩ rfl rfl hl.1 rfl (lv_room (Nat.le_of_ble_eq_true rfl)) dX4_digest_84 ⟨Nat.zero_le _, Nat.zero_le _⟩) hS (fun _ _ h => h) (fun _ h => h) (fun u_ t_ H1 locs1 ht hvm hp_ hB hz1 hk1 hS1 => ?_)
          subst hp_
          obtain ⟨hP1, hK1⟩ := hB
          rw [ht] at hP1
          have hP := hP1
          have hS := hS1
          refine lv_iconst (v := 0) hx hb dX4_digest_87 (by decide) ?_
          refine lv_istore_n (lv' := [(1, .int 0), (0, .ref (a 0))]) hx hb dX4_digest_88 rfl hl (by decide) rfl (fun ls hl => ?_)
          exact L89 NF X13 0 hw _ _ hP hS ls (lv_sub hl [1, 0] rfl)
      · have hw := ite_f hw c2
        refine lv_iconst (v := 0) hx hb dX4_digest_17 (by decide) ?_
        refine lv_istore_n (lv' := [(2, .int 0), (0, .ref (a 0)), (1, .int v1)]) hx hb dX4_digest_18 rfl hl (by decide) rfl (fun ls hl => ?_)
        exact L19 _ ih NF X v1 0 hw _ _ hP hS ls (lv_sub hl [1, 2, 0] rfl)
  have hl := lv_entry ([.ref (a 0)]) (n := 3) (Nat.le_of_ble_eq_true rfl)
  rw [lg_entry_eq]
  generalize (lg_sl ([.ref (a 0)]) ++ List.replicate (3 - (lg_sl ([.ref (a 0)])).length) Slot.unset).toArray = ls at hl ⊢
  have hl : lv_has ls 3 [(0, .ref (a 0))] := hl
  refine lv_aload_n hx hb dX4_digest_0 rfl (lv_at hl 0 rfl) ?_
  refine lv_ldc2 hx hb hown (hts _ wd_830) dX4_digest_1 ?_
  refine va_put (D := (dC, dI)) (ci := 4) (v := .long 1009) (ty := .long) (C := RX4) (T := TX4) (N := 29) hx hb hts iX4 tyX4 tyX4_ok nmX4 hown hK hP (wmD hD0) hS 0 rfl rfl 28 (by decide) (hts _ wd_550) (fun _ h9 => h9) rfl (by decide +kernel) rfl rfl (Nat.le_of_ble_eq_true rfl) dX4_digest_4 (fun H locs hP hD_ hS => ?_)
  obtain ⟨X1, eX1⟩ : ∃ y : MS, y = (X.1, 1009) := ⟨_, rfl⟩
  have hw := stp_use hw eX1
  have hP : va_P (dC, dI) classes (wm a cA X1) H := by rw [eX1]; exact hP
  refine lv_iconst (v := 0) hx hb dX4_digest_7 (by decide) ?_
  refine lv_istore_n (lv' := [(1, .int 0), (0, .ref (a 0))]) hx hb dX4_digest_8 rfl hl (by decide) rfl (fun ls hl => ?_)
  exact L9 NF X1 0 hw _ _ hP hS ls (lv_sub hl [1, 0] rfl)
