/-! about, as, move -/
theorem abt {X : WS} {Y : MS} {n : Nat} (w : WX X n) (r : RM X Y.1 n) (e6 : Y.1 0 6 = X 3 7) (lh : lo n (X 3 7)) {l : Nat} (hl : l < n) (x : Int32) : ∃ z, f_X3_about X (nI l) x = some z ∧ f_X4_listenerOf Y (nI l) x = some z := by
  have hn := w.1
  have hc : (nI l).toNatClampNeg = l := nI_clamp (by omega)
  have hc0 : (nI (2 * l)).toNatClampNeg = 2 * l := nI_clamp (by omega)
  have hc1 : (nI (2 * l + 1)).toNatClampNeg = 2 * l + 1 := nI_clamp (by omega)
  have hi : f_X3_isListener X (nI l) = some 1 := by
    unfold f_X3_isListener
    rw [w.2.1, if_neg (nI_pos (by omega)), if_neg (nI_ge hl (by omega))]
  obtain ⟨w3, w4, -⟩ := w.2.2.1 l hl
  obtain ⟨r1, r2⟩ := r.2.1 l hl
  unfold f_X3_about f_X4_listenerOf
  rw [hi, Option.bind_some, if_neg n10, hc, pw_ix (show l < 6 by omega) (by omega), pw_ix (show l < 6 by omega) (by omega), pw_ix (show l < 6 by omega) (by omega), pw_ix (show l < 6 by omega) (by omega), pw_two]
  by_cases c0 : x = 0
  · subst c0
    rw [if_pos rfl, if_pos rfl, show nI (2 * l) + 0 = nI (2 * l) from by simp, pw_ix (show 2 * l < 12 by omega) (by omega), hc0, r1]
    exact ⟨_, rfl, rfl⟩
  · rw [if_neg c0, if_neg c0]
    by_cases c1 : x = 1
    · subst c1
      rw [if_pos rfl, if_pos rfl, pw_one, pw_ix (show 2 * l + 1 < 12 by omega) (by omega), hc1, r2]
      exact ⟨_, rfl, rfl⟩
    · rw [if_neg c1, if_neg c1, knowX, Option.bind_some, e6, knowM w r lh, Option.bind_some, needsM Y (show l < 6 by omega), criesM Y (show l < 6 by omega), r1, w3, w4]
      by_cases c2 : x = 2
      · rw [if_pos c2, if_pos c2]
        exact ⟨_, rfl, rfl⟩
      · rw [if_neg c2, if_neg c2]
        by_cases c3 : x = 3
        · rw [if_pos c3, if_pos c3]
          exact ⟨_, rfl, rfl⟩
        · rw [if_neg c3, if_neg c3]
          by_cases c4 : x = 4
          · rw [if_pos c4, if_pos c4]
            exact ⟨_, rfl, rfl⟩
          · rw [if_neg c4, if_neg c4]
            by_cases c5 : x = 5
            · rw [if_pos c5, if_pos c5]
              exact ⟨_, rfl, rfl⟩
            · rw [if_neg c5, if_neg c5]
              exact ⟨_, rfl, rfl⟩
theorem s_about {X : WS} {Y : MS} {N : Nat} (h : Rel X Y N) (p x : Int32) : SimP (f_X3_about X p x) (f_X4_about Y p x) := by
  obtain ⟨n, t, v, w, r, td, lh, e6, ev, hv, e3, e5, e7, e8⟩ := h.2.1
  unfold f_X4_about
  rcases listG w r p with ⟨l, hl, rfl, a, b⟩ | ⟨a, b⟩
  · obtain ⟨z, z1, z2⟩ := abt w r e6 lh hl x
    rw [b, Option.bind_some, if_neg n10, z2, z1]
    exact ⟨z, rfl, rfl⟩
  · unfold f_X3_about
    rw [a, b, Option.bind_some, Option.bind_some, if_pos rfl, if_pos rfl]
    exact ⟨_, rfl, rfl⟩
theorem s_as {X : WS} {Y : MS} {N : Nat} (h : Rel X Y N) (p x : Int32) : SimP (f_X3_as X p x) (f_X4_as Y p x) := by
  obtain ⟨n, t, v, w, r, td, lh, e6, ev, hv, e3, e5, e7, e8⟩ := h.2.1
  have hn := w.1
  unfold f_X3_as f_X4_as
  rcases listG w r p with ⟨l, hl, rfl, a, b⟩ | ⟨a, b⟩
  · rw [a, b, Option.bind_some, Option.bind_some, if_neg n10, if_neg n10]
    rcases kindG x with ⟨k, k1, -, a2, b2⟩ | ⟨a2, b2⟩
    · have hc : (nI l).toNatClampNeg = l := nI_clamp (by omega)
      have hc0 : (nI (2 * l)).toNatClampNeg = 2 * l := nI_clamp (by omega)
      rw [a2, b2, Option.bind_some, Option.bind_some, if_neg n10, if_neg n10, pw_ix (show l < 6 by omega) (by omega), pw_two, pw_ix (show 2 * l < 12 by omega) (by omega), hc, hc0, (r.2.1 l hl).1]
      simp only [stp_eq]
      unfold f_X3_isOfKind
      generalize X 5 l = o
      by_cases c0 : x = 0
      · rw [if_pos c0, if_pos c0, Option.bind_some, if_neg n10]
        exact ⟨_, rfl, rfl⟩
      · rw [if_neg c0, if_neg c0]
        by_cases c1 : o = x
        · rw [if_pos c1, if_pos c1.symm, Option.bind_some, if_neg n10]
          exact ⟨_, rfl, rfl⟩
        · rw [if_neg c1, if_neg (show ¬ x = o from fun z => c1 z.symm)]
          by_cases c2 : o = 4
          · rw [if_pos c2, if_pos c2]
            by_cases c3 : x = 3
            · rw [if_pos c3, if_pos c3, Option.bind_some, if_neg n10]
              exact ⟨_, rfl, rfl⟩
            · rw [if_neg c3, if_neg c3, Option.bind_some, if_pos rfl]
              exact ⟨_, rfl, rfl⟩
          · rw [if_neg c2, if_neg c2, Option.bind_some, if_pos rfl]
            split
            all_goals exact ⟨_, rfl, rfl⟩
    · rw [a2, b2, Option.bind_some, Option.bind_some, if_pos rfl, if_pos rfl]
      exact ⟨_, rfl, rfl⟩
  · rw [a, b, Option.bind_some, Option.bind_some, if_pos rfl, if_pos rfl]
    exact ⟨_, rfl, rfl⟩
theorem s_move {X : WS} {Y : MS} {N : Nat} (h : Rel X Y N) (hN : N ≤ 500) (p x : Int32) : Sim (f_X3_move X p x) (f_X4_move Y p x) N := by
  have hr := Rel_up h
  obtain ⟨n, t, v, w, r, td, lh, e6, ev, hv, e3, e5, e7, e8⟩ := h.2.1
  have hn := w.1
  unfold f_X3_move f_X4_move
  rcases listG w r p with ⟨l, hl, rfl, a, b⟩ | ⟨a, b⟩
  · rw [a, b, Option.bind_some, Option.bind_some, if_neg n10, if_neg n10]
    rcases placeG h hN x with ⟨q, q1, rfl, a2, b2⟩ | ⟨a2, b2⟩
    · have hc : (nI l).toNatClampNeg = l := nI_clamp (by omega)
      have hc1 : (nI (2 * l + 1)).toNatClampNeg = 2 * l + 1 := nI_clamp (by omega)
      rw [a2, b2, Option.bind_some, Option.bind_some, if_neg n10, if_neg n10]
      simp only [stp_eq, pw_two, pw_one, hc, hc1, pw_ix (show l < 6 by omega) (show (6 : Nat) < 2 ^ 31 by omega), pw_ix (show 2 * l + 1 < 12 by omega) (show (12 : Nat) < 2 ^ 31 by omega)]
      rw [(r.2.1 l hl).2]
      refine ⟨X 8 l, _, _, rfl, rfl, Rel_town hr ?_ ?_ ?_ ?_ ?_ ⟨n, t, v, ?_, ?_, ?_, ?_⟩⟩
      · intro c hc; rw [ups_o (by omega)]
      · rw [ups_o (by omega)]
      · rw [ups_o (by omega)]
      · intro c c0 c2 c3 c5; rw [ups_o c3]
      · intro k hk; rw [ups_o (by omega)]
      · obtain ⟨w1, w2, w3, w4⟩ := w
        refine ⟨w1, by rw [ups_o (by omega)]; exact w2, fun j hj => ?_, by rw [ups_o (by omega), ups_o (by omega)]; exact w4⟩
        obtain ⟨u1, u2, u3⟩ := w3 j hj
        rw [ups_o (by omega), ups_o (by omega), ups_o (by omega), ups_s]
        refine ⟨u1, u2, ?_⟩
        by_cases z : j = l
        · subst z; rw [upd_s]; exact ⟨q, q1, rfl⟩
        · rw [upd_o z]; exact u3
      · obtain ⟨r1, r2, r3⟩ := r
        refine ⟨by rw [ups_o (by omega)]; exact r1, fun j hj => ?_, fun j hj => ?_⟩
        · obtain ⟨u1, u2⟩ := r2 j hj
          rw [ups_s, ups_o (by omega), ups_s, upd_o (by omega)]
          refine ⟨u1, ?_⟩
          by_cases z : j = l
          · subst z; rw [upd_s, upd_s]
          · rw [upd_o (by omega), upd_o z]; exact u2
        · rw [ups_o (by omega), ups_o (by omega)]; exact r3 j hj
      · exact TD_c (by rw [ups_o (by omega)]) (by rw [ups_o (by omega)]) (by rw [ups_o (by omega)]) (by rw [ups_o (by omega)]) (ups_o (by omega) _ _) td
      · rw [ups_o (by omega), ups_o (by omega)]
        exact ⟨lh, e6, ev, hv, e3, e5, e7, e8⟩
    · rw [a2, b2, Option.bind_some, Option.bind_some, if_pos rfl, if_pos rfl]
      exact ⟨_, _, _, rfl, rfl, hr⟩
  · rw [a, b, Option.bind_some, Option.bind_some, if_pos rfl, if_pos rfl]
    exact ⟨_, _, _, rfl, rfl, hr⟩
/-! cry, would, honey, day, decree -/
theorem pc_sub0 : ∀ a, a < 64 → ∀ b, b < 64 → nI a &&& nI b = nI b → pc (nI a &&& (nI b ^^^ (-1))) = pc (nI a) - pc (nI b) := by decide +kernel
theorem pc_sub {n : Nat} (hn : n ≤ 6) {A B : Int32} (ha : lo n A) (hb : lo n B) (hs : sbs B A) : pc (A &&& (B ^^^ (-1))) = pc A - pc B := by
  have e : A &&& B = B := by
    apply b_ext
    intro i _
    rw [b_and]
    have := hs i
    cases h1 : bt A i <;> cases h2 : bt B i <;> simp_all
  obtain ⟨a, ha2, rfl⟩ := lo6 hn ha
  obtain ⟨b, hb2, rfl⟩ := lo6 hn hb
  exact pc_sub0 a ha2 b hb2 e
theorem kn_diff (X : WS) (a h : Int32) : kn X (a &&& (h ^^^ (-1))) = kn X a &&& (kn X h ^^^ (-1)) := by
  apply b_ext
  intro i hi
  unfold kn
  rw [b_and, b_and, b_and, b_and, b_not h hi, b_not (X 3 6) hi, b_not (h &&& (X 3 6 ^^^ (-1))) hi, b_and, b_not (X 3 6) hi]
  cases bt a i <;> cases bt h i <;> cases bt (X 3 6) i <;> rfl
theorem s_cry {X : WS} {Y : MS} {N : Nat} (h : Rel X Y N) (hN : N ≤ 500) (p x : Int32) : Sim (f_X3_cry X p x) (f_X4_cry Y p x) N := by
  have hr := Rel_up h
  obtain ⟨n, t, v, w, r, td, lh, e6, ev, hv, e3, e5, e7, e8⟩ := h.2.1
  have hn := w.1
  unfold f_X3_cry f_X4_cry
  rcases placeG h hN p with ⟨q, q1, rfl, a, b⟩ | ⟨a, b⟩
  · rw [a, b, Option.bind_some, Option.bind_some, if_neg n10, if_neg n10]
    rcases loudG x with ⟨k, k1, k2, rfl, a2, b2⟩ | ⟨a2, b2⟩
    · rw [a2, b2, Option.bind_some, Option.bind_some, if_neg n10, if_neg n10, e3, ev]
      by_cases c : k ≤ v
      · rw [if_pos (nI_le c (by omega)), if_pos (nI_le c (by omega)), e6, knowM w r lh, Option.bind_some, onesM hn (lo_kn X lh), Option.bind_some, allM r, Option.bind_some, heardA w r _ _ lh, Option.bind_some]
        unfold f_X2_proclaim
        rw [spX0 w, Option.bind_some, knowX, Option.bind_some]
        have la := lo_sa (X := X) hn (nI q) (nI k) lh
        have hpc : pc (kn X (sa X n (X 3 7) (nI q) (nI k) &&& (X 3 7 ^^^ (-1)))) = pc (kn X (sa X n (X 3 7) (nI q) (nI k))) - pc (kn X (X 3 7)) := by
          rw [kn_diff]
          refine pc_sub hn (lo_kn X la) (lo_kn X lh) (fun i hi => ?_)
          unfold kn at hi ⊢
          rw [b_and] at hi ⊢
          have h1 := sbs_sp (X := X) (n := n) (fun _ => true) (X 3 7) (nI q) (nI k) i
          unfold sa
          cases z1 : bt (X 3 7) i <;> simp_all
        generalize hs : sa X n (X 3 7) (nI q) (nI k) = af at la hpc
        simp only [stp_eq, bcX, bind_sm, bnd2_sm]
        rw [hpc]
        have x9 : ups X 3 7 af 3 9 = nI v := by rw [ups_s, upd_o (by omega)]; exact ev
        have y3 : ups Y.1 0 6 af 0 3 = nI v := by rw [ups_s, upd_o (by omega), e3]; exact ev
        have ev1 : nI v - 1 = nI (v - 1) := by
          rw [show (1 : Int32) = nI 1 from rfl, pk_sub (by omega)]
        rw [x9, y3, ev1]
        have x11 : ups (ups X 3 7 af) 3 9 (nI (v - 1)) 3 11 = X 3 11 := by simp [ups, upd]
        have y5 : ups (ups Y.1 0 6 af) 0 3 (nI (v - 1)) 0 5 = X 3 11 := by simp [ups, upd]; exact e5
        rw [x11, y5]
        have y6 : ups (ups (ups Y.1 0 6 af) 0 3 (nI (v - 1))) 0 5 (X 3 11 + 1) 0 6 = af := by simp [ups, upd]
        have rn : RM X (ups (ups (ups Y.1 0 6 af) 0 3 (nI (v - 1))) 0 5 (X 3 11 + 1)) n := RM_c (by simp [ups, upd]) (by simp [ups]) (by simp [ups]) rfl rfl rfl r
        rw [y6, knowM (Y := (ups (ups (ups Y.1 0 6 af) 0 3 (nI (v - 1))) 0 5 (X 3 11 + 1), Y.2)) w rn la, Option.bind_some, onesM hn (lo_kn X la), Option.bind_some]
        refine ⟨_, _, _, rfl, rfl, Rel_town hr ?_ ?_ ?_ ?_ ?_ ⟨n, t, v - 1, ?_, ?_, ?_, ?_⟩⟩
        · intro c hc; rw [ups_o (by omega), ups_o (by omega), ups_o (by omega)]
        · simp [ups, upd]
        · simp [ups, upd]
        · intro c c0 c2 c3 c5; rw [ups_o c0, ups_o c0, ups_o c0]
        · intro k hk; rw [ups_s, upd_o (by omega), ups_s, upd_o (by omega), ups_s, upd_o (by omega)]
        · exact WX_c (by simp [ups, upd]) (by simp [ups, upd]) (by simp [ups]) (by simp [ups]) (by simp [ups]) (by simp [ups]) w
        · exact RM_c rfl rfl rfl (by simp [ups]) (by simp [ups]) (by simp [ups]) rn
        · exact TD_c (by simp [ups, upd]) (by simp [ups, upd]) (by simp [ups, upd]) (by simp [ups, upd]) (by simp [ups]) td
        · exact ⟨by simp [ups, upd]; exact la, by simp [ups, upd], by simp [ups, upd], by omega, by simp [ups, upd], by simp [ups, upd], by simp [ups, upd]; exact e7, by simp [ups, upd]; exact e8⟩
      · rw [if_neg (nI_ge (show v < k by omega) (by omega)), if_neg (nI_ge (show v < k by omega) (by omega))]
        exact ⟨_, _, _, rfl, rfl, hr⟩
    · rw [a2, b2, Option.bind_some, Option.bind_some, if_pos rfl, if_pos rfl]
      exact ⟨_, _, _, rfl, rfl, hr⟩
  · rw [a, b, Option.bind_some, Option.bind_some, if_pos rfl, if_pos rfl]
    exact ⟨_, _, _, rfl, rfl, hr⟩
theorem s_would {X : WS} {Y : MS} {N : Nat} (h : Rel X Y N) (hN : N ≤ 500) (p x : Int32) : SimP (f_X3_would X p x) (f_X4_would Y p x) := by
  obtain ⟨n, t, v, w, r, td, lh, e6, ev, hv, e3, e5, e7, e8⟩ := h.2.1
  unfold f_X3_would f_X4_would
  rcases placeG h hN p with ⟨q, q1, rfl, a, b⟩ | ⟨a, b⟩
  · rw [a, b, Option.bind_some, Option.bind_some, if_neg n10, if_neg n10]
    rcases loudG x with ⟨k, k1, k2, rfl, a2, b2⟩ | ⟨a2, b2⟩
    · rw [a2, b2, Option.bind_some, Option.bind_some, if_neg n10, if_neg n10, spX0 w, Option.bind_some, knowX, Option.bind_some, e6, thenM w r _ _ lh, Option.bind_some]
      exact ⟨_, rfl, rfl⟩
    · rw [a2, b2, Option.bind_some, Option.bind_some, if_pos rfl, if_pos rfl]
      exact ⟨_, rfl, rfl⟩
  · rw [a, b, Option.bind_some, Option.bind_some, if_pos rfl, if_pos rfl]
    exact ⟨_, rfl, rfl⟩
theorem n01 : ¬ (0 : Int32) = 1 := by decide
theorem s_honey {X : WS} {Y : MS} {N : Nat} (h : Rel X Y N) (hN : N ≤ 500) : Sim (f_X3_honey X) (f_X4_honey Y) N := by
  have hr := Rel_up h
  obtain ⟨n, t, v, w, r, td, lh, e6, ev, hv, e3, e5, e7, e8⟩ := h.2.1
  unfold f_X3_honey f_X4_honey
  rcases hasG h hN with ⟨a, b⟩ | ⟨a, b⟩
  · rw [a, b, Option.bind_some, Option.bind_some, if_neg n10, if_pos rfl]
    unfold f_X2_sweeten f_J9_min_7cf53
    rw [e3, ev, show nI v + 2 = nI (v + 2) from nI_add v 2]
    have key : ∀ u, u ≤ 9 → Rel (ups X 3 9 (nI u)) (ups Y.1 0 3 (nI u), Y.2) (N + 1) := by
      intro u hu
      refine Rel_town hr ?_ ?_ ?_ ?_ ?_ ⟨n, t, u, ?_, ?_, ?_, ?_⟩
      · intro c hc; rw [ups_o (by omega)]
      · simp [ups, upd]
      · simp [ups, upd]
      · intro c c0 c2 c3 c5; rw [ups_o c0]
      · intro k hk; rw [ups_s, upd_o (by omega)]
      · exact WX_c (by simp [ups, upd]) (by simp [ups, upd]) (by simp [ups]) (by simp [ups]) (by simp [ups]) (by simp [ups]) w
      · exact RM_c (by simp [ups, upd]) (by simp [ups]) (by simp [ups]) (by simp [ups]) (by simp [ups]) (by simp [ups]) r
      · exact TD_c (by simp [ups, upd]) (by simp [ups, upd]) (by simp [ups, upd]) (by simp [ups, upd]) (by simp [ups]) td
      · exact ⟨by simp [ups, upd]; exact lh, by simp [ups, upd]; exact e6, by simp [ups, upd], hu, by simp [ups, upd], by simp [ups, upd]; exact e5, by simp [ups, upd]; exact e7, by simp [ups, upd]; exact e8⟩
    by_cases c : v + 2 < 9
    · rw [if_pos (show nI (v + 2) < 9 from nI_lt (b := 9) c (by omega)), if_pos (show nI (v + 2) ≤ 9 from nI_le (b := 9) (by omega) (by omega)), Option.bind_some]
      simp only [stp_eq, bnd2_sm]
      rw [ups_s, upd_s, ups_s, upd_s]
      exact ⟨_, _, _, rfl, rfl, key (v + 2) (by omega)⟩
    · rw [if_neg (show ¬ nI (v + 2) < 9 from nI_nlt (b := 9) (by omega) (by omega)), Option.bind_some]
      simp only [stp_eq, bnd2_sm]
      rw [ups_s, upd_s, ups_s, upd_s, ups_s, upd_s]
      by_cases c2 : v + 2 = 9
      · rw [if_pos (show nI (v + 2) ≤ 9 from nI_le (b := 9) (by omega) (by omega)), c2]
        exact ⟨_, _, _, rfl, rfl, key 9 (by omega)⟩
      · rw [if_neg (show ¬ nI (v + 2) ≤ 9 from nI_ge (a := 9) (by omega) (by omega))]
        exact ⟨_, _, _, rfl, rfl, key 9 (by omega)⟩
  · rw [a, b, Option.bind_some, Option.bind_some, if_pos rfl, if_neg n10]
    exact ⟨_, _, _, rfl, rfl, hr⟩
theorem s_day {X : WS} {Y : MS} {N : Nat} (h : Rel X Y N) (hN : N ≤ 500) : Sim (f_X3_day X) (f_X4_day Y) N := by
  have hr := Rel_up h
  obtain ⟨n, t, v, w, r, td, lh, e6, ev, hv, e3, e5, e7, e8⟩ := h.2.1
  obtain ⟨l1, l2, fv, f1, f2⟩ := h.2.2.1
  unfold f_X3_day f_X4_day
  rcases hasG h hN with ⟨a, b⟩ | ⟨a, b⟩
  · rw [a, b, Option.bind_some, Option.bind_some, if_neg n10, if_pos rfl]
    unfold f_X2_sleep
    simp only [stp_eq, bnd2_sm]
    have x1 : ups X 3 13 (X 3 13 + 1) 3 8 = X 3 8 := by simp [ups, upd]
    have y1 : ups Y.1 0 3 (Y.1 0 2) 0 8 = X 3 13 := by simp [ups, upd]; exact e8
    rw [x1, y1, l1]
    have x2 : ups (ups X 3 13 (X 3 13 + 1)) 3 9 (X 3 8) 3 9 = X 3 8 := by simp [ups, upd]
    have y2 : ups (ups Y.1 0 3 (X 3 8)) 0 8 (X 3 13 + 1) 0 3 = X 3 8 := by simp [ups, upd]
    rw [x2, y2]
    refine ⟨_, _, _, rfl, rfl, Rel_town hr ?_ ?_ ?_ ?_ ?_ ⟨n, t, fv, ?_, ?_, ?_, ?_⟩⟩
    · intro c hc; rw [ups_o (by omega), ups_o (by omega)]
    · simp [ups, upd]
    · simp [ups, upd]
    · intro c c0 c2 c3 c5; rw [ups_o c0, ups_o c0]
    · intro k hk; rw [ups_s, upd_o (by omega), ups_s, upd_o (by omega)]
    · exact WX_c (by simp [ups, upd]) (by simp [ups, upd]) (by simp [ups]) (by simp [ups]) (by simp [ups]) (by simp [ups]) w
    · exact RM_c (by simp [ups, upd]) (by simp [ups]) (by simp [ups]) (by simp [ups]) (by simp [ups]) (by simp [ups]) r
    · exact TD_c (by simp [ups, upd]) (by simp [ups, upd]) (by simp [ups, upd]) (by simp [ups, upd]) (by simp [ups]) td
    · exact ⟨by simp [ups, upd]; exact lh, by simp [ups, upd]; exact e6, by simp [ups, upd]; exact f2, f1, by simp [ups, upd], by simp [ups, upd]; exact e5, by simp [ups, upd]; exact e7, by simp [ups, upd]⟩
  · rw [a, b, Option.bind_some, Option.bind_some, if_pos rfl, if_neg n10]
    exact ⟨_, _, _, rfl, rfl, hr⟩
theorem s_decree {X : WS} {Y : MS} {N : Nat} (h : Rel X Y N) (hN : N ≤ 500) : Sim (f_X3_decree X) (f_X4_decree Y) N := by
  have hr := Rel_up h
  obtain ⟨n, t, v, w, r, td, lh, e6, ev, hv, e3, e5, e7, e8⟩ := h.2.1
  obtain ⟨l1, l2, fv, f1, f2⟩ := h.2.2.1
  unfold f_X3_decree f_X4_decree
  rcases hasG h hN with ⟨a, b⟩ | ⟨a, b⟩
  · rw [a, b, Option.bind_some, Option.bind_some, if_neg n10, if_pos rfl, e5, l2]
    unfold f_X2_renew
    simp only [stp_eq]
    have x1 : ups (ups X 3 7 0) 3 11 0 3 12 = X 3 12 := by simp [ups, upd]
    have y1 : ups (ups Y.1 0 5 0) 0 6 0 0 7 = X 3 12 := by simp [ups, upd]; exact e7
    rw [x1, y1]
    have key : Rel (ups (ups (ups X 3 7 0) 3 11 0) 3 12 (X 3 12 + 1)) (ups (ups (ups Y.1 0 5 0) 0 6 0) 0 7 (X 3 12 + 1), Y.2) (N + 1) := by
      refine Rel_town hr ?_ ?_ ?_ ?_ ?_ ⟨n, t, v, ?_, ?_, ?_, ?_⟩
      · intro c hc; rw [ups_o (by omega), ups_o (by omega), ups_o (by omega)]
      · simp [ups, upd]
      · simp [ups, upd]
      · intro c c0 c2 c3 c5; rw [ups_o c0, ups_o c0, ups_o c0]
      · intro k hk; rw [ups_s, upd_o (by omega), ups_s, upd_o (by omega), ups_s, upd_o (by omega)]
      · exact WX_c (by simp [ups, upd]) (by simp [ups, upd]) (by simp [ups]) (by simp [ups]) (by simp [ups]) (by simp [ups]) w
      · exact RM_c (by simp [ups, upd]) (by simp [ups]) (by simp [ups]) (by simp [ups]) (by simp [ups]) (by simp [ups]) r
      · exact TD_c (by simp [ups, upd]) (by simp [ups, upd]) (by simp [ups, upd]) (by simp [ups, upd]) (by simp [ups]) td
      · exact ⟨by simp [ups, upd]; exact lo_0 n, by simp [ups, upd], by simp [ups, upd]; exact ev, hv, by simp [ups, upd]; exact e3, by simp [ups, upd], by simp [ups, upd], by simp [ups, upd]; exact e8⟩
    by_cases c : X 3 11 < X 3 10
    · rw [if_pos c, if_pos c]
      exact ⟨_, _, _, rfl, rfl, key⟩
    · rw [if_neg c, if_neg c]
      exact ⟨_, _, _, rfl, rfl, key⟩
  · rw [a, b, Option.bind_some, Option.bind_some, if_pos rfl, if_neg n10]
    exact ⟨_, _, _, rfl, rfl, hr⟩
