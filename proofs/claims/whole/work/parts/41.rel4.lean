theorem agXM {X X' : WS} {Y : MS} {N : Nat} (h : Rel X Y N) (ha : ag X X') : Rel X' Y (N + 1) := Rel_ag ha (agM_rf Y) (Rel_up h)
theorem s_least {X : WS} {Y : MS} {N : Nat} (h : Rel X Y N) (hN : N ≤ 500) (p : Int32) : ∃ r X', f_X3_least X p = some (r, X') ∧ f_X4_least Y p = some r ∧ Rel X' Y (N + 1) ∧ ag X X' := by
  have hr := Rel_up h
  obtain ⟨n, t, v, w, r, td, lh, e6, ev, hv, e3, e5, e7, e8⟩ := h.2.1
  unfold f_X3_least f_X4_least
  rcases rng p 0 1 (by omega) (by omega) with ⟨k, k1, k2, e, h1, h2⟩ | ⟨h1, h2⟩ | ⟨h1, h2⟩
  · rw [if_neg (show ¬ p < 0 from h1), if_pos (show p ≤ 1 from le_of_nlt h2), in1 (l := 0) (h := 1) (a := 0) (b := 1) rfl rfl h1 h2, Option.bind_some, if_neg n10]
    rcases hasG h hN with ⟨a, b⟩ | ⟨a, b⟩
    · rw [a, b, Option.bind_some, Option.bind_some, if_neg n10, if_pos rfl]
      obtain ⟨X', q1, q2, q3, q4⟩ := whisX w
      rw [q1, Option.bind_some, leastM w r lh e6 e3 p, Option.bind_some, q3, q4]
      by_cases c : p = 0
      · rw [if_pos c, if_pos c]
        exact ⟨_, _, rfl, rfl, agXM h q2, q2⟩
      · rw [if_neg c, if_neg c]
        exact ⟨_, _, rfl, rfl, agXM h q2, q2⟩
    · rw [a, b, Option.bind_some, Option.bind_some, if_pos rfl, if_neg n10]
      exact ⟨_, _, rfl, rfl, hr, ag_rf X⟩
  · rw [if_pos (show p < 0 from h1), in0 (l := 0) (h := 1) (a := 0) (b := 1) rfl rfl (Or.inl h1), Option.bind_some, if_pos rfl]
    exact ⟨_, _, rfl, rfl, hr, ag_rf X⟩
  · rw [if_neg (show ¬ p < 0 from h2), if_neg (show ¬ p ≤ 1 from nle_of_lt h1), in0 (l := 0) (h := 1) (a := 0) (b := 1) rfl rfl (Or.inr h1), Option.bind_some, if_pos rfl]
    exact ⟨_, _, rfl, rfl, hr, ag_rf X⟩
theorem evX {X : WS} {n : Nat} (w : WX X n) : f_X2_everyone X = some (allb n) := by unfold f_X2_everyone allb; rw [w.2.1]
theorem s_cover {X : WS} {Y : MS} {N : Nat} (h : Rel X Y N) (hN : N ≤ 500) (p x : Int32) : ∃ r Y', f_X3_cover X p x = some r ∧ f_X4_cover Y p x = some (r, Y') ∧ Rel X Y' (N + 1) := by
  have hr := Rel_up h
  obtain ⟨n, t, v, w, r, td, lh, e6, ev, hv, e3, e5, e7, e8⟩ := h.2.1
  have hn := w.1
  have hp : 2 ^ n ≤ 64 := Nat.pow_le_pow_right (n := 2) (by omega) hn
  have hp1 : 0 < 2 ^ n := Nat.pow_pos (by omega)
  have e3' : Y.1 0 3 = nI v := by rw [e3]; exact ev
  unfold f_X3_cover f_X4_cover
  rw [evX w, allM r]
  simp only [bind_sm]
  have main : ∀ what, wok what → ∃ z Y', ((f_X3_hasTown X).bind fun r6 => if r6 = 0 then some (-103) else (f_X0_coverPlan X p).bind fun r8 => (f_X0_partOfPlan r8 what).bind fun r9 => some r9) = some z ∧ ((f_X4_lacks Y).bind fun r5 => if r5 = 0 then bnd2 (f_X4_coverOf Y p what) (fun r7 X8 => some (r7, X8)) else some ((-103), Y)) = some (z, Y') ∧ Rel X Y' (N + 1) := by
    intro what hw
    rcases hasG h hN with ⟨a, b⟩ | ⟨a, b⟩
    · obtain ⟨Y', q1, q2⟩ := coverM w r lh e6 e3' (by omega) p what hw
      rw [a, b, Option.bind_some, Option.bind_some, if_neg n10, if_pos rfl, coverX0 w ev (by omega) p, Option.bind_some, partX hw, Option.bind_some, q2, bnd2_sm]
      exact ⟨_, _, rfl, rfl, Rel_ag (ag_rf X) (ag4_M q1) hr⟩
    · rw [a, b, Option.bind_some, Option.bind_some, if_pos rfl, if_neg n10]
      exact ⟨_, _, rfl, rfl, hr⟩
  have aeq := allb_eq n (by omega)
  rcases rng p 0 (2 ^ n - 1) (by omega) (by omega) with ⟨k, k1, k2, e, h1, h2⟩ | hout
  · rw [← aeq] at h2
    rw [in1 (l := 0) (h := (allb n).toInt64) (a := 0) (b := allb n) rfl rfl h1 h2, Option.bind_some, if_neg n10]
    have h1' : ¬ p < 0 := h1
    simp only [if_neg h1', if_neg h2]
    by_cases c0 : x = 0
    · subst c0
      rw [if_pos rfl, if_pos rfl]
      exact main 0 (Or.inl rfl)
    · rw [if_neg c0, if_neg c0]
      rcases rng x 10 12 (by omega) (by omega) with ⟨k, k1, k2, e, g1, g2⟩ | ⟨g1, g2⟩ | ⟨g1, g2⟩
      · rw [if_neg (show ¬ x < 10 from g1), if_neg (show ¬ 12 < x from g2), in1 (l := 10) (h := 12) (a := 10) (b := 12) rfl rfl g1 g2, Option.bind_some, if_neg n10]
        exact main x (Or.inr ⟨k - 10, by omega, by rw [e]; congr 1; omega⟩)
      · rw [if_pos (show x < 10 from g1), in0 (l := 10) (h := 12) (a := 10) (b := 12) rfl rfl (Or.inl g1), Option.bind_some, if_pos rfl]
        exact ⟨_, _, rfl, rfl, hr⟩
      · rw [if_neg (show ¬ x < 10 from g2), if_pos (show 12 < x from g1), in0 (l := 10) (h := 12) (a := 10) (b := 12) rfl rfl (Or.inr g1), Option.bind_some, if_pos rfl]
        exact ⟨_, _, rfl, rfl, hr⟩
  · have ho : p < 0 ∨ allb n < p := by
      rw [← aeq] at hout
      rcases hout with ⟨z, -⟩ | ⟨z, -⟩
      · exact Or.inl z
      · exact Or.inr z
    rw [in0 (l := 0) (h := (allb n).toInt64) (a := 0) (b := allb n) rfl rfl ho, Option.bind_some, if_pos rfl]
    refine ⟨-102, Y, ?_, rfl, hr⟩
    by_cases c : p < 0
    · simp only [if_pos c]
      repeat' split
      all_goals rfl
    · simp only [if_neg c, if_pos (ho.resolve_left c)]
      repeat' split
      all_goals rfl
/-! hush -/
def hwm (z : Int32) : Int32 := if 0 ≤ z then pc z else z
theorem howX (z : Int32) : f_X3_howMany z = some (hwm z) := by
  unfold f_X3_howMany hwm
  by_cases c : 0 ≤ z
  · rw [if_pos c, if_pos c, bcX, Option.bind_some]
  · rw [if_neg c, if_neg c]
theorem tellH {X : WS} {Y : MS} {n l : Nat} (w : WX X n) (r : RM X Y.1 n) (hl : l < n) (pl ld x : Int32) (hx : x = 0 ∨ x = 1) : f_X4_tellHush Y (nI l) pl ld x = some (if x = 0 then hwm (hsh X n l pl ld) else hsh X n l pl ld) := by
  have hn := w.1
  unfold f_X4_tellHush
  rw [hushM w r (by omega), Option.bind_some]
  rcases hsh_lo (X := X) (l := l) hn pl ld with e | e
  · rw [if_pos e, e]
    rcases hx with rfl | rfl
    · rfl
    · rfl
  · obtain ⟨m, hm, em⟩ := lo6 hn e
    have hne : ¬ hsh X n l pl ld = -1 := by rw [em]; exact nI_ne_m1 (by omega)
    rw [if_neg hne]
    rcases hx with rfl | rfl
    · rw [if_neg n01, if_pos rfl, onesM hn e, Option.bind_some]
      unfold hwm
      rw [if_pos (by rw [em]; exact nI_pos' (by omega))]
    · rw [if_pos rfl, if_neg n10]
theorem s_hush {X : WS} {Y : MS} {N : Nat} (h : Rel X Y N) (hN : N ≤ 500) (p x y z : Int32) : SimP (f_X3_hush X p x y z) (f_X4_hush Y p x y z) := by
  obtain ⟨n, t, v, w, r, td, lh, e6, ev, hv, e3, e5, e7, e8⟩ := h.2.1
  have hn := w.1
  unfold f_X3_hush f_X4_hush
  rcases listG w r p with ⟨l, hl, rfl, a, b⟩ | ⟨a, b⟩
  · rw [a, b, Option.bind_some, Option.bind_some, if_neg n10, if_neg n10]
    rcases placeG h hN x with ⟨q, q1, rfl, a2, b2⟩ | ⟨a2, b2⟩
    · rw [a2, b2, Option.bind_some, Option.bind_some, if_neg n10, if_neg n10]
      rcases loudG y with ⟨k, k1, k2, rfl, a3, b3⟩ | ⟨a3, b3⟩
      · rw [a3, b3, Option.bind_some, Option.bind_some, if_neg n10, if_neg n10]
        rcases rng z 0 1 (by omega) (by omega) with ⟨k3, u1, u2, e, h1, h2⟩ | ⟨h1, h2⟩ | ⟨h1, h2⟩
        · have hz : z = 0 ∨ z = 1 := by
            rcases (show k3 = 0 ∨ k3 = 1 by omega) with rfl | rfl
            · exact Or.inl e
            · exact Or.inr e
          rw [if_neg (show ¬ z < 0 from h1), if_pos (show z ≤ 1 from le_of_nlt h2), in1 (l := 0) (h := 1) (a := 0) (b := 1) rfl rfl h1 h2, Option.bind_some, if_neg n10, tellH w r hl _ _ z hz, Option.bind_some, sentX w (by omega), Option.bind_some, howX, Option.bind_some]
          by_cases c : z = 0
          · rw [if_pos c, if_pos c]; exact ⟨_, rfl, rfl⟩
          · rw [if_neg c, if_neg c]; exact ⟨_, rfl, rfl⟩
        · rw [if_pos (show z < 0 from h1), in0 (l := 0) (h := 1) (a := 0) (b := 1) rfl rfl (Or.inl h1), Option.bind_some, if_pos rfl]
          exact ⟨_, rfl, rfl⟩
        · rw [if_neg (show ¬ z < 0 from h2), if_neg (show ¬ z ≤ 1 from nle_of_lt h1), in0 (l := 0) (h := 1) (a := 0) (b := 1) rfl rfl (Or.inr h1), Option.bind_some, if_pos rfl]
          exact ⟨_, rfl, rfl⟩
      · rw [a3, b3, Option.bind_some, Option.bind_some, if_pos rfl, if_pos rfl]
        exact ⟨_, rfl, rfl⟩
    · rw [a2, b2, Option.bind_some, Option.bind_some, if_pos rfl, if_pos rfl]
      exact ⟨_, rfl, rfl⟩
  · rw [a, b, Option.bind_some, Option.bind_some, if_pos rfl, if_pos rfl]
    exact ⟨_, rfl, rfl⟩
/-! tell, forget -/
theorem tell_bits {O : Int32} {Y5 : Nat → Int32} {t l : Nat} {b : Int32} (hl : l < 32) (A : ∀ j, j < 32 → (bt O j = true ↔ ∃ i, i < t ∧ Y5 (2 * i) = nI j ∧ Y5 (2 * i + 1) = b)) (Z : Nat → Int32) (zo : ∀ i, i < 2 * t → Z i = Y5 i) (z0 : Z (2 * t) = nI l) : (Z (2 * t + 1) = b → ∀ j, j < 32 → (bt (O ||| 1 <<< (nI l &&& 31)) j = true ↔ ∃ i, i < t + 1 ∧ Z (2 * i) = nI j ∧ Z (2 * i + 1) = b)) ∧ (¬ Z (2 * t + 1) = b → ∀ j, j < 32 → (bt O j = true ↔ ∃ i, i < t + 1 ∧ Z (2 * i) = nI j ∧ Z (2 * i + 1) = b)) := by
  constructor
  · intro hb j hj
    rw [b_or, bt_one hl, Bool.or_eq_true, A j hj]
    constructor
    · rintro (⟨i, i1, i2, i3⟩ | e)
      · exact ⟨i, by omega, by rw [zo _ (by omega)]; exact i2, by rw [zo _ (by omega)]; exact i3⟩
      · exact ⟨t, by omega, by rw [z0, of_decide_eq_true e], hb⟩
    · rintro ⟨i, i1, i2, i3⟩
      by_cases e : i = t
      · subst e
        right
        rw [z0] at i2
        exact decide_eq_true ((nI_eq (by omega) (by omega)).mp i2).symm
      · left
        rw [zo _ (by omega)] at i2
        rw [zo _ (by omega)] at i3
        exact ⟨i, by omega, i2, i3⟩
  · intro hb j hj
    rw [A j hj]
    constructor
    · rintro ⟨i, i1, i2, i3⟩
      exact ⟨i, by omega, by rw [zo _ (by omega)]; exact i2, by rw [zo _ (by omega)]; exact i3⟩
    · rintro ⟨i, i1, i2, i3⟩
      by_cases e : i = t
      · subst e; exact absurd i3 hb
      · rw [zo _ (by omega)] at i2
        rw [zo _ (by omega)] at i3
        exact ⟨i, by omega, i2, i3⟩
theorem s_tell {X : WS} {Y : MS} {N : Nat} (h : Rel X Y N) (p x : Int32) : Sim (f_X3_tell X p x) (f_X4_tell Y p x) N := by
  have hr := Rel_up h
  obtain ⟨n, t, v, w, r, td, lh, e6, ev, hv, e3, e5, e7, e8⟩ := h.2.1
  have hn := w.1
  unfold f_X3_tell f_X4_tell
  rcases listG w r p with ⟨l, hl, rfl, a, b⟩ | ⟨a, b⟩
  · obtain ⟨t1, t2, t3, t4, t5, t6⟩ := td
    rw [a, b, Option.bind_some, Option.bind_some, if_neg n10, if_neg n10, t2, t3]
    by_cases c : t = 8
    · subst c
      rw [if_neg (by decide), if_pos (by decide)]
      exact ⟨_, _, _, rfl, rfl, hr⟩
    · have hc0 : (nI (2 * t)).toNatClampNeg = 2 * t := nI_clamp (by omega)
      have hc1 : (nI (2 * t + 1)).toNatClampNeg = 2 * t + 1 := nI_clamp (by omega)
      rw [if_pos (show nI t < 8 from nI_lt (b := 8) (by omega) (by omega)), if_neg (show ¬ nI t = 8 from fun z => c ((nI_eq (b := 8) (by omega) (by omega)).mp z)), pw_two, pw_ix (show 2 * t < 16 by omega) (by omega), hc0]
      unfold f_X2_note
      simp only [stp_eq]
      have y1 : ups Y.1 5 (2 * t) (nI l) 0 14 = nI t := by rw [ups_o (by omega)]; exact t3
      rw [y1, pw_two, pw_one, pw_ix (show 2 * t + 1 < 16 by omega) (by omega), pw_ix (show 2 * t + 1 < 16 by omega) (by omega), hc1]
      have fin : ∀ (bv : Int32) (X1 : WS), (bv = 0 ∨ bv = 1) → (∀ c, c ≠ 3 → X1 c = X c) → (∀ j, j ≠ 15 → j ≠ 16 → X1 3 j = X 3 j) → (∀ j, j < 32 → (bt (X1 3 15) j = true ↔ ∃ i, i < t + 1 ∧ (upd (upd (Y.1 5) (2 * t) (nI l)) (2 * t + 1) bv) (2 * i) = nI j ∧ (upd (upd (Y.1 5) (2 * t) (nI l)) (2 * t + 1) bv) (2 * i + 1) = 1)) → (∀ j, j < 32 → (bt (X1 3 16) j = true ↔ ∃ i, i < t + 1 ∧ (upd (upd (Y.1 5) (2 * t) (nI l)) (2 * t + 1) bv) (2 * i) = nI j ∧ (upd (upd (Y.1 5) (2 * t) (nI l)) (2 * t + 1) bv) (2 * i + 1) = 0)) → Rel (ups X1 3 14 (nI (t + 1))) (ups (ups (ups Y.1 5 (2 * t) (nI l)) 5 (2 * t + 1) bv) 0 14 (nI (t + 1)), Y.2) (N + 1) := by
        intro bv X1 hbv q0 q3 q15 q16
        have z : ∀ c, c ≠ 3 → ups X1 3 14 (nI (t + 1)) c = X c := fun c hc => by rw [ups_o hc]; exact q0 c hc
        have z3 : ∀ j, j ≠ 14 → j ≠ 15 → j ≠ 16 → ups X1 3 14 (nI (t + 1)) 3 j = X 3 j := fun j h4 h5 h6 => by rw [ups_s, upd_o h4]; exact q3 j h5 h6
        have yo : ∀ c, c ≠ 0 → c ≠ 5 → ups (ups (ups Y.1 5 (2 * t) (nI l)) 5 (2 * t + 1) bv) 0 14 (nI (t + 1)) c = Y.1 c := fun c h0 h5 => by rw [ups_o h0, ups_o h5, ups_o h5]
        have y0 : ∀ j, j ≠ 14 → ups (ups (ups Y.1 5 (2 * t) (nI l)) 5 (2 * t + 1) bv) 0 14 (nI (t + 1)) 0 j = Y.1 0 j := fun j hj => by rw [ups_s, upd_o hj, ups_o (by omega), ups_o (by omega)]
        have y5 : ups (ups (ups Y.1 5 (2 * t) (nI l)) 5 (2 * t + 1) bv) 0 14 (nI (t + 1)) 5 = upd (upd (Y.1 5) (2 * t) (nI l)) (2 * t + 1) bv := by rw [ups_o (by omega), ups_s, ups_s]
        refine Rel_town hr ?_ ?_ ?_ ?_ ?_ ⟨n, t + 1, v, ?_, ?_, ⟨by omega, ?_, ?_, ?_, ?_, ?_⟩, ?_⟩
        · intro c hc; exact z c (by omega)
        · exact z3 8 (by omega) (by omega) (by omega)
        · exact z3 10 (by omega) (by omega) (by omega)
        · intro c c0 c2 c3 c5; exact yo c c0 c5
        · intro k hk; exact y0 k (by omega)
        · exact WX_c (z3 5 (by omega) (by omega) (by omega)) (z3 6 (by omega) (by omega) (by omega)) (z 5 (by omega)) (z 6 (by omega)) (z 7 (by omega)) (z 8 (by omega)) w
        · exact RM_c (y0 11 (by omega)) (yo 3 (by omega) (by omega)) (yo 2 (by omega) (by omega)) (z 5 (by omega)) (z 8 (by omega)) (z 4 (by omega)) r
        · rw [ups_s, upd_s]
        · rw [ups_s, upd_s]
        · intro i hi
          rw [y5]
          by_cases e : i = t
          · subst e
            refine ⟨l, hl, by rw [upd_o (by omega), upd_s], ?_⟩
            rw [upd_s]; exact hbv
          · rw [upd_o (by omega), upd_o (by omega), upd_o (by omega), upd_o (by omega)]
            exact t4 i (by omega)
        · rw [y5, ups_s, upd_o (by omega)]; exact q15
        · rw [y5, ups_s, upd_o (by omega)]; exact q16
        · rw [z3 7 (by omega) (by omega) (by omega), z3 9 (by omega) (by omega) (by omega), z3 11 (by omega) (by omega) (by omega), z3 12 (by omega) (by omega) (by omega), z3 13 (by omega) (by omega) (by omega), y0 6 (by omega), y0 3 (by omega), y0 5 (by omega), y0 7 (by omega), y0 8 (by omega)]
          exact ⟨lh, e6, ev, hv, e3, e5, e7, e8⟩
      have zo : ∀ bv : Int32, ∀ i, i < 2 * t → (upd (upd (Y.1 5) (2 * t) (nI l)) (2 * t + 1) bv) i = Y.1 5 i := fun bv i hi => by rw [upd_o (by omega), upd_o (by omega)]
      have z0 : ∀ bv : Int32, (upd (upd (Y.1 5) (2 * t) (nI l)) (2 * t + 1) bv) (2 * t) = nI l := fun bv => by rw [upd_o (by omega), upd_s]
      have z1 : ∀ bv : Int32, (upd (upd (Y.1 5) (2 * t) (nI l)) (2 * t + 1) bv) (2 * t + 1) = bv := fun bv => by rw [upd_s]
      by_cases cx : x = 0
      · rw [if_pos cx, if_pos cx, bnd2_sm]
        have x1 : ups X 3 16 (X 3 16 ||| 1 <<< (nI l &&& 31)) 3 14 = nI t := by rw [ups_s, upd_o (by omega)]; exact t2
        have y2 : ups (ups Y.1 5 (2 * t) (nI l)) 5 (2 * t + 1) 0 0 14 = nI t := by rw [ups_o (by omega), ups_o (by omega)]; exact t3
        rw [x1, y2, pw_one, ups_s (ups X 3 16 (X 3 16 ||| 1 <<< (nI l &&& 31))), upd_s, ups_s (ups (ups Y.1 5 (2 * t) (nI l)) 5 (2 * t + 1) 0), upd_s]
        refine ⟨_, _, _, rfl, rfl, fin 0 _ (Or.inl rfl) (fun c hc => ups_o hc _ _) (fun j h5 h6 => by rw [ups_s, upd_o h6]) ?_ ?_⟩
        · rw [ups_s, upd_o (by omega)]
          exact (tell_bits (by omega) t5 _ (zo 0) (z0 0)).2 (by rw [z1]; exact n01)
        · rw [ups_s, upd_s]
          exact (tell_bits (by omega) t6 _ (zo 0) (z0 0)).1 (z1 0)
      · rw [if_neg cx, if_neg cx, bnd2_sm]
        have x1 : ups X 3 15 (X 3 15 ||| 1 <<< (nI l &&& 31)) 3 14 = nI t := by rw [ups_s, upd_o (by omega)]; exact t2
        have y2 : ups (ups Y.1 5 (2 * t) (nI l)) 5 (2 * t + 1) 1 0 14 = nI t := by rw [ups_o (by omega), ups_o (by omega)]; exact t3
        rw [x1, y2, pw_one, ups_s (ups X 3 15 (X 3 15 ||| 1 <<< (nI l &&& 31))), upd_s, ups_s (ups (ups Y.1 5 (2 * t) (nI l)) 5 (2 * t + 1) 1), upd_s]
        refine ⟨_, _, _, rfl, rfl, fin 1 _ (Or.inr rfl) (fun c hc => ups_o hc _ _) (fun j h5 h6 => by rw [ups_s, upd_o h5]) ?_ ?_⟩
        · rw [ups_s, upd_s]
          exact (tell_bits (by omega) t5 _ (zo 1) (z0 1)).1 (z1 1)
        · rw [ups_s, upd_o (by omega)]
          exact (tell_bits (by omega) t6 _ (zo 1) (z0 1)).2 (by rw [z1]; exact n10)
  · rw [a, b, Option.bind_some, Option.bind_some, if_pos rfl, if_pos rfl]
    exact ⟨_, _, _, rfl, rfl, hr⟩
theorem TD_0 {X Y : WS} {n : Nat} (a : X 3 14 = 0) (b : X 3 15 = 0) (c : X 3 16 = 0) (d : Y 0 14 = 0) : TD X Y n 0 := by
  refine ⟨by omega, a, d, fun i hi => by omega, fun j _ => ?_, fun j _ => ?_⟩
  · rw [b, b_0]
    exact ⟨fun z => (by cases z), fun ⟨i, hi, _⟩ => (by omega)⟩
  · rw [c, b_0]
    exact ⟨fun z => (by cases z), fun ⟨i, hi, _⟩ => (by omega)⟩
theorem s_forget {X : WS} {Y : MS} {N : Nat} (h : Rel X Y N) : Sim (f_X3_forget X) (f_X4_forget Y) N := by
  have hr := Rel_up h
  obtain ⟨n, t, v, w, r, td, lh, e6, ev, hv, e3, e5, e7, e8⟩ := h.2.1
  obtain ⟨t1, t2, t3, -⟩ := td
  unfold f_X3_forget f_X4_forget f_X2_dropTold
  simp only [stp_eq, bnd2_sm]
  rw [t2, t3]
  refine ⟨_, _, _, rfl, rfl, Rel_town hr ?_ ?_ ?_ ?_ ?_ ⟨n, 0, v, ?_, ?_, TD_0 ?_ ?_ ?_ ?_, ?_⟩⟩
  · intro c hc; rw [ups_o (by omega), ups_o (by omega), ups_o (by omega)]
  · simp [ups, upd]
  · simp [ups, upd]
  · intro c c0 c2 c3 c5; rw [ups_o c0]
  · intro k hk; rw [ups_s, upd_o (by omega)]
  · exact WX_c (by simp [ups, upd]) (by simp [ups, upd]) (by simp [ups]) (by simp [ups]) (by simp [ups]) (by simp [ups]) w
  · exact RM_c (by simp [ups, upd]) (by simp [ups]) (by simp [ups]) (by simp [ups]) (by simp [ups]) (by simp [ups]) r
  · simp [ups, upd]
  · simp [ups, upd]
  · simp [ups, upd]
  · simp [ups, upd]
  · exact ⟨by simp [ups, upd]; exact lh, by simp [ups, upd]; exact e6, by simp [ups, upd]; exact ev, hv, by simp [ups, upd]; exact e3, by simp [ups, upd]; exact e5, by simp [ups, upd]; exact e7, by simp [ups, upd]; exact e8⟩
/-! where, ask, days, count -/
theorem s_where {X : WS} {Y : MS} {N : Nat} (h : Rel X Y N) (hN : N ≤ 500) (p : Int32) : ∃ r X', f_X3_where X p = some (r, X') ∧ f_X4_where Y p = some r ∧ Rel X' Y (N + 1) ∧ ag X X' := by
  have hr := Rel_up h
  obtain ⟨n, t, v, w, r, td, lh, e6, ev, hv, e3, e5, e7, e8⟩ := h.2.1
  unfold f_X3_where f_X4_where
  rcases rng p 0 1 (by omega) (by omega) with ⟨k, k1, k2, e, h1, h2⟩ | ⟨h1, h2⟩ | ⟨h1, h2⟩
  · rw [if_neg (show ¬ p < 0 from h1), if_pos (show p ≤ 1 from le_of_nlt h2), in1 (l := 0) (h := 1) (a := 0) (b := 1) rfl rfl h1 h2, Option.bind_some, if_neg n10]
    rcases hasG h hN with ⟨a, b⟩ | ⟨a, b⟩
    · rw [a, b, Option.bind_some, Option.bind_some, if_neg n10, if_pos rfl]
      obtain ⟨X', q1, q2⟩ := seekX w
      obtain ⟨u, u1, u2⟩ := whereM w r td p
      rw [q1, Option.bind_some, u2, Option.bind_some, q2.2.1, isF_uniq (by omega) q2.2.2.1 u1]
      by_cases c : p = 0
      · rw [if_pos c, if_pos c]
        exact ⟨_, _, rfl, rfl, agXM h q2.1, q2.1⟩
      · rw [if_neg c, if_neg c]
        exact ⟨_, _, rfl, rfl, agXM h q2.1, q2.1⟩
    · rw [a, b, Option.bind_some, Option.bind_some, if_pos rfl, if_neg n10]
      exact ⟨_, _, rfl, rfl, hr, ag_rf X⟩
  · rw [if_pos (show p < 0 from h1), in0 (l := 0) (h := 1) (a := 0) (b := 1) rfl rfl (Or.inl h1), Option.bind_some, if_pos rfl]
    exact ⟨_, _, rfl, rfl, hr, ag_rf X⟩
  · rw [if_neg (show ¬ p < 0 from h2), if_neg (show ¬ p ≤ 1 from nle_of_lt h1), in0 (l := 0) (h := 1) (a := 0) (b := 1) rfl rfl (Or.inr h1), Option.bind_some, if_pos rfl]
    exact ⟨_, _, rfl, rfl, hr, ag_rf X⟩
theorem s_ask {X : WS} {Y : MS} {N : Nat} (h : Rel X Y N) (hN : N ≤ 500) : ∃ r X', f_X3_ask X = some (r, X') ∧ f_X4_ask Y = some r ∧ Rel X' Y (N + 1) ∧ ag X X' := by
  have hr := Rel_up h
  obtain ⟨n, t, v, w, r, td, lh, e6, ev, hv, e3, e5, e7, e8⟩ := h.2.1
  unfold f_X3_ask f_X4_ask
  rcases hasG h hN with ⟨a, b⟩ | ⟨a, b⟩
  · rw [a, b, Option.bind_some, Option.bind_some, if_neg n10, if_pos rfl]
    obtain ⟨X', q1, q2⟩ := seekX w
    rw [q1, Option.bind_some, bestX w q2, Option.bind_some, askM w r td, Option.bind_some]
    exact ⟨_, _, rfl, rfl, agXM h q2.1, q2.1⟩
  · rw [a, b, Option.bind_some, Option.bind_some, if_pos rfl, if_neg n10]
    exact ⟨_, _, rfl, rfl, hr, ag_rf X⟩
theorem s_days {X : WS} {Y : MS} {N : Nat} (h : Rel X Y N) (hN : N ≤ 500) (p x z : Int32) : Sim (f_X3_days X p x z) (f_X4_days Y p x z) N := by
  have hr := Rel_up h
  obtain ⟨n, t, v, w, r, td, lh, e6, ev, hv, e3, e5, e7, e8⟩ := h.2.1
  unfold f_X3_days f_X4_days
  rcases rng p 1 60 (by omega) (by omega) with ⟨D, k1, k2, e, h1, h2⟩ | ⟨h1, h2⟩ | ⟨h1, h2⟩
  · rw [if_neg (show ¬ p < 1 from h1), if_neg (show ¬ 60 < p from h2), in1 (l := 1) (h := 60) (a := 1) (b := 60) rfl rfl h1 h2, Option.bind_some, if_neg n10]
    by_cases cx : x < 0
    · rw [if_pos cx, if_pos cx]
      exact ⟨_, _, _, rfl, rfl, hr⟩
    · rw [if_neg cx, if_neg cx]
      rcases rng z 0 2 (by omega) (by omega) with ⟨k, u1, u2, ez, g1, g2⟩ | ⟨g1, g2⟩ | ⟨g1, g2⟩
      · rw [if_neg (show ¬ z < 0 from g1), if_pos (show z ≤ 2 from le_of_nlt g2), in1 (l := 0) (h := 2) (a := 0) (b := 2) rfl rfl g1 g2, Option.bind_some, if_neg n10]
        rcases hasG h hN with ⟨a, b⟩ | ⟨a, b⟩
        · rw [a, b, Option.bind_some, Option.bind_some, if_neg n10, if_pos rfl, e, stp_eq]
          obtain ⟨X', Y', q1, q2, q3, q4⟩ := daysXM w r D k2 z x
          rw [q1, Option.bind_some, q3]
          refine ⟨_, X', Y', ?_, rfl, Rel_ag q2 q4 hr⟩
          repeat' split
          all_goals rfl
        · rw [a, b, Option.bind_some, Option.bind_some, if_pos rfl, if_neg n10]
          exact ⟨_, _, _, rfl, rfl, hr⟩
      · rw [if_pos (show z < 0 from g1), in0 (l := 0) (h := 2) (a := 0) (b := 2) rfl rfl (Or.inl g1), Option.bind_some, if_pos rfl]
        exact ⟨_, _, _, rfl, rfl, hr⟩
      · rw [if_neg (show ¬ z < 0 from g2), if_neg (show ¬ z ≤ 2 from nle_of_lt g1), in0 (l := 0) (h := 2) (a := 0) (b := 2) rfl rfl (Or.inr g1), Option.bind_some, if_pos rfl]
        exact ⟨_, _, _, rfl, rfl, hr⟩
  · rw [if_pos (show p < 1 from h1), in0 (l := 1) (h := 60) (a := 1) (b := 60) rfl rfl (Or.inl h1), Option.bind_some, if_pos rfl]
    exact ⟨_, _, _, rfl, rfl, hr⟩
  · rw [if_neg (show ¬ p < 1 from h2), if_pos (show 60 < p from h1), in0 (l := 1) (h := 60) (a := 1) (b := 60) rfl rfl (Or.inr h1), Option.bind_some, if_pos rfl]
    exact ⟨_, _, _, rfl, rfl, hr⟩
theorem cnt_eq {X : WS} {Y : MS} {N : Nat} (h : Rel X Y N) (x : Int32) : ∃ r, f_X3_count X x = some r ∧ f_X4_countOf Y x = some r := by
  obtain ⟨n, t, v, w, r, td, lh, e6, ev, hv, e3, e5, e7, e8⟩ := h.2.1
  obtain ⟨g, g1, g2, g3, g4⟩ := h.1
  obtain ⟨l1, l2, -⟩ := h.2.2.1
  obtain ⟨tr, -, ⟨c1, c2, -⟩, -⟩ := h.2.2.2
  obtain ⟨t1, t2, t3, -⟩ := td
  unfold f_X3_count f_X4_countOf
  rw [knowX, Option.bind_some, bcX, Option.bind_some, e6, knowM w r lh, Option.bind_some, onesM w.1 (lo_kn X lh), Option.bind_some, w.2.1, r.1, e3, l2, e5, e7, e8, t2, t3, g2, g3, c1, c2]
  repeat' split
  all_goals exact ⟨_, rfl, rfl⟩
theorem s_count {X : WS} {Y : MS} {N : Nat} (h : Rel X Y N) (x : Int32) : SimP (f_X3_count X x) (f_X4_count Y x) := by
  obtain ⟨z, z1, z2⟩ := cnt_eq h x
  unfold f_X4_count
  rw [z1, z2]
  exact ⟨z, rfl, rfl⟩
