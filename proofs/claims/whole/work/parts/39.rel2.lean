theorem n10 : ¬ (1 : Int32) = 0 := by decide
theorem Rel_page {X X' : WS} {Y : MS} {Y' : WS} {s : Int64} {N : Nat} (h : Rel X Y N) (hx : ∀ c, c ≠ 1 → c ≠ 2 → X' c = X c) (hy : ∀ c, c ≠ 0 → c ≠ 1 → Y' c = Y.1 c) (hz : ∀ k, k ≠ 1 → Y' 0 k = Y.1 0 k) (pg : PG X' Y') : Rel X' (Y', s) N := by
  obtain ⟨h1, h2, h3, tr, h4, h5, h6⟩ := h
  exact ⟨pg, TR_c (hx 3 (by omega) (by omega)) (hx 4 (by omega) (by omega)) (hx 5 (by omega) (by omega)) (hx 6 (by omega) (by omega)) (hx 7 (by omega) (by omega)) (hx 8 (by omega) (by omega)) (hy 2 (by omega) (by omega)) (hy 3 (by omega) (by omega)) (hy 5 (by omega) (by omega)) (hz 3 (by omega)) (hz 5 (by omega)) (hz 6 (by omega)) (hz 7 (by omega)) (hz 8 (by omega)) (hz 11 (by omega)) (hz 14 (by omega)) h2, LV_c (by rw [hx 3 (by omega) (by omega)]) (by rw [hx 3 (by omega) (by omega)]) (hz 2 (by omega)) (hz 4 (by omega)) h3, tr, h4, CT_c (by rw [hx 0 (by omega) (by omega)]) (by rw [hx 3 (by omega) (by omega)]) (hz 9 (by omega)) h5, KP_c (hx 9 (by omega) (by omega)) (hx 10 (by omega) (by omega)) (hx 11 (by omega) (by omega)) (hx 12 (by omega) (by omega)) (hx 13 (by omega) (by omega)) (hx 14 (by omega) (by omega)) (hy 6 (by omega) (by omega)) (hy 7 (by omega) (by omega)) (hy 8 (by omega) (by omega)) (fun k p q => hz k (by omega)) (by rw [hx 0 (by omega) (by omega)]) (by rw [hx 3 (by omega) (by omega)]) (by rw [hx 3 (by omega) (by omega)]) h6⟩
theorem Rel_town {X X' : WS} {Y : MS} {Y' : WS} {s : Int64} {N : Nat} (h : Rel X Y N) (hx : ∀ c, c < 3 ∨ 8 < c → X' c = X c) (x8 : X' 3 8 = X 3 8) (x10 : X' 3 10 = X 3 10) (hy : ∀ c, c ≠ 0 → c ≠ 2 → c ≠ 3 → c ≠ 5 → Y' c = Y.1 c) (hz : ∀ k, k = 1 ∨ k = 2 ∨ k = 4 ∨ k = 9 ∨ 17 ≤ k → Y' 0 k = Y.1 0 k) (tt : TR X' Y') : Rel X' (Y', s) N := by
  obtain ⟨h1, h2, h3, tr, h4, h5, h6⟩ := h
  exact ⟨PG_c (by rw [hx 1 (by omega)]) (hx 2 (by omega)) (hz 1 (by omega)) (hy 1 (by omega) (by omega) (by omega) (by omega)) h1, tt, LV_c x8 x10 (hz 2 (by omega)) (hz 4 (by omega)) h3, tr, h4, CT_c (by rw [hx 0 (by omega)]) x10 (hz 9 (by omega)) h5, KP_c (hx 9 (by omega)) (hx 10 (by omega)) (hx 11 (by omega)) (hx 12 (by omega)) (hx 13 (by omega)) (hx 14 (by omega)) (hy 6 (by omega) (by omega) (by omega) (by omega)) (hy 7 (by omega) (by omega) (by omega) (by omega)) (hy 8 (by omega) (by omega) (by omega) (by omega)) (fun k p q => hz k (by omega)) (by rw [hx 0 (by omega)]) x8 x10 h6⟩
/-! letter, blank, fault -/
theorem s_letter {X : WS} {Y : MS} {N : Nat} (h : Rel X Y N) (p : Int32) : Sim (f_X3_letter X p) (f_X4_letter Y p) N := by
  have hr := Rel_up h
  obtain ⟨g, g1, g2, g3, g4⟩ := h.1
  unfold f_X3_letter f_X4_letter
  rcases rng p 1 126 (by omega) (by omega) with ⟨k, k1, k2, e, h1, h2⟩ | ⟨h1, h2⟩ | ⟨h1, h2⟩
  · rw [if_neg (show ¬ p < 1 from h1), if_pos (show p ≤ 126 from le_of_nlt h2), in1 (l := 1) (h := 126) (a := 1) (b := 126) rfl rfl h1 h2, Option.bind_some, if_neg n10]
    have hc : (nI g).toNatClampNeg = g := nI_clamp (by omega)
    unfold f_X1_add
    rw [g2, g3]
    by_cases c : g = 12
    · subst c
      rw [if_neg (by decide), if_pos (by decide)]
      exact ⟨-104, X, Y, rfl, rfl, hr⟩
    · rw [if_pos (show nI g < 12 from nI_lt (b := 12) (by omega) (by omega)), if_neg (show ¬ nI g = 12 from fun z => c ((nI_eq (b := 12) (by omega) (by omega)).mp z)), pw_ix (show g < 12 by omega) (by omega), pw_ix (show g < 12 by omega) (by omega), hc]
      simp only [stp_eq, bnd2_sm]
      have e1 : ups X 2 g p 1 1 = nI g := by rw [ups_o (by omega)]; exact g2
      have e2 : ups Y.1 1 g p 0 1 = nI g := by rw [ups_o (by omega)]; exact g3
      rw [e1, e2, pw_one, ups_s (ups X 2 g p), upd_s, ups_s (ups Y.1 1 g p), upd_s]
      refine ⟨nI (g + 1), _, _, rfl, rfl, Rel_page hr ?_ ?_ ?_ ⟨g + 1, by omega, ?_, ?_, ?_⟩⟩
      · intro c c1 c2; rw [ups_o c1, ups_o c2]
      · intro c c1 c2; rw [ups_o c1, ups_o c2]
      · intro k hk; rw [ups_s, upd_o hk, ups_o (by omega)]
      · rw [ups_s, upd_s]
      · rw [ups_s, upd_s]
      · intro i hi
        rw [ups_o (by omega), ups_s, ups_o (by omega), ups_s]
        by_cases z : i = g
        · subst z
          exact ⟨k, by omega, by rw [upd_s]; exact e, by rw [upd_s]; exact e⟩
        · rw [upd_o z, upd_o z]
          exact g4 i (by omega)
  · rw [if_pos (show p < 1 from h1), in0 (l := 1) (h := 126) (a := 1) (b := 126) rfl rfl (Or.inl h1), Option.bind_some, if_pos rfl]
    exact ⟨-102, X, Y, rfl, rfl, hr⟩
  · rw [if_neg (show ¬ p < 1 from h2), if_neg (show ¬ p ≤ 126 from nle_of_lt h1), in0 (l := 1) (h := 126) (a := 1) (b := 126) rfl rfl (Or.inr h1), Option.bind_some, if_pos rfl]
    exact ⟨-102, X, Y, rfl, rfl, hr⟩
theorem s_blank {X : WS} {Y : MS} {N : Nat} (h : Rel X Y N) : Sim (f_X3_blank X) (f_X4_blank Y) N := by
  have hr := Rel_up h
  obtain ⟨g, g1, g2, g3, g4⟩ := h.1
  unfold f_X3_blank f_X4_blank f_X1_clear
  simp only [stp_eq, bnd2_sm]
  rw [g2, g3]
  refine ⟨nI g, _, _, rfl, rfl, Rel_page hr ?_ ?_ ?_ ⟨0, by omega, ?_, ?_, ?_⟩⟩
  · intro c c1 c2; rw [ups_o c1]
  · intro c c1 c2; rw [ups_o c1]
  · intro k hk; rw [ups_s, upd_o hk]
  · rw [ups_s, upd_s]; rfl
  · rw [ups_s, upd_s]; rfl
  · intro i hi; omega
theorem fits_eq : ∀ a, a < 12 → ∀ m, m < 127 → f_X1_fits (nI a) (nI m) = f_X4_isGood (nI a) (nI m) := by decide +kernel
theorem fits_01 : ∀ a, a < 12 → ∀ m, m < 127 → (f_X1_fits (nI a) (nI m) = some 0 ∨ f_X1_fits (nI a) (nI m) = some 1) := by decide +kernel
def gd (X : WS) (i : Nat) : Bool := decide (f_X1_fits (nI i) (X 2 i) = some 1)
theorem wrong_loop {X : WS} {Y : MS} {g : Nat} (g1 : g ≤ 12) (g2 : X 1 1 = nI g) (g3 : Y.1 0 1 = nI g) (g4 : ∀ i, i < g → ∃ m, m < 127 ∧ X 2 i = nI m ∧ Y.1 1 i = nI m) : ∀ (d k f : Nat), k + d = g → d < f → ∃ q, k ≤ q ∧ q ≤ g ∧ (∀ i, k ≤ i → i < q → gd X i = true) ∧ g_X1_firstWrong_2 X f (nI k) = some (nI q) ∧ g_X4_faultOf_2 Y f (nI k) = some (nI q) := by
  intro d
  induction d with
  | zero =>
    intro k f hk hf
    obtain ⟨f, rfl⟩ : ∃ g, f = g + 1 := ⟨f - 1, by omega⟩
    have e : k = g := by omega
    subst e
    refine ⟨k, by omega, by omega, fun i a b => by omega, ?_, ?_⟩
    · rw [g_X1_firstWrong_2, g2, if_pos (nI_le (Nat.le_refl _) (by omega))]
    · rw [g_X4_faultOf_2, g3, if_pos (nI_le (Nat.le_refl _) (by omega))]
  | succ d ih =>
    intro k f hk hf
    obtain ⟨f, rfl⟩ : ∃ g, f = g + 1 := ⟨f - 1, by omega⟩
    have hc : (nI k).toNatClampNeg = k := nI_clamp (by omega)
    obtain ⟨m, m1, m2, m3⟩ := g4 k (by omega)
    rw [g_X1_firstWrong_2, g2, if_neg (nI_ge (show k < g by omega) (by omega)), g_X4_faultOf_2, g3, if_neg (nI_ge (show k < g by omega) (by omega)), pw_ix (show k < 12 by omega) (by omega), pw_ix (show k < 12 by omega) (by omega), hc, m2, m3, ← fits_eq k (by omega) m m1]
    rcases fits_01 k (by omega) m m1 with e | e
    · rw [e, Option.bind_some, Option.bind_some, if_pos rfl, if_pos rfl]
      exact ⟨k, by omega, by omega, fun i a b => by omega, rfl, rfl⟩
    · rw [e, Option.bind_some, Option.bind_some, if_neg n10, if_neg n10]
      simp only [stp_eq, pw_one]
      obtain ⟨q, q1, q2, q3, q4, q5⟩ := ih (k + 1) f (by omega) (by omega)
      refine ⟨q, by omega, q2, fun i a b => ?_, q4, q5⟩
      by_cases z : i = k
      · subst z
        unfold gd
        rw [m2, e]
        rfl
      · exact q3 i (by omega) b
theorem wrongXM {X : WS} {Y : MS} {g : Nat} (g1 : g ≤ 12) (g2 : X 1 1 = nI g) (g3 : Y.1 0 1 = nI g) (g4 : ∀ i, i < g → ∃ m, m < 127 ∧ X 2 i = nI m ∧ Y.1 1 i = nI m) : ∃ q, q ≤ g ∧ (∀ i, i < q → gd X i = true) ∧ f_X1_firstWrong X = some (nI q) ∧ f_X4_faultOf Y = some (nI q) := by
  obtain ⟨q, q1, q2, q3, q4, q5⟩ := wrong_loop g1 g2 g3 g4 g 0 NF (by omega) (by have := NF_ge; omega)
  exact ⟨q, q2, fun i hi => q3 i (by omega) hi, q4, q5⟩
theorem s_fault {X : WS} {Y : MS} {N : Nat} (h : Rel X Y N) : SimP (f_X3_fault X) (f_X4_fault Y) := by
  obtain ⟨g, g1, g2, g3, g4⟩ := h.1
  obtain ⟨q, -, -, a, b⟩ := wrongXM g1 g2 g3 g4
  unfold f_X3_fault f_X4_fault
  rw [a, b]
  exact ⟨nI q, rfl, rfl⟩
/-! noise, hum -/
theorem s_noise {X : WS} {Y : MS} {N : Nat} (h : Rel X Y N) (hN : N ≤ 500) (p : Int32) : SimP (f_X3_noise X p) (f_X4_noise Y p) := by
  obtain ⟨n, t, v, w, r, td, lh, e6, ev, hv, e3, e5, e7, e8⟩ := h.2.1
  unfold f_X3_noise f_X4_noise
  rcases placeG h hN p with ⟨q, q1, rfl, a, b⟩ | ⟨a, b⟩
  · have hc : (nI q).toNatClampNeg = q := nI_clamp (by omega)
    rw [a, b, Option.bind_some, Option.bind_some, if_neg n10, if_neg n10, pw_ix q1 (by omega), pw_ix q1 (by omega), hc, r.2.2 q q1]
    exact ⟨_, rfl, rfl⟩
  · rw [a, b, Option.bind_some, Option.bind_some, if_pos rfl, if_pos rfl]
    exact ⟨_, rfl, rfl⟩
theorem s_hum {X : WS} {Y : MS} {N : Nat} (h : Rel X Y N) (hN : N ≤ 500) (p x : Int32) : Sim (f_X3_hum X p x) (f_X4_hum Y p x) N := by
  have hr := Rel_up h
  obtain ⟨n, t, v, w, r, td, lh, e6, ev, hv, e3, e5, e7, e8⟩ := h.2.1
  unfold f_X3_hum f_X4_hum
  rcases placeG h hN p with ⟨q, q1, rfl, a, b⟩ | ⟨a, b⟩
  · have hc : (nI q).toNatClampNeg = q := nI_clamp (by omega)
    rw [a, b, Option.bind_some, Option.bind_some, if_neg n10, if_neg n10]
    rcases rng x 0 9 (by omega) (by omega) with ⟨k, k1, k2, e, h1, h2⟩ | ⟨h1, h2⟩ | ⟨h1, h2⟩
    · rw [if_neg (show ¬ x < 0 from h1), if_pos (show x ≤ 9 from le_of_nlt h2), in1 (l := 0) (h := 9) (a := 0) (b := 9) rfl rfl h1 h2, Option.bind_some, if_neg n10]
      simp only [stp_eq, pw_ix q1 (show (6 : Nat) < 2 ^ 31 by omega), hc]
      rw [r.2.2 q q1]
      refine ⟨X 4 q, _, _, rfl, rfl, Rel_town hr ?_ ?_ ?_ ?_ ?_ ⟨n, t, v, ?_, ?_, ?_, ?_⟩⟩
      · intro c hc; rw [ups_o (by omega)]
      · rw [ups_o (by omega)]
      · rw [ups_o (by omega)]
      · intro c c0 c2 c3 c5; rw [ups_o c2]
      · intro k hk; rw [ups_o (by omega)]
      · exact WX_c (by rw [ups_o (by omega)]) (by rw [ups_o (by omega)]) (ups_o (by omega) _ _) (ups_o (by omega) _ _) (ups_o (by omega) _ _) (ups_o (by omega) _ _) w
      · obtain ⟨r1, r2, r3⟩ := r
        refine ⟨by rw [ups_o (by omega)]; exact r1, fun j hj => ?_, fun j hj => ?_⟩
        · rw [ups_o (by omega), ups_o (by omega), ups_o (by omega)]; exact r2 j hj
        · rw [ups_s, ups_s]
          by_cases z : j = q
          · subst z; rw [upd_s, upd_s]
          · rw [upd_o z, upd_o z]; exact r3 j hj
      · exact TD_c (by rw [ups_o (by omega)]) (by rw [ups_o (by omega)]) (by rw [ups_o (by omega)]) (by rw [ups_o (by omega)]) (ups_o (by omega) _ _) td
      · rw [ups_o (by omega), ups_o (by omega)]
        exact ⟨lh, e6, ev, hv, e3, e5, e7, e8⟩
    · rw [if_pos (show x < 0 from h1), in0 (l := 0) (h := 9) (a := 0) (b := 9) rfl rfl (Or.inl h1), Option.bind_some, if_pos rfl]
      exact ⟨_, _, _, rfl, rfl, hr⟩
    · rw [if_neg (show ¬ x < 0 from h2), if_neg (show ¬ x ≤ 9 from nle_of_lt h1), in0 (l := 0) (h := 9) (a := 0) (b := 9) rfl rfl (Or.inr h1), Option.bind_some, if_pos rfl]
      exact ⟨_, _, _, rfl, rfl, hr⟩
  · rw [a, b, Option.bind_some, Option.bind_some, if_pos rfl, if_pos rfl]
    exact ⟨_, _, _, rfl, rfl, hr⟩
/-! listener -/
theorem loudN (x : Int32) : f_X2_loudNeeded x = some (needK x) := by
  unfold f_X2_loudNeeded needK
  repeat' split
  all_goals rfl
theorem loudR (x : Int32) : f_X2_loudRepeated x = some (repK x) := by
  unfold f_X2_loudRepeated repK
  repeat' split
  all_goals rfl
theorem s_listener {X : WS} {Y : MS} {N : Nat} (h : Rel X Y N) (hN : N ≤ 500) (x p : Int32) : Sim (f_X3_listener X x p) (f_X4_listener Y x p) N := by
  have hr := Rel_up h
  obtain ⟨n, t, v, w, r, td, lh, e6, ev, hv, e3, e5, e7, e8⟩ := h.2.1
  unfold f_X3_listener f_X4_listener
  rcases kindG x with ⟨k, k1, rfl, a, b⟩ | ⟨a, b⟩
  · rw [a, b, Option.bind_some, Option.bind_some, if_neg n10, if_neg n10]
    rcases placeG h hN p with ⟨q, q1, rfl, a2, b2⟩ | ⟨a2, b2⟩
    · rw [a2, b2, Option.bind_some, Option.bind_some, if_neg n10, if_neg n10]
      have hw := w
      have hrr := r
      obtain ⟨w1, w2, w3, w4⟩ := w
      obtain ⟨r1, r2, r3⟩ := r
      unfold f_X2_settle
      simp only [stp_eq]
      rw [w2, r1]
      by_cases c : n = 6
      · subst c
        rw [if_neg (by decide), if_pos (by decide)]
        exact ⟨_, _, _, rfl, rfl, hr⟩
      · have hc : (nI n).toNatClampNeg = n := nI_clamp (by omega)
        have hc2 : (nI (2 * n)).toNatClampNeg = 2 * n := nI_clamp (by omega)
        have hc3 : (nI (2 * n + 1)).toNatClampNeg = 2 * n + 1 := nI_clamp (by omega)
        have en := loudN (nI k)
        have er := loudR (nI k)
        rw [if_pos (show nI n < 6 from nI_lt (b := 6) (by omega) (by omega)), if_neg (show ¬ nI n = 6 from fun z => c ((nI_eq (b := 6) (by omega) (by omega)).mp z))]
        simp only [stp_eq, pw_two, pw_one, hc, hc2, en, er, bind_sm, pw_ix (show n < 6 by omega) (show (6 : Nat) < 2 ^ 31 by omega), pw_ix (show 2 * n < 12 by omega) (show (12 : Nat) < 2 ^ 31 by omega)]
        have y1 : ups Y.1 3 (2 * n) (nI k) 0 11 = nI n := by rw [ups_o (by omega)]; exact r1
        rw [y1]
        simp only [pw_two, pw_one, hc3, pw_ix (show 2 * n + 1 < 12 by omega) (show (12 : Nat) < 2 ^ 31 by omega)]
        generalize hY2 : ups (ups Y.1 3 (2 * n) (nI k)) 3 (2 * n + 1) (nI q) = Y2
        generalize hX4 : ups (ups (ups (ups X 5 n (nI k)) 6 n (needK (nI k))) 7 n (repK (nI k))) 8 n (nI q) = X4
        have y2 : Y2 0 11 = nI n := by rw [← hY2, ups_o (by omega), ups_o (by omega)]; exact r1
        have y3 : Y2 3 = upd (upd (Y.1 3) (2 * n) (nI k)) (2 * n + 1) (nI q) := by rw [← hY2, ups_s, ups_s]
        have yo : ∀ c, c ≠ 3 → Y2 c = Y.1 c := fun c hc => by rw [← hY2, ups_o hc, ups_o hc]
        have xo : ∀ c, c < 5 ∨ 8 < c → X4 c = X c := fun c hc => by rw [← hX4, ups_o (by omega), ups_o (by omega), ups_o (by omega), ups_o (by omega)]
        have x5 : X4 5 = upd (X 5) n (nI k) := by rw [← hX4, ups_o (by omega), ups_o (by omega), ups_o (by omega), ups_s]
        have x6 : X4 6 = upd (X 6) n (needK (nI k)) := by rw [← hX4, ups_o (by omega), ups_o (by omega), ups_s, ups_o (by omega)]
        have x7 : X4 7 = upd (X 7) n (repK (nI k)) := by rw [← hX4, ups_o (by omega), ups_s, ups_o (by omega), ups_o (by omega)]
        have x8 : X4 8 = upd (X 8) n (nI q) := by rw [← hX4, ups_s, ups_o (by omega), ups_o (by omega), ups_o (by omega)]
        have key : ∀ X5 : WS, (∀ c, c ≠ 3 → X5 c = X4 c) → (∀ j, j ≠ 6 → X5 3 j = X4 3 j) → X5 3 6 = orb (fun j => decide (X4 5 j = 2)) (n + 1) → Rel (ups X5 3 5 (nI (n + 1))) (ups Y2 0 11 (nI (n + 1)), Y.2) (N + 1) := by
          intro X5 q0 q3 q6
          have z : ∀ c, c ≠ 3 → ups X5 3 5 (nI (n + 1)) c = X4 c := fun c hc => by rw [ups_o hc]; exact q0 c hc
          have z3 : ∀ j, j ≠ 5 → j ≠ 6 → ups X5 3 5 (nI (n + 1)) 3 j = X 3 j := fun j h5 h6 => by rw [ups_s, upd_o h5, q3 j h6, xo 3 (by omega)]
          have zy : ∀ j, j ≠ 11 → ups Y2 0 11 (nI (n + 1)) 0 j = Y.1 0 j := fun j hj => by rw [ups_s, upd_o hj, yo 0 (by omega)]
          refine Rel_town hr ?_ ?_ ?_ ?_ ?_ ⟨n + 1, t, v, ⟨by omega, ?_, ?_, ?_⟩, ⟨?_, ?_, ?_⟩, ?_, ?_⟩
          · intro c hc; rw [z c (by omega)]; exact xo c (by omega)
          · exact z3 8 (by omega) (by omega)
          · exact z3 10 (by omega) (by omega)
          · intro c c0 c2 c3 c5; rw [ups_o c0]; exact yo c c3
          · intro k hk; exact zy k (by omega)
          · rw [ups_s, upd_s]
          · intro j hj
            rw [z 6 (by omega), z 5 (by omega), z 7 (by omega), z 8 (by omega), x5, x6, x7, x8]
            by_cases e : j = n
            · subst e
              rw [upd_s, upd_s, upd_s, upd_s]
              exact ⟨rfl, rfl, q, q1, rfl⟩
            · rw [upd_o e, upd_o e, upd_o e, upd_o e]
              exact w3 j (by omega)
          · rw [ups_s, upd_o (by omega), q6, z 5 (by omega)]
          · rw [ups_s, upd_s]
          · intro j hj
            rw [ups_o (by omega), z 5 (by omega), z 8 (by omega), x5, x8, y3]
            by_cases e : j = n
            · subst e
              rw [upd_s, upd_s, upd_s, upd_o (by omega), upd_s]
              exact ⟨rfl, rfl⟩
            · rw [upd_o e, upd_o e, upd_o (by omega), upd_o (by omega), upd_o (by omega), upd_o (by omega)]
              exact r2 j (by omega)
          · intro j hj
            rw [ups_o (by omega), yo 2 (by omega), z 4 (by omega), xo 4 (by omega)]
            exact r3 j hj
          · obtain ⟨t1, t2, t3, t4, t5, t6⟩ := td
            refine ⟨t1, by rw [z3 14 (by omega) (by omega)]; exact t2, by rw [zy 14 (by omega)]; exact t3, ?_, ?_, ?_⟩
            · intro i hi
              rw [ups_o (by omega), yo 5 (by omega)]
              obtain ⟨j, j1, j2⟩ := t4 i hi
              exact ⟨j, by omega, j2⟩
            · rw [z3 15 (by omega) (by omega), show ups Y2 0 11 (nI (n + 1)) 5 = Y.1 5 from (ups_o (by omega) _ _).trans (yo 5 (by omega))]; exact t5
            · rw [z3 16 (by omega) (by omega), show ups Y2 0 11 (nI (n + 1)) 5 = Y.1 5 from (ups_o (by omega) _ _).trans (yo 5 (by omega))]; exact t6
          · rw [z3 7 (by omega) (by omega), z3 9 (by omega) (by omega), z3 11 (by omega) (by omega), z3 12 (by omega) (by omega), z3 13 (by omega) (by omega), zy 6 (by omega), zy 3 (by omega), zy 5 (by omega), zy 7 (by omega), zy 8 (by omega)]
            exact ⟨fun i hi => lh i (by omega), e6, ev, hv, e3, e5, e7, e8⟩
        have og : orb (fun j => decide (X4 5 j = 2)) n = X 3 6 := by
          rw [w4]
          refine orb_congr (fun j hj => ?_)
          rw [x5, upd_o (by omega)]
        have ogk : X4 5 n = nI k := by rw [x5, upd_s]
        rw [y2, pw_one]
        have y9 : ups Y2 0 11 (nI (n + 1)) 0 11 - 1 = nI n := by rw [ups_s, upd_s, nI_pred]
        rw [y9]
        by_cases ck : nI k = 2
        · rw [if_pos ck]
          have e1 : ups X4 3 6 (X4 3 6 ||| 1 <<< (nI n &&& 31)) 3 5 = nI n := by rw [ups_s, upd_o (by omega), xo 3 (by omega)]; exact w2
          rw [e1, pw_one]
          refine ⟨nI n, _, _, rfl, rfl, key _ (fun c hc => ups_o hc _ _) (fun j hj => by rw [ups_s, upd_o hj]) ?_⟩
          rw [ups_s, upd_s, orb, og, ogk, decide_eq_true ck, xo 3 (by omega), if_pos rfl]
        · rw [if_neg ck]
          have e1 : X4 3 5 = nI n := by rw [xo 3 (by omega)]; exact w2
          rw [e1, pw_one]
          refine ⟨nI n, _, _, rfl, rfl, key _ (fun c hc => rfl) (fun j hj => rfl) ?_⟩
          rw [orb, og, ogk, decide_eq_false ck, xo 3 (by omega), if_neg (by decide)]
          simp
    · rw [a2, b2, Option.bind_some, Option.bind_some, if_pos rfl, if_pos rfl]
      exact ⟨_, _, _, rfl, rfl, hr⟩
  · rw [a, b, Option.bind_some, Option.bind_some, if_pos rfl, if_pos rfl]
    exact ⟨_, _, _, rfl, rfl, hr⟩
