/-! town -/
theorem dig (X : WS) {k : Nat} (hk : k < 12) : f_X1_digit X (nI k) = some (X 2 k - 48) := by
  have hc : (nI k).toNatClampNeg = k := nI_clamp (by omega)
  unfold f_X1_digit
  rw [if_neg (nI_pos (by omega)), if_neg (lit_nle (L := 12) (b := 12) rfl hk (by omega)), pw_ix hk (by omega), hc]
theorem beg_loop (X : WS) : ∀ (d k f : Nat) (X' : WS), k + d = 6 → d < f → (∀ c, c ≠ 4 → X' c = X c) → (∀ i, i < k → X' 4 i = X 2 i - 48) → ∃ Xf, g_X2_begin_2 f X' (nI k) = some Xf ∧ (∀ c, c ≠ 3 → c ≠ 4 → Xf c = X c) ∧ (∀ i, i < 6 → Xf 4 i = X 2 i - 48) ∧ Xf 3 8 = X 2 7 - 48 ∧ Xf 3 9 = X 2 7 - 48 ∧ Xf 3 10 = X 2 8 - 48 ∧ Xf 3 5 = 0 ∧ Xf 3 6 = 0 ∧ Xf 3 7 = 0 ∧ Xf 3 11 = 0 ∧ Xf 3 12 = 1 ∧ Xf 3 13 = 1 ∧ Xf 3 14 = 0 ∧ Xf 3 15 = 0 ∧ Xf 3 16 = 0 := by
  intro d
  induction d with
  | zero =>
    intro k f X' hk hf ho ha
    obtain ⟨f, rfl⟩ : ∃ g, f = g + 1 := ⟨f - 1, by omega⟩
    have e : k = 6 := by omega
    subst e
    rw [g_X2_begin_2, if_pos (by decide), show (7 : Int32) = nI 7 from rfl, dig X' (by omega), Option.bind_some]
    refine stp_ex (fun X3 e3 => ?_)
    refine stp_ex (fun x4 e4 => ?_)
    refine stp_ex (fun X5 e5 => ?_)
    rw [show (8 : Int32) = nI 8 from rfl, dig X5 (by omega), Option.bind_some]
    refine stp_ex (fun X7 e7 => ?_)
    refine stp_ex (fun X8 e8 => ?_)
    refine stp_ex (fun X9 e9 => ?_)
    refine stp_ex (fun X10 e10 => ?_)
    refine stp_ex (fun X11 e11 => ?_)
    refine stp_ex (fun X12 e12 => ?_)
    refine stp_ex (fun X13 e13 => ?_)
    unfold f_X2_dropTold
    simp only [stp_eq, bnd2_sm]
    have x2 : X5 2 = X 2 := by rw [e5, ups_o (by omega), e3, ups_o (by omega)]; exact ho 2 (by omega)
    have v4 : x4 = X 2 7 - 48 := by rw [e4, e3, ups_s, upd_s, ho 2 (by omega)]
    refine ⟨_, rfl, fun c h3 h4 => ?_, fun i hi => ?_, ?_⟩
    · rw [ups_o h3, ups_o h3, ups_o h3, e13, ups_o h3, e12, ups_o h3, e11, ups_o h3, e10, ups_o h3, e9, ups_o h3, e8, ups_o h3, e7, ups_o h3, e5, ups_o h3, e3, ups_o h3]
      exact ho c h4
    · rw [ups_o (by omega), ups_o (by omega), ups_o (by omega), e13, ups_o (by omega), e12, ups_o (by omega), e11, ups_o (by omega), e10, ups_o (by omega), e9, ups_o (by omega), e8, ups_o (by omega), e7, ups_o (by omega), e5, ups_o (by omega), e3, ups_o (by omega)]
      exact ha i hi
    · rw [e13, e12, e11, e10, e9, e8, e7, x2, e5, v4, e3, ho 2 (by omega)]
      simp [ups, upd]
  | succ d ih =>
    intro k f X' hk hf ho ha
    obtain ⟨f, rfl⟩ : ∃ g, f = g + 1 := ⟨f - 1, by omega⟩
    have hc : (nI k).toNatClampNeg = k := nI_clamp (by omega)
    rw [g_X2_begin_2, if_neg (lit_nle (L := 6) (b := 6) (k := k) rfl (by omega) (by omega)), dig X' (by omega), Option.bind_some, pw_ix (show k < 6 by omega) (by omega), hc]
    simp only [stp_eq, pw_one]
    refine ih (k + 1) f _ (by omega) (by omega) (fun c h4 => by rw [ups_o h4]; exact ho c h4) (fun i hi => ?_)
    rw [ups_s]
    by_cases z : i = k
    · subst z; rw [upd_s, ho 2 (by omega)]
    · rw [upd_o z]; exact ha i (by omega)
def smS (f : Nat → Int32) : Nat → Int32
  | 0 => 0
  | k + 1 => smS f k + f k
theorem smS_c {f g : Nat → Int32} : ∀ {k : Nat}, (∀ i, i < k → f i = g i) → smS f k = smS g k := by
  intro k
  induction k with
  | zero => intro _; rfl
  | succ k ih => intro h; rw [smS, smS, ih (fun i hi => h i (by omega)), h k (by omega)]
theorem sum_loop (X : WS) : ∀ (d k f : Nat), k + d = 6 → d < f → g_X2_noiseInAll_4 X f (smS (X 4) k) (nI k) = some (smS (X 4) 6) := by
  intro d
  induction d with
  | zero =>
    intro k f hk hf
    obtain ⟨f, rfl⟩ : ∃ g, f = g + 1 := ⟨f - 1, by omega⟩
    have e : k = 6 := by omega
    subst e
    rw [g_X2_noiseInAll_4, if_pos (by decide)]
  | succ d ih =>
    intro k f hk hf
    obtain ⟨f, rfl⟩ : ∃ g, f = g + 1 := ⟨f - 1, by omega⟩
    have hc : (nI k).toNatClampNeg = k := nI_clamp (by omega)
    rw [g_X2_noiseInAll_4, if_neg (lit_nle (L := 6) (b := 6) (k := k) rfl (by omega) (by omega)), pw_ix (show k < 6 by omega) (by omega), hc]
    simp only [stp_eq, pw_one]
    exact ih (k + 1) f (by omega) (by omega)
theorem towM_loop (Y : MS) : ∀ (d k f : Nat) (Y' : MS), k + d = 6 → d < f → (∀ c, c ≠ 2 → Y'.1 c = Y.1 c) → (∀ i, i < k → Y'.1 2 i = Y.1 1 i - 48) → ∃ (r : Int32) (Yf : MS), g_X4_town_25 f Y' (smS (fun i => Y.1 1 i - 48) k) (nI k) = some (r, Yf) ∧ (r = smS (fun i => Y.1 1 i - 48) 6 ∧ (∀ c, c ≠ 0 → c ≠ 2 → Yf.1 c = Y.1 c) ∧ (∀ i, i < 6 → Yf.1 2 i = Y.1 1 i - 48) ∧ (∀ j, 15 ≤ j → Yf.1 0 j = Y.1 0 j) ∧ Yf.1 0 2 = Y.1 1 7 - 48 ∧ Yf.1 0 3 = Y.1 1 7 - 48 ∧ Yf.1 0 4 = Y.1 1 8 - 48 ∧ Yf.1 0 5 = 0 ∧ Yf.1 0 6 = 0 ∧ Yf.1 0 7 = 1 ∧ Yf.1 0 8 = 1 ∧ Yf.1 0 11 = 0 ∧ Yf.1 0 14 = 0 ∧ Yf.1 0 9 = Y.1 0 9 + 1 ∧ Yf.1 0 1 = 0) := by
  intro d
  induction d with
  | zero =>
    intro k f Y' hk hf ho ha
    obtain ⟨f, rfl⟩ : ∃ g, f = g + 1 := ⟨f - 1, by omega⟩
    have e : k = 6 := by omega
    subst e
    rw [g_X4_town_25, if_pos (by decide), show Int32.toNatClampNeg 7 = 7 from by decide, show Int32.toNatClampNeg 8 = 8 from by decide]
    refine stp_ex2 (fun x5 e5 => ?_)
    refine stp_ex2 (fun X6 e6 => ?_)
    refine stp_ex2 (fun x7 e7 => ?_)
    refine stp_ex2 (fun X8 e8 => ?_)
    refine stp_ex2 (fun x9 e9 => ?_)
    refine stp_ex2 (fun X10 e10 => ?_)
    refine stp_ex2 (fun X11 e11 => ?_)
    refine stp_ex2 (fun X12 e12 => ?_)
    refine stp_ex2 (fun X13 e13 => ?_)
    refine stp_ex2 (fun X14 e14 => ?_)
    refine stp_ex2 (fun X15 e15 => ?_)
    refine stp_ex2 (fun X16 e16 => ?_)
    refine stp_ex2 (fun x17 e17 => ?_)
    refine stp_ex2 (fun X18 e18 => ?_)
    refine stp_ex2 (fun X19 e19 => ?_)
    have v5 : x5 = Y.1 1 7 - 48 := by rw [e5, ho 1 (by omega)]
    have v7 : x7 = Y.1 1 7 - 48 := by rw [e7, e6]; show ups Y'.1 0 2 x5 0 2 = _; rw [ups_s, upd_s, v5]
    have v9 : x9 = Y.1 1 8 - 48 := by
      rw [e9, e8, e6]; show ups (ups Y'.1 0 2 x5) 0 3 x7 1 8 - 48 = _
      rw [ups_o (by omega), ups_o (by omega), ho 1 (by omega)]
    have z16 : X16.1 = ups (ups (ups (ups (ups (ups (ups (ups (ups Y'.1 0 2 x5) 0 3 x7) 0 4 x9) 0 5 0) 0 6 0) 0 7 1) 0 8 1) 0 11 0) 0 14 0 := by
      rw [e16, e15, e14, e13, e12, e11, e10, e8, e6]
    have v17 : x17 = Y.1 0 9 + 1 := by
      rw [e17, z16]; simp [ups, upd]; rw [ho 0 (by omega)]
    have z19 : X19.1 = ups (ups X16.1 0 9 x17) 0 1 0 := by rw [e19, e18]
    refine ⟨_, X19, rfl, rfl, fun c h0 h2 => ?_, fun i hi => ?_, fun j hj => ?_, ?_⟩
    · rw [z19, z16, ups_o h0, ups_o h0, ups_o h0, ups_o h0, ups_o h0, ups_o h0, ups_o h0, ups_o h0, ups_o h0, ups_o h0, ups_o h0]
      exact ho c h2
    · rw [z19, z16, ups_o (by omega), ups_o (by omega), ups_o (by omega), ups_o (by omega), ups_o (by omega), ups_o (by omega), ups_o (by omega), ups_o (by omega), ups_o (by omega), ups_o (by omega), ups_o (by omega)]
      exact ha i hi
    · rw [z19, z16, ups_s, upd_o (by omega), ups_s, upd_o (by omega), ups_s, upd_o (by omega), ups_s, upd_o (by omega), ups_s, upd_o (by omega), ups_s, upd_o (by omega), ups_s, upd_o (by omega), ups_s, upd_o (by omega), ups_s, upd_o (by omega), ups_s, upd_o (by omega), ups_s, upd_o (by omega), ho 0 (by omega)]
    · rw [z19, z16, v17, v9, v7, v5]
      simp [ups, upd]
  | succ d ih =>
    intro k f Y' hk hf ho ha
    obtain ⟨f, rfl⟩ : ∃ g, f = g + 1 := ⟨f - 1, by omega⟩
    have hc : (nI k).toNatClampNeg = k := nI_clamp (by omega)
    rw [g_X4_town_25, if_neg (lit_nle (L := 6) (b := 6) (k := k) rfl (by omega) (by omega)), pw_ix (show k < 12 by omega) (by omega), hc, ho 1 (by omega)]
    simp only [stp_eq, pw_one, pw_ix (show k < 6 by omega) (show (6 : Nat) < 2 ^ 31 by omega)]
    rw [ups_s, upd_s]
    exact ih (k + 1) f (ups Y'.1 2 k (Y.1 1 k - 48), Y'.2) (by omega) (by omega) (fun c h2 => (ups_o h2 _ _).trans (ho c h2)) (fun i hi => by
      show ups Y'.1 2 k (Y.1 1 k - 48) 2 i = _
      rw [ups_s]
      by_cases z : i = k
      · subst z; rw [upd_s]
      · rw [upd_o z]; exact ha i (by omega))
theorem voice_ok : ∀ m, m < 127 → f_X1_fits (nI 7) (nI m) = some 1 → (nI m - 48 = nI (m - 48) ∧ m - 48 ≤ 9) := by decide +kernel
theorem law_ok : ∀ m, m < 127 → f_X1_fits (nI 8) (nI m) = some 1 → (nI m - 48 = nI (m - 48) ∧ 0 < m - 48 ∧ m - 48 ≤ 9) := by decide +kernel
theorem s_town {X : WS} {Y : MS} {N : Nat} (h : Rel X Y N) (hN : N ≤ 500) : Sim (f_X3_town X) (f_X4_town Y) N := by
  have hr := Rel_up h
  obtain ⟨⟨g, g1, g2, g3, g4⟩, tt, lv, tr, htr, ct, kp⟩ := h
  obtain ⟨q, q1, q2, q3, q4⟩ := wrongXM g1 g2 g3 g4
  unfold f_X3_town f_X4_town f_X1_isTown
  rw [q3, q4, g2, g3, Option.bind_some, Option.bind_some]
  by_cases c9 : g = 9
  · subst c9
    rw [if_pos (show nI 9 = 9 from rfl), if_pos (show nI 9 = 9 from rfl)]
    by_cases cq : q = 9
    · subst cq
      rw [if_pos (show nI 9 = 9 from rfl), if_pos (show (9 : Int32) ≤ nI 9 by decide), Option.bind_some, if_neg n10]
      obtain ⟨Xf, b1, b2, b3, b4, b5, b6, b7, b8, b9, b10, b11, b12, b13, b14, b15⟩ := beg_loop X 6 0 NF X (by omega) (by have := NF_ge; omega) (fun _ _ => rfl) (fun i hi => by omega)
      obtain ⟨r, Yf, m1, m2, m3, m4, m5, m6, m7, m8, m9, m10, m11, m12, m13, m14, m15, m16⟩ := towM_loop Y 6 0 NF Y (by omega) (by have := NF_ge; omega) (fun _ _ => rfl) (fun i hi => by omega)
      have m1' : g_X4_town_25 NF Y 0 0 = some (r, Yf) := m1
      rw [m1']
      unfold f_X2_begin f_X1_clear
      rw [show (0 : Int32) = nI 0 from rfl, b1, Option.bind_some]
      simp only [stp_eq, bnd2_sm]
      have x05 : ups (ups Xf 1 1 (nI 0)) 0 4 (nI 0) 0 5 = nI tr := by simp [ups, upd]; rw [b2 0 (by omega) (by omega)]; exact ct.1
      rw [x05, pw_one]
      generalize hX : ups (ups (ups Xf 1 1 (nI 0)) 0 4 (nI 0)) 0 5 (nI (tr + 1)) = X'
      have o : ∀ c, c ≠ 0 → c ≠ 1 → X' c = Xf c := fun c h0 h1 => by rw [← hX, ups_o h0, ups_o h0, ups_o h1]
      have es := sum_loop X' 6 0 NF (by omega) (by have := NF_ge; omega)
      unfold f_X2_noiseInAll
      rw [show smS (X' 4) 0 = nI 0 from rfl] at es
      rw [show (0 : Int32) = nI 0 from rfl, es, Option.bind_some]
      have esum : smS (X' 4) 6 = r := by
        rw [m2]
        refine smS_c (fun i hi => ?_)
        obtain ⟨m, -, u1, u2⟩ := g4 i (by omega)
        rw [o 4 (by omega) (by omega), b3 i hi, u1, u2]
      obtain ⟨mv, hmv, u1, u2⟩ := g4 7 (by omega)
      obtain ⟨ml, hml, u3, u4⟩ := g4 8 (by omega)
      have f7 := q2 7 (by omega)
      have f8 := q2 8 (by omega)
      unfold gd at f7 f8
      rw [u1] at f7
      rw [u3] at f8
      obtain ⟨v1, v2⟩ := voice_ok mv hmv (of_decide_eq_true f7)
      obtain ⟨l1, l2, l3⟩ := law_ok ml hml (of_decide_eq_true f8)
      have x8 : X' 3 8 = nI (mv - 48) := by rw [o 3 (by omega) (by omega), b4, u1, v1]
      have x9 : X' 3 9 = nI (mv - 48) := by rw [o 3 (by omega) (by omega), b5, u1, v1]
      have x10 : X' 3 10 = nI (ml - 48) := by rw [o 3 (by omega) (by omega), b6, u3, l1]
      refine ⟨r, X', Yf, by rw [esum], rfl, ⟨0, by omega, ?_, by rw [m16]; rfl, fun i hi => by omega⟩, ⟨0, 0, mv - 48, ⟨by omega, ?_, fun j hj => by omega, ?_⟩, ⟨by rw [m13]; rfl, fun j hj => by omega, fun p hp => ?_⟩, TD_0 ?_ ?_ ?_ m14, ?_⟩, ⟨?_, ?_, mv - 48, v2, x8⟩, tr + 1, by omega, ⟨?_, ?_, Or.inr ⟨by omega, ml - 48, l2, l3, x10⟩⟩, Or.inr ⟨?_, ?_⟩⟩
      · rw [← hX]; simp [ups, upd]
      · rw [o 3 (by omega) (by omega), b7]; rfl
      · rw [o 3 (by omega) (by omega), b8]; rfl
      · obtain ⟨m, -, w1, w2⟩ := g4 p (by omega)
        rw [m4 p hp, o 4 (by omega) (by omega), b3 p hp, w1, w2]
      · rw [o 3 (by omega) (by omega), b13]
      · rw [o 3 (by omega) (by omega), b14]
      · rw [o 3 (by omega) (by omega), b15]
      · rw [o 3 (by omega) (by omega), b9, b10, b11, b12, m10, m9, m7, m11, m12, u2, v1]
        refine ⟨lo_0 0, rfl, ?_, v2, ?_, rfl, rfl, rfl⟩
        · rw [b5, u1, v1]
        · rw [b5, u1, v1]
      · rw [m6, u2, v1]; exact x8.symm
      · rw [m8, u4, l1]; exact x10.symm
      · rw [← hX, ups_s, upd_s]
      · rw [m15, ct.2.1, pw_one]
      · rw [← hX]; simp [ups, upd]; rfl
      · rw [m5 17 (by omega)]
        rcases kp with ⟨-, -, k3, -⟩ | ⟨-, k2⟩
        · exact Or.inr ⟨tr, by omega, k3⟩
        · rcases k2 with e | ⟨kt, e1, e2⟩
          · exact Or.inl e
          · exact Or.inr ⟨kt, by omega, e2⟩
    · rw [if_neg (show ¬ nI q = 9 from fun z => cq ((nI_eq (b := 9) (by omega) (by omega)).mp z)), if_neg (show ¬ (9 : Int32) ≤ nI q from lit_nle (L := 9) (b := 9) rfl (by omega) (by omega)), Option.bind_some, if_pos rfl]
      exact ⟨_, _, _, rfl, rfl, hr⟩
  · rw [if_neg (show ¬ nI g = 9 from fun z => c9 ((nI_eq (b := 9) (by omega) (by omega)).mp z)), if_neg (show ¬ nI g = 9 from fun z => c9 ((nI_eq (b := 9) (by omega) (by omega)).mp z)), Option.bind_some, if_pos rfl]
    exact ⟨_, _, _, rfl, rfl, hr⟩
