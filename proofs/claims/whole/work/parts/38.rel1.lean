/-! the relation between the two -/
def kX (X : WS) : WS := fun c => if c < 9 then X (c + 6) else X c
def kY (Y : WS) : WS := fun c => if c = 0 then (fun k => if k = 11 then Y 0 18 else if k = 3 then Y 0 19 else if k = 5 then Y 0 20 else if k = 6 then Y 0 21 else if k = 7 then Y 0 22 else if k = 8 then Y 0 23 else if k = 14 then Y 0 24 else 0) else if c = 3 then Y 6 else if c = 5 then Y 7 else if c = 2 then Y 8 else Y c
def TR (X Y : WS) : Prop := ∃ n t v, WX X n ∧ RM X Y n ∧ TD X Y n t ∧ lo n (X 3 7) ∧ Y 0 6 = X 3 7 ∧ X 3 9 = nI v ∧ v ≤ 9 ∧ Y 0 3 = X 3 9 ∧ Y 0 5 = X 3 11 ∧ Y 0 7 = X 3 12 ∧ Y 0 8 = X 3 13
def PG (X Y : WS) : Prop := ∃ g, g ≤ 12 ∧ X 1 1 = nI g ∧ Y 0 1 = nI g ∧ ∀ i, i < g → ∃ m, m < 127 ∧ X 2 i = nI m ∧ Y 1 i = nI m
def LV (X Y : WS) : Prop := Y 0 2 = X 3 8 ∧ Y 0 4 = X 3 10 ∧ ∃ fv, fv ≤ 9 ∧ X 3 8 = nI fv
def KP (X Y : WS) (tr : Nat) : Prop := (X 0 4 = 1 ∧ 0 < tr ∧ Y 0 17 = nI tr ∧ TR (kX X) (kY Y) ∧ X 9 8 = X 3 8 ∧ X 9 10 = X 3 10) ∨ (X 0 4 = 0 ∧ (Y 0 17 = -1 ∨ ∃ kt, kt < tr ∧ Y 0 17 = nI kt))
def CT (X Y : WS) (tr : Nat) : Prop := X 0 5 = nI tr ∧ Y 0 9 = nI tr ∧ ((tr = 0 ∧ X 3 10 = 0) ∨ (0 < tr ∧ ∃ lw, 0 < lw ∧ lw ≤ 9 ∧ X 3 10 = nI lw))
def Rel (X : WS) (Y : MS) (N : Nat) : Prop := PG X Y.1 ∧ TR X Y.1 ∧ LV X Y.1 ∧ ∃ tr, tr ≤ N ∧ CT X Y.1 tr ∧ KP X Y.1 tr
theorem Rel_up {X : WS} {Y : MS} {N : Nat} (h : Rel X Y N) : Rel X Y (N + 1) := ⟨h.1, h.2.1, h.2.2.1, by obtain ⟨tr, a, b⟩ := h.2.2.2; exact ⟨tr, by omega, b⟩⟩
theorem WX_c {X X' : WS} {n : Nat} (a : X' 3 5 = X 3 5) (b : X' 3 6 = X 3 6) (c5 : X' 5 = X 5) (c6 : X' 6 = X 6) (c7 : X' 7 = X 7) (c8 : X' 8 = X 8) (h : WX X n) : WX X' n := by
  unfold WX at h ⊢; rw [a, b, c5, c6, c7, c8]; exact h
theorem RM_c {X X' Y Y' : WS} {n : Nat} (a : Y' 0 11 = Y 0 11) (b : Y' 3 = Y 3) (c : Y' 2 = Y 2) (c5 : X' 5 = X 5) (c8 : X' 8 = X 8) (c4 : X' 4 = X 4) (h : RM X Y n) : RM X' Y' n := by
  unfold RM at h ⊢; rw [a, b, c, c5, c8, c4]; exact h
theorem TD_c {X X' Y Y' : WS} {n t : Nat} (a : X' 3 14 = X 3 14) (b : X' 3 15 = X 3 15) (c : X' 3 16 = X 3 16) (d : Y' 0 14 = Y 0 14) (e : Y' 5 = Y 5) (h : TD X Y n t) : TD X' Y' n t := by
  unfold TD at h ⊢; rw [a, b, c, d, e]; exact h
theorem TR_c {X X' Y Y' : WS} (x3 : X' 3 = X 3) (x4 : X' 4 = X 4) (x5 : X' 5 = X 5) (x6 : X' 6 = X 6) (x7 : X' 7 = X 7) (x8 : X' 8 = X 8) (y2 : Y' 2 = Y 2) (y3 : Y' 3 = Y 3) (y5 : Y' 5 = Y 5) (a3 : Y' 0 3 = Y 0 3) (a5 : Y' 0 5 = Y 0 5) (a6 : Y' 0 6 = Y 0 6) (a7 : Y' 0 7 = Y 0 7) (a8 : Y' 0 8 = Y 0 8) (a11 : Y' 0 11 = Y 0 11) (a14 : Y' 0 14 = Y 0 14) (h : TR X Y) : TR X' Y' := by
  obtain ⟨n, t, v, h1, h2, h3, h4, h5, h6, h7, h8, h9, h10, h11⟩ := h
  refine ⟨n, t, v, WX_c (by rw [x3]) (by rw [x3]) x5 x6 x7 x8 h1, RM_c a11 y3 y2 x5 x8 x4 h2, TD_c (by rw [x3]) (by rw [x3]) (by rw [x3]) a14 y5 h3, ?_⟩
  rw [x3, a3, a5, a6, a7, a8]
  exact ⟨h4, h5, h6, h7, h8, h9, h10, h11⟩
theorem TRk_c {X X' Y Y' : WS} (x9 : X' 9 = X 9) (x10 : X' 10 = X 10) (x11 : X' 11 = X 11) (x12 : X' 12 = X 12) (x13 : X' 13 = X 13) (x14 : X' 14 = X 14) (y6 : Y' 6 = Y 6) (y7 : Y' 7 = Y 7) (y8 : Y' 8 = Y 8) (a : ∀ k, 18 ≤ k → k ≤ 24 → Y' 0 k = Y 0 k) (h : TR (kX X) (kY Y)) : TR (kX X') (kY Y') :=
  TR_c (X := kX X) (Y := kY Y) (by simp only [kX]; exact x9) (by simp only [kX]; exact x10) (by simp only [kX]; exact x11) (by simp only [kX]; exact x12) (by simp only [kX]; exact x13) (by simp only [kX]; exact x14) (by simp [kY]; exact y8) (by simp [kY]; exact y6) (by simp [kY]; exact y7) (by simp [kY]; exact a 19 (by omega) (by omega)) (by simp [kY]; exact a 20 (by omega) (by omega)) (by simp [kY]; exact a 21 (by omega) (by omega)) (by simp [kY]; exact a 22 (by omega) (by omega)) (by simp [kY]; exact a 23 (by omega) (by omega)) (by simp [kY]; exact a 18 (by omega) (by omega)) (by simp [kY]; exact a 24 (by omega) (by omega)) h
theorem PG_c {X X' Y Y' : WS} (a : X' 1 1 = X 1 1) (b : X' 2 = X 2) (c : Y' 0 1 = Y 0 1) (d : Y' 1 = Y 1) (h : PG X Y) : PG X' Y' := by
  unfold PG at h ⊢; rw [a, b, c, d]; exact h
theorem LV_c {X X' Y Y' : WS} (a : X' 3 8 = X 3 8) (b : X' 3 10 = X 3 10) (c : Y' 0 2 = Y 0 2) (d : Y' 0 4 = Y 0 4) (h : LV X Y) : LV X' Y' := by
  unfold LV at h ⊢; rw [a, b, c, d]; exact h
theorem CT_c {X X' Y Y' : WS} {tr : Nat} (a : X' 0 5 = X 0 5) (b : X' 3 10 = X 3 10) (c : Y' 0 9 = Y 0 9) (h : CT X Y tr) : CT X' Y' tr := by
  unfold CT at h ⊢; rw [a, b, c]; exact h
theorem KP_c {X X' Y Y' : WS} {tr : Nat} (x9 : X' 9 = X 9) (x10 : X' 10 = X 10) (x11 : X' 11 = X 11) (x12 : X' 12 = X 12) (x13 : X' 13 = X 13) (x14 : X' 14 = X 14) (y6 : Y' 6 = Y 6) (y7 : Y' 7 = Y 7) (y8 : Y' 8 = Y 8) (a : ∀ k, 17 ≤ k → k ≤ 24 → Y' 0 k = Y 0 k) (b : X' 0 4 = X 0 4) (c : X' 3 8 = X 3 8) (d : X' 3 10 = X 3 10) (h : KP X Y tr) : KP X' Y' tr := by
  rcases h with ⟨h1, h2, h3, h4, h5, h6⟩ | ⟨h1, h2⟩
  · exact Or.inl ⟨by rw [b]; exact h1, h2, by rw [a 17 (by omega) (by omega)]; exact h3, TRk_c x9 x10 x11 x12 x13 x14 y6 y7 y8 (fun k p q => a k (by omega) q) h4, by rw [x9, c]; exact h5, by rw [x9, d]; exact h6⟩
  · exact Or.inr ⟨by rw [b]; exact h1, by rw [a 17 (by omega) (by omega)]; exact h2⟩
/-- the queries' own cells don't matter -/
theorem Rel_ag {X X' : WS} {Y Y' : MS} {N : Nat} (hx : ag X X') (hy : agM Y Y') (h : Rel X Y N) : Rel X' Y' N := by
  obtain ⟨h1, h2, h3, tr, h4, h5, h6⟩ := h
  have x : ∀ c, c < 15 → X' c = X c := hx
  have y : ∀ c, c ≠ 0 → c ≠ 4 → Y'.1 c = Y.1 c := hy.1
  have z : ∀ k, k ≠ 16 → Y'.1 0 k = Y.1 0 k := hy.2
  refine ⟨PG_c (by rw [x 1 (by omega)]) (x 2 (by omega)) (z 1 (by omega)) (y 1 (by omega) (by omega)) h1, TR_c (x 3 (by omega)) (x 4 (by omega)) (x 5 (by omega)) (x 6 (by omega)) (x 7 (by omega)) (x 8 (by omega)) (y 2 (by omega) (by omega)) (y 3 (by omega) (by omega)) (y 5 (by omega) (by omega)) (z 3 (by omega)) (z 5 (by omega)) (z 6 (by omega)) (z 7 (by omega)) (z 8 (by omega)) (z 11 (by omega)) (z 14 (by omega)) h2, LV_c (by rw [x 3 (by omega)]) (by rw [x 3 (by omega)]) (z 2 (by omega)) (z 4 (by omega)) h3, tr, h4, CT_c (by rw [x 0 (by omega)]) (by rw [x 3 (by omega)]) (z 9 (by omega)) h5, KP_c (x 9 (by omega)) (x 10 (by omega)) (x 11 (by omega)) (x 12 (by omega)) (x 13 (by omega)) (x 14 (by omega)) (y 6 (by omega) (by omega)) (y 7 (by omega) (by omega)) (y 8 (by omega) (by omega)) (fun k p q => z k (by omega)) (by rw [x 0 (by omega)]) (by rw [x 3 (by omega)]) (by rw [x 3 (by omega)]) h6⟩
/-! guards -/
theorem lg_lt (a b : Int32) : lg_cmp a.toInt64 b.toInt64 < 0 ↔ a < b := by
  unfold lg_cmp
  rw [Int32.lt_iff_toInt_lt (x := a)]
  by_cases h1 : a.toInt64 > b.toInt64
  · rw [if_pos h1]
    have h2 : b.toInt64 < a.toInt64 := h1
    rw [Int64.lt_iff_toInt_lt, Int32.toInt_toInt64, Int32.toInt_toInt64] at h2
    exact ⟨fun z => absurd z (by decide), fun z => by omega⟩
  · rw [if_neg h1]
    have h2 : ¬ b.toInt64 < a.toInt64 := h1
    rw [Int64.lt_iff_toInt_lt, Int32.toInt_toInt64, Int32.toInt_toInt64] at h2
    by_cases h3 : a.toInt64 = b.toInt64
    · rw [if_pos h3]
      have h4 : a.toInt64.toInt = b.toInt64.toInt := by rw [h3]
      rw [Int32.toInt_toInt64, Int32.toInt_toInt64] at h4
      exact ⟨fun z => absurd z (by decide), fun z => by omega⟩
    · rw [if_neg h3]
      refine ⟨fun _ => ?_, fun _ => by decide⟩
      have h4 : ¬ a.toInt64.toInt = b.toInt64.toInt := fun e => h3 (Int64.toInt_inj.mp e)
      rw [Int32.toInt_toInt64, Int32.toInt_toInt64] at h4
      omega
theorem lg_gt (a b : Int32) : 0 < lg_cmp a.toInt64 b.toInt64 ↔ b < a := by
  unfold lg_cmp
  by_cases h1 : a.toInt64 > b.toInt64
  · rw [if_pos h1]
    have h2 : b.toInt64 < a.toInt64 := h1
    rw [Int64.lt_iff_toInt_lt, Int32.toInt_toInt64, Int32.toInt_toInt64, ← Int32.lt_iff_toInt_lt] at h2
    exact ⟨fun _ => h2, fun _ => by decide⟩
  · rw [if_neg h1]
    have h2 : ¬ b.toInt64 < a.toInt64 := h1
    rw [Int64.lt_iff_toInt_lt, Int32.toInt_toInt64, Int32.toInt_toInt64, ← Int32.lt_iff_toInt_lt] at h2
    refine ⟨fun z => ?_, fun z => absurd z h2⟩
    split at z
    · exact absurd z (by decide)
    · exact absurd z (by decide)
theorem in0 {p : Int32} {a b : Int32} {l h : Int64} (el : l = a.toInt64) (eh : h = b.toInt64) (hp : p < a ∨ b < p) : f_X4_in (Int32.toInt64 p) l h = some 0 := by
  subst el; subst eh
  unfold f_X4_in
  by_cases c : p < a
  · rw [if_pos ((lg_lt p a).mpr c)]
  · rw [if_neg (fun z => c ((lg_lt p a).mp z)), if_pos ((lg_gt p b).mpr (hp.resolve_left c))]
theorem in1 {p : Int32} {a b : Int32} {l h : Int64} (el : l = a.toInt64) (eh : h = b.toInt64) (h1 : ¬ p < a) (h2 : ¬ b < p) : f_X4_in (Int32.toInt64 p) l h = some 1 := by
  subst el; subst eh
  unfold f_X4_in
  rw [if_neg (fun z => h1 ((lg_lt p a).mp z)), if_neg (fun z => h2 ((lg_gt p b).mp z))]
theorem rng (p : Int32) (a b : Nat) (hb : b < 2 ^ 31) (hab : a ≤ b) : (∃ k, a ≤ k ∧ k ≤ b ∧ p = nI k ∧ ¬ p < nI a ∧ ¬ nI b < p) ∨ (p < nI a ∧ ¬ nI b < p) ∨ (nI b < p ∧ ¬ p < nI a) := by
  have ha := nI_toInt (show a < 2 ^ 31 by omega)
  have hb2 := nI_toInt hb
  rw [Int32.lt_iff_toInt_lt, Int32.lt_iff_toInt_lt, ha, hb2]
  by_cases c1 : p.toInt < a
  · exact Or.inr (Or.inl ⟨c1, by omega⟩)
  · by_cases c2 : (b : Int) < p.toInt
    · exact Or.inr (Or.inr ⟨c2, c1⟩)
    · refine Or.inl ⟨p.toInt.toNat, by omega, by omega, ?_, c1, c2⟩
      apply Int32.toInt_inj.mp
      rw [nI_toInt (by omega)]
      omega
theorem le_of_nlt {a b : Int32} (h : ¬ b < a) : a ≤ b := by
  rw [Int32.lt_iff_toInt_lt] at h; rw [Int32.le_iff_toInt_le]; omega
theorem nle_of_lt {a b : Int32} (h : b < a) : ¬ a ≤ b := by
  rw [Int32.lt_iff_toInt_lt] at h; rw [Int32.le_iff_toInt_le]; omega
theorem kindG (p : Int32) : (∃ k, k ≤ 4 ∧ p = nI k ∧ f_X3_isKind p = some 1 ∧ f_X4_in (Int32.toInt64 p) 0 4 = some 1) ∨ (f_X3_isKind p = some 0 ∧ f_X4_in (Int32.toInt64 p) 0 4 = some 0) := by
  unfold f_X3_isKind
  rcases rng p 0 4 (by omega) (by omega) with ⟨k, k1, k2, e, h1, h2⟩ | ⟨h1, h2⟩ | ⟨h1, h2⟩
  · exact Or.inl ⟨k, k2, e, by rw [if_neg (show ¬ p < 0 from h1), if_neg (show ¬ 4 < p from h2)], in1 (l := 0) (h := 4) (a := 0) (b := 4) rfl rfl h1 h2⟩
  · exact Or.inr ⟨by rw [if_pos (show p < 0 from h1)], in0 (l := 0) (h := 4) (a := 0) (b := 4) rfl rfl (Or.inl h1)⟩
  · exact Or.inr ⟨by rw [if_neg (show ¬ p < 0 from h2), if_pos (show 4 < p from h1)], in0 (l := 0) (h := 4) (a := 0) (b := 4) rfl rfl (Or.inr h1)⟩
theorem loudG (p : Int32) : (∃ k, 1 ≤ k ∧ k ≤ 9 ∧ p = nI k ∧ f_X3_isLoud p = some 1 ∧ f_X4_in (Int32.toInt64 p) 1 9 = some 1) ∨ (f_X3_isLoud p = some 0 ∧ f_X4_in (Int32.toInt64 p) 1 9 = some 0) := by
  unfold f_X3_isLoud
  rcases rng p 1 9 (by omega) (by omega) with ⟨k, k1, k2, e, h1, h2⟩ | ⟨h1, h2⟩ | ⟨h1, h2⟩
  · exact Or.inl ⟨k, k1, k2, e, by rw [if_neg (show ¬ p < 1 from h1), if_neg (show ¬ 9 < p from h2)], in1 (l := 1) (h := 9) (a := 1) (b := 9) rfl rfl h1 h2⟩
  · exact Or.inr ⟨by rw [if_pos (show p < 1 from h1)], in0 (l := 1) (h := 9) (a := 1) (b := 9) rfl rfl (Or.inl h1)⟩
  · exact Or.inr ⟨by rw [if_neg (show ¬ p < 1 from h2), if_pos (show 9 < p from h1)], in0 (l := 1) (h := 9) (a := 1) (b := 9) rfl rfl (Or.inr h1)⟩
theorem hasG {X : WS} {Y : MS} {N : Nat} (h : Rel X Y N) (hN : N ≤ 500) : (f_X3_hasTown X = some 1 ∧ f_X4_lacks Y = some 0) ∨ (f_X3_hasTown X = some 0 ∧ f_X4_lacks Y = some 1) := by
  obtain ⟨-, -, ⟨-, l2, -⟩, tr, h4, ⟨c1, c2, c3⟩, -⟩ := h
  unfold f_X3_hasTown f_X4_lacks
  rw [c1, l2]
  rcases c3 with ⟨t0, e⟩ | ⟨t0, lw, w1, w2, e⟩
  · right
    rw [e, t0]
    exact ⟨if_pos (by decide), if_pos rfl⟩
  · left
    rw [e]
    exact ⟨if_neg (nI_nle t0 (by omega)), if_neg (nI_ne0 w1 (by omega))⟩
theorem placeG {X : WS} {Y : MS} {N : Nat} (h : Rel X Y N) (hN : N ≤ 500) (p : Int32) : (∃ q, q < 6 ∧ p = nI q ∧ f_X3_isPlace X p = some 1 ∧ f_X4_isPlace Y p = some 1) ∨ (f_X3_isPlace X p = some 0 ∧ f_X4_isPlace Y p = some 0) := by
  unfold f_X3_isPlace f_X4_isPlace
  rcases hasG h hN with ⟨a, b⟩ | ⟨a, b⟩
  · rw [a, b, Option.bind_some, Option.bind_some, if_neg (by decide), if_pos rfl]
    rcases rng p 0 5 (by omega) (by omega) with ⟨k, k1, k2, e, h1, h2⟩ | ⟨h1, h2⟩ | ⟨h1, h2⟩
    · refine Or.inl ⟨k, by omega, e, ?_, ?_⟩
      · rw [if_neg (show ¬ p < 0 from h1), if_neg (by rw [e]; exact lit_nle (L := 6) (b := 6) rfl (by omega) (by omega))]
      · rw [in1 (l := 0) (h := 5) (a := 0) (b := 5) rfl rfl h1 h2, Option.bind_some, if_neg (by decide)]
    · refine Or.inr ⟨by rw [if_pos (show p < 0 from h1)], ?_⟩
      rw [in0 (l := 0) (h := 5) (a := 0) (b := 5) rfl rfl (Or.inl h1), Option.bind_some, if_pos rfl]
    · refine Or.inr ⟨?_, ?_⟩
      · rw [if_neg (show ¬ p < 0 from h2), if_pos]
        have h3 : nI 5 < p := h1
        rw [Int32.lt_iff_toInt_lt, nI_toInt (by omega)] at h3
        rw [show (6 : Int32) = nI 6 from rfl, Int32.le_iff_toInt_le, nI_toInt (by omega)]
        omega
      · rw [in0 (l := 0) (h := 5) (a := 0) (b := 5) rfl rfl (Or.inr h1), Option.bind_some, if_pos rfl]
  · rw [a, b, Option.bind_some, Option.bind_some, if_pos rfl, if_neg (by decide)]
    exact Or.inr ⟨rfl, rfl⟩
theorem listG {X : WS} {Y : MS} {n : Nat} (h : WX X n) (r : RM X Y.1 n) (p : Int32) : (∃ l, l < n ∧ p = nI l ∧ f_X3_isListener X p = some 1 ∧ f_X4_isListener Y p = some 1) ∨ (f_X3_isListener X p = some 0 ∧ f_X4_isListener Y p = some 0) := by
  have hn := h.1
  unfold f_X3_isListener f_X4_isListener
  rw [h.2.1, r.1]
  by_cases h0 : p < 0
  · right
    rw [if_pos h0, in0 (l := 0) (h := (nI n - 1).toInt64) (a := 0) (b := nI n - 1) rfl rfl (Or.inl h0), Option.bind_some]
    exact ⟨rfl, rfl⟩
  · rw [if_neg h0]
    by_cases c : nI n ≤ p
    · right
      rw [if_pos c, in0 (l := 0) (h := (nI n - 1).toInt64) (a := 0) (b := nI n - 1) rfl rfl (Or.inr ?_), Option.bind_some]
      · exact ⟨rfl, rfl⟩
      · rw [Int32.le_iff_toInt_le, nI_toInt (by omega)] at c
        rw [Int32.lt_iff_toInt_lt, show (1 : Int32) = nI 1 from rfl, pk_sub_toInt (by omega) (by omega)]
        omega
    · left
      obtain ⟨j, hj, e⟩ := nI_of h0
      have hjn : j < n := by
        rcases Nat.lt_or_ge j n with z | z
        · exact z
        · exact absurd (by rw [e]; exact nI_le z hj) c
      refine ⟨j, hjn, e, by rw [if_neg c], ?_⟩
      rw [in1 (l := 0) (h := (nI n - 1).toInt64) (a := 0) (b := nI n - 1) rfl rfl h0 ?_, Option.bind_some]
      · rfl
      · rw [Int32.lt_iff_toInt_lt, show (1 : Int32) = nI 1 from rfl, pk_sub_toInt (by omega) (by omega), e, nI_toInt hj]
        omega
def Sim (a : Option (Int32 × WS)) (b : Option (Int32 × MS)) (N : Nat) : Prop := ∃ r X' Y', a = some (r, X') ∧ b = some (r, Y') ∧ Rel X' Y' (N + 1)
def SimP (a b : Option Int32) : Prop := ∃ r, a = some r ∧ b = some r
def SimX {Y : MS} (a : Option (Int32 × WS)) (b : Option Int32) (N : Nat) : Prop := ∃ r X', a = some (r, X') ∧ b = some r ∧ Rel X' Y (N + 1)
def SimY {X : WS} (a : Option Int32) (b : Option (Int32 × MS)) (N : Nat) : Prop := ∃ r Y', a = some r ∧ b = some (r, Y') ∧ Rel X Y' (N + 1)
