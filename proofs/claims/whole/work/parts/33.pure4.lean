/-! what the queries read: cells below 15 -/
def ag (X X' : WS) : Prop := ∀ c, c < 15 → X' c = X c
theorem ag_rf (X : WS) : ag X X := fun _ _ => rfl
theorem ag_tr {X X' X'' : WS} (h : ag X X') (h2 : ag X' X'') : ag X X'' := fun c hc => (h2 c hc).trans (h c hc)
theorem ag_up {X X' : WS} {c : Nat} (h : ag X X') (hc : 15 ≤ c) (k : Nat) (v : Int32) : ag X (ups X' c k v) := fun c' h' => by
  unfold ups; rw [if_neg (by omega)]; exact h c' h'
theorem ups_o {X : WS} {c c' : Nat} (h : c' ≠ c) (k : Nat) (v : Int32) : ups X c k v c' = X c' := by unfold ups; rw [if_neg h]
theorem ups_s (X : WS) (c k : Nat) (v : Int32) : ups X c k v c = upd (X c) k v := by unfold ups; rw [if_pos rfl]
theorem upd_s (f : Nat → Int32) (k : Nat) (v : Int32) : upd f k v k = v := by unfold upd; rw [if_pos rfl]
theorem upd_o {f : Nat → Int32} {k j : Nat} (h : j ≠ k) (v : Int32) : upd f k v j = f j := by unfold upd; rw [if_neg h]
theorem hc_ag {X X' : WS} (h : ag X X') (pl ld : Int32) (j : Nat) : hcX X' pl ld j = hcX X pl ld j := by
  unfold hcX; rw [h 8 (by omega), h 4 (by omega), h 5 (by omega)]
theorem hm_ag {X X' : WS} (h : ag X X') (n : Nat) (mk : Nat → Bool) (pl ld : Int32) : hm X' n mk pl ld = hm X n mk pl ld := orb_congr (fun j _ => by rw [hc_ag h])
theorem rpI_ag {X X' : WS} (h : ag X X') (n : Nat) (mk : Nat → Bool) (fr : Int32) : ∀ k, rpI X' n mk fr k = rpI X n mk fr k := by
  intro k
  induction k with
  | zero => rfl
  | succ k ih => rw [rpI, rpI, ih, hm_ag h, h 5 (by omega), h 8 (by omega)]
theorem spI_ag {X X' : WS} (h : ag X X') (n : Nat) (mk : Nat → Bool) : ∀ (d : Nat) (cr now : Int32), spI X' n mk d cr now = spI X n mk d cr now := by
  intro d
  induction d with
  | zero => intro cr now; rfl
  | succ d ih => intro cr now; rw [spI, spI, rpI_ag h, ih]
theorem sa_ag {X X' : WS} (h : ag X X') (n : Nat) (b pl ld : Int32) : sa X' n b pl ld = sa X n b pl ld := by
  unfold sa sp; rw [spI_ag h, hm_ag h]
theorem kn_ag {X X' : WS} (h : ag X X') (s : Int32) : kn X' s = kn X s := by unfold kn; rw [h 3 (by omega)]
theorem WX_ag {X X' : WS} {n : Nat} (e : ag X X') (h : WX X n) : WX X' n := by
  unfold WX at h ⊢
  rw [e 3 (by omega), e 5 (by omega), e 6 (by omega), e 7 (by omega), e 8 (by omega)]
  exact h
/-! least -/
def asc (c : Nat → Int32) : Nat → Int32 × Int32
  | 0 => (-1, -1)
  | k + 1 => if (asc c k).1 = -1 ∨ ¬ (asc c k).2 ≤ c k then (nI k, c k) else asc c k
theorem nI_ne_m1 {k : Nat} (h : k < 2 ^ 31) : ¬ nI k = -1 := fun e => by
  have h1 := nI_toInt h
  rw [e] at h1
  have h2 : (-1 : Int32).toInt = -1 := by decide
  omega
theorem asc_char {c : Nat → Int32} {m : Nat → Nat} (hm : ∀ j, c j = nI (m j)) (hb : ∀ j, m j < 1000) : ∀ k, k < 1000 → ∃ i, i < k + 1 ∧ asc c (k + 1) = (nI i, nI (m i)) ∧ (∀ j, j < k + 1 → m i ≤ m j) ∧ ∀ j, j < i → m i < m j := by
  intro k
  induction k with
  | zero =>
    intro _
    refine ⟨0, by omega, ?_, fun j hj => ?_, fun j hj => by omega⟩
    · rw [asc, asc, if_pos (Or.inl rfl), hm 0]
    · have : j = 0 := by omega
      rw [this]; exact Nat.le_refl _
  | succ k ih =>
    intro hk
    obtain ⟨i, hi, e, h1, h2⟩ := ih (by omega)
    have b1 := hb i
    have b2 := hb (k + 1)
    rw [asc, e]
    by_cases hc : m i ≤ m (k + 1)
    · refine ⟨i, by omega, ?_, fun j hj => ?_, h2⟩
      · rw [if_neg]
        rintro (z | z)
        · exact nI_ne_m1 (by omega) z
        · exact z (by rw [hm (k + 1)]; exact nI_le hc (by omega))
      · by_cases hj2 : j = k + 1
        · subst hj2; exact hc
        · exact h1 j (by omega)
    · refine ⟨k + 1, by omega, ?_, fun j hj => ?_, fun j hj => ?_⟩
      · rw [if_pos (Or.inr (by rw [hm (k + 1)]; exact nI_ge (by omega) (by omega))), hm (k + 1)]
      · by_cases hj2 : j = k + 1
        · subst hj2; exact Nat.le_refl _
        · have := h1 j (by omega); omega
      · have := h1 j (by omega); omega
def lc (X : WS) (n : Nat) (p : Nat) : Int32 := pc (kn X (sa X n (X 3 7) (nI p) 1))
def lst (X : WS) (n : Nat) : Int32 × Int32 := if X 3 9 < 1 then (-1, -1) else asc (lc X n) 6
theorem whis_loop {X : WS} {n : Nat} (h : WX X n) (hv : ¬ X 3 9 < 1) : ∀ (d k f : Nat) (X' : WS), k + d = 6 → d < f → ag X X' → X' 15 1 = (asc (lc X n) k).1 → X' 15 2 = (asc (lc X n) k).2 → ∃ X'', g_X0_whisper_12 f X' (nI k) = some X'' ∧ ag X X'' ∧ X'' 15 1 = (asc (lc X n) 6).1 ∧ X'' 15 2 = (asc (lc X n) 6).2 := by
  intro d
  induction d with
  | zero =>
    intro k f X' hk hf ha h1 h2
    obtain ⟨f, rfl⟩ : ∃ g, f = g + 1 := ⟨f - 1, by omega⟩
    have e : k = 6 := by omega
    subst e
    exact ⟨X', by rw [g_X0_whisper_12, if_pos (by decide)], ha, h1, h2⟩
  | succ d ih =>
    intro k f X' hk hf ha h1 h2
    obtain ⟨f, rfl⟩ : ∃ g, f = g + 1 := ⟨f - 1, by omega⟩
    have hw := WX_ag ha h
    rw [g_X0_whisper_12, if_neg (lit_nle (L := 6) (b := 6) (k := k) rfl (by omega) (by omega)), ha 3 (by omega), if_neg hv, spX0 hw, Option.bind_some, knowX, Option.bind_some, bcX, Option.bind_some, sa_ag ha, kn_ag ha]
    simp only [stp_eq, pw_one]
    have hset : ∃ X'', g_X0_whisper_12 f (ups (ups X' 15 1 (nI k)) 15 2 (lc X n k)) (nI (k + 1)) = some X'' ∧ ag X X'' ∧ X'' 15 1 = (asc (lc X n) 6).1 ∧ X'' 15 2 = (asc (lc X n) 6).2 ∨ ¬ ((asc (lc X n) k).1 = -1 ∨ ¬ (asc (lc X n) k).2 ≤ lc X n k) := by
      by_cases c : (asc (lc X n) k).1 = -1 ∨ ¬ (asc (lc X n) k).2 ≤ lc X n k
      · obtain ⟨X'', q⟩ := ih (k + 1) f (ups (ups X' 15 1 (nI k)) 15 2 (lc X n k)) (by omega) (by omega) (ag_up (ag_up ha (by omega) _ _) (by omega) _ _) (by rw [asc, if_pos c]; simp [ups, upd]) (by rw [asc, if_pos c]; simp [ups, upd])
        exact ⟨X'', Or.inl q⟩
      · exact ⟨X', Or.inr c⟩
    obtain ⟨X'', q⟩ := hset
    show ∃ X'', (if X' 15 1 = -1 then g_X0_whisper_12 f (ups (ups X' 15 1 (nI k)) 15 2 (lc X n k)) (nI (k + 1)) else if X' 15 2 ≤ lc X n k then g_X0_whisper_12 f X' (nI (k + 1)) else g_X0_whisper_12 f (ups (ups X' 15 1 (nI k)) 15 2 (lc X n k)) (nI (k + 1))) = some X'' ∧ _
    by_cases c1 : X' 15 1 = -1
    · rw [if_pos c1]
      rcases q with q | q
      · exact ⟨X'', q⟩
      · exact absurd (Or.inl (by rw [← h1]; exact c1)) q
    · rw [if_neg c1]
      by_cases c2 : X' 15 2 ≤ lc X n k
      · rw [if_pos c2]
        have c : ¬ ((asc (lc X n) k).1 = -1 ∨ ¬ (asc (lc X n) k).2 ≤ lc X n k) := by
          rintro (z | z)
          · exact c1 (by rw [h1]; exact z)
          · exact z (by rw [← h2]; exact c2)
        exact ih (k + 1) f X' (by omega) (by omega) ha (by rw [asc, if_neg c]; exact h1) (by rw [asc, if_neg c]; exact h2)
      · rw [if_neg c2]
        rcases q with q | q
        · exact ⟨X'', q⟩
        · exact absurd (Or.inr (by rw [← h2]; exact c2)) q
theorem whisX {X : WS} {n : Nat} (h : WX X n) : ∃ X'', f_X0_whisper X = some X'' ∧ ag X X'' ∧ X'' 15 1 = (lst X n).1 ∧ X'' 15 2 = (lst X n).2 := by
  unfold f_X0_whisper
  simp only [stp_eq]
  have ha : ag X (ups (ups X 15 1 (-1)) 15 2 (-1)) := ag_up (ag_up (ag_rf X) (by omega) _ _) (by omega) _ _
  have e1 : (ups (ups X 15 1 (-1)) 15 2 (-1)) 15 1 = -1 := by simp [ups, upd]
  have e2 : (ups (ups X 15 1 (-1)) 15 2 (-1)) 15 2 = -1 := by simp [ups, upd]
  by_cases hv : X 3 9 < 1
  · refine ⟨ups (ups X 15 1 (-1)) 15 2 (-1), ?_, ha, by unfold lst; rw [if_pos hv]; exact e1, by unfold lst; rw [if_pos hv]; exact e2⟩
    rw [show NF = 999 + 1 from rfl, g_X0_whisper_12, if_neg (by decide), ha 3 (by omega), if_pos hv]
  · unfold lst
    rw [if_neg hv]
    exact whis_loop h hv 6 0 NF _ (by omega) (by have := NF_ge; omega) ha e1 e2
theorem pw_le0 (x : Int32) : x ≤ 0 ↔ x < 1 := by
  rw [Int32.le_iff_toInt_le, Int32.lt_iff_toInt_lt]
  have h0 : (0 : Int32).toInt = 0 := by decide
  have h1 : (1 : Int32).toInt = 1 := by decide
  omega
theorem least_loop {X : WS} {Y : MS} {n : Nat} (h : WX X n) (r : RM X Y.1 n) (hh : lo n (X 3 7)) (e6 : Y.1 0 6 = X 3 7) (e3 : Y.1 0 3 = X 3 9) (hv : ¬ X 3 9 < 1) (w : Int32) (m : Nat → Nat) (hm : ∀ j, lc X n j = nI (m j)) (hb : ∀ j, m j < 1000) : ∀ (k f i : Nat), k < 6 → k < f → k < i → i < 6 → (∀ j, k < j → j < 6 → m i ≤ m j) → (∀ j, k < j → j < i → m i < m j) → ∃ i2, i2 < 6 ∧ (∀ j, j < 6 → m i2 ≤ m j) ∧ (∀ j, j < i2 → m i2 < m j) ∧ g_X4_leastOf_7 Y w (f + 1) (nI i) (nI (m i)) (nI k) = some (if w = 0 then nI i2 else nI (m i2)) := by
  have hn := h.1
  intro k
  induction k with
  | zero =>
    intro f i hk hf hi hi6 q1 q2
    have b1 := hb i
    have b2 := hb 0
    have e := hm 0
    unfold lc at e
    obtain ⟨f, rfl⟩ : ∃ g, f = g + 1 := ⟨f - 1, by omega⟩
    rw [g_X4_leastOf_7, if_neg (nI_pos (by omega)), e3, if_neg (fun z => hv ((pw_le0 _).mp z)), e6, thenM h r _ _ hh, Option.bind_some, onesM hn (lo_kn X (lo_sa hn _ _ hh)), Option.bind_some, e]
    have n1 : ¬ nI (m i) = -1 := nI_ne_m1 (by omega)
    have ex : ∀ a b : Int32, g_X4_leastOf_7 Y w (f + 1) a b (nI 0 + (-1)) = some (if w = 0 then a else b) := by
      intro a b
      rw [show nI 0 + (-1) = -1 from by decide, g_X4_leastOf_7, if_pos (by decide)]
      split <;> rfl
    simp only [stp_eq, n1, if_false, ex]
    by_cases c1 : m i < m 0
    · refine ⟨i, hi6, fun j hj => ?_, fun j hj => ?_, ?_⟩
      · by_cases z : j = 0
        · subst z; omega
        · exact q1 j (by omega) hj
      · by_cases z : j = 0
        · subst z; exact c1
        · exact q2 j (by omega) hj
      · rw [if_pos (nI_lt c1 (by omega)), if_pos (nI_le (by omega) (by omega))]
    · refine ⟨0, by omega, fun j hj => ?_, fun j hj => by omega, ?_⟩
      · by_cases z : j = 0
        · subst z; exact Nat.le_refl _
        · have := q1 j (by omega) hj; omega
      · rw [if_neg (nI_nlt (by omega) (by omega))]
        by_cases c2 : m i ≤ m 0
        · rw [if_pos (nI_le c2 (by omega)), show m i = m 0 by omega]
        · rw [if_neg (nI_ge (by omega) (by omega))]
  | succ k ih =>
    intro f i hk hf hi hi6 q1 q2
    have b1 := hb i
    have b2 := hb (k + 1)
    have e := hm (k + 1)
    unfold lc at e
    obtain ⟨f, rfl⟩ : ∃ g, f = g + 1 := ⟨f - 1, by omega⟩
    rw [g_X4_leastOf_7, if_neg (nI_pos (by omega)), e3, if_neg (fun z => hv ((pw_le0 _).mp z)), e6, thenM h r _ _ hh, Option.bind_some, onesM hn (lo_kn X (lo_sa hn _ _ hh)), Option.bind_some, e]
    have n1 : ¬ nI (m i) = -1 := nI_ne_m1 (by omega)
    simp only [stp_eq, n1, if_false, pk_m1]
    by_cases c1 : m i < m (k + 1)
    · rw [if_pos (nI_lt c1 (by omega)), if_pos (nI_le (by omega) (by omega))]
      refine ih f i (by omega) (by omega) (by omega) hi6 (fun j hj hj6 => ?_) (fun j hj hj6 => ?_)
      · by_cases z : j = k + 1
        · subst z; omega
        · exact q1 j (by omega) hj6
      · by_cases z : j = k + 1
        · subst z; exact c1
        · exact q2 j (by omega) hj6
    · rw [if_neg (nI_nlt (by omega) (by omega))]
      have g2 := ih f (k + 1) (by omega) (by omega) (by omega) hk (fun j hj hj6 => by
        by_cases z : j = k + 1
        · subst z; exact Nat.le_refl _
        · have := q1 j (by omega) hj6; omega) (fun j hj hj6 => by omega)
      by_cases c2 : m i ≤ m (k + 1)
      · rw [if_pos (nI_le c2 (by omega)), show m i = m (k + 1) by omega]
        exact g2
      · rw [if_neg (nI_ge (by omega) (by omega))]
        exact g2
theorem leastM {X : WS} {Y : MS} {n : Nat} (h : WX X n) (r : RM X Y.1 n) (hh : lo n (X 3 7)) (e6 : Y.1 0 6 = X 3 7) (e3 : Y.1 0 3 = X 3 9) (w : Int32) : f_X4_leastOf Y w = some (if w = 0 then (lst X n).1 else (lst X n).2) := by
  have hn := h.1
  unfold f_X4_leastOf lst
  rw [show NF = (998 + 1) + 1 from rfl]
  by_cases hv : X 3 9 < 1
  · rw [g_X4_leastOf_7, if_neg (by decide), e3, if_pos ((pw_le0 _).mpr hv), if_pos hv]
    split <;> rfl
  · rw [if_neg hv]
    have hex : ∀ j, ∃ k, k ≤ 6 ∧ lc X n j = nI k := fun j => pcL hn (lo_kn X (lo_sa hn _ _ hh))
    obtain ⟨m, hm0⟩ : ∃ m : Nat → Nat, ∀ j, m j ≤ 6 ∧ lc X n j = nI (m j) := ⟨fun j => Classical.choose (hex j), fun j => Classical.choose_spec (hex j)⟩
    have hm : ∀ j, lc X n j = nI (m j) := fun j => (hm0 j).2
    have hb : ∀ j, m j < 1000 := fun j => by have := (hm0 j).1; omega
    obtain ⟨i, hi, e, a1, a2⟩ := asc_char hm hb 5 (by omega)
    have e5 := hm 5
    unfold lc at e5
    rw [g_X4_leastOf_7, if_neg (by decide), e3, if_neg (fun z => hv ((pw_le0 _).mp z)), e6, show (5 : Int32) = nI 5 from rfl, thenM h r _ _ hh, Option.bind_some, onesM hn (lo_kn X (lo_sa hn _ _ hh)), Option.bind_some, e5]
    simp only [stp_eq, if_true]
    rw [show nI 5 + (-1) = nI 4 from by decide]
    obtain ⟨i2, h2, b1, b2, e2⟩ := least_loop h r hh e6 e3 hv w m hm hb 4 998 5 (by omega) (by omega) (by omega) (by omega) (fun j hj hj6 => by rw [show j = 5 by omega]; exact Nat.le_refl _) (fun j hj hj6 => by omega)
    rw [e2, e]
    have ei : i2 = i := by
      rcases Nat.lt_trichotomy i2 i with z | z | z
      · have := a2 i2 z; have := b1 i (by omega); omega
      · exact z
      · have := b2 i z; have := a1 i2 h2; omega
    rw [ei]
