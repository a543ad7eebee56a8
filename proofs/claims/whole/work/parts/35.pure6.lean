/-! whereOf, ask -/
def whC (X : WS) (n : Nat) : Nat := cnt (wt X n) 60
def codes60 (X : WS) (n : Nat) (v : Int32) : Prop := isF (wt X n) 0 60 v
theorem wt0 (X : WS) (n : Nat) : wt X n 0 = false := rfl
theorem where_loop {X : WS} {Y : MS} {n t : Nat} (h : WX X n) (r : RM X Y.1 n) (td : TD X Y.1 n t) (w : Int32) : ∀ (c f m : Nat) (v3 : Int32), c < 60 → c < f → m + cnt (wt X n) (c + 1) = cnt (wt X n) 60 → isF (wt X n) (c + 1) 60 v3 → ∃ v, isF (wt X n) 0 60 v ∧ g_X4_whereOf_8 Y w f (nI m) v3 (nI c) = some (if w = 0 then nI (cnt (wt X n) 60) else v) := by
  intro c
  induction c with
  | zero =>
    intro f m v3 hc hf hm hv
    obtain ⟨f, rfl⟩ : ∃ g, f = g + 1 := ⟨f - 1, by omega⟩
    have e1 : cnt (wt X n) (0 + 1) = 0 := by rw [cnt, cnt, wt0]; rfl
    refine ⟨v3, ?_, ?_⟩
    · rcases hv with ⟨e, z⟩ | ⟨c0, a1, a2, e, a3, a4⟩
      · exact Or.inl ⟨e, fun c _ hc => by
          by_cases q : c = 0
          · rw [q]; exact wt0 X n
          · exact z c (by omega) hc⟩
      · exact Or.inr ⟨c0, by omega, a2, e, a3, fun c _ hc => by
          by_cases q : c = 0
          · rw [q]; exact wt0 X n
          · exact a4 c (by omega) hc⟩
    · rw [g_X4_whereOf_8, if_pos (by decide), show m = cnt (wt X n) 60 by omega]
      split <;> rfl
  | succ c ih =>
    intro f m v3 hc hf hm hv
    obtain ⟨f, rfl⟩ : ∃ g, f = g + 1 := ⟨f - 1, by omega⟩
    have em : nI (c + 1) - nI (c + 1) / 10 * 10 = nI ((c + 1) % 10) := pk_rem (d := 10) (by omega) (by omega) (by omega)
    rw [g_X4_whereOf_8, if_neg (nI_nle (by omega) (by omega)), em, isToldM h r td hc]
    simp only [stp_eq, pk_m1, pw_one, bind_sm]
    have hskip : wt X n (c + 1) = false → ∃ v, isF (wt X n) 0 60 v ∧ g_X4_whereOf_8 Y w f (nI m) v3 (nI c) = some (if w = 0 then nI (cnt (wt X n) 60) else v) := by
      intro hw
      refine ih f m v3 (by omega) (by omega) ?_ ?_
      · have e : cnt (wt X n) (c + 1 + 1) = cnt (wt X n) (c + 1) := by
          rw [cnt, hw]; simp
        omega
      · rcases hv with ⟨e, z⟩ | ⟨c0, a1, a2, e, a3, a4⟩
        · exact Or.inl ⟨e, fun q _ hq => by
            by_cases y : q = c + 1
            · rw [y]; exact hw
            · exact z q (by omega) hq⟩
        · exact Or.inr ⟨c0, by omega, a2, e, a3, fun q _ hq => by
            by_cases y : q = c + 1
            · rw [y]; exact hw
            · exact a4 q (by omega) hq⟩
    by_cases c0 : (c + 1) % 10 = 0
    · rw [c0, if_pos (by decide)]
      exact hskip (by unfold wt; rw [c0]; rfl)
    · rw [if_neg (nI_nle (by omega) (by omega))]
      have ew : wt X n (c + 1) = tko X (kc X n (c + 1)) := by unfold wt; rw [decide_eq_true (by omega)]; rfl
      rw [← ew]
      cases hb : wt X n (c + 1)
      · simp only [Bool.false_eq_true, if_false, if_true]
        exact hskip hb
      · simp only [if_true]
        rw [if_neg (by decide)]
        refine ih f (m + 1) (nI (c + 1)) (by omega) (by omega) ?_ (Or.inr ⟨c + 1, by omega, by omega, rfl, hb, fun q a b => by omega⟩)
        have e : cnt (wt X n) (c + 1 + 1) = cnt (wt X n) (c + 1) + 1 := by
          rw [cnt, hb]; simp
        omega
theorem whereM {X : WS} {Y : MS} {n t : Nat} (h : WX X n) (r : RM X Y.1 n) (td : TD X Y.1 n t) (w : Int32) : ∃ v, isF (wt X n) 0 60 v ∧ f_X4_whereOf Y w = some (if w = 0 then nI (cnt (wt X n) 60) else v) :=
  where_loop h r td w 59 NF 0 (-1) (by omega) (by have := NF_ge; omega) (Nat.zero_add _) (Or.inl ⟨rfl, fun c a b => by omega⟩)
def wW (X : WS) (n i : Nat) : Nat := if cnt (wk X n i) 60 ≤ cnt (wt X n) 60 - cnt (wk X n i) 60 then cnt (wt X n) 60 - cnt (wk X n i) 60 else cnt (wk X n i) 60
theorem wk_le (X : WS) (n i c : Nat) : cnt (wk X n i) c ≤ cnt (wt X n) c := cnt_mono (fun j _ h => by unfold wk at h; exact (Bool.and_eq_true_iff.mp h).1)
def askS (X : WS) (n : Nat) : Int32 := if cnt (wt X n) 60 = 0 then -1 else (asc (fun i => nI (wW X n i)) n).1
theorem asc_m1 (c : Nat → Int32) {k : Nat} (hk : k < 1000) : (asc c k).1 = -1 → k = 0 := by
  cases k with
  | zero => intro _; rfl
  | succ k =>
    intro e
    exfalso
    have : ∀ k, k < 1000 → ∃ i, i < 1000 ∧ (asc c (k + 1)).1 = nI i := by
      intro k
      induction k with
      | zero => intro _; exact ⟨0, by omega, by rw [asc, asc, if_pos (Or.inl rfl)]⟩
      | succ k ih =>
        intro hk
        obtain ⟨i, hi, e⟩ := ih (by omega)
        rw [asc]
        split
        · exact ⟨k + 1, hk, rfl⟩
        · exact ⟨i, hi, e⟩
    obtain ⟨i, hi, e2⟩ := this k (by omega)
    rw [e2] at e
    exact nI_ne_m1 (by omega) e
theorem best_loop {X : WS} {n : Nat} (hn : n ≤ 6) {X' : WS} (hs : SK X n X' 60) (hF : ¬ cnt (wt X n) 60 = 0) : ∀ (d k f : Nat) (v3 : Int32), k + d = n → d < f → ((asc (fun i => nI (wW X n i)) k).1 = -1 ∨ v3 = (asc (fun i => nI (wW X n i)) k).2) → g_X0_bestAsked_10 X' (nI n) f (asc (fun i => nI (wW X n i)) k).1 v3 (nI k) = some (asc (fun i => nI (wW X n i)) n).1 := by
  obtain ⟨s1, s2, s3, s4⟩ := hs
  intro d
  induction d with
  | zero =>
    intro k f v3 hk hf hv
    obtain ⟨f, rfl⟩ : ∃ g, f = g + 1 := ⟨f - 1, by omega⟩
    have e : k = n := by omega
    subst e
    rw [g_X0_bestAsked_10, if_pos (nI_le (Nat.le_refl _) (by omega))]
  | succ d ih =>
    intro k f v3 hk hf hv
    obtain ⟨f, rfl⟩ : ∃ g, f = g + 1 := ⟨f - 1, by omega⟩
    have hc : (nI k).toNatClampNeg = k := nI_clamp (by omega)
    have hcl := cnt_le (wt X n) 60
    have hkl := wk_le X n k 60
    have ef : f_J9_max_7cf53 (nI (cnt (wk X n k) 60)) (nI (cnt (wt X n) 60) - nI (cnt (wk X n k) 60)) = some (nI (wW X n k)) := by
      unfold f_J9_max_7cf53 wW
      rw [pk_sub hkl]
      by_cases z : cnt (wk X n k) 60 < cnt (wt X n) 60 - cnt (wk X n k) 60
      · rw [if_pos (nI_lt z (by omega)), if_pos (by omega)]
      · rw [if_neg (nI_nlt (by omega) (by omega))]
        by_cases z2 : cnt (wk X n k) 60 ≤ cnt (wt X n) 60 - cnt (wk X n k) 60
        · rw [if_pos z2, show cnt (wt X n) 60 - cnt (wk X n k) 60 = cnt (wk X n k) 60 by omega]
        · rw [if_neg z2]
    rw [g_X0_bestAsked_10, if_neg (nI_ge (show k < n by omega) (by omega)), if_neg (lit_nle (L := 6) (b := 6) (k := k) rfl (by omega) (by omega)), s2, if_neg (nI_nle (by omega) (by omega))]
    simp only [stp_eq, hc, pw_one, pw_ix (show k < 6 by omega) (show (6 : Nat) < 2 ^ 31 by omega), s4 k (show k < 6 by omega), ef, bind_sm]
    by_cases c1 : (asc (fun i => nI (wW X n i)) k).1 = -1
    · rw [if_pos c1]
      have ihk := ih (k + 1) f (nI (wW X n k)) (by omega) (by omega) (Or.inr (by rw [asc, if_pos (Or.inl c1)]))
      rw [asc, if_pos (Or.inl c1)] at ihk
      exact ihk
    · rw [if_neg c1]
      have ev := hv.resolve_left c1
      by_cases c2 : v3 ≤ nI (wW X n k)
      · rw [if_pos c2]
        have cc : ¬ ((asc (fun i => nI (wW X n i)) k).1 = -1 ∨ ¬ (asc (fun i => nI (wW X n i)) k).2 ≤ nI (wW X n k)) := by
          rintro (z | z)
          · exact c1 z
          · exact z (by rw [← ev]; exact c2)
        have ihk := ih (k + 1) f v3 (by omega) (by omega) (Or.inr (by rw [asc, if_neg cc]; exact ev))
        rw [asc, if_neg cc] at ihk
        exact ihk
      · rw [if_neg c2]
        have cc : ((asc (fun i => nI (wW X n i)) k).1 = -1 ∨ ¬ (asc (fun i => nI (wW X n i)) k).2 ≤ nI (wW X n k)) := Or.inr (by rw [← ev]; exact c2)
        have ihk := ih (k + 1) f (nI (wW X n k)) (by omega) (by omega) (Or.inr (by rw [asc, if_pos cc]))
        rw [asc, if_pos cc] at ihk
        exact ihk
theorem bestX {X : WS} {n : Nat} (h : WX X n) {X' : WS} (hs : SK X n X' 60) : f_X0_bestAsked X' (X' 3 5) = some (askS X n) := by
  have hn := h.1
  have hcl := cnt_le (wt X n) 60
  unfold f_X0_bestAsked askS
  simp only [stp_eq]
  rw [hs.1 3 (by omega), h.2.1]
  by_cases c : cnt (wt X n) 60 = 0
  · rw [if_pos c, show NF = 999 + 1 from rfl, g_X0_bestAsked_10, hs.2.1, c]
    split
    · rfl
    · rw [if_neg (by decide), if_pos (by decide)]
  · rw [if_neg c]
    exact best_loop hn hs c n 0 NF _ (by omega) (by have := NF_ge; omega) (Or.inl rfl)
theorem ask_in {X : WS} {Y : MS} {n t : Nat} (h : WX X n) (r : RM X Y.1 n) (td : TD X Y.1 n t) (k14 : Int32 → Int32 → Int32 → Option Int32) (k : Nat) (hk : k < n) (v2 v3 : Int32) : ∀ (d c f : Nat), c + d = 60 → 1 ≤ c → d < f → g_X4_askOf_33 Y k14 (nI (cnt (wt X n) 60)) f v2 v3 (nI k) (nI (cnt (wk X n k) c)) (nI c) = (if v3 ≤ nI (wW X n k) then k14 v2 v3 (nI (k + 1)) else k14 (nI k) (nI (wW X n k)) (nI (k + 1))) := by
  have hn := h.1
  have hcl := cnt_le (wt X n) 60
  have hkl := wk_le X n k 60
  intro d
  induction d with
  | zero =>
    intro c f hc h1 hf
    obtain ⟨f, rfl⟩ : ∃ g, f = g + 1 := ⟨f - 1, by omega⟩
    have e : c = 60 := by omega
    subst e
    rw [g_X4_askOf_33, if_pos (by decide), pk_sub hkl]
    simp only [stp_eq, pw_one]
    unfold wW
    by_cases z : cnt (wk X n k) 60 ≤ cnt (wt X n) 60 - cnt (wk X n k) 60
    · rw [if_pos (nI_le z (by omega)), if_pos z]
      split <;> rfl
    · rw [if_neg (nI_ge (by omega) (by omega)), if_neg z]
      split <;> rfl
  | succ d ih =>
    intro c f hc h1 hf
    obtain ⟨f, rfl⟩ : ∃ g, f = g + 1 := ⟨f - 1, by omega⟩
    have em : nI c - nI c / 10 * 10 = nI (c % 10) := pk_rem (d := 10) (by omega) (by omega) (by omega)
    have ed : nI c / 10 = nI (c / 10) := pk_div (d := 10) (by omega) (by omega) (by omega)
    have ihk := ih (c + 1) f (by omega) (by omega) (by omega)
    rw [g_X4_askOf_33, if_neg (lit_nle (L := 60) (b := 60) (k := c) rfl (by omega) (by omega)), em, ed, isToldM h r td (show c < 60 by omega), thenM h r _ _ (lo_0 n)]
    simp only [stp_eq, pw_one, bind_sm]
    rw [show kn X (sa X n 0 (nI (c / 10)) (nI (c % 10))) = kc X n c from rfl, pw_bit _ (show k < 32 by omega)]
    rw [show cnt (wk X n k) (c + 1) = cnt (wk X n k) c + (if wk X n k c then 1 else 0) from rfl] at ihk
    have a0 : ∀ x : Int32, x + 0 = x := fun x => by simp
    by_cases c0 : c % 10 = 0
    · have ew : wk X n k c = false := by unfold wk wt; rw [c0]; rfl
      rw [ew] at ihk
      rw [c0, if_pos (by decide), a0]
      simpa using ihk
    · rw [if_neg (nI_nle (by omega) (by omega))]
      have ew : wt X n c = tko X (kc X n c) := by unfold wt; rw [decide_eq_true (by omega)]; rfl
      rw [← ew]
      cases hb : wt X n c
      · have ew2 : wk X n k c = false := by unfold wk; rw [hb]; rfl
        rw [ew2] at ihk
        simp only [Bool.false_eq_true, if_false, if_true, a0]
        simpa using ihk
      · have ew2 : wk X n k c = bt (kc X n c) k := by unfold wk; rw [hb]; rfl
        rw [ew2] at ihk
        simp only [if_true]
        rw [if_neg (by decide)]
        cases hb2 : bt (kc X n c) k
        · rw [hb2] at ihk
          simpa using ihk
        · rw [hb2] at ihk
          simp only [if_true] at ihk ⊢
          rw [pw_one]
          exact ihk
theorem ask_out {X : WS} {Y : MS} {n t : Nat} (h : WX X n) (r : RM X Y.1 n) (td : TD X Y.1 n t) (hF : ¬ cnt (wt X n) 60 = 0) : ∀ (d k f : Nat) (v3 : Int32), k + d = n → d < f → ((k = 0 ∧ v3 = 99) ∨ (0 < k ∧ v3 = (asc (fun i => nI (wW X n i)) k).2)) → g_X4_askOf_14 Y (nI (cnt (wt X n) 60)) f (asc (fun i => nI (wW X n i)) k).1 v3 (nI k) = some (asc (fun i => nI (wW X n i)) n).1 := by
  have hn := h.1
  have hcl := cnt_le (wt X n) 60
  intro d
  induction d with
  | zero =>
    intro k f v3 hk hf hv
    obtain ⟨f, rfl⟩ : ∃ g, f = g + 1 := ⟨f - 1, by omega⟩
    have e : k = n := by omega
    subst e
    rw [g_X4_askOf_14, r.1, if_pos (nI_le (Nat.le_refl _) (by omega))]
  | succ d ih =>
    intro k f v3 hk hf hv
    obtain ⟨f, rfl⟩ : ∃ g, f = g + 1 := ⟨f - 1, by omega⟩
    rw [g_X4_askOf_14, r.1, if_neg (nI_ge (show k < n by omega) (by omega)), if_neg (nI_nle (by omega) (by omega))]
    have e0 : cnt (wk X n k) 1 = 0 := by rw [cnt, cnt, show wk X n k 0 = false from rfl]; rfl
    have ei := ask_in h r td (g_X4_askOf_14 Y (nI (cnt (wt X n) 60)) f) k (by omega) (asc (fun i => nI (wW X n i)) k).1 v3 59 1 NF (by omega) (by omega) (by have := NF_ge; omega)
    rw [e0, show nI 0 = 0 from rfl, show nI 1 = 1 from rfl] at ei
    rw [ei]
    have hw60 : wW X n k ≤ 60 := by unfold wW; have := wk_le X n k 60; split <;> omega
    rcases hv with ⟨k0, ev⟩ | ⟨k0, ev⟩
    · rw [if_neg (by rw [ev]; exact nI_ge (a := wW X n k) (b := 99) (by omega) (by omega))]
      have c1 : (asc (fun i => nI (wW X n i)) k).1 = -1 := by rw [k0]; rfl
      have ihk := ih (k + 1) f (nI (wW X n k)) (by omega) (by omega) (Or.inr ⟨by omega, by rw [asc, if_pos (Or.inl c1)]⟩)
      rw [asc, if_pos (Or.inl c1)] at ihk
      exact ihk
    · have c1 : ¬ (asc (fun i => nI (wW X n i)) k).1 = -1 := fun z => by have := asc_m1 _ (by omega) z; omega
      by_cases c2 : v3 ≤ nI (wW X n k)
      · rw [if_pos c2]
        have cc : ¬ ((asc (fun i => nI (wW X n i)) k).1 = -1 ∨ ¬ (asc (fun i => nI (wW X n i)) k).2 ≤ nI (wW X n k)) := by
          rintro (z | z)
          · exact c1 z
          · exact z (by rw [← ev]; exact c2)
        have ihk := ih (k + 1) f v3 (by omega) (by omega) (Or.inr ⟨by omega, by rw [asc, if_neg cc]; exact ev⟩)
        rw [asc, if_neg cc] at ihk
        exact ihk
      · rw [if_neg c2]
        have cc : ((asc (fun i => nI (wW X n i)) k).1 = -1 ∨ ¬ (asc (fun i => nI (wW X n i)) k).2 ≤ nI (wW X n k)) := Or.inr (by rw [← ev]; exact c2)
        have ihk := ih (k + 1) f (nI (wW X n k)) (by omega) (by omega) (Or.inr ⟨by omega, by rw [asc, if_pos cc]⟩)
        rw [asc, if_pos cc] at ihk
        exact ihk
theorem askM {X : WS} {Y : MS} {n t : Nat} (h : WX X n) (r : RM X Y.1 n) (td : TD X Y.1 n t) : f_X4_askOf Y = some (askS X n) := by
  have hn := h.1
  obtain ⟨v, -, e⟩ := whereM h r td 0
  unfold f_X4_askOf askS
  rw [e, Option.bind_some, if_pos rfl]
  by_cases c : cnt (wt X n) 60 = 0
  · rw [if_pos c, c, show NF = 999 + 1 from rfl, g_X4_askOf_14]
    split
    · rfl
    · rw [if_pos (by decide)]
  · rw [if_neg c]
    exact ask_out h r td c n 0 NF 99 (by omega) (by have := NF_ge; omega) (Or.inl ⟨rfl, rfl⟩)
