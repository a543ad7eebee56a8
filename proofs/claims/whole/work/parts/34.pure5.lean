/-! where and ask -/
def tko (X : WS) (kw : Int32) : Bool := decide (X 3 15 &&& (kw ^^^ (-1)) = 0) && decide (X 3 16 &&& kw = 0)
theorem asToldX (X : WS) (kw : Int32) : f_X2_isAsTold X kw = some (if tko X kw then 1 else 0) := by
  unfold f_X2_isAsTold tko
  by_cases c1 : X 3 15 &&& (kw ^^^ (-1)) = 0
  · by_cases c2 : X 3 16 &&& kw = 0
    · rw [if_pos c1, if_pos c2, decide_eq_true c1, decide_eq_true c2]; rfl
    · rw [if_pos c1, if_neg c2, decide_eq_true c1, decide_eq_false c2]; rfl
  · rw [if_neg c1, decide_eq_false c1]; rfl
theorem tko_ag {X X' : WS} (h : ag X X') (kw : Int32) : tko X' kw = tko X kw := by unfold tko; rw [h 3 (by omega)]
def kc (X : WS) (n c : Nat) : Int32 := kn X (sa X n 0 (nI (c / 10)) (nI (c % 10)))
def wt (X : WS) (n c : Nat) : Bool := decide (0 < c % 10) && tko X (kc X n c)
def wk (X : WS) (n i c : Nat) : Bool := wt X n c && bt (kc X n c) i
def isF (P : Nat → Bool) (a b : Nat) (v : Int32) : Prop := (v = -1 ∧ ∀ c, a ≤ c → c < b → P c = false) ∨ ∃ c0, a ≤ c0 ∧ c0 < b ∧ v = nI c0 ∧ P c0 = true ∧ ∀ c, a ≤ c → c < c0 → P c = false
theorem isF_uniq {P : Nat → Bool} {a b : Nat} (hb : b < 1000) {v v' : Int32} (h : isF P a b v) (h' : isF P a b v') : v = v' := by
  rcases h with ⟨e, h⟩ | ⟨c, c1, c2, e, c3, c4⟩
  · rcases h' with ⟨e', h'⟩ | ⟨c', d1, d2, e', d3, d4⟩
    · rw [e, e']
    · rw [h c' d1 d2] at d3; cases d3
  · rcases h' with ⟨e', h'⟩ | ⟨c', d1, d2, e', d3, d4⟩
    · rw [h' c c1 c2] at c3; cases c3
    · rcases Nat.lt_trichotomy c c' with z | z | z
      · rw [d4 c c1 z] at c3; cases c3
      · rw [e, e', z]
      · rw [c4 c' d1 z] at d3; cases d3
theorem cnt_zero {c : Nat → Bool} : ∀ {k : Nat}, cnt c k = 0 → ∀ j, j < k → c j = false := by
  intro k hk j hj
  cases h : c j
  · rfl
  · have := cnt_pos hj h; omega
theorem cnt_none {c : Nat → Bool} : ∀ {k : Nat}, (∀ j, j < k → c j = false) → cnt c k = 0 := by
  intro k
  induction k with
  | zero => intro _; rfl
  | succ k ih => intro h; rw [cnt, ih (fun j hj => h j (by omega)), h k (by omega)]; rfl
/-- what seek has found when the codes below C are done -/
def SK (X : WS) (n : Nat) (X' : WS) (C : Nat) : Prop := ag X X' ∧ X' 15 3 = nI (cnt (wt X n) C) ∧ isF (wt X n) 0 C (X' 15 4) ∧ ∀ i, i < 6 → X' 16 i = nI (cnt (wk X n i) C)
theorem tally_loop (kw : Int32) : ∀ (d k f : Nat) (X : WS), k + d = 6 → d < f → ∃ X', g_X0_tally_2 kw f X (nI k) = some X' ∧ (∀ c, c ≠ 16 → X' c = X c) ∧ (∀ i, i < k → X' 16 i = X 16 i) ∧ ∀ i, k ≤ i → i < 6 → X' 16 i = X 16 i + (if bt kw i then 1 else 0) := by
  intro d
  induction d with
  | zero =>
    intro k f X hk hf
    obtain ⟨f, rfl⟩ : ∃ g, f = g + 1 := ⟨f - 1, by omega⟩
    have e : k = 6 := by omega
    subst e
    exact ⟨X, by rw [g_X0_tally_2, if_pos (by decide)], fun _ _ => rfl, fun _ _ => rfl, fun i h1 h2 => by omega⟩
  | succ d ih =>
    intro k f X hk hf
    obtain ⟨f, rfl⟩ : ∃ g, f = g + 1 := ⟨f - 1, by omega⟩
    have hc : (nI k).toNatClampNeg = k := nI_clamp (by omega)
    rw [g_X0_tally_2, if_neg (lit_nle (L := 6) (b := 6) (k := k) rfl (by omega) (by omega))]
    simp only [stp_eq, hc, pw_one, pw_ix (show k < 6 by omega) (show (6 : Nat) < 2 ^ 31 by omega), pw_bit kw (show k < 32 by omega)]
    obtain ⟨X', e, a1, a2, a3⟩ := ih (k + 1) f (ups X 16 k (X 16 k + if bt kw k = true then 1 else 0)) (by omega) (by omega)
    refine ⟨X', e, fun c hc => by rw [a1 c hc, ups_o hc], fun i hi => ?_, fun i h1 h2 => ?_⟩
    · rw [a2 i (by omega), ups_s, upd_o (by omega)]
    · by_cases z : i = k
      · subst z
        rw [a2 i (by omega), ups_s, upd_s]
      · rw [a3 i (by omega) h2, ups_s, upd_o z]
theorem SK_skip {X : WS} {n : Nat} {X' : WS} {C : Nat} (h : SK X n X' C) (hw : wt X n C = false) : SK X n X' (C + 1) := by
  obtain ⟨h1, h2, h3, h4⟩ := h
  refine ⟨h1, ?_, ?_, fun i hi => ?_⟩
  · rw [h2, cnt, hw]; simp
  · rcases h3 with ⟨e, h⟩ | ⟨c, c1, c2, e, c3, c4⟩
    · exact Or.inl ⟨e, fun c a b => by
        by_cases z : c = C
        · rw [z]; exact hw
        · exact h c a (by omega)⟩
    · exact Or.inr ⟨c, c1, by omega, e, c3, c4⟩
  · rw [h4 i hi, cnt, show wk X n i C = false from by unfold wk; rw [hw]; rfl]; simp
theorem seek_in {X : WS} {n : Nat} (h : WX X n) (k33 : WS → Int32 → Option WS) (p : Nat) (hp : p < 6) : ∀ (d l f : Nat) (X' : WS), l + d = 10 → 1 ≤ l → d < f → SK X n X' (10 * p + l) → ∃ X'', SK X n X'' (10 * p + 10) ∧ g_X0_seek_41 k33 f X' (nI p) (nI l) = k33 X'' (nI (p + 1)) := by
  intro d
  induction d with
  | zero =>
    intro l f X' hl h1 hf hs
    obtain ⟨f, rfl⟩ : ∃ g, f = g + 1 := ⟨f - 1, by omega⟩
    have e : l = 10 := by omega
    subst e
    refine ⟨X', hs, ?_⟩
    rw [g_X0_seek_41, if_pos (by decide)]
    simp only [stp_eq, pw_one]
  | succ d ih =>
    intro l f X' hl h1 hf hs
    obtain ⟨f, rfl⟩ : ∃ g, f = g + 1 := ⟨f - 1, by omega⟩
    have ha := hs.1
    have hw := WX_ag ha h
    have ed : (10 * p + l) / 10 = p := by omega
    have em : (10 * p + l) % 10 = l := by omega
    have ek : kc X n (10 * p + l) = kn X (sa X n 0 (nI p) (nI l)) := by unfold kc; rw [ed, em]
    have ew : wt X n (10 * p + l) = tko X (kc X n (10 * p + l)) := by unfold wt; rw [em, decide_eq_true (by omega)]; rfl
    rw [g_X0_seek_41, if_neg (lit_nlt (L := 9) (b := 9) (k := l) rfl (by omega) (by omega)), spX0 hw, Option.bind_some, knowX, Option.bind_some, asToldX, Option.bind_some, sa_ag ha, kn_ag ha, tko_ag ha, ← ek, ← ew]
    simp only [stp_eq, pw_one]
    cases hb : wt X n (10 * p + l)
    · obtain ⟨X'', q1, q2⟩ := ih (l + 1) f X' (by omega) (by omega) (by omega) (SK_skip hs hb)
      refine ⟨X'', q1, ?_⟩
      simpa using q2
    · have hs2 := hs
      obtain ⟨s1, s2, s3, s4⟩ := hs
      have hcl := cnt_le (wt X n) (10 * p + l)
      have key : ∀ v : Int32, isF (wt X n) 0 (10 * p + l + 1) v → ∃ X'', SK X n X'' (10 * p + 10) ∧ (f_X0_tally (ups (ups X' 15 4 v) 15 3 ((ups X' 15 4 v) 15 3 + 1)) (kc X n (10 * p + l))).bind (fun X23 => g_X0_seek_41 k33 f X23 (nI p) (nI (l + 1))) = k33 X'' (nI (p + 1)) := by
        intro v hv
        obtain ⟨X2, t1, t2, t3, t4⟩ := tally_loop (kc X n (10 * p + l)) 6 0 NF (ups (ups X' 15 4 v) 15 3 ((ups X' 15 4 v) 15 3 + 1)) (by omega) (by have := NF_ge; omega)
        unfold f_X0_tally
        rw [show (0 : Int32) = nI 0 from rfl, t1, Option.bind_some]
        refine ih (l + 1) f X2 (by omega) (by omega) (by omega) ⟨?_, ?_, ?_, ?_⟩
        · intro c hc
          rw [t2 c (by omega)]
          exact ag_up (ag_up s1 (by omega) _ _) (by omega) _ _ c hc
        · rw [t2 15 (by omega), ups_s, upd_s, ups_s, upd_o (by omega), s2, pw_one, show 10 * p + (l + 1) = (10 * p + l) + 1 from by omega, cnt, hb]; rfl
        · rw [t2 15 (by omega), ups_s, upd_o (by omega), ups_s, upd_s, show 10 * p + (l + 1) = (10 * p + l) + 1 from by omega]
          exact hv
        · intro i hi
          rw [t4 i (by omega) hi, ups_o (by omega), ups_o (by omega), s4 i hi, show 10 * p + (l + 1) = (10 * p + l) + 1 from by omega, cnt]
          unfold wk
          rw [hb, Bool.true_and]
          cases bt (kc X n (10 * p + l)) i
          · simp
          · simp [pw_one]
      by_cases c0 : cnt (wt X n) (10 * p + l) = 0
      · have e0 : X' 15 3 = 0 := by rw [s2, c0]; rfl
        obtain ⟨X'', q1, q2⟩ := key ((10 * nI p) + nI l) (Or.inr ⟨10 * p + l, by omega, by omega, by
          rw [show (10 : Int32) * nI p = nI (10 * p) from pk_mul 10 p, nI_add], hb, fun c _ hc => cnt_zero c0 c hc⟩)
        refine ⟨X'', q1, ?_⟩
        rw [← q2]
        simp [e0]
      · have e0 : ¬ X' 15 3 = 0 := by rw [s2]; exact nI_ne0 (by omega) (by omega)
        obtain ⟨X'', q1, q2⟩ := key (X' 15 4) (by
          rcases s3 with ⟨e, z⟩ | ⟨c, c1, c2, e, c3, c4⟩
          · exact absurd (cnt_none (fun j hj => z j (by omega) hj)) c0
          · exact Or.inr ⟨c, c1, by omega, e, c3, c4⟩)
        refine ⟨X'', q1, ?_⟩
        rw [← q2]
        simp [e0]
theorem seek_out {X : WS} {n : Nat} (h : WX X n) : ∀ (d p f : Nat) (X' : WS), p + d = 6 → d < f → SK X n X' (10 * p) → ∃ X'', SK X n X'' 60 ∧ g_X0_seek_33 f X' (nI p) = some X'' := by
  intro d
  induction d with
  | zero =>
    intro p f X' hp hf hs
    obtain ⟨f, rfl⟩ : ∃ g, f = g + 1 := ⟨f - 1, by omega⟩
    have e : p = 6 := by omega
    subst e
    exact ⟨X', hs, by rw [g_X0_seek_33, if_pos (by decide)]⟩
  | succ d ih =>
    intro p f X' hp hf hs
    obtain ⟨f, rfl⟩ : ∃ g, f = g + 1 := ⟨f - 1, by omega⟩
    have hw : wt X n (10 * p) = false := by
      unfold wt; rw [show 10 * p % 10 = 0 by omega]; rfl
    rw [g_X0_seek_33, if_neg (lit_nle (L := 6) (b := 6) (k := p) rfl (by omega) (by omega))]
    obtain ⟨X2, q1, q2⟩ := seek_in h (g_X0_seek_33 f) p (by omega) 9 1 NF X' (by omega) (by omega) (by have := NF_ge; omega) (SK_skip hs hw)
    rw [show (1 : Int32) = nI 1 from rfl, q2]
    exact ih (p + 1) f X2 (by omega) (by omega) (by rw [show 10 * (p + 1) = 10 * p + 10 by omega]; exact q1)
theorem seek_zero {X : WS} {n : Nat} (h : WX X n) : ∀ (d k f : Nat) (X' : WS), k + d = 6 → d < f → ag X X' → X' 15 3 = 0 → X' 15 4 = -1 → (∀ i, i < k → X' 16 i = 0) → ∃ X'', SK X n X'' 60 ∧ g_X0_seek_12 f X' (nI k) = some X'' := by
  intro d
  induction d with
  | zero =>
    intro k f X' hk hf ha h3 h4 hz
    obtain ⟨f, rfl⟩ : ∃ g, f = g + 1 := ⟨f - 1, by omega⟩
    have e : k = 6 := by omega
    subst e
    rw [g_X0_seek_12, if_pos (by decide)]
    exact seek_out h 6 0 NF X' (by omega) (by have := NF_ge; omega) ⟨ha, h3, Or.inl ⟨h4, fun c _ hc => by omega⟩, fun i hi => hz i hi⟩
  | succ d ih =>
    intro k f X' hk hf ha h3 h4 hz
    obtain ⟨f, rfl⟩ : ∃ g, f = g + 1 := ⟨f - 1, by omega⟩
    have hc : (nI k).toNatClampNeg = k := nI_clamp (by omega)
    rw [g_X0_seek_12, if_neg (lit_nle (L := 6) (b := 6) (k := k) rfl (by omega) (by omega))]
    simp only [stp_eq, hc, pw_one, pw_ix (show k < 6 by omega) (show (6 : Nat) < 2 ^ 31 by omega)]
    refine ih (k + 1) f _ (by omega) (by omega) (ag_up ha (by omega) _ _) (by rw [ups_o (by omega)]; exact h3) (by rw [ups_o (by omega)]; exact h4) (fun i hi => ?_)
    rw [ups_s]
    by_cases z : i = k
    · rw [z, upd_s]
    · rw [upd_o z]; exact hz i (by omega)
theorem seekX {X : WS} {n : Nat} (h : WX X n) : ∃ X'', f_X0_seek X = some X'' ∧ SK X n X'' 60 := by
  unfold f_X0_seek
  simp only [stp_eq]
  obtain ⟨X'', q1, q2⟩ := seek_zero h 6 0 NF (ups (ups X 15 3 0) 15 4 (-1)) (by omega) (by have := NF_ge; omega) (ag_up (ag_up (ag_rf X) (by omega) _ _) (by omega) _ _) (by simp [ups, upd]) (by simp [ups, upd]) (fun i hi => by omega)
  exact ⟨X'', q2, q1⟩
/-! the told rows -/
def TD (X Y : WS) (n t : Nat) : Prop := t ≤ 8 ∧ X 3 14 = nI t ∧ Y 0 14 = nI t ∧ (∀ i, i < t → ∃ j, j < n ∧ Y 5 (2 * i) = nI j ∧ (Y 5 (2 * i + 1) = 0 ∨ Y 5 (2 * i + 1) = 1)) ∧ (∀ j, j < 32 → (bt (X 3 15) j = true ↔ ∃ i, i < t ∧ Y 5 (2 * i) = nI j ∧ Y 5 (2 * i + 1) = 1)) ∧ ∀ j, j < 32 → (bt (X 3 16) j = true ↔ ∃ i, i < t ∧ Y 5 (2 * i) = nI j ∧ Y 5 (2 * i + 1) = 0)
theorem told_loop {Y : MS} {n t : Nat} (hn : n ≤ 6) (ht : t ≤ 8) (h14 : Y.1 0 14 = nI t) (hr : ∀ i, i < t → ∃ j, j < n ∧ Y.1 5 (2 * i) = nI j ∧ (Y.1 5 (2 * i + 1) = 0 ∨ Y.1 5 (2 * i + 1) = 1)) (kw : Int32) : ∀ (d i f : Nat) (ok : Bool), i + d = t → d < f → ∃ b : Bool, g_X4_isTold_19 Y kw f (if ok then 1 else 0) (nI i) = some (if b then 1 else 0) ∧ (b = true ↔ ok = true ∧ ∀ q, i ≤ q → q < t → ∃ j, j < n ∧ Y.1 5 (2 * q) = nI j ∧ (if bt kw j then 1 else 0) = Y.1 5 (2 * q + 1)) := by
  intro d
  induction d with
  | zero =>
    intro i f ok hi hf
    obtain ⟨f, rfl⟩ : ∃ g, f = g + 1 := ⟨f - 1, by omega⟩
    have e : i = t := by omega
    subst e
    refine ⟨ok, ?_, ⟨fun z => ⟨z, fun q a b => by omega⟩, fun z => z.1⟩⟩
    rw [g_X4_isTold_19, h14, if_pos (nI_le (Nat.le_refl _) (by omega))]
    cases ok <;> rfl
  | succ d ih =>
    intro i f ok hi hf
    obtain ⟨f, rfl⟩ : ∃ g, f = g + 1 := ⟨f - 1, by omega⟩
    have hc : (nI (2 * i)).toNatClampNeg = 2 * i := nI_clamp (by omega)
    have hc2 : (nI (2 * i + 1)).toNatClampNeg = 2 * i + 1 := nI_clamp (by omega)
    obtain ⟨j, hj, e1, e2⟩ := hr i (by omega)
    rw [g_X4_isTold_19, h14, if_neg (nI_ge (show i < t by omega) (by omega))]
    simp only [stp_eq, pw_two, pw_one, hc, hc2, e1, pw_ix (show 2 * i < 16 by omega) (show (16 : Nat) < 2 ^ 31 by omega), pw_ix (show 2 * i + 1 < 16 by omega) (show (16 : Nat) < 2 ^ 31 by omega), pw_bit kw (show j < 32 by omega)]
    cases ok
    · obtain ⟨b, q1, q2⟩ := ih (i + 1) f false (by omega) (by omega)
      refine ⟨b, ?_, ?_⟩
      · simpa using q1
      · rw [q2]; simp
    · by_cases c : (if bt kw j = true then (1 : Int32) else 0) = Y.1 5 (2 * i + 1)
      · obtain ⟨b, q1, q2⟩ := ih (i + 1) f true (by omega) (by omega)
        refine ⟨b, ?_, ?_⟩
        · rw [if_pos c]; simpa using q1
        · rw [q2]
          constructor
          · rintro ⟨-, z⟩
            refine ⟨rfl, fun q a b => ?_⟩
            by_cases w : q = i
            · subst w; exact ⟨j, hj, e1, c⟩
            · exact z q (by omega) b
          · rintro ⟨-, z⟩
            exact ⟨rfl, fun q a b => z q (by omega) b⟩
      · obtain ⟨b, q1, q2⟩ := ih (i + 1) f false (by omega) (by omega)
        refine ⟨b, ?_, ?_⟩
        · rw [if_neg c]; simpa using q1
        · rw [q2]
          constructor
          · rintro ⟨z, -⟩; cases z
          · rintro ⟨-, z⟩
            obtain ⟨j2, h1, h2, h3⟩ := z i (by omega) (by omega)
            have : j2 = j := by
              rw [e1] at h2
              exact ((nI_eq (by omega) (by omega)).mp h2).symm
            subst this
            exact absurd h3 c
theorem isToldM {X : WS} {Y : MS} {n t : Nat} (h : WX X n) (r : RM X Y.1 n) (td : TD X Y.1 n t) {c : Nat} (hc : c < 60) : f_X4_isTold Y (nI c) = some (if tko X (kc X n c) then 1 else 0) := by
  have hn := h.1
  obtain ⟨t1, t2, t3, t4, t5, t6⟩ := td
  have ed : nI c / 10 = nI (c / 10) := pk_div (d := 10) (by omega) (by omega) (by omega)
  have em : nI c - nI c / 10 * 10 = nI (c % 10) := pk_rem (d := 10) (by omega) (by omega) (by omega)
  unfold f_X4_isTold
  rw [em, ed, thenM h r _ _ (lo_0 n), Option.bind_some]
  obtain ⟨b, q1, q2⟩ := told_loop hn t1 t3 t4 (kc X n c) t 0 NF true (by omega) (by have := NF_ge; omega)
  have q1' : g_X4_isTold_19 Y (kn X (sa X n 0 (nI (c / 10)) (nI (c % 10)))) NF 1 0 = some (if b then 1 else 0) := q1
  rw [q1']
  have eb : b = tko X (kc X n c) := by
    have hh : b = true ↔ tko X (kc X n c) = true := by
      rw [q2]
      unfold tko
      rw [Bool.and_eq_true, decide_eq_true_iff, decide_eq_true_iff]
      constructor
      · rintro ⟨-, z⟩
        constructor
        · apply b_ext
          intro j hj
          rw [b_and, b_not _ hj, b_0]
          cases hb : bt (X 3 15) j
          · rfl
          · obtain ⟨i, i1, i2, i3⟩ := (t5 j hj).mp hb
            obtain ⟨j2, h1, h2, h3⟩ := z i (by omega) i1
            have : j2 = j := by
              rw [i2] at h2
              exact ((nI_eq (by omega) (by omega)).mp h2).symm
            subst this
            rw [i3] at h3
            cases hk : bt (kc X n c) j2
            · rw [hk] at h3; exact absurd h3 (by decide)
            · rfl
        · apply b_ext
          intro j hj
          rw [b_and, b_0]
          cases hb : bt (X 3 16) j
          · rfl
          · obtain ⟨i, i1, i2, i3⟩ := (t6 j hj).mp hb
            obtain ⟨j2, h1, h2, h3⟩ := z i (by omega) i1
            have : j2 = j := by
              rw [i2] at h2
              exact ((nI_eq (by omega) (by omega)).mp h2).symm
            subst this
            rw [i3] at h3
            cases hk : bt (kc X n c) j2
            · rfl
            · rw [hk] at h3; exact absurd h3 (by decide)
      · rintro ⟨z1, z2⟩
        refine ⟨rfl, fun i _ hi => ?_⟩
        obtain ⟨j, hj, e1, e2⟩ := t4 i hi
        refine ⟨j, hj, e1, ?_⟩
        rcases e2 with e2 | e2
        · have hb := (t6 j (by omega)).mpr ⟨i, hi, e1, e2⟩
          have hz : bt (X 3 16 &&& kc X n c) j = false := by rw [z2, b_0]
          rw [b_and, hb, Bool.true_and] at hz
          rw [hz, e2]; rfl
        · have hb := (t5 j (by omega)).mpr ⟨i, hi, e1, e2⟩
          have hz : bt (X 3 15 &&& (kc X n c ^^^ (-1))) j = false := by rw [z1, b_0]
          rw [b_and, b_not _ (by omega), hb, Bool.true_and] at hz
          rw [e2]
          cases hk : bt (kc X n c) j
          · rw [hk] at hz; cases hz
          · rfl
    cases b <;> cases hx : tko X (kc X n c) <;> simp_all
  rw [eb]
