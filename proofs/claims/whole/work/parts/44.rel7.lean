/-! digest -/
theorem foldX (h v : Int64) : f_X3_fold h v = some (31 * h + v) := rfl
theorem sayM (Y : WS) (h v : Int64) : f_X4_say (Y, h) v = some (Y, 31 * h + v) := rfl
theorem Rel_h {X : WS} {Y : MS} {N : Nat} (h : Rel X Y N) (s : Int64) : Rel X (Y.1, s) N := h
theorem dl_in {X : WS} {Y : WS} {n l : Nat} (w : WX X n) (r : RM X Y n) (e6 : Y 0 6 = X 3 7) (lh : lo n (X 3 7)) (hl : l < n) : ∀ (d k f : Nat) (h : Int64), k + d = 6 → d < f → ∃ h' : Int64, (∀ k5, g_X3_foldListeners_20 X k5 f h (nI l) (nI k) = k5 h' (nI (l + 1))) ∧ (∀ k9, g_X4_digest_19 k9 f (Y, h) (nI l) (nI k) = k9 (Y, h') (nI (l + 1))) := by
  have hn := w.1
  intro d
  induction d with
  | zero =>
    intro k f h hk hf
    obtain ⟨f, rfl⟩ : ∃ g, f = g + 1 := ⟨f - 1, by omega⟩
    have e : k = 6 := by omega
    subst e
    have t0 : ∀ s : Int64, f_X4_tellHush (Y, s) (nI l) 2 9 0 = some (hwm (hsh X n l 2 9)) := fun s => by
      rw [tellH (Y := (Y, s)) w r hl 2 9 0 (Or.inl rfl), if_pos rfl]
    have t1 : ∀ s : Int64, f_X4_tellHush (Y, s) (nI l) 2 9 1 = some (hsh X n l 2 9) := fun s => by
      rw [tellH (Y := (Y, s)) w r hl 2 9 1 (Or.inr rfl), if_neg n10]
    refine ⟨31 * (31 * h + (hwm (hsh X n l 2 9)).toInt64) + (hsh X n l 2 9).toInt64, fun k5 => ?_, fun k9 => ?_⟩
    · rw [g_X3_foldListeners_20, if_pos (by decide), sentX w (by omega), Option.bind_some, howX, Option.bind_some, foldX, Option.bind_some, foldX, Option.bind_some, stp_eq, pw_one]
    · rw [g_X4_digest_19, if_pos (by decide), t0, Option.bind_some, sayM, Option.bind_some, t1, Option.bind_some, sayM, Option.bind_some, stp_eq, pw_one]
  | succ d ih =>
    intro k f h hk hf
    obtain ⟨f, rfl⟩ : ∃ g, f = g + 1 := ⟨f - 1, by omega⟩
    obtain ⟨z, z1, z2⟩ := abt (Y := (Y, h)) w r e6 lh hl (nI k)
    obtain ⟨h', q1, q2⟩ := ih (k + 1) f (31 * h + z.toInt64) (by omega) (by omega)
    refine ⟨h', fun k5 => ?_, fun k9 => ?_⟩
    · rw [g_X3_foldListeners_20, if_neg (lit_nlt (L := 5) (b := 5) (k := k) rfl (by omega) (by omega)), z1, Option.bind_some, foldX, Option.bind_some, stp_eq, pw_one]
      exact q1 k5
    · rw [g_X4_digest_19, if_neg (lit_nle (L := 6) (b := 6) (k := k) rfl (by omega) (by omega)), z2, Option.bind_some, sayM, Option.bind_some, stp_eq, pw_one]
      exact q2 k9
def dtl (Y : MS) : Option (Int64 × MS) := (f_X4_lacks Y).bind (fun r3 => (if r3 = 0 then (f_X4_sayTown Y).bind (fun X13 => g_X4_digest_89 NF X13 0) else g_X4_digest_89 NF Y 0))
theorem dl_out {X : WS} {Y : WS} {n : Nat} (w : WX X n) (r : RM X Y n) (e6 : Y 0 6 = X 3 7) (lh : lo n (X 3 7)) : ∀ (d i f : Nat) (h : Int64), i + d = n → d < f → ∃ h' : Int64, g_X3_foldListeners_5 X f h (nI i) = some h' ∧ g_X4_digest_9 f (Y, h) (nI i) = dtl (Y, h') := by
  have hn := w.1
  intro d
  induction d with
  | zero =>
    intro i f h hi hf
    obtain ⟨f, rfl⟩ : ∃ g, f = g + 1 := ⟨f - 1, by omega⟩
    have e : i = n := by omega
    subst e
    refine ⟨h, ?_, ?_⟩
    · rw [g_X3_foldListeners_5, w.2.1, if_pos (nI_le (Nat.le_refl _) (by omega))]
    · rw [g_X4_digest_9, show (Y, h).1 0 11 = nI i from r.1, if_pos (nI_le (Nat.le_refl _) (by omega))]
      rfl
  | succ d ih =>
    intro i f h hi hf
    obtain ⟨f, rfl⟩ : ∃ g, f = g + 1 := ⟨f - 1, by omega⟩
    obtain ⟨h1, q1, q2⟩ := dl_in w r e6 lh (show i < n by omega) 6 0 NF h (by omega) (by have := NF_ge; omega)
    obtain ⟨h', p1, p2⟩ := ih (i + 1) f h1 (by omega) (by omega)
    refine ⟨h', ?_, ?_⟩
    · rw [g_X3_foldListeners_5, w.2.1, if_neg (nI_ge (show i < n by omega) (by omega)), show (0 : Int32) = nI 0 from rfl, q1]
      exact p1
    · rw [g_X4_digest_9, show (Y, h).1 0 11 = nI n from r.1, if_neg (nI_ge (show i < n by omega) (by omega)), show (0 : Int32) = nI 0 from rfl, q2]
      exact p2
/-! letters and counts -/
theorem cnt_loop {X : WS} {Y : MS} {N : Nat} (hR : Rel X Y N) : ∀ (d k f : Nat) (h : Int64), k + d = 10 → d < f → ∃ h' : Int64, g_X3_digest_61 f X h (nI k) = some (h', X) ∧ g_X4_digest_116 f (Y.1, h) (nI k) = some (h', (Y.1, h')) := by
  intro d
  induction d with
  | zero =>
    intro k f h hk hf
    obtain ⟨f, rfl⟩ : ∃ g, f = g + 1 := ⟨f - 1, by omega⟩
    have e : k = 10 := by omega
    subst e
    exact ⟨h, by rw [g_X3_digest_61, if_pos (by decide)], by rw [g_X4_digest_116, if_pos (by decide)]⟩
  | succ d ih =>
    intro k f h hk hf
    obtain ⟨f, rfl⟩ : ∃ g, f = g + 1 := ⟨f - 1, by omega⟩
    obtain ⟨z, z1, z2⟩ := cnt_eq (Rel_h hR h) (nI k)
    obtain ⟨h', q1, q2⟩ := ih (k + 1) f (31 * h + z.toInt64) (by omega) (by omega)
    refine ⟨h', ?_, ?_⟩
    · rw [g_X3_digest_61, if_neg (lit_nlt (L := 9) (b := 9) (k := k) rfl (by omega) (by omega)), z1, Option.bind_some, foldX, Option.bind_some, stp_eq, pw_one]
      exact q1
    · rw [g_X4_digest_116, if_neg (lit_nle (L := 10) (b := 10) (k := k) rfl (by omega) (by omega)), z2, Option.bind_some, sayM, Option.bind_some, stp_eq, pw_one]
      exact q2
theorem let_loop {X : WS} {Y : MS} {N g : Nat} (hR : Rel X Y N) (g1 : g ≤ 12) (g2 : X 1 1 = nI g) (g3 : Y.1 0 1 = nI g) (g4 : ∀ i, i < g → ∃ m, m < 127 ∧ X 2 i = nI m ∧ Y.1 1 i = nI m) : ∀ (d k f : Nat) (h : Int64), k + d = g → d < f → ∃ h' : Int64, g_X3_digest_27 f X h (nI k) = some (h', X) ∧ g_X4_digest_89 f (Y.1, h) (nI k) = some (h', (Y.1, h')) := by
  intro d
  induction d with
  | zero =>
    intro k f h hk hf
    obtain ⟨f, rfl⟩ : ∃ g, f = g + 1 := ⟨f - 1, by omega⟩
    have e : k = g := by omega
    subst e
    obtain ⟨h', q1, q2⟩ := cnt_loop hR 10 0 NF h (by omega) (by have := NF_ge; omega)
    refine ⟨h', ?_, ?_⟩
    · rw [g_X3_digest_27, g2, if_pos (nI_le (Nat.le_refl _) (by omega))]
      exact q1
    · rw [g_X4_digest_89, show (Y.1, h).1 0 1 = nI k from g3, if_pos (nI_le (Nat.le_refl _) (by omega))]
      exact q2
  | succ d ih =>
    intro k f h hk hf
    obtain ⟨f, rfl⟩ : ∃ g, f = g + 1 := ⟨f - 1, by omega⟩
    have hc : (nI k).toNatClampNeg = k := nI_clamp (by omega)
    obtain ⟨m, -, m2, m3⟩ := g4 k (by omega)
    obtain ⟨h', q1, q2⟩ := ih (k + 1) f (31 * h + (nI m).toInt64) (by omega) (by omega)
    refine ⟨h', ?_, ?_⟩
    · rw [g_X3_digest_27, g2, if_neg (nI_ge (show k < g by omega) (by omega)), pw_ix (show k < 12 by omega) (by omega), hc, m2, foldX, Option.bind_some, stp_eq, pw_one]
      exact q1
    · rw [g_X4_digest_89, show (Y.1, h).1 0 1 = nI g from g3, if_neg (nI_ge (show k < g by omega) (by omega)), pw_ix (show k < 12 by omega) (by omega), hc, show (Y.1, h).1 1 k = nI m from m3, sayM, Option.bind_some, stp_eq, pw_one]
      exact q2
theorem letters {X : WS} {Y : MS} {N : Nat} (hR : Rel X Y N) (h : Int64) : ∃ h' : Int64, g_X3_digest_27 NF X h 0 = some (h', X) ∧ g_X4_digest_89 NF (Y.1, h) 0 = some (h', (Y.1, h')) := by
  obtain ⟨g, g1, g2, g3, g4⟩ := hR.1
  exact let_loop hR g1 g2 g3 g4 g 0 NF h (by omega) (by have := NF_ge; omega)
/-! the questions -/
theorem q_least {X : WS} {Y : MS} {N : Nat} (h : Rel X Y N) (hN : N ≤ 500) (ht : f_X4_lacks Y = some 0) (p : Int32) (hp : p = 0 ∨ p = 1) : ∃ r X', f_X3_least X p = some (r, X') ∧ f_X4_leastOf Y p = some r ∧ Rel X' Y N ∧ ag X X' := by
  obtain ⟨r, X', a, b, -, c⟩ := s_least h hN p
  refine ⟨r, X', a, ?_, Rel_ag c (agM_rf Y) h, c⟩
  unfold f_X4_least at b
  have e : f_X4_in (Int32.toInt64 p) 0 1 = some 1 := by
    rcases hp with rfl | rfl
    · exact in1 (l := 0) (h := 1) (a := 0) (b := 1) rfl rfl (by decide) (by decide)
    · exact in1 (l := 0) (h := 1) (a := 0) (b := 1) rfl rfl (by decide) (by decide)
  rw [e, Option.bind_some, if_neg n10, ht, Option.bind_some, if_pos rfl] at b
  obtain ⟨z, z1, z2⟩ := Option.bind_eq_some_iff.mp b
  cases z2
  exact z1
theorem q_where {X : WS} {Y : MS} {N : Nat} (h : Rel X Y N) (hN : N ≤ 500) (ht : f_X4_lacks Y = some 0) (p : Int32) (hp : p = 0 ∨ p = 1) : ∃ r X', f_X3_where X p = some (r, X') ∧ f_X4_whereOf Y p = some r ∧ Rel X' Y N ∧ ag X X' := by
  obtain ⟨r, X', a, b, -, c⟩ := s_where h hN p
  refine ⟨r, X', a, ?_, Rel_ag c (agM_rf Y) h, c⟩
  unfold f_X4_where at b
  have e : f_X4_in (Int32.toInt64 p) 0 1 = some 1 := by
    rcases hp with rfl | rfl
    · exact in1 (l := 0) (h := 1) (a := 0) (b := 1) rfl rfl (by decide) (by decide)
    · exact in1 (l := 0) (h := 1) (a := 0) (b := 1) rfl rfl (by decide) (by decide)
  rw [e, Option.bind_some, if_neg n10, ht, Option.bind_some, if_pos rfl] at b
  obtain ⟨z, z1, z2⟩ := Option.bind_eq_some_iff.mp b
  cases z2
  exact z1
theorem q_ask {X : WS} {Y : MS} {N : Nat} (h : Rel X Y N) (hN : N ≤ 500) (ht : f_X4_lacks Y = some 0) : ∃ r X', f_X3_ask X = some (r, X') ∧ f_X4_askOf Y = some r ∧ Rel X' Y N ∧ ag X X' := by
  obtain ⟨r, X', a, b, -, c⟩ := s_ask h hN
  refine ⟨r, X', a, ?_, Rel_ag c (agM_rf Y) h, c⟩
  unfold f_X4_ask at b
  rw [ht, Option.bind_some, if_pos rfl] at b
  obtain ⟨z, z1, z2⟩ := Option.bind_eq_some_iff.mp b
  cases z2
  exact z1
def wtl (X : WS) (v3 : Int64) : Option (Int64 × WS) := bnd2 (f_X3_where X 0) (fun r12 X13 => (f_X3_fold v3 (Int32.toInt64 r12)).bind (fun r14 => bnd2 (f_X3_where X13 1) (fun r15 X16 => (f_X3_fold r14 (Int32.toInt64 r15)).bind (fun r17 => bnd2 (f_X3_ask X16) (fun r18 X19 => (f_X3_fold r17 (Int32.toInt64 r18)).bind (fun r20 => some (r20, X19)))))))
def mtl (X : MS) : Option MS := (f_X4_whereOf X 0).bind (fun r11 => (f_X4_say X (Int32.toInt64 r11)).bind (fun X12 => (f_X4_whereOf X12 1).bind (fun r13 => (f_X4_say X12 (Int32.toInt64 r13)).bind (fun X14 => (f_X4_askOf X14).bind (fun r15 => (f_X4_say X14 (Int32.toInt64 r15)).bind (fun X16 => some X16))))))
theorem lack_h {Y : MS} (ht : f_X4_lacks Y = some 0) (s : Int64) : f_X4_lacks (Y.1, s) = some 0 := ht
theorem lack_h' {Y : MS} {z : Int32} (ht : f_X4_lacks Y = some z) {s : Int64} : f_X4_lacks (Y.1, s) = some z := ht
theorem tails {X : WS} {Y : MS} {N : Nat} (h : Rel X Y N) (hN : N ≤ 500) (ht : f_X4_lacks Y = some 0) (s : Int64) : ∃ (h' : Int64) (X' : WS), wtl X s = some (h', X') ∧ mtl (Y.1, s) = some (Y.1, h') ∧ Rel X' Y N ∧ ag X X' := by
  obtain ⟨r1, X1, a1, b1, c1, d1⟩ := q_where (Rel_h h s) hN (lack_h ht s) 0 (Or.inl rfl)
  obtain ⟨r2, X2, a2, b2, c2, d2⟩ := q_where (Rel_h c1 (31 * s + r1.toInt64)) hN (lack_h ht _) 1 (Or.inr rfl)
  obtain ⟨r3, X3, a3, b3, c3, d3⟩ := q_ask (Rel_h c2 (31 * (31 * s + r1.toInt64) + r2.toInt64)) hN (lack_h ht _)
  refine ⟨31 * (31 * (31 * s + r1.toInt64) + r2.toInt64) + r3.toInt64, X3, ?_, ?_, c3, ag_tr (ag_tr d1 d2) d3⟩
  · unfold wtl
    rw [a1, bnd2_sm, foldX, Option.bind_some, a2, bnd2_sm, foldX, Option.bind_some, a3, bnd2_sm, foldX, Option.bind_some]
  · unfold mtl
    rw [b1, Option.bind_some, sayM, Option.bind_some, b2, Option.bind_some, sayM, Option.bind_some, b3, Option.bind_some, sayM, Option.bind_some]
theorem cov_loop {X : WS} {N n v : Nat} (w : WX X n) (ev : X 3 9 = nI v) (hv : v ≤ 9) : ∀ (d i f : Nat) (s : Int64) (Y : MS), i + d = 3 → d < f → Rel X Y N → ∃ (h' : Int64) (Y' : MS), g_X3_foldQuestions_52 (plo (cvI X n v (allb n) 4 0)) f X s (nI (10 + i)) = wtl X h' ∧ g_X4_sayTown_77 f (Y.1, s) (nI (10 + i)) = mtl (Y'.1, h') ∧ agM Y Y' := by
  intro d
  induction d with
  | zero =>
    intro i f s Y hi hf hR
    obtain ⟨f, rfl⟩ : ∃ g, f = g + 1 := ⟨f - 1, by omega⟩
    have e : i = 3 := by omega
    subst e
    refine ⟨s, Y, ?_, ?_, agM_rf Y⟩
    · rw [g_X3_foldQuestions_52, if_pos (by decide)]
      rfl
    · rw [g_X4_sayTown_77, if_pos (by decide)]
      rfl
  | succ d ih =>
    intro i f s Y hi hf hR
    obtain ⟨f, rfl⟩ : ∃ g, f = g + 1 := ⟨f - 1, by omega⟩
    obtain ⟨n2, t, v2, w2, r, td, lh, e6, ev2, hv2, e3, e5, e7, e8⟩ := hR.2.1
    have en : n2 = n := by
      have h1 := w2.2.1
      rw [w.2.1] at h1
      have a := w.1
      have b := w2.1
      exact ((nI_eq (by omega) (by omega)).mp h1).symm
    subst en
    have hw : wok (nI (10 + i)) := Or.inr ⟨i, by omega, rfl⟩
    obtain ⟨Y1, c1, c2⟩ := coverM (Y := (Y.1, s)) w r lh e6 (by show Y.1 0 3 = _; rw [e3]; exact ev) (by omega) (allb n2) (nI (10 + i)) hw
    have c1' : Y1.2 = s := c1.2
    obtain ⟨h', Y', q1, q2, q3⟩ := ih (i + 1) f (31 * s + (pto (cvI X n2 v (allb n2) 4 0) (nI (10 + i))).toInt64) Y1 (by omega) (by omega) (Rel_ag (ag_rf X) (ag4_M c1) (Rel_h hR s))
    refine ⟨h', Y', ?_, ?_, ?_⟩
    · rw [g_X3_foldQuestions_52, if_neg (lit_nlt (L := 12) (b := 12) (k := 10 + i) rfl (by omega) (by omega)), partX hw, Option.bind_some, foldX, Option.bind_some, stp_eq, pw_one]
      exact q1
    · rw [g_X4_sayTown_77, if_neg (lit_nle (L := 13) (b := 13) (k := 10 + i) rfl (by omega) (by omega)), allM (Y := (Y.1, s)) r, Option.bind_some, c2, bnd2_sm, show Y1 = (Y1.1, s) from by rw [← c1'], sayM, Option.bind_some, stp_eq, pw_one]
      exact q2
    · have c1m : agM (Y.1, s) Y1 := ag4_M c1
      exact agM_tr (Y := Y) (show agM Y Y1 from c1m) q3
def qtl (X : MS) : Option MS := (f_X4_leastOf X 0).bind (fun r2 => (f_X4_say X (Int32.toInt64 r2)).bind (fun X3 => (f_X4_leastOf X3 1).bind (fun r4 => (f_X4_say X3 (Int32.toInt64 r4)).bind (fun X5 => (f_X4_allListeners X5).bind (fun r6 => bnd2 (f_X4_coverOf X5 r6 0) (fun r7 X8 => (f_X4_say X8 (Int32.toInt64 r7)).bind (fun X9 => g_X4_sayTown_77 NF X9 10)))))))
theorem pl_loop {X : WS} {Y : MS} {N : Nat} (hR : Rel X Y N) (hx : f_X3_hasTown X = some 1) : ∀ (d p f : Nat) (s : Int64), p + d = 6 → d < f → ∃ h' : Int64, g_X3_foldPlaces_5 X f s (nI p) = some h' ∧ g_X4_sayTown_2 f (Y.1, s) (nI p) = qtl (Y.1, h') := by
  obtain ⟨n, t, v, w, r, td, lh, e6, ev, hv, e3, e5, e7, e8⟩ := hR.2.1
  intro d
  induction d with
  | zero =>
    intro p f s hp hf
    obtain ⟨f, rfl⟩ : ∃ g, f = g + 1 := ⟨f - 1, by omega⟩
    have e : p = 6 := by omega
    subst e
    exact ⟨s, by rw [g_X3_foldPlaces_5, if_pos (by decide)], by rw [g_X4_sayTown_2, if_pos (by decide)]; rfl⟩
  | succ d ih =>
    intro p f s hp hf
    obtain ⟨f, rfl⟩ : ∃ g, f = g + 1 := ⟨f - 1, by omega⟩
    have hc : (nI p).toNatClampNeg = p := nI_clamp (by omega)
    have hpl : f_X3_isPlace X (nI p) = some 1 := by
      unfold f_X3_isPlace
      rw [hx, Option.bind_some, if_neg n10, if_neg (nI_pos (by omega)), if_neg (lit_nle (L := 6) (b := 6) (k := p) rfl (by omega) (by omega))]
    have hno : f_X3_noise X (nI p) = some (X 4 p) := by
      unfold f_X3_noise
      rw [hpl, Option.bind_some, if_neg n10, pw_ix (show p < 6 by omega) (by omega), hc]
    have hwo : f_X3_would X (nI p) 5 = some (kn X (sa X n (X 3 7) (nI p) 5)) := by
      unfold f_X3_would
      rw [hpl, Option.bind_some, if_neg n10, show f_X3_isLoud 5 = some 1 from by decide, Option.bind_some, if_neg n10, spX0 w, Option.bind_some, knowX, Option.bind_some]
    obtain ⟨h', q1, q2⟩ := ih (p + 1) f (31 * (31 * s + (X 4 p).toInt64) + (kn X (sa X n (X 3 7) (nI p) 5)).toInt64) (by omega) (by omega)
    refine ⟨h', ?_, ?_⟩
    · rw [g_X3_foldPlaces_5, if_neg (lit_nle (L := 6) (b := 6) (k := p) rfl (by omega) (by omega)), hno, Option.bind_some, foldX, Option.bind_some, hwo, Option.bind_some, foldX, Option.bind_some, stp_eq, pw_one]
      exact q1
    · rw [g_X4_sayTown_2, if_neg (lit_nle (L := 6) (b := 6) (k := p) rfl (by omega) (by omega)), pw_ix (show p < 6 by omega) (by omega), hc, show (Y.1, s).1 2 p = X 4 p from r.2.2 p (by omega), sayM, Option.bind_some]
      rw [show (Y.1, 31 * s + (X 4 p).toInt64).1 0 6 = X 3 7 from e6, thenM (Y := (Y.1, 31 * s + (X 4 p).toInt64)) w r _ _ lh, Option.bind_some, sayM, Option.bind_some, stp_eq, pw_one]
      exact q2
theorem quest2 {X : WS} {Y : MS} {N : Nat} (h : Rel X Y N) (hN : N ≤ 500) (ht : f_X4_lacks Y = some 0) (s : Int64) : ∃ (h' : Int64) (X' : WS) (Y' : WS), ((f_X2_everyone X).bind (fun r7 => (f_X0_coverPlan X r7).bind (fun r8 => (f_X0_partOfPlan r8 0).bind (fun r9 => (f_X3_fold s (Int32.toInt64 r9)).bind (fun r10 => g_X3_foldQuestions_52 r8 NF X r10 10))))) = some (h', X') ∧ ((f_X4_allListeners (Y.1, s)).bind (fun r6 => bnd2 (f_X4_coverOf (Y.1, s) r6 0) (fun r7 X8 => (f_X4_say X8 (Int32.toInt64 r7)).bind (fun X9 => g_X4_sayTown_77 NF X9 10)))) = some (Y', h') ∧ Rel X' (Y', h') N := by
  obtain ⟨n, t, v, w, r, td, lh, e6, ev, hv, e3, e5, e7, e8⟩ := h.2.1
  have e3' : Y.1 0 3 = nI v := by rw [e3]; exact ev
  obtain ⟨Y3, f1, f2⟩ := coverM (Y := (Y.1, s)) w r lh e6 e3' (by omega) (allb n) 0 (Or.inl rfl)
  have f3 : Y3.2 = s := f1.2
  have f1m : agM (Y.1, s) Y3 := ag4_M f1
  have hR3 : Rel X Y3 N := Rel_ag (ag_rf X) (show agM Y Y3 from f1m) h
  have ht3 : f_X4_lacks Y3 = some 0 := by
    unfold f_X4_lacks at ht ⊢
    rw [f1m.2 4 (by omega)]
    exact ht
  obtain ⟨h4, Y4, g1, g2, g3⟩ := cov_loop w ev hv 3 0 NF (31 * s + (pto (cvI X n v (allb n) 4 0) 0).toInt64) Y3 (by omega) (by have := NF_ge; omega) hR3
  have hR4 : Rel X Y4 N := Rel_ag (ag_rf X) g3 hR3
  have ht4 : f_X4_lacks Y4 = some 0 := by
    unfold f_X4_lacks at ht3 ⊢
    rw [g3.2 4 (by omega)]
    exact ht3
  obtain ⟨h5, X5, k1, k2, k3, k4⟩ := tails hR4 hN ht4 h4
  rw [show nI (10 + 0) = 10 from rfl] at g1 g2
  refine ⟨h5, X5, Y4.1, ?_, ?_, Rel_h k3 h5⟩
  · rw [evX w, Option.bind_some, coverX0 w ev (by omega), Option.bind_some, partX (Or.inl rfl), Option.bind_some, foldX, Option.bind_some, g1]
    exact k1
  · rw [allM (Y := (Y.1, s)) r, Option.bind_some, f2, bnd2_sm]
    have es : f_X4_say Y3 (Int32.toInt64 (pto (cvI X n v (allb n) 4 0) 0)) = some (Y3.1, 31 * s + (pto (cvI X n v (allb n) 4 0) 0).toInt64) := by rw [← f3]; rfl
    rw [es, Option.bind_some, g2]
    exact k2
theorem quest {X : WS} {Y : MS} {N : Nat} (h : Rel X Y N) (hN : N ≤ 500) (ht : f_X4_lacks Y = some 0) (s : Int64) : ∃ (h' : Int64) (X' : WS) (Y' : WS), f_X3_foldQuestions X s = some (h', X') ∧ qtl (Y.1, s) = some (Y', h') ∧ Rel X' (Y', h') N := by
  obtain ⟨r1, X1, a1, b1, c1, d1⟩ := q_least (Rel_h h s) hN (lack_h ht s) 0 (Or.inl rfl)
  obtain ⟨r2, X2, a2, b2, c2, d2⟩ := q_least (Rel_h c1 (31 * s + r1.toInt64)) hN (lack_h ht _) 1 (Or.inr rfl)
  have c2' : Rel X2 Y N := c2
  obtain ⟨h', X', Y', q1, q2, q3⟩ := quest2 c2' hN ht (31 * (31 * s + r1.toInt64) + r2.toInt64)
  refine ⟨h', X', Y', ?_, ?_, q3⟩
  · unfold f_X3_foldQuestions
    rw [a1, bnd2_sm, foldX, Option.bind_some, a2, bnd2_sm, foldX, Option.bind_some]
    exact q1
  · unfold qtl
    rw [b1, Option.bind_some, sayM, Option.bind_some, b2, Option.bind_some, sayM, Option.bind_some]
    exact q2
theorem s_digest {X : WS} {Y : MS} {N : Nat} (h : Rel X Y N) (hN : N ≤ 500) : ∃ (r : Int64) (X' : WS) (Y' : MS), f_X3_digest X = some (r, X') ∧ f_X4_digest Y = some (r, Y') ∧ Rel X' Y' (N + 1) := by
  obtain ⟨n, t, v, w, r, td, lh, e6, ev, hv, e3, e5, e7, e8⟩ := h.2.1
  obtain ⟨h1, a1, a2⟩ := dl_out w r e6 lh n 0 NF 1009 (by omega) (by have := NF_ge; have := w.1; omega)
  unfold f_X3_digest f_X4_digest f_X3_foldListeners
  have a1' : g_X3_foldListeners_5 X NF 1009 0 = some h1 := a1
  have a2' : g_X4_digest_9 NF (Y.1, 1009) 0 = dtl (Y.1, h1) := a2
  rw [a1', Option.bind_some, stp_eq, a2']
  unfold dtl
  rcases hasG h hN with ⟨hx, hy⟩ | ⟨hx, hy⟩
  · rw [hx, lack_h' hy, Option.bind_some, Option.bind_some, if_neg n10, if_pos rfl]
    obtain ⟨h2, b1, b2⟩ := pl_loop h hx 6 0 NF h1 (by omega) (by have := NF_ge; omega)
    unfold f_X3_foldPlaces f_X4_sayTown
    have b1' : g_X3_foldPlaces_5 X NF h1 0 = some h2 := b1
    have b2' : g_X4_sayTown_2 NF (Y.1, h1) 0 = qtl (Y.1, h2) := b2
    rw [b1', Option.bind_some, b2']
    obtain ⟨h3, X3, Y3, c1, c2, c3⟩ := quest h hN hy h2
    rw [c1, bnd2_sm, c2, Option.bind_some]
    obtain ⟨h4, d1, d2⟩ := letters c3 h3
    refine ⟨h4, X3, (Y3, h4), d1, d2, Rel_up (Rel_h c3 h4)⟩
  · rw [hx, lack_h' hy, Option.bind_some, Option.bind_some, if_pos rfl, if_neg n10]
    obtain ⟨h4, d1, d2⟩ := letters h h1
    exact ⟨h4, X, (Y.1, h4), d1, d2, Rel_up (Rel_h h h4)⟩
