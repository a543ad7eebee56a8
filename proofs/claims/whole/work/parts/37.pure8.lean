def ag4 (Y Y' : MS) : Prop := (∀ c, c ≠ 4 → Y'.1 c = Y.1 c) ∧ Y'.2 = Y.2
theorem ag4_rf (Y : MS) : ag4 Y Y := ⟨fun _ _ => rfl, rfl⟩
theorem ag4_tr {Y Y' Y'' : MS} (h : ag4 Y Y') (h2 : ag4 Y' Y'') : ag4 Y Y'' := ⟨fun c a => (h2.1 c a).trans (h.1 c a), h2.2.trans h.2⟩
theorem ag4_M {Y Y' : MS} (h : ag4 Y Y') : agM Y Y' := ⟨fun c _ b => h.1 c b, fun k _ => by rw [h.1 0 (by omega)]⟩
theorem cov_dig (w m' : Int32) : ∀ (k f : Nat) (Y : MS) (left : Nat), k < 3 → k + 1 < f → left < 1000 → ∃ Y' : MS, ag4 Y Y' ∧ (∀ j, j ≤ k → Y'.1 4 j = nI (left / 6 ^ (k - j) % 6)) ∧ (∀ j, k < j → Y'.1 4 j = Y.1 4 j) ∧ g_X4_isCovered_8 w m' f Y (nI left) (nI k) = g_X4_isCovered_47 w m' NF Y' (Y'.1 0 6) 0 := by
  intro k
  induction k with
  | zero =>
    intro f Y left hk hf hl
    obtain ⟨f, rfl⟩ : ∃ g, f = (g + 1) + 1 := ⟨f - 2, by omega⟩
    have e1 : nI left - nI left / 6 * 6 = nI (left % 6) := pk_rem (d := 6) (by omega) (by omega) (by omega)
    refine ⟨(ups Y.1 4 0 (nI (left % 6)), Y.2), ⟨fun c hc => ups_o hc 0 _, rfl⟩, fun j hj => ?_, fun j hj => ?_, ?_⟩
    · have : j = 0 := by omega
      subst this
      show (ups Y.1 4 0 (nI (left % 6))) 4 0 = _
      rw [ups_s, upd_s, show left / 6 ^ (0 - 0) = left from Nat.div_one left]
    · show (ups Y.1 4 0 (nI (left % 6))) 4 j = _
      rw [ups_s, upd_o (by omega)]
    · rw [g_X4_isCovered_8, if_neg (by decide), e1]
      simp only [stp_eq]
      rw [pw_ix (show 0 < 3 by omega) (by omega), show nI 0 + (-1) = -1 from by decide, g_X4_isCovered_8, if_pos (by decide)]
      rfl
  | succ k ih =>
    intro f Y left hk hf hl
    obtain ⟨f, rfl⟩ : ∃ g, f = g + 1 := ⟨f - 1, by omega⟩
    have e1 : nI left - nI left / 6 * 6 = nI (left % 6) := pk_rem (d := 6) (by omega) (by omega) (by omega)
    have e2 : nI left / 6 = nI (left / 6) := pk_div (d := 6) (by omega) (by omega) (by omega)
    have hc : (nI (k + 1)).toNatClampNeg = k + 1 := nI_clamp (by omega)
    obtain ⟨Y', a1, a2, a3, a4⟩ := ih f (ups Y.1 4 (k + 1) (nI (left % 6)), Y.2) (left / 6) (by omega) (by omega) (by omega)
    have a0 : ag4 Y (ups Y.1 4 (k + 1) (nI (left % 6)), Y.2) := ⟨fun c hc => ups_o hc _ _, rfl⟩
    refine ⟨Y', ag4_tr a0 a1, fun j hj => ?_, fun j hj => ?_, ?_⟩
    · by_cases z : j = k + 1
      · subst z
        rw [a3 (k + 1) (by omega)]
        show (ups Y.1 4 (k + 1) (nI (left % 6))) 4 (k + 1) = _
        rw [ups_s, upd_s, Nat.sub_self, show left / 6 ^ 0 = left from Nat.div_one left]
      · rw [a2 j (by omega), Nat.div_div_eq_div_mul, show k + 1 - j = (k - j) + 1 from by omega, Nat.pow_succ, Nat.mul_comm]
    · rw [a3 j (by omega)]
      show (ups Y.1 4 (k + 1) (nI (left % 6))) 4 j = _
      rw [ups_s, upd_o (by omega)]
    · rw [g_X4_isCovered_8, if_neg (nI_pos (by omega)), e1, e2]
      simp only [stp_eq]
      rw [pw_ix (show k + 1 < 3 by omega) (by omega), hc, pk_m1]
      exact a4
theorem cov_app {X : WS} {Y : MS} {n v : Nat} (h : WX X n) (r : RM X Y.1 n) (e3 : Y.1 0 3 = nI v) (w : Int32) {m c : Nat} (hm : m ≤ 3) (hrow : ∀ j, j < m → Y.1 4 j = nI (c / 6 ^ (m - 1 - j) % 6)) : ∀ (d k f : Nat) (hd : Int32), k + d = m → d < f → lo n hd → g_X4_isCovered_47 w (nI m) f Y hd (nI k) = some ((if cvd X w (apl X n v d hd k (c % 6 ^ d)) then 1 else 0), Y) := by
  have hn := h.1
  intro d
  induction d with
  | zero =>
    intro k f hd hk hf hl
    obtain ⟨f, rfl⟩ : ∃ g, f = g + 1 := ⟨f - 1, by omega⟩
    have e : k = m := by omega
    subst e
    rw [g_X4_isCovered_47, if_pos (nI_le (Nat.le_refl _) (by omega)), knowM h r hl, Option.bind_some, apl]
    unfold cvd
    by_cases q : w &&& (kn X hd ^^^ (-1)) = 0
    · rw [if_pos q, decide_eq_true q]; rfl
    · rw [if_neg q, decide_eq_false q]; rfl
  | succ d ih =>
    intro k f hd hk hf hl
    obtain ⟨f, rfl⟩ : ∃ g, f = g + 1 := ⟨f - 1, by omega⟩
    have hc : (nI k).toNatClampNeg = k := nI_clamp (by omega)
    rw [g_X4_isCovered_47, if_neg (nI_ge (show k < m by omega) (by omega)), pw_ix (show k < 3 by omega) (by omega), allM r, Option.bind_some, hc, hrow k (by omega), e3, heardA h r _ _ hl, Option.bind_some]
    simp only [stp_eq, pw_one]
    rw [ih (k + 1) f _ (by omega) (by omega) (lo_sa hn _ _ hl), apl, show m - 1 - k = d from by omega, Nat.pow_succ, Nat.mod_mul_right_div_self, Nat.mod_mul_right_mod]
theorem coveredM {X : WS} {Y : MS} {n v : Nat} (h : WX X n) (r : RM X Y.1 n) (hh : lo n (X 3 7)) (e6 : Y.1 0 6 = X 3 7) (e3 : Y.1 0 3 = nI v) (w : Int32) {m c : Nat} (hm : m ≤ 3) (hc : c < 6 ^ m) : ∃ Y' : MS, ag4 Y Y' ∧ (∀ j, j < m → Y'.1 4 j = nI (c / 6 ^ (m - 1 - j) % 6)) ∧ f_X4_isCovered Y w (nI m) (nI c) = some ((if okc X n v w m (X 3 7) 0 c then 1 else 0), Y') := by
  have h216 : 6 ^ m ≤ 216 := Nat.le_trans (Nat.pow_le_pow_right (n := 6) (by omega) hm) (by decide)
  unfold f_X4_isCovered
  simp only [stp_eq]
  cases m with
  | zero =>
    refine ⟨Y, ag4_rf Y, fun j hj => by omega, ?_⟩
    rw [show nI 0 - 1 = -1 from by decide, show NF = 999 + 1 from rfl, g_X4_isCovered_8, if_pos (by decide)]
    simp only [stp_eq]
    have e := cov_app h r e3 w (m := 0) (c := c) (by omega) (fun j hj => by omega) 0 0 NF (X 3 7) (by omega) (by have := NF_ge; omega) hh
    rw [e6]
    exact e
  | succ k =>
    obtain ⟨Y', a1, a2, a3, a4⟩ := cov_dig w (nI (k + 1)) k NF Y c (by omega) (by have := NF_ge; omega) (by omega)
    refine ⟨Y', a1, fun j hj => by rw [show k + 1 - 1 - j = k - j from by omega]; exact a2 j (by omega), ?_⟩
    rw [nI_pred, a4]
    have e := cov_app (Y := Y') h (RM_agM (ag4_M a1) r) (by rw [a1.1 0 (by omega)]; exact e3) w (m := k + 1) (c := c) hm (fun j hj => by rw [show k + 1 - 1 - j = k - j from by omega]; exact a2 j (by omega)) (k + 1) 0 NF (X 3 7) (by omega) (by have := NF_ge; omega) hh
    rw [a1.1 0 (by omega), e6]
    rw [Nat.mod_eq_of_lt hc] at e
    exact e
def pto : Option (Nat × Nat) → Int32 → Int32
  | none, _ => -1
  | some q, what => if what = 0 then nI q.1 else if nI q.1 ≤ what - 10 then -1 else nI (q.2 / 6 ^ (q.1 - 1 - (what - 10).toNatClampNeg) % 6)
def wok (what : Int32) : Prop := what = 0 ∨ ∃ i, i < 3 ∧ what = nI (10 + i)
theorem part0 : ∀ m, m < 4 → ∀ c, c < 6 ^ m → f_X0_partOfPlan (nI (enc m c * 4 + m)) 0 = some (nI m) := by decide +kernel
theorem partI : ∀ m, m < 4 → ∀ c, c < 6 ^ m → ∀ i, i < 3 → f_X0_partOfPlan (nI (enc m c * 4 + m)) (nI (10 + i)) = some (pto (some (m, c)) (nI (10 + i))) := by decide +kernel
theorem partN : ∀ i, i < 3 → f_X0_partOfPlan (-1) (nI (10 + i)) = some (-1) := by decide +kernel
theorem cvI_ok {X : WS} {n v : Nat} {w : Int32} : ∀ (d m : Nat) (q : Nat × Nat), m + d = 4 → cvI X n v w d m = some q → q.1 < 4 ∧ q.2 < 6 ^ q.1 := by
  intro d
  induction d with
  | zero => intro m q _ e; rw [cvI] at e; cases e
  | succ d ih =>
    intro m q hm e
    rw [cvI] at e
    by_cases c : v < m
    · rw [if_pos c] at e; cases e
    · rw [if_neg c] at e
      rcases fsc_inv (P := okc X n v w m (X 3 7) 0) (N := 6 ^ m) with ⟨e1, z⟩ | ⟨c0, e1, c1, c2, c3⟩
      · rw [e1] at e; exact ih (m + 1) q (by omega) e
      · rw [e1] at e; cases e; exact ⟨by show m < 4; omega, c1⟩
theorem partX {X : WS} {n v : Nat} {w what : Int32} (hw : wok what) : f_X0_partOfPlan (plo (cvI X n v w 4 0)) what = some (pto (cvI X n v w 4 0) what) := by
  cases e : cvI X n v w 4 0 with
  | none =>
    rcases hw with rfl | ⟨i, hi, rfl⟩
    · rfl
    · exact partN i hi
  | some q =>
    obtain ⟨q1, q2⟩ := cvI_ok 4 0 q (by omega) e
    obtain ⟨m, c⟩ := q
    rcases hw with rfl | ⟨i, hi, rfl⟩
    · exact part0 m q1 c q2
    · exact partI m q1 c q2 i hi
theorem cof_in {X : WS} {Y : MS} {n v : Nat} (h : WX X n) (r : RM X Y.1 n) (hh : lo n (X 3 7)) (e6 : Y.1 0 6 = X 3 7) (e3 : Y.1 0 3 = nI v) (w what : Int32) (hw : wok what) {m : Nat} (hm : m ≤ 3) (k5 : MS → Int32 → Int32 → Option (Int32 × MS)) : ∀ (d c f : Nat) (Y' : MS), c + d = 6 ^ m → d < f → ag4 Y Y' → (∀ q, q < c → okc X n v w m (X 3 7) 0 q = false) → (∃ (c0 : Nat) (Y'' : MS), fsc (okc X n v w m (X 3 7) 0) (6 ^ m) = some c0 ∧ ag4 Y Y'' ∧ g_X4_coverOf_23 k5 w what f Y' (nI (6 ^ m)) (nI m) (nI c) = some (pto (some (m, c0)) what, Y'')) ∨ (∃ Y'' : MS, fsc (okc X n v w m (X 3 7) 0) (6 ^ m) = none ∧ ag4 Y Y'' ∧ g_X4_coverOf_23 k5 w what f Y' (nI (6 ^ m)) (nI m) (nI c) = k5 Y'' (nI (6 ^ (m + 1))) (nI (m + 1))) := by
  have h216 : 6 ^ m ≤ 216 := Nat.le_trans (Nat.pow_le_pow_right (n := 6) (by omega) hm) (by decide)
  intro d
  induction d with
  | zero =>
    intro c f Y' hc hf ha hz
    obtain ⟨f, rfl⟩ : ∃ g, f = g + 1 := ⟨f - 1, by omega⟩
    refine Or.inr ⟨Y', fsc_none (fun q hq => hz q (by omega)), ha, ?_⟩
    rw [g_X4_coverOf_23, if_pos (nI_le (show 6 ^ m ≤ c by omega) (by omega))]
    simp only [stp_eq, pw_one]
    rw [show nI (6 ^ m) * 6 = nI (6 ^ (m + 1)) from by rw [Nat.pow_succ]; exact pk_mul (6 ^ m) 6]
  | succ d ih =>
    intro c f Y' hc hf ha hz
    obtain ⟨f, rfl⟩ : ∃ g, f = g + 1 := ⟨f - 1, by omega⟩
    rw [g_X4_coverOf_23, if_neg (nI_ge (show c < 6 ^ m by omega) (by omega))]
    obtain ⟨Y2, a1, a2, a3⟩ := coveredM (Y := Y') h (RM_agM (ag4_M ha) r) hh (by rw [ha.1 0 (by omega)]; exact e6) (by rw [ha.1 0 (by omega)]; exact e3) w hm (show c < 6 ^ m by omega)
    rw [a3]
    simp only [bnd2_sm, bind_sm, stp_eq, pw_one]
    cases ho : okc X n v w m (X 3 7) 0 c
    · simp only [Bool.false_eq_true, if_false, if_true]
      exact ih (c + 1) f Y2 (by omega) (by omega) (ag4_tr ha a1) (fun q hq => by
        by_cases z : q = c
        · rw [z]; exact ho
        · exact hz q (by omega))
    · simp only [if_true]
      rw [if_neg (by decide)]
      refine Or.inl ⟨c, Y2, fsc_some ho hz (by omega), ag4_tr ha a1, ?_⟩
      rcases hw with rfl | ⟨i, hi, rfl⟩
      · rfl
      · have e10 : nI (10 + i) - 10 = nI i := by
          rw [show (10 : Int32) = nI 10 from rfl, pk_sub (by omega), Nat.add_sub_cancel_left]
        have hci : (nI i).toNatClampNeg = i := nI_clamp (by omega)
        show _ = some ((if nI (10 + i) = 0 then nI m else if nI m ≤ nI (10 + i) - 10 then -1 else nI (c / 6 ^ (m - 1 - (nI (10 + i) - 10).toNatClampNeg) % 6)), Y2)
        rw [if_neg (show ¬ nI (10 + i) = 0 from nI_ne0 (by omega) (by omega)), if_neg (show ¬ nI (10 + i) = 0 from nI_ne0 (by omega) (by omega)), e10, hci]
        by_cases z : m ≤ i
        · rw [if_pos (nI_le z (by omega)), if_pos (nI_le z (by omega))]
        · rw [if_neg (nI_ge (show i < m by omega) (by omega)), if_neg (nI_ge (show i < m by omega) (by omega)), pw_ix (show i < 3 by omega) (by omega), a2 i (by omega)]
theorem cof_out {X : WS} {Y : MS} {n v : Nat} (h : WX X n) (r : RM X Y.1 n) (hh : lo n (X 3 7)) (e6 : Y.1 0 6 = X 3 7) (e3 : Y.1 0 3 = nI v) (hv9 : v < 100) (w what : Int32) (hw : wok what) : ∀ (d m f : Nat) (Y' : MS), m + d = 4 → d < f → ag4 Y Y' → ∃ Y'' : MS, ag4 Y Y'' ∧ g_X4_coverOf_5 w what f Y' (nI (6 ^ m)) (nI m) = some (pto (cvI X n v w d m) what, Y'') := by
  intro d
  induction d with
  | zero =>
    intro m f Y' hm hf ha
    obtain ⟨f, rfl⟩ : ∃ g, f = g + 1 := ⟨f - 1, by omega⟩
    have e : m = 4 := by omega
    subst e
    exact ⟨Y', ha, by rw [g_X4_coverOf_5, if_pos (by decide)]; rfl⟩
  | succ d ih =>
    intro m f Y' hm hf ha
    obtain ⟨f, rfl⟩ : ∃ g, f = g + 1 := ⟨f - 1, by omega⟩
    have h216 : 6 ^ m ≤ 216 := Nat.le_trans (Nat.pow_le_pow_right (n := 6) (by omega) (show m ≤ 3 by omega)) (by decide)
    rw [g_X4_coverOf_5, if_neg (lit_nle (L := 4) (b := 4) (k := m) rfl (by omega) (by omega)), ha.1 0 (by omega), e3, cvI]
    by_cases c : v < m
    · rw [if_pos (nI_lt c (by omega)), if_pos c]
      exact ⟨Y', ha, rfl⟩
    · rw [if_neg (nI_nlt (by omega) (by omega)), if_neg c]
      rcases cof_in h r hh e6 e3 w what hw (m := m) (by omega) (g_X4_coverOf_5 w what f) (6 ^ m) 0 NF Y' (by omega) (by have := NF_ge; omega) ha (fun q hq => by omega) with ⟨c0, Y2, e1, a1, a2⟩ | ⟨Y2, e1, a1, a2⟩
      · rw [e1]
        rw [show (0 : Int32) = nI 0 from rfl, a2]
        exact ⟨Y2, a1, rfl⟩
      · rw [e1]
        rw [show (0 : Int32) = nI 0 from rfl, a2]
        exact ih (m + 1) f Y2 (by omega) (by omega) a1
theorem coverM {X : WS} {Y : MS} {n v : Nat} (h : WX X n) (r : RM X Y.1 n) (hh : lo n (X 3 7)) (e6 : Y.1 0 6 = X 3 7) (e3 : Y.1 0 3 = nI v) (hv9 : v < 100) (w what : Int32) (hw : wok what) : ∃ Y'' : MS, ag4 Y Y'' ∧ f_X4_coverOf Y w what = some (pto (cvI X n v w 4 0) what, Y'') :=
  cof_out h r hh e6 e3 hv9 w what hw 4 0 NF Y (by omega) (by have := NF_ge; omega) (ag4_rf Y)
