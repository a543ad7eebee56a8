def needK (k : Int32) : Int32 := if k = 1 then 5 else if k = 2 then 3 else 1
def repK (k : Int32) : Int32 := if k = 3 then 4 else if k = 4 then 7 else 0
def dst (x pl : Int32) : Int32 := if pl ≤ x then x - pl else pl - x
theorem dst_le {x pl : Int32} (h : x ≤ pl) : dst x pl = pl - x := by
  unfold dst
  by_cases c : pl ≤ x
  · rw [if_pos c]
    have e : x = pl := Int32.le_antisymm h c
    rw [e]
  · rw [if_neg c]
theorem dst_nle {x pl : Int32} (h : ¬ x ≤ pl) : dst x pl = x - pl := by
  unfold dst
  rw [if_pos]
  rw [Int32.le_iff_toInt_le] at h ⊢
  omega
def hcX (X : WS) (pl ld : Int32) (j : Nat) : Bool := !decide (((ld - (2 * dst (X 8 j) pl)) - X 4 (X 8 j).toNatClampNeg) < needK (X 5 j))
def WX (X : WS) (n : Nat) : Prop := n ≤ 6 ∧ X 3 5 = nI n ∧ (∀ j, j < n → X 6 j = needK (X 5 j) ∧ X 7 j = repK (X 5 j) ∧ ∃ q, q < 6 ∧ X 8 j = nI q) ∧ X 3 6 = orb (fun j => decide (X 5 j = 2)) n
def RM (X Y : WS) (n : Nat) : Prop := Y 0 11 = nI n ∧ (∀ j, j < n → Y 3 (2 * j) = X 5 j ∧ Y 3 (2 * j + 1) = X 8 j) ∧ ∀ q, q < 6 → Y 2 q = X 4 q
def hm (X : WS) (n : Nat) (mk : Nat → Bool) (pl ld : Int32) : Int32 := orb (fun j => hcX X pl ld j && mk j) n
theorem bt_hm {X : WS} {n : Nat} (hn : n ≤ 6) (mk : Nat → Bool) (pl ld : Int32) (i : Nat) : bt (hm X n mk pl ld) i = (decide (i < n) && (hcX X pl ld i && mk i)) := bt_orb _ n (by omega) i
theorem hearX_loop {X : WS} {n : Nat} (h : WX X n) (pl ld : Int32) : ∀ (d k f : Nat), k + d = n → d < f → g_X2_hearing_5 X pl ld f (orb (hcX X pl ld) k) (nI k) = some (orb (hcX X pl ld) n) := by
  obtain ⟨hn, hl, ht, _⟩ := h
  intro d
  induction d with
  | zero =>
    intro k f hk hf
    obtain ⟨f, rfl⟩ : ∃ g, f = g + 1 := ⟨f - 1, by omega⟩
    have e : k = n := by omega
    subst e
    rw [g_X2_hearing_5, hl, if_pos (nI_le (Nat.le_refl _) (by omega))]
  | succ d ih =>
    intro k f hk hf
    obtain ⟨f, rfl⟩ : ∃ g, f = g + 1 := ⟨f - 1, by omega⟩
    obtain ⟨h6, h7, q, hq, h8⟩ := ht k (by omega)
    have hc : (nI k).toNatClampNeg = k := nI_clamp (by omega)
    have hq2 : (nI q).toNatClampNeg = q := nI_clamp (by omega)
    have ihk := ih (k + 1) f (by omega) (by omega)
    rw [g_X2_hearing_5, hl, if_neg (nI_ge (show k < n by omega) (by omega))]
    simp only [stp, hc, h8, hq2, h6, pw_one, pw_ix (show k < 6 by omega) (show (6 : Nat) < 2 ^ 31 by omega), pw_ix hq (show (6 : Nat) < 2 ^ 31 by omega)]
    rw [orb] at ihk
    by_cases c1 : pl ≤ nI q
    · have ed : dst (nI q) pl = nI q - pl := by unfold dst; rw [if_pos c1]
      rw [if_pos c1]
      by_cases c2 : ((ld - (2 * (nI q - pl))) - X 4 q) < needK (X 5 k)
      · have e2 : hcX X pl ld k = false := by unfold hcX; rw [h8, ed, hq2, decide_eq_true c2]; rfl
        rw [if_pos c2]
        rw [e2] at ihk
        simpa using ihk
      · have e2 : hcX X pl ld k = true := by unfold hcX; rw [h8, ed, hq2, decide_eq_false c2]; rfl
        rw [if_neg c2]
        rw [e2] at ihk
        simpa using ihk
    · have ed : dst (nI q) pl = pl - nI q := by unfold dst; rw [if_neg c1]
      rw [if_neg c1]
      by_cases c2 : ((ld - (2 * (pl - nI q))) - X 4 q) < needK (X 5 k)
      · have e2 : hcX X pl ld k = false := by unfold hcX; rw [h8, ed, hq2, decide_eq_true c2]; rfl
        rw [if_pos c2]
        rw [e2] at ihk
        simpa using ihk
      · have e2 : hcX X pl ld k = true := by unfold hcX; rw [h8, ed, hq2, decide_eq_false c2]; rfl
        rw [if_neg c2]
        rw [e2] at ihk
        simpa using ihk
theorem NF_ge : 1000 ≤ NF := Nat.le_refl _
theorem hearX {X : WS} {n : Nat} (h : WX X n) (pl ld : Int32) : f_X2_hearing X pl ld = some (hm X n (fun _ => true) pl ld) := by
  have hn := h.1
  have e := hearX_loop h pl ld n 0 NF (by omega) (by have := NF_ge; omega)
  unfold f_X2_hearing
  rw [show orb (hcX X pl ld) 0 = 0 from rfl, show nI 0 = 0 from rfl] at e
  rw [e]
  unfold hm
  exact congrArg some (orb_congr (fun j _ => by simp))
theorem pw_and1 (s : Int32) {k : Nat} (hk : k < 32) : s &&& (1 <<< (nI k &&& 31)) = if bt s k then 1 <<< (nI k &&& 31) else 0 := by
  apply b_ext
  intro i hi
  rw [b_and, bt_one hk]
  by_cases h : i = k
  · subst h
    cases hb : bt s i
    · simp [b_0]
    · simp [bt_one hk]
  · rw [decide_eq_false h, Bool.and_false]
    cases bt s k
    · simp [b_0]
    · simp [bt_one hk, h]
theorem needsM (Y : MS) {k : Nat} (hk : k < 6) : f_X4_needsOf Y (nI k) = some (needK (Y.1 3 (2 * k))) := by
  have hc : (nI (2 * k)).toNatClampNeg = 2 * k := nI_clamp (by omega)
  unfold f_X4_needsOf needK
  simp only [pw_two, hc, pw_ix (show 2 * k < 12 by omega) (show (12 : Nat) < 2 ^ 31 by omega)]
  repeat' split
  all_goals rfl
theorem criesM (Y : MS) {k : Nat} (hk : k < 6) : f_X4_criesOf Y (nI k) = some (repK (Y.1 3 (2 * k))) := by
  have hc : (nI (2 * k)).toNatClampNeg = 2 * k := nI_clamp (by omega)
  unfold f_X4_criesOf repK
  simp only [pw_two, hc, pw_ix (show 2 * k < 12 by omega) (show (12 : Nat) < 2 ^ 31 by omega)]
  repeat' split
  all_goals rfl
theorem hearM_loop {X : WS} {Y : MS} {n : Nat} (h : WX X n) (r : RM X Y.1 n) (pl ld s : Int32) : ∀ (d k f : Nat), k + d = n → d < f → g_X4_hearing_6 Y pl ld s f (orb (fun j => hcX X pl ld j && bt s j) k) (nI k) = some (hm X n (bt s) pl ld) := by
  obtain ⟨hn, hl, ht, _⟩ := h
  obtain ⟨rl, rr, rz⟩ := r
  intro d
  induction d with
  | zero =>
    intro k f hk hf
    obtain ⟨f, rfl⟩ : ∃ g, f = g + 1 := ⟨f - 1, by omega⟩
    have e : k = n := by omega
    subst e
    rw [g_X4_hearing_6, rl, if_pos (nI_le (Nat.le_refl _) (by omega))]
    rfl
  | succ d ih =>
    intro k f hk hf
    obtain ⟨f, rfl⟩ : ∃ g, f = g + 1 := ⟨f - 1, by omega⟩
    obtain ⟨h6, h7, q, hq, h8⟩ := ht k (by omega)
    obtain ⟨r1, r2⟩ := rr k (by omega)
    have hc : (nI (2 * k + 1)).toNatClampNeg = 2 * k + 1 := nI_clamp (by omega)
    have hq2 : (nI q).toNatClampNeg = q := nI_clamp (by omega)
    have ihk := ih (k + 1) f (by omega) (by omega)
    rw [g_X4_hearing_6, rl, if_neg (nI_ge (show k < n by omega) (by omega))]
    simp only [stp, pw_two, pw_one, hc, r2, h8, hq2, rz q hq, needsM Y (show k < 6 by omega), r1, Option.bind_some, pw_ix (show 2 * k + 1 < 12 by omega) (show (12 : Nat) < 2 ^ 31 by omega), pw_ix hq (show (6 : Nat) < 2 ^ 31 by omega), pw_and1 s (show k < 32 by omega)]
    rw [orb] at ihk
    by_cases c1 : nI q ≤ pl
    · have ed := dst_le c1
      rw [if_pos c1]
      by_cases c2 : ((ld - (2 * (pl - nI q))) - X 4 q) < needK (X 5 k)
      · have e2 : hcX X pl ld k = false := by unfold hcX; rw [h8, ed, hq2, decide_eq_true c2]; rfl
        rw [if_pos c2]
        rw [e2] at ihk
        simpa using ihk
      · have e2 : hcX X pl ld k = true := by unfold hcX; rw [h8, ed, hq2, decide_eq_false c2]; rfl
        rw [if_neg c2]
        rw [e2, Bool.true_and] at ihk
        exact ihk
    · have ed := dst_nle c1
      rw [if_neg c1]
      by_cases c2 : ((ld - (2 * (nI q - pl))) - X 4 q) < needK (X 5 k)
      · have e2 : hcX X pl ld k = false := by unfold hcX; rw [h8, ed, hq2, decide_eq_true c2]; rfl
        rw [if_pos c2]
        rw [e2] at ihk
        simpa using ihk
      · have e2 : hcX X pl ld k = true := by unfold hcX; rw [h8, ed, hq2, decide_eq_false c2]; rfl
        rw [if_neg c2]
        rw [e2, Bool.true_and] at ihk
        exact ihk
theorem hearM {X : WS} {Y : MS} {n : Nat} (h : WX X n) (r : RM X Y.1 n) (pl ld s : Int32) : f_X4_hearing Y pl ld s = some (hm X n (bt s) pl ld) := by
  have hn := h.1
  have e := hearM_loop h r pl ld s n 0 NF (by omega) (by have := NF_ge; omega)
  unfold f_X4_hearing
  exact e
def rpI (X : WS) (n : Nat) (mk : Nat → Bool) (fr : Int32) : Nat → Int32
  | 0 => 0
  | k + 1 => rpI X n mk fr k ||| (if bt fr k = true ∧ 0 < repK (X 5 k) then hm X n mk (X 8 k) (repK (X 5 k)) else 0)
def spI (X : WS) (n : Nat) (mk : Nat → Bool) : Nat → Int32 → Int32 → Int32
  | 0, _, now => now
  | d + 1, cr, now => if now &&& (cr ^^^ (-1)) = 0 then now else spI X n mk d now (now ||| rpI X n mk (now &&& (cr ^^^ (-1))) n)
def sp (X : WS) (n : Nat) (mk : Nat → Bool) (b pl ld : Int32) : Int32 := spI X n mk n b (b ||| hm X n mk pl ld)
theorem pw_nle {x : Int32} : x ≤ 0 ↔ ¬ 0 < x := by
  rw [Int32.le_iff_toInt_le, Int32.lt_iff_toInt_lt]; omega
theorem repX_loop {X : WS} {n : Nat} (h : WX X n) (fr : Int32) : ∀ (d k f : Nat), k + d = n → d < f → g_X2_repeatedBy_4 X fr f (rpI X n (fun _ => true) fr k) (nI k) = some (rpI X n (fun _ => true) fr n) := by
  have h0 := h
  obtain ⟨hn, hl, ht, _⟩ := h
  intro d
  induction d with
  | zero =>
    intro k f hk hf
    obtain ⟨f, rfl⟩ : ∃ g, f = g + 1 := ⟨f - 1, by omega⟩
    have e : k = n := by omega
    subst e
    rw [g_X2_repeatedBy_4, hl, if_pos (nI_le (Nat.le_refl _) (by omega))]
  | succ d ih =>
    intro k f hk hf
    obtain ⟨f, rfl⟩ : ∃ g, f = g + 1 := ⟨f - 1, by omega⟩
    obtain ⟨h6, h7, q, hq, h8⟩ := ht k (by omega)
    have hc : (nI k).toNatClampNeg = k := nI_clamp (by omega)
    have ihk := ih (k + 1) f (by omega) (by omega)
    rw [g_X2_repeatedBy_4, hl, if_neg (nI_ge (show k < n by omega) (by omega))]
    simp only [stp, hc, h7, pw_one, pw_ix (show k < 6 by omega) (show (6 : Nat) < 2 ^ 31 by omega), pw_bit fr (show k < 32 by omega), hearX h0, Option.bind_some]
    rw [rpI] at ihk
    by_cases c1 : bt fr k = true
    · by_cases c2 : 0 < repK (X 5 k)
      · rw [if_pos ⟨c1, c2⟩] at ihk
        rw [if_pos c1, if_pos rfl, if_neg (fun z => (pw_nle.mp z) c2)]
        exact ihk
      · rw [if_neg (fun z => c2 z.2)] at ihk
        rw [if_pos c1, if_pos rfl, if_pos (pw_nle.mpr c2)]
        simpa using ihk
    · rw [if_neg (fun z => c1 z.1)] at ihk
      rw [if_neg c1, if_neg (by decide)]
      simpa using ihk
theorem repX {X : WS} {n : Nat} (h : WX X n) (fr : Int32) : f_X2_repeatedBy X fr = some (rpI X n (fun _ => true) fr n) := by
  have hn := h.1
  exact repX_loop h fr n 0 NF (by omega) (by have := NF_ge; omega)
theorem hm_mask {X : WS} {n : Nat} (hn : n ≤ 6) (pl ld aw : Int32) : hm X n (fun _ => true) pl ld &&& (aw ^^^ (-1)) = hm X n (fun j => !bt aw j) pl ld := by
  apply b_ext
  intro i hi
  rw [b_and, bt_hm hn, bt_hm hn, b_not aw hi]
  cases decide (i < n) <;> cases hcX X pl ld i <;> cases bt aw i <;> rfl
theorem rpI_mask {X : WS} {n : Nat} (hn : n ≤ 6) (fr aw : Int32) : ∀ k, rpI X n (fun _ => true) fr k &&& (aw ^^^ (-1)) = rpI X n (fun j => !bt aw j) fr k := by
  intro k
  induction k with
  | zero => rw [rpI, rpI]; apply b_ext; intro i hi; rw [b_and, b_0]; rfl
  | succ k ih =>
    apply b_ext
    intro i hi
    have e1 : bt (rpI X n (fun _ => true) fr k &&& (aw ^^^ (-1))) i = bt (rpI X n (fun j => !bt aw j) fr k) i := by rw [ih]
    rw [b_and] at e1
    rw [rpI, rpI, b_and, b_or, b_or, ← e1]
    by_cases c : bt fr k = true ∧ 0 < repK (X 5 k)
    · rw [if_pos c, if_pos c, ← hm_mask hn, b_and]
      cases bt (rpI X n (fun _ => true) fr k) i <;> cases bt (hm X n (fun _ => true) (X 8 k) (repK (X 5 k))) i <;> cases bt (aw ^^^ (-1)) i <;> rfl
    · rw [if_neg c, if_neg c, b_0]
      cases bt (rpI X n (fun _ => true) fr k) i <;> cases bt (aw ^^^ (-1)) i <;> rfl
theorem fresh_eq (now x : Int32) : (now ||| x) &&& (now ^^^ (-1)) = x &&& (now ^^^ (-1)) := by
  apply b_ext
  intro i hi
  rw [b_and, b_and, b_or, b_not now hi]
  cases bt now i <;> cases bt x i <;> rfl
theorem spreadX_loop {X : WS} {n : Nat} (h : WX X n) (aw : Int32) : ∀ (d r f : Nat) (cr now : Int32), r + d = n → d < f → g_X2_spread_26 X aw f now (now &&& (cr ^^^ (-1))) (nI r) = some (spI X n (fun j => !bt aw j) d cr now) := by
  have hn := h.1
  have hl := h.2.1
  intro d
  induction d with
  | zero =>
    intro r f cr now hr hf
    obtain ⟨f, rfl⟩ : ∃ g, f = g + 1 := ⟨f - 1, by omega⟩
    have e : r = n := by omega
    subst e
    rw [g_X2_spread_26, hl, if_pos (nI_le (Nat.le_refl _) (by omega))]
    rfl
  | succ d ih =>
    intro r f cr now hr hf
    obtain ⟨f, rfl⟩ : ∃ g, f = g + 1 := ⟨f - 1, by omega⟩
    rw [g_X2_spread_26, hl, if_neg (nI_ge (show r < n by omega) (by omega)), spI]
    by_cases c : now &&& (cr ^^^ (-1)) = 0
    · rw [if_pos c, if_pos c]
    · rw [if_neg c, if_neg c]
      simp only [stp, pw_one, repX h, Option.bind_some, rpI_mask hn]
      rw [← fresh_eq now (rpI X n (fun j => !bt aw j) (now &&& (cr ^^^ (-1))) n)]
      exact ih (r + 1) f now _ (by omega) (by omega)
theorem spreadX {X : WS} {n : Nat} (h : WX X n) (b pl ld aw : Int32) : f_X2_spread X b pl ld aw = some (sp X n (fun j => !bt aw j) b pl ld) := by
  have hn := h.1
  unfold f_X2_spread
  simp only [stp, hearX h, Option.bind_some, hm_mask hn]
  exact spreadX_loop h aw n 0 NF b _ (by omega) (by have := NF_ge; omega)
/-! the other side -/
theorem heardIn {X : WS} {Y : MS} {n : Nat} (h : WX X n) (r : RM X Y.1 n) (s now cr : Int32) (k16 : Int32 → Int32 → Option Int32) : ∀ (d k f : Nat), k + d = n → d < f → g_X4_heardBy_30 Y k16 s f now cr (now ||| rpI X n (bt s) (now &&& (cr ^^^ (-1))) k) (nI k) = k16 (now ||| rpI X n (bt s) (now &&& (cr ^^^ (-1))) n) now := by
  have h0 := h
  have r0 := r
  obtain ⟨hn, hl, ht, _⟩ := h
  obtain ⟨rl, rr, rz⟩ := r
  intro d
  induction d with
  | zero =>
    intro k f hk hf
    obtain ⟨f, rfl⟩ : ∃ g, f = g + 1 := ⟨f - 1, by omega⟩
    have e : k = n := by omega
    subst e
    rw [g_X4_heardBy_30, rl, if_pos (nI_le (Nat.le_refl _) (by omega))]
  | succ d ih =>
    intro k f hk hf
    obtain ⟨f, rfl⟩ : ∃ g, f = g + 1 := ⟨f - 1, by omega⟩
    obtain ⟨r1, r2⟩ := rr k (by omega)
    have hc : (nI (2 * k + 1)).toNatClampNeg = 2 * k + 1 := nI_clamp (by omega)
    have ihk := ih (k + 1) f (by omega) (by omega)
    have ef : bt (now &&& (cr ^^^ (-1))) k = (bt now k && !bt cr k) := by rw [b_and, b_not cr (by omega)]
    rw [g_X4_heardBy_30, rl, if_neg (nI_ge (show k < n by omega) (by omega))]
    simp only [stp, pw_two, pw_one, hc, r2, criesM Y (show k < 6 by omega), r1, Option.bind_some, pw_ix (show 2 * k + 1 < 12 by omega) (show (12 : Nat) < 2 ^ 31 by omega), pw_bit now (show k < 32 by omega), pw_bit cr (show k < 32 by omega), hearM h0 r0]
    rw [rpI, ef] at ihk
    have eo : ∀ x y : Int32, now ||| (x ||| y) = (now ||| x) ||| y := fun x y => (Int32.or_assoc now x y).symm
    rw [eo] at ihk
    cases hb1 : bt now k
    · rw [hb1] at ihk
      simp at ihk ⊢
      exact ihk
    · cases hb2 : bt cr k
      · rw [hb1, hb2] at ihk
        by_cases c2 : 0 < repK (X 5 k)
        · rw [if_pos ⟨rfl, c2⟩] at ihk
          rw [if_pos (by simp), if_pos (by simp), if_neg (fun z => (pw_nle.mp z) c2)]
          exact ihk
        · rw [if_neg (fun z => c2 z.2)] at ihk
          rw [if_pos (by simp), if_pos (by simp), if_pos (pw_nle.mpr c2)]
          exact ihk
      · rw [hb1, hb2] at ihk
        simp at ihk ⊢
        exact ihk
def sbs (x y : Int32) : Prop := ∀ i, bt x i = true → bt y i = true
theorem fresh0 {cr now : Int32} (h : sbs cr now) : now &&& (cr ^^^ (-1)) = 0 ↔ cr = now := by
  constructor
  · intro e
    apply b_ext
    intro i hi
    have e1 : bt (now &&& (cr ^^^ (-1))) i = false := by rw [e, b_0]
    rw [b_and, b_not cr hi] at e1
    have e2 := h i
    cases h1 : bt cr i <;> cases h2 : bt now i <;> simp_all
  · intro e
    subst e
    apply b_ext
    intro i hi
    rw [b_and, b_not cr hi, b_0]
    cases bt cr i <;> rfl
theorem lo_hm {X : WS} {n : Nat} (hn : n ≤ 6) (mk : Nat → Bool) (pl ld : Int32) : lo n (hm X n mk pl ld) := lo_orb (by omega) _
theorem lo_rpI {X : WS} {n : Nat} (hn : n ≤ 6) (mk : Nat → Bool) (fr : Int32) : ∀ k, lo n (rpI X n mk fr k) := by
  intro k
  induction k with
  | zero => exact lo_0 n
  | succ k ih =>
    rw [rpI]
    refine lo_or ih ?_
    split
    · exact lo_hm hn _ _ _
    · exact lo_0 n
theorem lo_spI {X : WS} {n : Nat} (hn : n ≤ 6) (mk : Nat → Bool) : ∀ (d : Nat) (cr now : Int32), lo n now → lo n (spI X n mk d cr now) := by
  intro d
  induction d with
  | zero => intro cr now h; exact h
  | succ d ih =>
    intro cr now h
    rw [spI]
    split
    · exact h
    · exact ih _ _ (lo_or h (lo_rpI hn mk _ n))
theorem lo_sp {X : WS} {n : Nat} (hn : n ≤ 6) (mk : Nat → Bool) {b : Int32} (pl ld : Int32) (hb : lo n b) : lo n (sp X n mk b pl ld) := lo_spI hn mk n b _ (lo_or hb (lo_hm hn mk pl ld))
theorem sbs_spI {X : WS} {n : Nat} (mk : Nat → Bool) : ∀ (d : Nat) (cr now : Int32), sbs now (spI X n mk d cr now) := by
  intro d
  induction d with
  | zero => intro cr now i h; exact h
  | succ d ih =>
    intro cr now i h
    rw [spI]
    split
    · exact h
    · exact ih _ _ i (by rw [b_or, h]; rfl)
theorem sbs_sp {X : WS} {n : Nat} (mk : Nat → Bool) (b pl ld : Int32) : sbs b (sp X n mk b pl ld) := fun i h => sbs_spI mk n b _ i (by rw [b_or, h]; rfl)
theorem heardOut {X : WS} {Y : MS} {n : Nat} (h : WX X n) (r : RM X Y.1 n) (s : Int32) : ∀ (d f : Nat) (cr now : Int32), lo n now → sbs cr now → (now &&& (cr ^^^ (-1)) = 0 ∨ n < d + cnt (bt now) n) → d < f → g_X4_heardBy_16 Y s f now cr = some (spI X n (bt s) d cr now) := by
  have hn := h.1
  intro d
  induction d with
  | zero =>
    intro f cr now hl hs hd hf
    obtain ⟨f, rfl⟩ : ∃ g, f = g + 1 := ⟨f - 1, by omega⟩
    have e : now &&& (cr ^^^ (-1)) = 0 := by
      rcases hd with e | e
      · exact e
      · have := cnt_le (bt now) n; omega
    rw [g_X4_heardBy_16, if_pos ((fresh0 hs).mp e)]
    rfl
  | succ d ih =>
    intro f cr now hl hs hd hf
    obtain ⟨f, rfl⟩ : ∃ g, f = g + 1 := ⟨f - 1, by omega⟩
    rw [g_X4_heardBy_16, spI]
    by_cases c : now &&& (cr ^^^ (-1)) = 0
    · rw [if_pos c, if_pos ((fresh0 hs).mp c)]
    · rw [if_neg c, if_neg (fun z => c ((fresh0 hs).mpr z))]
      have e := heardIn h r s now cr (g_X4_heardBy_16 Y s f) n 0 NF (by omega) (by have := NF_ge; omega)
      have e0 : now ||| rpI X n (bt s) (now &&& (cr ^^^ (-1))) 0 = now := by
        rw [rpI]; apply b_ext; intro i _; rw [b_or, b_0, Bool.or_false]
      rw [e0, show nI 0 = 0 from rfl] at e
      rw [e]
      have hl2 : lo n (now ||| rpI X n (bt s) (now &&& (cr ^^^ (-1))) n) := lo_or hl (lo_rpI hn _ _ n)
      have hs2 : sbs now (now ||| rpI X n (bt s) (now &&& (cr ^^^ (-1))) n) := fun i hi => by rw [b_or, hi]; rfl
      refine ih f _ _ hl2 hs2 ?_ (by omega)
      by_cases c2 : (now ||| rpI X n (bt s) (now &&& (cr ^^^ (-1))) n) &&& (now ^^^ (-1)) = 0
      · exact Or.inl c2
      · right
        obtain ⟨i, hi, hb⟩ := ne0_bit (n := n) (by omega) (lo_and hl2) c2
        rw [b_and, b_not now (by omega)] at hb
        have h1 : bt now i = false := by cases h3 : bt now i <;> simp_all
        have h2 : bt (now ||| rpI X n (bt s) (now &&& (cr ^^^ (-1))) n) i = true := by
          cases h3 : bt (now ||| rpI X n (bt s) (now &&& (cr ^^^ (-1))) n) i <;> simp_all
        have h4 := cnt_lt (c := bt now) (c' := bt (now ||| rpI X n (bt s) (now &&& (cr ^^^ (-1))) n)) (k := n) i hi h1 h2 (fun j _ hj => hs2 j hj)
        rcases hd with e2 | e2
        · exact absurd e2 c
        · omega
theorem heardM {X : WS} {Y : MS} {n : Nat} (h : WX X n) (r : RM X Y.1 n) (pl ld s b : Int32) (hb : lo n b) : f_X4_heardBy Y pl ld s b = some (sp X n (bt s) b pl ld) := by
  have hn := h.1
  unfold f_X4_heardBy
  simp only [stp, hearM h r, Option.bind_some]
  have hl : lo n (b ||| hm X n (bt s) pl ld) := lo_or hb (lo_hm hn _ _ _)
  refine heardOut h r s n NF b _ hl (fun i hi => by rw [b_or, hi]; rfl) ?_ (by have := NF_ge; omega)
  by_cases c : (b ||| hm X n (bt s) pl ld) &&& (b ^^^ (-1)) = 0
  · exact Or.inl c
  · right
    obtain ⟨i, hi, hbi⟩ := ne0_bit (n := n) (by omega) (lo_and hl) c
    rw [b_and] at hbi
    have h2 : bt (b ||| hm X n (bt s) pl ld) i = true := by
      cases h3 : bt (b ||| hm X n (bt s) pl ld) i <;> simp_all
    have := cnt_pos (c := bt (b ||| hm X n (bt s) pl ld)) hi h2
    omega
