/-! Int32 by its bits (first rows out of kit/laws/BITS) -/
def bt (x : Int32) (i : Nat) : Bool := x.toBitVec.getLsbD i
theorem b_ext {x y : Int32} (h : ∀ i, i < 32 → bt x i = bt y i) : x = y := Int32.toBitVec_inj.mp (BitVec.eq_of_getLsbD_eq (fun i hi => h i hi))
theorem b_or (x y : Int32) (i : Nat) : bt (x ||| y) i = (bt x i || bt y i) := by unfold bt; rw [Int32.toBitVec_or, BitVec.getLsbD_or]
theorem b_and (x y : Int32) (i : Nat) : bt (x &&& y) i = (bt x i && bt y i) := by unfold bt; rw [Int32.toBitVec_and, BitVec.getLsbD_and]
theorem b_xor (x y : Int32) (i : Nat) : bt (x ^^^ y) i = (bt x i ^^ bt y i) := by unfold bt; rw [Int32.toBitVec_xor, BitVec.getLsbD_xor]
theorem b_big {x : Int32} {i : Nat} (h : 32 ≤ i) : bt x i = false := BitVec.getLsbD_of_ge _ _ h
theorem b_m1 : ∀ i, i < 32 → bt (-1) i = true := by decide +kernel
theorem b_0 (i : Nat) : bt 0 i = false := BitVec.getLsbD_zero
theorem s_l : ∀ n, n < 32 → ((nI n &&& 31).toBitVec.smod 32).toNat = n := by decide +kernel
theorem b_sshr (n : Nat) (hn : n < 32) (x : Int32) {i : Nat} (hi : i < 32) : bt (x >>> (nI n &&& 31)) i = if n + i < 32 then bt x (n + i) else bt x 31 := by
  unfold bt
  rw [Int32.toBitVec_shiftRight]
  show (x.toBitVec.sshiftRight ((nI n &&& 31).toBitVec.smod 32).toNat).getLsbD i = _
  rw [s_l n hn, BitVec.getLsbD_sshiftRight, BitVec.msb_eq_getLsbD_last]
  simp [hi]
/-! own rows -/
theorem b_not (x : Int32) {i : Nat} (hi : i < 32) : bt (x ^^^ (-1)) i = !bt x i := by rw [b_xor, b_m1 i hi]; simp
theorem bt_one32 : ∀ k, k < 32 → ∀ i, i < 32 → bt ((1 : Int32) <<< (nI k &&& 31)) i = decide (i = k) := by decide +kernel
theorem bt_one {k : Nat} (hk : k < 32) (i : Nat) : bt ((1 : Int32) <<< (nI k &&& 31)) i = decide (i = k) := by
  rcases Nat.lt_or_ge i 32 with h | h
  · exact bt_one32 k hk i h
  · rw [b_big h, decide_eq_false (by omega)]
theorem bt_lit1 : ∀ i, i < 32 → bt 1 i = decide (i = 0) := by decide +kernel
theorem bt_ofNat (m i : Nat) (hi : i < 32) : bt (nI m) i = m.testBit i := by
  show (BitVec.ofNat 32 m).getLsbD i = _
  rw [BitVec.getLsbD_ofNat]; simp [hi]
theorem pw_bit (v : Int32) {k : Nat} (hk : k < 32) : ((v >>> (nI k &&& 31)) &&& 1) = if bt v k then 1 else 0 := by
  apply b_ext
  intro i hi
  rw [b_and, b_sshr k hk v hi, bt_lit1 i hi]
  by_cases h0 : i = 0
  · subst h0
    simp only [Nat.add_zero, hk, if_true, decide_true, Bool.and_true]
    cases bt v k
    · exact (b_0 0).symm
    · exact (bt_lit1 0 (by omega)).symm
  · rw [decide_eq_false h0, Bool.and_false]
    cases bt v k
    · exact (b_0 i).symm
    · rw [if_pos rfl, bt_lit1 i hi, decide_eq_false h0]
theorem pw_ix {α : Type} {k N : Nat} (h : k < N) (hN : N < 2 ^ 31) (t : Option α) : ixc (nI k) N t = t := by
  unfold ixc; rw [if_neg (nI_in h hN)]
theorem pw_two (k : Nat) : (2 : Int32) * nI k = nI (2 * k) := pk_mul 2 k
theorem pw_one (k : Nat) : nI k + (1 : Int32) = nI (k + 1) := nI_1 k
def orb (c : Nat → Bool) : Nat → Int32
  | 0 => 0
  | k + 1 => orb c k ||| (if c k then 1 <<< (nI k &&& 31) else 0)
theorem bt_orb (c : Nat → Bool) : ∀ k, k ≤ 32 → ∀ i, bt (orb c k) i = (decide (i < k) && c i) := by
  intro k
  induction k with
  | zero => intro _ i; rw [orb, b_0]; simp
  | succ k ih =>
    intro hk i
    rw [orb, b_or, ih (by omega) i]
    by_cases h : i = k
    · subst h
      cases hc : c i
      · simp [b_0]
      · simp [bt_one (show i < 32 by omega)]
    · have e : bt (if c k = true then 1 <<< (nI k &&& 31) else 0) i = false := by
        cases hc : c k
        · simp [b_0]
        · simp [bt_one (show k < 32 by omega), h]
      rw [e, Bool.or_false]
      congr 1
      exact decide_eq_decide.mpr (by omega)
theorem orb_congr {c c' : Nat → Bool} : ∀ {k : Nat}, (∀ j, j < k → c j = c' j) → orb c k = orb c' k := by
  intro k
  induction k with
  | zero => intro _; rfl
  | succ k ih => intro h; rw [orb, orb, ih (fun j hj => h j (by omega)), h k (by omega)]
def lo (n : Nat) (s : Int32) : Prop := ∀ i, n ≤ i → bt s i = false
theorem lo_orb {n : Nat} (hn : n ≤ 32) (c : Nat → Bool) : lo n (orb c n) := fun i hi => by rw [bt_orb c n hn i, decide_eq_false (by omega)]; rfl
theorem lo_0 (n : Nat) : lo n 0 := fun i _ => b_0 i
theorem lo_or {n : Nat} {x y : Int32} (hx : lo n x) (hy : lo n y) : lo n (x ||| y) := fun i hi => by rw [b_or, hx i hi, hy i hi]; rfl
theorem lo_and {n : Nat} {x y : Int32} (hx : lo n x) : lo n (x &&& y) := fun i hi => by rw [b_and, hx i hi]; rfl
theorem lo_self {n : Nat} (hn : n ≤ 32) {s : Int32} (h : lo n s) : orb (bt s) n = s := b_ext (fun i _ => by
  rw [bt_orb _ n hn i]
  by_cases hi : i < n
  · simp [hi]
  · rw [h i (by omega)]; simp)
theorem lo_nI {n : Nat} (hn : n ≤ 32) {s : Int32} (h : lo n s) : ∃ m, m < 2 ^ n ∧ s = nI m := by
  refine ⟨s.toBitVec.toNat, Nat.lt_pow_two_of_testBit _ (fun i hi => h i hi), ?_⟩
  apply Int32.toBitVec_inj.1
  show s.toBitVec = BitVec.ofNat 32 s.toBitVec.toNat
  simp
theorem lo_of_nI {n m : Nat} (hm : m < 2 ^ n) : lo n (nI m) := by
  intro i hi
  rcases Nat.lt_or_ge i 32 with h | h
  · rw [bt_ofNat m i h]
    exact Nat.testBit_lt_two_pow (Nat.lt_of_lt_of_le hm (Nat.pow_le_pow_right (by omega) hi))
  · exact b_big h
def allb (n : Nat) : Int32 := (1 <<< (nI n &&& 31)) - 1
theorem allb_eq : ∀ n, n < 7 → allb n = nI (2 ^ n - 1) := by decide +kernel
theorem bt_allb32 : ∀ n, n < 7 → ∀ i, i < 32 → bt (allb n) i = decide (i < n) := by decide +kernel
theorem bt_allb {n : Nat} (hn : n ≤ 6) (i : Nat) : bt (allb n) i = decide (i < n) := by
  rcases Nat.lt_or_ge i 32 with h | h
  · exact bt_allb32 n (by omega) i h
  · rw [b_big h, decide_eq_false (by omega)]
def cnt (c : Nat → Bool) : Nat → Nat
  | 0 => 0
  | k + 1 => cnt c k + (if c k then 1 else 0)
theorem cnt_le (c : Nat → Bool) : ∀ k, cnt c k ≤ k := by
  intro k
  induction k with
  | zero => exact Nat.le_refl _
  | succ k ih => rw [cnt]; split <;> omega
theorem cnt_mono {c c' : Nat → Bool} : ∀ {k : Nat}, (∀ j, j < k → c j = true → c' j = true) → cnt c k ≤ cnt c' k := by
  intro k
  induction k with
  | zero => intro _; exact Nat.le_refl _
  | succ k ih =>
    intro h
    have h1 := ih (fun j hj => h j (by omega))
    have h2 := h k (by omega)
    rw [cnt, cnt]
    cases hc : c k
    · simp; omega
    · rw [h2 hc]; simp; omega
theorem cnt_lt {c c' : Nat → Bool} : ∀ {k : Nat} (i : Nat), i < k → c i = false → c' i = true → (∀ j, j < k → c j = true → c' j = true) → cnt c k < cnt c' k := by
  intro k
  induction k with
  | zero => intro i hi; omega
  | succ k ih =>
    intro i hi h1 h2 h
    rw [cnt, cnt]
    by_cases hk : i = k
    · subst hk
      have h3 := cnt_mono (c := c) (c' := c') (k := i) (fun j hj => h j (by omega))
      rw [h1, h2]; simp; omega
    · have h3 := ih i (by omega) h1 h2 (fun j hj => h j (by omega))
      have h4 := h k (by omega)
      cases hc : c k
      · simp; omega
      · rw [h4 hc]; simp; omega
theorem cnt_pos {c : Nat → Bool} {k i : Nat} (hi : i < k) (h : c i = true) : 0 < cnt c k := by
  have h1 := cnt_lt (c := fun _ => false) (c' := c) (k := k) i hi rfl h (fun _ _ h => by cases h)
  omega
theorem ne0_bit {n : Nat} (hn : n ≤ 32) {s : Int32} (hl : lo n s) (h : ¬ s = 0) : ∃ i, i < n ∧ bt s i = true := by
  apply Classical.byContradiction
  intro hc
  apply h
  apply b_ext
  intro i _
  rw [b_0]
  by_cases hi : i < n
  · cases hb : bt s i
    · rfl
    · exact absurd ⟨i, hi, hb⟩ hc
  · exact hl i (by omega)
