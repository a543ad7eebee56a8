def kn (X : WS) (s : Int32) : Int32 := s &&& (X 3 6 ^^^ (-1))
theorem lo_kn {n : Nat} {s : Int32} (X : WS) (h : lo n s) : lo n (kn X s) := lo_and h
theorem knowX (X : WS) (s : Int32) : f_X2_knowing X s = some (kn X s) := rfl
theorem knowM {X : WS} {Y : MS} {n : Nat} (h : WX X n) (r : RM X Y.1 n) {s : Int32} (hs : lo n s) : f_X4_knowing Y s = some (kn X s) := by
  obtain ⟨hn, hl, ht, hg⟩ := h
  obtain ⟨rl, rr, rz⟩ := r
  have lp : ∀ (d k f : Nat), k + d = n → d < f → g_X4_knowing_4 Y s f (orb (fun j => !decide (X 5 j = 2) && bt s j) k) (nI k) = some (orb (fun j => !decide (X 5 j = 2) && bt s j) n) := by
    intro d
    induction d with
    | zero =>
      intro k f hk hf
      obtain ⟨f, rfl⟩ : ∃ g, f = g + 1 := ⟨f - 1, by omega⟩
      have e : k = n := by omega
      subst e
      rw [g_X4_knowing_4, rl, if_pos (nI_le (Nat.le_refl _) (by omega))]
    | succ d ih =>
      intro k f hk hf
      obtain ⟨f, rfl⟩ : ∃ g, f = g + 1 := ⟨f - 1, by omega⟩
      obtain ⟨r1, r2⟩ := rr k (by omega)
      have hc : (nI (2 * k)).toNatClampNeg = 2 * k := nI_clamp (by omega)
      have ihk := ih (k + 1) f (by omega) (by omega)
      rw [g_X4_knowing_4, rl, if_neg (nI_ge (show k < n by omega) (by omega))]
      simp only [stp, pw_two, pw_one, hc, r1, pw_ix (show 2 * k < 12 by omega) (show (12 : Nat) < 2 ^ 31 by omega), pw_and1 s (show k < 32 by omega)]
      rw [orb] at ihk
      by_cases c : X 5 k = 2
      · rw [if_pos c]
        rw [decide_eq_true c] at ihk
        simpa using ihk
      · rw [if_neg c]
        rw [decide_eq_false c] at ihk
        simpa using ihk
  have e := lp n 0 NF (by omega) (by have := NF_ge; omega)
  unfold f_X4_knowing
  rw [show orb (fun j => !decide (X 5 j = 2) && bt s j) 0 = 0 from rfl, show nI 0 = 0 from rfl] at e
  rw [e]
  congr 1
  apply b_ext
  intro i hi
  unfold kn
  rw [bt_orb _ n (by omega), b_and, b_not _ hi, hg, bt_orb _ n (by omega)]
  by_cases c : i < n
  · rw [decide_eq_true c]
    cases decide (X 5 i = 2) <;> cases bt s i <;> rfl
  · rw [hs i (by omega), decide_eq_false c]; rfl
def pc (s : Int32) : Int32 := (f_J6_bitCount_0f7a4 s).getD 0
theorem bcX (s : Int32) : f_J6_bitCount_0f7a4 s = some (pc s) := rfl
theorem onesN : ∀ m, m < 64 → f_X4_ones (nI m) = some (pc (nI m)) := by decide +kernel
theorem pcN : ∀ m, m < 64 → ∃ k, k ≤ 6 ∧ pc (nI m) = nI k := by
  have h : ∀ m, m < 64 → (0 ≤ (pc (nI m)).toInt ∧ (pc (nI m)).toInt ≤ 6) := by decide +kernel
  intro m hm
  obtain ⟨h1, h2⟩ := h m hm
  refine ⟨(pc (nI m)).toInt.toNat, by omega, ?_⟩
  apply Int32.toInt_inj.mp
  rw [nI_toInt (by omega)]
  omega
theorem lo6 {n : Nat} (hn : n ≤ 6) {s : Int32} (h : lo n s) : ∃ m, m < 64 ∧ s = nI m := lo_nI (n := 6) (by omega) (fun i hi => h i (by omega))
theorem onesM {n : Nat} (hn : n ≤ 6) {s : Int32} (h : lo n s) : f_X4_ones s = some (pc s) := by
  obtain ⟨m, hm, rfl⟩ := lo6 hn h
  exact onesN m hm
theorem pcL {n : Nat} (hn : n ≤ 6) {s : Int32} (h : lo n s) : ∃ k, k ≤ 6 ∧ pc s = nI k := by
  obtain ⟨m, hm, rfl⟩ := lo6 hn h
  exact pcN m hm
theorem hm_congr {X : WS} {n : Nat} {mk mk' : Nat → Bool} (e : ∀ j, j < n → mk j = mk' j) (pl ld : Int32) : hm X n mk pl ld = hm X n mk' pl ld := orb_congr (fun j hj => by rw [e j hj])
theorem rpI_congr {X : WS} {n : Nat} {mk mk' : Nat → Bool} (e : ∀ j, j < n → mk j = mk' j) (fr : Int32) : ∀ k, rpI X n mk fr k = rpI X n mk' fr k := by
  intro k
  induction k with
  | zero => rfl
  | succ k ih => rw [rpI, rpI, ih, hm_congr e]
theorem spI_congr {X : WS} {n : Nat} {mk mk' : Nat → Bool} (e : ∀ j, j < n → mk j = mk' j) : ∀ (d : Nat) (cr now : Int32), spI X n mk d cr now = spI X n mk' d cr now := by
  intro d
  induction d with
  | zero => intro cr now; rfl
  | succ d ih => intro cr now; rw [spI, spI, rpI_congr e, ih]
theorem sp_congr {X : WS} {n : Nat} {mk mk' : Nat → Bool} (e : ∀ j, j < n → mk j = mk' j) (b pl ld : Int32) : sp X n mk b pl ld = sp X n mk' b pl ld := by
  unfold sp; rw [spI_congr e, hm_congr e]
def sa (X : WS) (n : Nat) (b pl ld : Int32) : Int32 := sp X n (fun _ => true) b pl ld
theorem spX0 {X : WS} {n : Nat} (h : WX X n) (b pl ld : Int32) : f_X2_spread X b pl ld 0 = some (sa X n b pl ld) := by
  rw [spreadX h]; exact congrArg some (sp_congr (fun j _ => by rw [b_0]; rfl) b pl ld)
theorem lo_sa {X : WS} {n : Nat} (hn : n ≤ 6) {b : Int32} (pl ld : Int32) (hb : lo n b) : lo n (sa X n b pl ld) := lo_sp hn _ pl ld hb
theorem allM {X : WS} {Y : MS} {n : Nat} (r : RM X Y.1 n) : f_X4_allListeners Y = some (allb n) := by
  unfold f_X4_allListeners allb; rw [r.1]
theorem heardA {X : WS} {Y : MS} {n : Nat} (h : WX X n) (r : RM X Y.1 n) (pl ld : Int32) {b : Int32} (hb : lo n b) : f_X4_heardBy Y pl ld (allb n) b = some (sa X n b pl ld) := by
  rw [heardM h r pl ld _ b hb]
  exact congrArg some (sp_congr (fun j hj => by rw [bt_allb h.1, decide_eq_true hj]) b pl ld)
theorem thenM {X : WS} {Y : MS} {n : Nat} (h : WX X n) (r : RM X Y.1 n) (pl ld : Int32) {b : Int32} (hb : lo n b) : f_X4_knowThen Y pl ld b = some (kn X (sa X n b pl ld)) := by
  unfold f_X4_knowThen
  rw [allM r, Option.bind_some, heardA h r pl ld hb, Option.bind_some, knowM h r (lo_sa h.1 pl ld hb), Option.bind_some]
theorem stp_eq {α β : Type} (v : α) (k : α → β) : stp v k = k v := id rfl
theorem bind_sm {α β : Type} (a : α) (f : α → Option β) : (some a).bind f = f a := id (Option.bind_some a f)
theorem bnd2_sm {α β γ : Type} (a : α) (b : β) (k : α → β → Option γ) : bnd2 (some (a, b)) k = k a b := id rfl
theorem lit_nle {k b : Nat} {L : Int32} (e : L = nI b) (h : k < b) (hb : b < 2 ^ 31) : ¬ L ≤ nI k := by rw [e]; exact nI_ge h hb
theorem lit_nlt {k b : Nat} {L : Int32} (e : L = nI b) (h : k ≤ b) (hb : b < 2 ^ 31) : ¬ L < nI k := by rw [e]; exact nI_nlt h hb
/-! hush -/
def lrn (X : WS) (n l : Nat) (pl ld aw : Int32) : Bool := bt (kn X (sp X n (fun j => !bt aw j) 0 pl ld)) l
theorem learnX {X : WS} {n l : Nat} (h : WX X n) (hl : l < 32) (pl ld aw : Int32) : f_X0_learns X (nI l) pl ld aw = some (if lrn X n l pl ld aw then 1 else 0) := by
  unfold f_X0_learns lrn
  rw [spreadX h, Option.bind_some, knowX, Option.bind_some, pw_bit _ hl]
  cases bt (kn X (sp X n (fun j => !bt aw j) 0 pl ld)) l <;> rfl
def hst (X : WS) (n l : Nat) (pl ld best aw : Int32) : Int32 := if bt aw l = false ∧ (best = -1 ∨ ¬ pc best ≤ pc aw) ∧ lrn X n l pl ld aw = false then aw else best
def hsI (X : WS) (n l : Nat) (pl ld : Int32) : Nat → Nat → Int32 → Int32
  | 0, _, best => best
  | d + 1, j, best => hsI X n l pl ld d (j + 1) (hst X n l pl ld best (nI j))
theorem sent_loop {X : WS} {n l : Nat} (h : WX X n) (hl : l < 32) (pl ld : Int32) : ∀ (d j f : Nat) (best : Int32), j + d = 2 ^ n → d < f → g_X0_sentAway_12 X (nI l) pl ld (allb n) f best (nI j) = some (hsI X n l pl ld d j best) := by
  have hn := h.1
  have hp : 2 ^ n ≤ 64 := Nat.pow_le_pow_right (n := 2) (by omega) hn
  have hp1 : 0 < 2 ^ n := Nat.pow_pos (by omega)
  intro d
  induction d with
  | zero =>
    intro j f best hj hf
    obtain ⟨f, rfl⟩ : ∃ g, f = g + 1 := ⟨f - 1, by omega⟩
    rw [g_X0_sentAway_12, allb_eq n (by omega), if_pos (nI_lt (a := 2 ^ n - 1) (b := j) (by omega) (by omega))]
    rfl
  | succ d ih =>
    intro j f best hj hf
    obtain ⟨f, rfl⟩ : ∃ g, f = g + 1 := ⟨f - 1, by omega⟩
    rw [g_X0_sentAway_12, if_neg (by rw [allb_eq n (by omega)]; exact nI_nlt (by omega) (by omega))]
    simp only [stp, pw_one, pw_bit (nI j) hl, bcX, Option.bind_some, learnX h hl]
    have ihk := fun b => ih (j + 1) f b (by omega) (by omega)
    rw [hsI]
    unfold hst
    cases hb : bt (nI j) l
    · cases hr : lrn X n l pl ld (nI j)
      · by_cases c1 : best = -1
        · simp [c1, ihk]
        · by_cases c2 : pc best ≤ pc (nI j)
          · simp [c1, c2, ihk]
          · simp [c1, c2, ihk]
      · by_cases c1 : best = -1
        · simp [c1, ihk]
        · by_cases c2 : pc best ≤ pc (nI j)
          · simp [c1, c2, ihk]
          · simp [c1, c2, ihk]
    · by_cases c1 : best = -1
      · simp [c1, ihk]
      · by_cases c2 : pc best ≤ pc (nI j)
        · simp [c1, c2, ihk]
        · simp [c1, c2, ihk]
def hsh (X : WS) (n l : Nat) (pl ld : Int32) : Int32 := hsI X n l pl ld (2 ^ n) 0 (-1)
theorem sentX {X : WS} {n l : Nat} (h : WX X n) (hl : l < 32) (pl ld : Int32) : f_X0_sentAway X (nI l) pl ld = some (hsh X n l pl ld) := by
  have hn := h.1
  have hp : 2 ^ n ≤ 64 := Nat.pow_le_pow_right (n := 2) (by omega) hn
  have e : f_X2_everyone X = some (allb n) := by unfold f_X2_everyone allb; rw [h.2.1]
  unfold f_X0_sentAway
  rw [e, Option.bind_some]
  exact sent_loop h hl pl ld (2 ^ n) 0 NF (-1) (by omega) (by have := NF_ge; omega)
set_option maxRecDepth 100000 in
theorem hush_loop {X : WS} {Y : MS} {n l : Nat} (h : WX X n) (r : RM X Y.1 n) (hl : l < 32) (pl ld : Int32) : ∀ (d j f : Nat) (best : Int32), j + d = 2 ^ n → d < f → (best = -1 ∨ lo 6 best) → g_X4_hushOf_6 Y (nI l) pl ld f best (nI j) = some (hsI X n l pl ld d j best) := by
  have hn := h.1
  have hp : 2 ^ n ≤ 64 := Nat.pow_le_pow_right (n := 2) (by omega) hn
  have hp1 : 0 < 2 ^ n := Nat.pow_pos (by omega)
  intro d
  induction d with
  | zero =>
    intro j f best hj hf hb
    obtain ⟨f, rfl⟩ : ∃ g, f = g + 1 := ⟨f - 1, by omega⟩
    rw [g_X4_hushOf_6, allM r, Option.bind_some, allb_eq n (by omega), if_pos (nI_lt (a := 2 ^ n - 1) (b := j) (by omega) (by omega))]
    rfl
  | succ d ih =>
    intro j f best hj hf hb
    obtain ⟨f, rfl⟩ : ∃ g, f = g + 1 := ⟨f - 1, by omega⟩
    have hlj : lo 6 (nI j) := lo_of_nI (by omega)
    have em : sp X n (bt (allb n &&& (nI j ^^^ (-1)))) 0 pl ld = sp X n (fun i => !bt (nI j) i) 0 pl ld := sp_congr (fun i hi => by rw [b_and, bt_allb hn, decide_eq_true hi, b_not _ (by omega)]; rfl) 0 pl ld
    have eh : f_X4_heardBy Y pl ld (allb n &&& (nI j ^^^ (-1))) 0 = some (sp X n (fun i => !bt (nI j) i) 0 pl ld) := by rw [heardM h r pl ld _ 0 (lo_0 n), em]
    have ek : f_X4_knowing Y (sp X n (fun i => !bt (nI j) i) 0 pl ld) = some (kn X (sp X n (fun i => !bt (nI j) i) 0 pl ld)) := knowM h r (lo_sp hn _ pl ld (lo_0 n))
    rw [g_X4_hushOf_6, allM r, Option.bind_some, if_neg (by rw [allb_eq n (by omega)]; exact nI_nlt (by omega) (by omega))]
    have e1 : f_X4_ones (nI j) = some (pc (nI j)) := onesM (n := 6) (by omega) hlj
    simp only [stp_eq, pw_one, pw_bit (nI j) hl, allM r, bind_sm, eh, ek, e1, pw_bit (kn X (sp X n (fun i => !bt (nI j) i) 0 pl ld)) hl]
    rw [hsI]
    unfold hst lrn
    have ihb := ih (j + 1) f best (by omega) (by omega) hb
    have ihj := ih (j + 1) f (nI j) (by omega) (by omega) (Or.inr hlj)
    have t1 : (if (false : Bool) = true then (1 : Int32) else 0) = 0 := rfl
    have t2 : ¬ (if (true : Bool) = true then (1 : Int32) else 0) = 0 := by decide
    generalize hk : kn X (sp X n (fun i => !bt (nI j) i) 0 pl ld) = K
    cases hbj : bt (nI j) l
    · rw [if_pos t1]
      by_cases c1 : best = -1
      · rw [if_pos c1]
        cases hr : bt K l
        · rw [if_pos t1, if_pos ⟨rfl, Or.inl c1, rfl⟩]
          exact ihj
        · rw [if_neg t2, if_neg (fun z => by cases z.2.2)]
          exact ihb
      · have e2 : f_X4_ones best = some (pc best) := onesM (n := 6) (by omega) (hb.resolve_left c1)
        rw [if_neg c1, e2, Option.bind_some]
        by_cases c2 : pc best ≤ pc (nI j)
        · rw [if_pos c2, if_neg (fun z => z.2.1.elim c1 (fun y => y c2))]
          exact ihb
        · rw [if_neg c2]
          cases hr : bt K l
          · rw [if_pos t1, if_pos ⟨rfl, Or.inr c2, rfl⟩]
            exact ihj
          · rw [if_neg t2, if_neg (fun z => by cases z.2.2)]
            exact ihb
    · rw [if_neg t2, if_neg (fun z => by cases z.1)]
      exact ihb
theorem hushM {X : WS} {Y : MS} {n l : Nat} (h : WX X n) (r : RM X Y.1 n) (hl : l < 32) (pl ld : Int32) : f_X4_hushOf Y (nI l) pl ld = some (hsh X n l pl ld) := by
  have hn := h.1
  have hp : 2 ^ n ≤ 64 := Nat.pow_le_pow_right (n := 2) (by omega) hn
  exact hush_loop h r hl pl ld (2 ^ n) 0 NF (-1) (by omega) (by have := NF_ge; omega) (Or.inl rfl)
theorem hsI_lo {X : WS} {n l : Nat} (hn : n ≤ 6) (pl ld : Int32) : ∀ (d j : Nat) (best : Int32), j + d = 2 ^ n → (best = -1 ∨ lo n best) → (hsI X n l pl ld d j best = -1 ∨ lo n (hsI X n l pl ld d j best)) := by
  intro d
  induction d with
  | zero => intro j best _ h; exact h
  | succ d ih =>
    intro j best hj h
    rw [hsI]
    refine ih (j + 1) _ (by omega) ?_
    unfold hst
    split
    · exact Or.inr (lo_of_nI (by omega))
    · exact h
theorem hsh_lo {X : WS} {n l : Nat} (hn : n ≤ 6) (pl ld : Int32) : hsh X n l pl ld = -1 ∨ lo n (hsh X n l pl ld) := hsI_lo hn pl ld (2 ^ n) 0 (-1) (by omega) (Or.inl rfl)
