/-! what the other side's queries may write -/
def agM (Y Y' : MS) : Prop := (∀ c, c ≠ 0 → c ≠ 4 → Y'.1 c = Y.1 c) ∧ ∀ k, k ≠ 16 → Y'.1 0 k = Y.1 0 k
theorem agM_rf (Y : MS) : agM Y Y := ⟨fun _ _ _ => rfl, fun _ _ => rfl⟩
theorem agM_tr {Y Y' Y'' : MS} (h : agM Y Y') (h2 : agM Y' Y'') : agM Y Y'' := ⟨fun c a b => (h2.1 c a b).trans (h.1 c a b), fun k a => (h2.2 k a).trans (h.2 k a)⟩
theorem RM_agM {X : WS} {Y Y' : MS} {n : Nat} (e : agM Y Y') (h : RM X Y.1 n) : RM X Y'.1 n := by
  unfold RM at h ⊢
  rw [e.2 11 (by omega), e.1 3 (by omega) (by omega), e.1 2 (by omega) (by omega)]
  exact h
theorem TD_agM {X : WS} {Y Y' : MS} {n t : Nat} (e : agM Y Y') (h : TD X Y.1 n t) : TD X Y'.1 n t := by
  unfold TD at h ⊢
  rw [e.2 14 (by omega), e.1 5 (by omega) (by omega)]
  exact h
/-! days -/
def nxs (s : Int32) : Int32 := Int64.toInt32 (((1103515245 * (Int32.toInt64 s)) + 12345) &&& 2147483647)
def rms (s k : Int32) : Int32 := (s / 65536) - (s / 65536) / k * k
theorem drawX6 (X : WS) : f_X0_draw X 6 = some (rms (nxs (X 15 7)) 6, ups X 15 7 (nxs (X 15 7))) := by
  unfold f_X0_draw dvc rms nxs
  simp only [stp_eq]
  rw [if_neg (by decide), if_neg (by decide), ups_s, upd_s]
theorem drawX9 (X : WS) : f_X0_draw X 9 = some (rms (nxs (X 15 7)) 9, ups X 15 7 (nxs (X 15 7))) := by
  unfold f_X0_draw dvc rms nxs
  simp only [stp_eq]
  rw [if_neg (by decide), if_neg (by decide), ups_s, upd_s]
theorem drawM6 (Y : MS) : f_X4_draw Y 6 = some (rms (nxs (Y.1 0 16)) 6, (ups Y.1 0 16 (nxs (Y.1 0 16)), Y.2)) := by
  unfold f_X4_draw dvc rms nxs
  simp only [stp_eq]
  rw [if_neg (by decide), ups_s, upd_s]
theorem drawM9 (Y : MS) : f_X4_draw Y 9 = some (rms (nxs (Y.1 0 16)) 9, (ups Y.1 0 16 (nxs (Y.1 0 16)), Y.2)) := by
  unfold f_X4_draw dvc rms nxs
  simp only [stp_eq]
  rw [if_neg (by decide), ups_s, upd_s]
theorem agM_sd (Y : MS) (v : Int32) : agM Y (ups Y.1 0 16 v, Y.2) := ⟨fun c a _ => ups_o a 16 v, fun k a => by show (ups Y.1 0 16 v) 0 k = _; rw [ups_s, upd_o a]⟩
theorem days_loop {X : WS} {n : Nat} (h : WX X n) (D : Nat) (hD : D ≤ 60) (w : Int32) : ∀ (d k f : Nat) (X' : WS) (Y' : MS), k + d = D → d < f → ag X X' → RM X Y'.1 n → X' 15 7 = Y'.1 0 16 → ∃ (X'' : WS) (Y'' : MS), g_X0_live_18 (nI D) f X' (nI k) = some X'' ∧ ag X X'' ∧ g_X4_days_55 (nI D) w f Y' (X' 15 5) (X' 15 6) (nI k) = some ((if w = 0 then X'' 15 5 else if w = 1 then X'' 15 6 else X'' 15 7), Y'') ∧ agM Y' Y'' := by
  have hn := h.1
  intro d
  induction d with
  | zero =>
    intro k f X' Y' hk hf ha hr hs
    obtain ⟨f, rfl⟩ : ∃ g, f = g + 1 := ⟨f - 1, by omega⟩
    have e : k = D := by omega
    subst e
    refine ⟨X', Y', ?_, ha, ?_, agM_rf Y'⟩
    · rw [g_X0_live_18, if_pos (nI_le (Nat.le_refl _) (by omega))]
    · rw [g_X4_days_55, if_pos (nI_le (Nat.le_refl _) (by omega)), ← hs]
      repeat' split
      all_goals rfl
  | succ d ih =>
    intro k f X' Y' hk hf ha hr hs
    obtain ⟨f, rfl⟩ : ∃ g, f = g + 1 := ⟨f - 1, by omega⟩
    rw [g_X0_live_18, if_neg (nI_ge (show k < D by omega) (by omega)), g_X4_days_55, if_neg (nI_ge (show k < D by omega) (by omega)), drawX6, drawM6]
    simp only [bnd2_sm, bind_sm, stp_eq, pw_one]
    rw [drawX9, drawM9]
    simp only [bnd2_sm]
    have e1 : ups X' 15 7 (nxs (X' 15 7)) 15 7 = nxs (X' 15 7) := by rw [ups_s, upd_s]
    have e2 : ups Y'.1 0 16 (nxs (Y'.1 0 16)) 0 16 = nxs (Y'.1 0 16) := by rw [ups_s, upd_s]
    rw [e1, e2, ← hs]
    have ha2 : ag X (ups (ups X' 15 7 (nxs (X' 15 7))) 15 7 (nxs (nxs (X' 15 7)))) := ag_up (ag_up ha (by omega) _ _) (by omega) _ _
    have hw2 := WX_ag ha2 h
    have hg2 : agM Y' (ups (ups Y'.1 0 16 (nxs (X' 15 7))) 0 16 (nxs (nxs (X' 15 7))), Y'.2) := agM_tr (agM_sd Y' (nxs (X' 15 7))) (agM_sd (ups Y'.1 0 16 (nxs (X' 15 7)), Y'.2) _)
    have hr2 := RM_agM hg2 hr
    rw [spX0 hw2, Option.bind_some, knowX, Option.bind_some, bcX, Option.bind_some, thenM h hr2 _ _ (lo_0 n), Option.bind_some, onesM hn (lo_kn X (lo_sa hn _ _ (lo_0 n))), Option.bind_some, sa_ag ha2, kn_ag ha2, show (1 : Int32) + rms (nxs (nxs (X' 15 7))) 9 = rms (nxs (nxs (X' 15 7))) 9 + 1 from Int32.add_comm _ _]
    generalize pc (kn X (sa X n 0 (rms (nxs (X' 15 7)) 6) (rms (nxs (nxs (X' 15 7))) 9 + 1))) = c
    have q := ih (k + 1) f (ups (ups (ups (ups X' 15 7 (nxs (X' 15 7))) 15 7 (nxs (nxs (X' 15 7)))) 15 6 c) 15 5 (ups (ups (ups X' 15 7 (nxs (X' 15 7))) 15 7 (nxs (nxs (X' 15 7)))) 15 6 c 15 5 + ups (ups (ups X' 15 7 (nxs (X' 15 7))) 15 7 (nxs (nxs (X' 15 7)))) 15 6 c 15 6)) (ups (ups Y'.1 0 16 (nxs (X' 15 7))) 0 16 (nxs (nxs (X' 15 7))), Y'.2) (by omega) (by omega) (ag_up (ag_up ha2 (by omega) _ _) (by omega) _ _) hr2 (by simp [ups, upd])
    obtain ⟨X'', Y'', q1, q2, q3, q4⟩ := q
    refine ⟨X'', Y'', q1, q2, ?_, agM_tr hg2 q4⟩
    rw [← q3]
    simp [ups, upd]
theorem daysXM {X : WS} {Y : MS} {n : Nat} (h : WX X n) (r : RM X Y.1 n) (D : Nat) (hD : D ≤ 60) (w sd : Int32) : ∃ (X'' : WS) (Y'' : MS), f_X0_live X (nI D) sd = some X'' ∧ ag X X'' ∧ g_X4_days_55 (nI D) w NF (ups Y.1 0 16 sd, Y.2) 0 0 0 = some ((if w = 0 then X'' 15 5 else if w = 1 then X'' 15 6 else X'' 15 7), Y'') ∧ agM Y Y'' := by
  unfold f_X0_live
  simp only [stp_eq]
  obtain ⟨X'', Y'', q1, q2, q3, q4⟩ := days_loop h D hD w D 0 NF (ups (ups (ups X 15 5 0) 15 6 0) 15 7 sd) (ups Y.1 0 16 sd, Y.2) (by omega) (by have := NF_ge; omega) (ag_up (ag_up (ag_up (ag_rf X) (by omega) _ _) (by omega) _ _) (by omega) _ _) (RM_agM (agM_sd Y sd) r) (by simp [ups, upd])
  refine ⟨X'', Y'', q1, q2, ?_, agM_tr (agM_sd Y sd) q4⟩
  rw [← q3]
  simp [ups, upd]
  rfl
/-! cover -/
def fsc (P : Nat → Bool) : Nat → Option Nat
  | 0 => none
  | k + 1 => match fsc P k with
    | some c => some c
    | none => if P k then some k else none
theorem fsc_none {P : Nat → Bool} : ∀ {N : Nat}, (∀ c, c < N → P c = false) → fsc P N = none := by
  intro N
  induction N with
  | zero => intro _; rfl
  | succ N ih => intro h; rw [fsc, ih (fun c hc => h c (by omega)), h N (by omega)]; rfl
theorem fsc_some {P : Nat → Bool} {c : Nat} (hc : P c = true) (hl : ∀ q, q < c → P q = false) : ∀ {N : Nat}, c < N → fsc P N = some c := by
  intro N
  induction N with
  | zero => intro h; omega
  | succ N ih =>
    intro h
    rw [fsc]
    by_cases e : c = N
    · subst e
      rw [fsc_none hl, hc]; rfl
    · rw [ih (by omega)]
theorem fsc_inv {P : Nat → Bool} : ∀ {N : Nat}, (fsc P N = none ∧ ∀ c, c < N → P c = false) ∨ ∃ c, fsc P N = some c ∧ c < N ∧ P c = true ∧ ∀ q, q < c → P q = false := by
  intro N
  induction N with
  | zero => exact Or.inl ⟨rfl, fun c h => by omega⟩
  | succ N ih =>
    rcases ih with ⟨e, h⟩ | ⟨c, e, h1, h2, h3⟩
    · cases hN : P N
      · exact Or.inl ⟨by rw [fsc, e, hN]; rfl, fun c hc => by
          by_cases z : c = N
          · rw [z]; exact hN
          · exact h c (by omega)⟩
      · exact Or.inr ⟨N, by rw [fsc, e, hN]; rfl, by omega, hN, h⟩
    · exact Or.inr ⟨c, by rw [fsc, e], by omega, h2, h3⟩
def cvd (X : WS) (w hd : Int32) : Bool := decide (w &&& (kn X hd ^^^ (-1)) = 0)
def apl (X : WS) (n v : Nat) : Nat → Int32 → Nat → Nat → Int32
  | 0, hd, _, _ => hd
  | m + 1, hd, d, c => apl X n v m (sa X n hd (nI (c / 6 ^ m)) (nI v - nI d)) (d + 1) (c % 6 ^ m)
def okc (X : WS) (n v : Nat) (w : Int32) (m : Nat) (hd : Int32) (d c : Nat) : Bool := cvd X w (apl X n v m hd d c)
def enc : Nat → Nat → Nat
  | 0, _ => 0
  | m + 1, c => enc m (c % 6 ^ m) * 8 + c / 6 ^ m
def eno (m : Nat) : Option Nat → Int32
  | none => -1
  | some c => nI (enc m c)
theorem enc_lt : ∀ m c, c < 6 ^ m → enc m c < 8 ^ m := by
  intro m
  induction m with
  | zero => intro c _; exact Nat.one_pos
  | succ m ih =>
    intro c hc
    have h6 : 0 < 6 ^ m := Nat.pow_pos (by omega)
    have h1 := ih (c % 6 ^ m) (Nat.mod_lt _ h6)
    have h2 : c / 6 ^ m < 6 := Nat.div_lt_of_lt_mul (by rw [Nat.pow_succ] at hc; exact hc)
    rw [enc, Nat.pow_succ]
    omega
theorem shl3 : ∀ e, e < 64 → ∀ p, p < 6 → (nI e <<< ((3 : Int32) &&& 31)) ||| nI p = nI (e * 8 + p) := by decide +kernel
theorem shl2 : ∀ e, e < 512 → ∀ p, p < 4 → (nI e <<< ((2 : Int32) &&& 31)) ||| nI p = nI (e * 4 + p) := by decide +kernel
theorem okc_split (X : WS) (n v : Nat) (w : Int32) (m : Nat) (hd : Int32) (d p c : Nat) (hc : c < 6 ^ m) : okc X n v w (m + 1) hd d (p * 6 ^ m + c) = okc X n v w m (sa X n hd (nI p) (nI v - nI d)) (d + 1) c := by
  have h6 : 0 < 6 ^ m := Nat.pow_pos (by omega)
  unfold okc
  rw [apl, show (p * 6 ^ m + c) / 6 ^ m = p from by rw [Nat.mul_comm, Nat.mul_add_div h6, Nat.div_eq_of_lt hc, Nat.add_zero], show (p * 6 ^ m + c) % 6 ^ m = c from by rw [Nat.mul_comm, Nat.mul_add_mod, Nat.mod_eq_of_lt hc]]
theorem enc_split (m p c : Nat) (hc : c < 6 ^ m) : enc (m + 1) (p * 6 ^ m + c) = enc m c * 8 + p := by
  have h6 : 0 < 6 ^ m := Nat.pow_pos (by omega)
  rw [enc, show (p * 6 ^ m + c) / 6 ^ m = p from by rw [Nat.mul_comm, Nat.mul_add_div h6, Nat.div_eq_of_lt hc, Nat.add_zero], show (p * 6 ^ m + c) % 6 ^ m = c from by rw [Nat.mul_comm, Nat.mul_add_mod, Nat.mod_eq_of_lt hc]]
theorem plan0 {X : WS} (w hd : Int32) (N : Nat) (x y : Int32) (h : y ≤ x) : f_X0_planFrom X (N + 1) w hd x y = some (if cvd X w hd then 0 else -1) := by
  rw [f_X0_planFrom, if_pos h, knowX, Option.bind_some]
  unfold cvd
  by_cases c : w &&& (kn X hd ^^^ (-1)) = 0
  · rw [if_pos c, decide_eq_true c]; rfl
  · rw [if_neg c, decide_eq_false c]; rfl
theorem planX {X : WS} {n v : Nat} (h : WX X n) (hv : X 3 9 = nI v) (hv9 : v < 100) (w : Int32) : ∀ (m d N : Nat) (hd : Int32), d + m ≤ 3 → m < N → d + m ≤ v → f_X0_planFrom X N w hd (nI d) (nI (d + m)) = some (eno m (fsc (okc X n v w m hd d) (6 ^ m))) := by
  intro m
  induction m with
  | zero =>
    intro d N hd h3 hN hdv
    obtain ⟨N, rfl⟩ : ∃ g, N = g + 1 := ⟨N - 1, by omega⟩
    rw [plan0 (X := X) w hd N (nI d) (nI (d + 0)) (nI_le (a := d + 0) (b := d) (Nat.le_refl _) (by omega))]
    have eo : okc X n v w 0 hd d 0 = cvd X w hd := rfl
    cases hc : cvd X w hd
    · rw [fsc_none (fun c hc2 => by have : c = 0 := by (have : 6 ^ 0 = 1 := rfl; omega)
                                    rw [this, eo, hc])]
      rfl
    · rw [fsc_some (c := 0) (by rw [eo, hc]) (fun q hq => by omega) (Nat.one_pos)]
      rfl
  | succ m ih =>
    intro d N hd h3 hN hdv
    obtain ⟨N, rfl⟩ : ∃ g, N = g + 1 := ⟨N - 1, by omega⟩
    have h6 : 0 < 6 ^ m := Nat.pow_pos (by omega)
    have h36 : 6 ^ m ≤ 36 := Nat.le_trans (Nat.pow_le_pow_right (n := 6) (by omega) (show m ≤ 2 by omega)) (by decide)
    rw [f_X0_planFrom, if_neg (nI_ge (show d < d + (m + 1) by omega) (by omega)), if_pos (show nI d < 3 from nI_lt (b := 3) (by omega) (by omega))]
    simp only [stp_eq]
    rw [hv, if_pos (show (1 : Int32) ≤ nI v - nI d by rw [pk_sub (by omega)]; exact nI_le (a := 1) (by omega) (by omega))]
    have lp : ∀ (e p f : Nat), p + e = 6 → e < f → (∀ c, c < p * 6 ^ m → okc X n v w (m + 1) hd d c = false) → g_X0_planFrom_48 X (f_X0_planFrom X N) w hd (nI d) (nI (d + (m + 1))) (nI v - nI d) f (nI p) = some (eno (m + 1) (fsc (okc X n v w (m + 1) hd d) (6 ^ (m + 1)))) := by
      intro e
      induction e with
      | zero =>
        intro p f hp hf hz
        obtain ⟨f, rfl⟩ : ∃ g, f = g + 1 := ⟨f - 1, by omega⟩
        have ep : p = 6 := by omega
        subst ep
        rw [g_X0_planFrom_48, if_pos (by decide), fsc_none (fun c hc => hz c (by rw [Nat.pow_succ] at hc; omega))]
        rfl
      | succ e ihe =>
        intro p f hp hf hz
        obtain ⟨f, rfl⟩ : ∃ g, f = g + 1 := ⟨f - 1, by omega⟩
        rw [g_X0_planFrom_48, if_neg (lit_nle (L := 6) (b := 6) (k := p) rfl (by omega) (by omega)), spX0 h, Option.bind_some, pw_one, show d + (m + 1) = (d + 1) + m from by omega, ih (d + 1) N _ (by omega) (by omega) (by omega), Option.bind_some]
        rw [show (d + 1) + m = d + (m + 1) from by omega]
        rcases fsc_inv (P := okc X n v w m (sa X n hd (nI p) (nI v - nI d)) (d + 1)) (N := 6 ^ m) with ⟨e1, z⟩ | ⟨c, e1, c1, c2, c3⟩
        · rw [e1]
          show (if (-1 : Int32) = -1 then _ else _) = _
          rw [if_pos rfl]
          simp only [stp_eq, pw_one]
          refine ihe (p + 1) f (by omega) (by omega) (fun c hc => ?_)
          by_cases q : c < p * 6 ^ m
          · exact hz c q
          · have ec : c = p * 6 ^ m + (c - p * 6 ^ m) := by omega
            have hl : c - p * 6 ^ m < 6 ^ m := by rw [Nat.succ_mul] at hc; omega
            rw [ec, okc_split X n v w m hd d p _ hl]
            exact z _ hl
        · rw [e1, show eno m (some c) = nI (enc m c) from rfl]
          have hel := enc_lt m c c1
          have h8 : 8 ^ m ≤ 64 := Nat.le_trans (Nat.pow_le_pow_right (n := 8) (by omega) (show m ≤ 2 by omega)) (by decide)
          rw [if_neg (nI_ne_m1 (by omega)), shl3 _ (by omega) p (by omega)]
          have hf2 : fsc (okc X n v w (m + 1) hd d) (6 ^ (m + 1)) = some (p * 6 ^ m + c) := by
            refine fsc_some (by rw [okc_split X n v w m hd d p c c1]; exact c2) (fun q hq => ?_) ?_
            · by_cases y : q < p * 6 ^ m
              · exact hz q y
              · have ec : q = p * 6 ^ m + (q - p * 6 ^ m) := by omega
                rw [ec, okc_split X n v w m hd d p _ (by omega)]
                exact c3 _ (by omega)
            · have : p * 6 ^ m ≤ 5 * 6 ^ m := Nat.mul_le_mul_right _ (by omega)
              rw [Nat.pow_succ]; omega
          rw [hf2]
          show _ = some (nI (enc (m + 1) (p * 6 ^ m + c)))
          rw [enc_split m p c c1]
    exact lp 6 0 NF (by omega) (by have := NF_ge; omega) (fun c hc => by omega)
theorem planNo {X : WS} {n v : Nat} (h : WX X n) (hv : X 3 9 = nI v) (hv9 : v < 100) (w : Int32) : ∀ (m d N : Nat) (hd : Int32), d + m ≤ 3 → m < N → d ≤ v → v < d + m → f_X0_planFrom X N w hd (nI d) (nI (d + m)) = some (-1) := by
  intro m
  induction m with
  | zero => intro d N hd h3 hN h1 h2; omega
  | succ m ih =>
    intro d N hd h3 hN h1 h2
    obtain ⟨N, rfl⟩ : ∃ g, N = g + 1 := ⟨N - 1, by omega⟩
    rw [f_X0_planFrom, if_neg (nI_ge (show d < d + (m + 1) by omega) (by omega)), if_pos (show nI d < 3 from nI_lt (b := 3) (by omega) (by omega))]
    simp only [stp_eq]
    rw [hv]
    by_cases hd2 : d = v
    · rw [if_neg (show ¬ (1 : Int32) ≤ nI v - nI d by rw [pk_sub (by omega), hd2, Nat.sub_self]; decide)]
    · rw [if_pos (show (1 : Int32) ≤ nI v - nI d by rw [pk_sub (by omega)]; exact nI_le (a := 1) (by omega) (by omega))]
      have lp : ∀ (e p f : Nat), p + e = 6 → e < f → g_X0_planFrom_48 X (f_X0_planFrom X N) w hd (nI d) (nI (d + (m + 1))) (nI v - nI d) f (nI p) = some (-1) := by
        intro e
        induction e with
        | zero =>
          intro p f hp hf
          obtain ⟨f, rfl⟩ : ∃ g, f = g + 1 := ⟨f - 1, by omega⟩
          have ep : p = 6 := by omega
          subst ep
          rw [g_X0_planFrom_48, if_pos (by decide)]
        | succ e ihe =>
          intro p f hp hf
          obtain ⟨f, rfl⟩ : ∃ g, f = g + 1 := ⟨f - 1, by omega⟩
          rw [g_X0_planFrom_48, if_neg (lit_nle (L := 6) (b := 6) (k := p) rfl (by omega) (by omega)), spX0 h, Option.bind_some, pw_one, show d + (m + 1) = (d + 1) + m from by omega, ih (d + 1) N _ (by omega) (by omega) (by omega) (by omega), Option.bind_some, if_pos rfl]
          simp only [stp_eq, pw_one]
          rw [show (d + 1) + m = d + (m + 1) from by omega]
          exact ihe (p + 1) f (by omega) (by omega)
      exact lp 6 0 NF (by omega) (by have := NF_ge; omega)
def cvI (X : WS) (n v : Nat) (w : Int32) : Nat → Nat → Option (Nat × Nat)
  | 0, _ => none
  | d + 1, m => if v < m then none else match fsc (okc X n v w m (X 3 7) 0) (6 ^ m) with
    | some c => some (m, c)
    | none => cvI X n v w d (m + 1)
def plo : Option (Nat × Nat) → Int32
  | none => -1
  | some q => nI (enc q.1 q.2 * 4 + q.1)
theorem coverX {X : WS} {n v : Nat} (h : WX X n) (hv : X 3 9 = nI v) (hv9 : v < 100) (w : Int32) : ∀ (d m f : Nat), m + d = 4 → d < f → g_X0_coverPlan_2 X w f (nI m) = some (plo (cvI X n v w d m)) := by
  intro d
  induction d with
  | zero =>
    intro m f hm hf
    obtain ⟨f, rfl⟩ : ∃ g, f = g + 1 := ⟨f - 1, by omega⟩
    have e : m = 4 := by omega
    subst e
    rw [g_X0_coverPlan_2, if_pos (by decide)]
    rfl
  | succ d ih =>
    intro m f hm hf
    obtain ⟨f, rfl⟩ : ∃ g, f = g + 1 := ⟨f - 1, by omega⟩
    rw [g_X0_coverPlan_2, if_neg (lit_nlt (L := 3) (b := 3) (k := m) rfl (by omega) (by omega)), cvI]
    by_cases c : v < m
    · have e := planNo h hv hv9 w m 0 10 (X 3 7) (by omega) (by omega) (by omega) (by omega)
      rw [show nI 0 = 0 from rfl, Nat.zero_add] at e
      rw [e, Option.bind_some, if_pos rfl, if_pos c]
      simp only [stp_eq, pw_one]
      rw [ih (m + 1) f (by omega) (by omega)]
      cases d with
      | zero => rfl
      | succ d => rw [cvI, if_pos (by omega)]
    · have e := planX h hv hv9 w m 0 10 (X 3 7) (by omega) (by omega) (by omega)
      rw [show nI 0 = 0 from rfl, Nat.zero_add] at e
      rw [e, Option.bind_some, if_neg c]
      rcases fsc_inv (P := okc X n v w m (X 3 7) 0) (N := 6 ^ m) with ⟨e1, z⟩ | ⟨c0, e1, c1, c2, c3⟩
      · rw [e1]
        show (if (-1 : Int32) = -1 then _ else _) = _
        rw [if_pos rfl]
        simp only [stp_eq, pw_one]
        exact ih (m + 1) f (by omega) (by omega)
      · rw [e1, show eno m (some c0) = nI (enc m c0) from rfl]
        have hel := enc_lt m c0 c1
        have h8 : 8 ^ m ≤ 512 := Nat.le_trans (Nat.pow_le_pow_right (n := 8) (by omega) (show m ≤ 3 by omega)) (by decide)
        rw [if_neg (nI_ne_m1 (by omega)), shl2 _ (by omega) m (by omega)]
        rfl
theorem coverX0 {X : WS} {n v : Nat} (h : WX X n) (hv : X 3 9 = nI v) (hv9 : v < 100) (w : Int32) : f_X0_coverPlan X w = some (plo (cvI X n v w 4 0)) := coverX h hv hv9 w 4 0 NF (by omega) (by have := NF_ge; omega)
