theorem stp_ex {α β : Type} {v : α} {k : α → Option β} {P : β → Prop} (h : ∀ y, y = v → ∃ r, k y = some r ∧ P r) : ∃ r, stp v k = some r ∧ P r := h v rfl
theorem stp_ex2 {α β γ : Type} {v : α} {k : α → Option (β × γ)} {P : β → γ → Prop} (h : ∀ y, y = v → ∃ r s, k y = some (r, s) ∧ P r s) : ∃ r s, stp v k = some (r, s) ∧ P r s := h v rfl
/-! single fields copied, one after the other -/
def PMg (A : WS) (dc sc : Nat) (L : List (Nat × Nat)) (X : WS) : Prop := (∀ c, c ≠ dc → X c = A c) ∧ (∀ q ∈ L, X dc q.1 = A sc q.2) ∧ ∀ j, (∀ q ∈ L, j ≠ q.1) → X dc j = A dc j
theorem PM_0 (A : WS) (dc sc : Nat) : PMg A dc sc [] A := ⟨fun _ _ => rfl, fun q h => (by cases h), fun _ _ => rfl⟩
theorem PM_s {A : WS} {dc sc : Nat} {L : List (Nat × Nat)} {X : WS} (h : PMg A dc sc L X) (d s : Nat) (h1 : ∀ q ∈ L, q.1 ≠ d) (h2 : dc = sc → ∀ q ∈ L, s ≠ q.1) : PMg A dc sc ((d, s) :: L) (ups X dc d (X sc s)) := by
  obtain ⟨a, b, c⟩ := h
  have e : X sc s = A sc s := by
    by_cases z : sc = dc
    · subst z; exact c s (h2 rfl)
    · rw [a sc z]
  rw [e]
  refine ⟨fun k hk => by rw [ups_o hk]; exact a k hk, fun q hq => ?_, fun j hj => ?_⟩
  · rcases List.mem_cons.mp hq with rfl | hq
    · rw [ups_s, upd_s]
    · rw [ups_s, upd_o (h1 q hq)]; exact b q hq
  · rw [ups_s, upd_o (hj (d, s) List.mem_cons_self)]
    exact c j (fun q hq => hj q (List.mem_cons_of_mem _ hq))
/-! TR by single places -/
theorem TR_pw {X X' Y Y' : WS} (x3 : ∀ j, 5 ≤ j → j ≤ 16 → X' 3 j = X 3 j) (x4 : ∀ c, 4 ≤ c → c ≤ 8 → ∀ i, i < 6 → X' c i = X c i) (y0 : ∀ k, k = 3 ∨ k = 5 ∨ k = 6 ∨ k = 7 ∨ k = 8 ∨ k = 11 ∨ k = 14 → Y' 0 k = Y 0 k) (y3 : ∀ i, i < 12 → Y' 3 i = Y 3 i) (y5 : ∀ i, i < 16 → Y' 5 i = Y 5 i) (y2 : ∀ i, i < 6 → Y' 2 i = Y 2 i) (h : TR X Y) : TR X' Y' := by
  obtain ⟨n, t, v, ⟨w1, w2, w3, w4⟩, ⟨r1, r2, r3⟩, ⟨t1, t2, t3, t4, t5, t6⟩, lh, e6, ev, hv, e3, e5, e7, e8⟩ := h
  refine ⟨n, t, v, ⟨w1, ?_, ?_, ?_⟩, ⟨?_, ?_, ?_⟩, ⟨t1, ?_, ?_, ?_, ?_, ?_⟩, ?_⟩
  · rw [x3 5 (by omega) (by omega)]; exact w2
  · intro j hj
    rw [x4 6 (by omega) (by omega) j (by omega), x4 5 (by omega) (by omega) j (by omega), x4 7 (by omega) (by omega) j (by omega), x4 8 (by omega) (by omega) j (by omega)]
    exact w3 j hj
  · rw [x3 6 (by omega) (by omega), w4]
    exact orb_congr (fun j hj => by rw [x4 5 (by omega) (by omega) j (by omega)])
  · rw [y0 11 (by omega)]; exact r1
  · intro j hj
    rw [y3 (2 * j) (by omega), y3 (2 * j + 1) (by omega), x4 5 (by omega) (by omega) j (by omega), x4 8 (by omega) (by omega) j (by omega)]
    exact r2 j hj
  · intro q hq
    rw [y2 q hq, x4 4 (by omega) (by omega) q hq]; exact r3 q hq
  · rw [x3 14 (by omega) (by omega)]; exact t2
  · rw [y0 14 (by omega)]; exact t3
  · intro i hi
    rw [y5 (2 * i) (by omega), y5 (2 * i + 1) (by omega)]; exact t4 i hi
  · intro j hj
    rw [x3 15 (by omega) (by omega), t5 j hj]
    constructor
    · rintro ⟨i, i1, i2, i3⟩; exact ⟨i, i1, by rw [y5 _ (by omega)]; exact i2, by rw [y5 _ (by omega)]; exact i3⟩
    · rintro ⟨i, i1, i2, i3⟩; rw [y5 _ (by omega)] at i2; rw [y5 _ (by omega)] at i3; exact ⟨i, i1, i2, i3⟩
  · intro j hj
    rw [x3 16 (by omega) (by omega), t6 j hj]
    constructor
    · rintro ⟨i, i1, i2, i3⟩; exact ⟨i, i1, by rw [y5 _ (by omega)]; exact i2, by rw [y5 _ (by omega)]; exact i3⟩
    · rintro ⟨i, i1, i2, i3⟩; rw [y5 _ (by omega)] at i2; rw [y5 _ (by omega)] at i3; exact ⟨i, i1, i2, i3⟩
  · rw [x3 7 (by omega) (by omega), x3 9 (by omega) (by omega), x3 11 (by omega) (by omega), x3 12 (by omega) (by omega), x3 13 (by omega) (by omega), y0 6 (by omega), y0 3 (by omega), y0 5 (by omega), y0 7 (by omega), y0 8 (by omega)]
    exact ⟨lh, e6, ev, hv, e3, e5, e7, e8⟩
theorem upw_o {X : WS} {c c' : Nat} (h : c' ≠ c) (f : Nat → Int32) : upw X c f c' = X c' := by unfold upw; rw [if_neg h]
theorem upw_s (X : WS) (c : Nat) (f : Nat → Int32) : upw X c f c = f := by unfold upw; rw [if_pos rfl]
theorem cpy6 (f g : Nat → Int32) {i : Nat} (h : i < 6) : va_cpy f g (Int32.toNatClampNeg 0) (Int32.toNatClampNeg 0) (Int32.toNatClampNeg 6) i = f i := by
  rw [show Int32.toNatClampNeg 0 = 0 from by decide, show Int32.toNatClampNeg 6 = 6 from by decide]
  unfold va_cpy
  rw [if_pos ⟨by omega, by omega⟩]
  congr 1
  omega
set_option maxRecDepth 20000 in
theorem copyK (X : WS) : ∃ X', f_X2_copy_9_3 X = some X' ∧ (∀ c, (c < 9 ∨ 14 < c) → X' c = X c) ∧ (∀ j, 5 ≤ j → j ≤ 16 → X' 9 j = X 3 j) ∧ (∀ c, 4 ≤ c → c ≤ 8 → ∀ i, i < 6 → X' (c + 6) i = X (c + 0) i) := by
  unfold f_X2_copy_9_3
  refine stp_ex (fun X1 e1 => ?_)
  refine stp_ex (fun X2 e2 => ?_)
  refine stp_ex (fun X3 e3 => ?_)
  refine stp_ex (fun X4 e4 => ?_)
  refine stp_ex (fun X5 e5 => ?_)
  have o5 : ∀ c, c < 10 ∨ 14 < c → X5 c = X c := fun c hc => by rw [e5, upw_o (by omega), e4, upw_o (by omega), e3, upw_o (by omega), e2, upw_o (by omega), e1, upw_o (by omega)]
  have a0 : ∀ i, i < 6 → X5 10 i = X 4 i := fun i hi => by rw [e5, upw_o (by omega), e4, upw_o (by omega), e3, upw_o (by omega), e2, upw_o (by omega), e1, upw_s, cpy6 _ _ hi]
  have a1 : ∀ i, i < 6 → X5 11 i = X 5 i := fun i hi => by rw [e5, upw_o (by omega), e4, upw_o (by omega), e3, upw_o (by omega), e2, upw_s, cpy6 _ _ hi, e1, upw_o (by omega)]
  have a2 : ∀ i, i < 6 → X5 12 i = X 6 i := fun i hi => by rw [e5, upw_o (by omega), e4, upw_o (by omega), e3, upw_s, cpy6 _ _ hi, e2, upw_o (by omega), e1, upw_o (by omega)]
  have a3 : ∀ i, i < 6 → X5 13 i = X 7 i := fun i hi => by rw [e5, upw_o (by omega), e4, upw_s, cpy6 _ _ hi, e3, upw_o (by omega), e2, upw_o (by omega), e1, upw_o (by omega)]
  have a4 : ∀ i, i < 6 → X5 14 i = X 8 i := fun i hi => by rw [e5, upw_s, cpy6 _ _ hi, e4, upw_o (by omega), e3, upw_o (by omega), e2, upw_o (by omega), e1, upw_o (by omega)]
  have p4 : PMg X5 9 3 [] X5 := PM_0 X5 9 3
  refine stp_ex (fun y5 f5 => ?_)
  refine stp_ex (fun Z5 g5 => ?_)
  have p5 : PMg X5 9 3 [(5, 5)] Z5 := by rw [g5, f5]; exact PM_s p4 5 5 (by decide) (by decide)
  refine stp_ex (fun y6 f6 => ?_)
  refine stp_ex (fun Z6 g6 => ?_)
  have p6 : PMg X5 9 3 [(6, 6), (5, 5)] Z6 := by rw [g6, f6]; exact PM_s p5 6 6 (by decide) (by decide)
  refine stp_ex (fun y7 f7 => ?_)
  refine stp_ex (fun Z7 g7 => ?_)
  have p7 : PMg X5 9 3 [(7, 7), (6, 6), (5, 5)] Z7 := by rw [g7, f7]; exact PM_s p6 7 7 (by decide) (by decide)
  refine stp_ex (fun y8 f8 => ?_)
  refine stp_ex (fun Z8 g8 => ?_)
  have p8 : PMg X5 9 3 [(8, 8), (7, 7), (6, 6), (5, 5)] Z8 := by rw [g8, f8]; exact PM_s p7 8 8 (by decide) (by decide)
  refine stp_ex (fun y9 f9 => ?_)
  refine stp_ex (fun Z9 g9 => ?_)
  have p9 : PMg X5 9 3 [(9, 9), (8, 8), (7, 7), (6, 6), (5, 5)] Z9 := by rw [g9, f9]; exact PM_s p8 9 9 (by decide) (by decide)
  refine stp_ex (fun y10 f10 => ?_)
  refine stp_ex (fun Z10 g10 => ?_)
  have p10 : PMg X5 9 3 [(10, 10), (9, 9), (8, 8), (7, 7), (6, 6), (5, 5)] Z10 := by rw [g10, f10]; exact PM_s p9 10 10 (by decide) (by decide)
  refine stp_ex (fun y11 f11 => ?_)
  refine stp_ex (fun Z11 g11 => ?_)
  have p11 : PMg X5 9 3 [(11, 11), (10, 10), (9, 9), (8, 8), (7, 7), (6, 6), (5, 5)] Z11 := by rw [g11, f11]; exact PM_s p10 11 11 (by decide) (by decide)
  refine stp_ex (fun y12 f12 => ?_)
  refine stp_ex (fun Z12 g12 => ?_)
  have p12 : PMg X5 9 3 [(12, 12), (11, 11), (10, 10), (9, 9), (8, 8), (7, 7), (6, 6), (5, 5)] Z12 := by rw [g12, f12]; exact PM_s p11 12 12 (by decide) (by decide)
  refine stp_ex (fun y13 f13 => ?_)
  refine stp_ex (fun Z13 g13 => ?_)
  have p13 : PMg X5 9 3 [(13, 13), (12, 12), (11, 11), (10, 10), (9, 9), (8, 8), (7, 7), (6, 6), (5, 5)] Z13 := by rw [g13, f13]; exact PM_s p12 13 13 (by decide) (by decide)
  refine stp_ex (fun y14 f14 => ?_)
  refine stp_ex (fun Z14 g14 => ?_)
  have p14 : PMg X5 9 3 [(14, 14), (13, 13), (12, 12), (11, 11), (10, 10), (9, 9), (8, 8), (7, 7), (6, 6), (5, 5)] Z14 := by rw [g14, f14]; exact PM_s p13 14 14 (by decide) (by decide)
  refine stp_ex (fun y15 f15 => ?_)
  refine stp_ex (fun Z15 g15 => ?_)
  have p15 : PMg X5 9 3 [(15, 15), (14, 14), (13, 13), (12, 12), (11, 11), (10, 10), (9, 9), (8, 8), (7, 7), (6, 6), (5, 5)] Z15 := by rw [g15, f15]; exact PM_s p14 15 15 (by decide) (by decide)
  refine stp_ex (fun y16 f16 => ?_)
  refine stp_ex (fun Z16 g16 => ?_)
  have p16 : PMg X5 9 3 [(16, 16), (15, 15), (14, 14), (13, 13), (12, 12), (11, 11), (10, 10), (9, 9), (8, 8), (7, 7), (6, 6), (5, 5)] Z16 := by rw [g16, f16]; exact PM_s p15 16 16 (by decide) (by decide)
  refine ⟨Z16, rfl, fun c hc => ?_, fun j h1 h2 => ?_, fun c h1 h2 i hi => ?_⟩
  · rw [p16.1 c (by omega)]; exact o5 c (by omega)
  · have hq := p16.2.1 (j, j) (by rcases (show j = 5 ∨ j = 6 ∨ j = 7 ∨ j = 8 ∨ j = 9 ∨ j = 10 ∨ j = 11 ∨ j = 12 ∨ j = 13 ∨ j = 14 ∨ j = 15 ∨ j = 16 by omega) with rfl | rfl | rfl | rfl | rfl | rfl | rfl | rfl | rfl | rfl | rfl | rfl <;> decide)
    rw [hq, o5 3 (by omega)]
  · rw [p16.1 _ (by omega)]
    rcases (show c = 4 ∨ c = 5 ∨ c = 6 ∨ c = 7 ∨ c = 8 by omega) with rfl | rfl | rfl | rfl | rfl
    · exact a0 i hi
    · exact a1 i hi
    · exact a2 i hi
    · exact a3 i hi
    · exact a4 i hi
set_option maxRecDepth 20000 in
theorem copyH (X : WS) : ∃ X', f_X2_copy_3_9 X = some X' ∧ (∀ c, (c < 3 ∨ 8 < c) → X' c = X c) ∧ (∀ j, 5 ≤ j → j ≤ 16 → X' 3 j = X 9 j) ∧ (∀ c, 4 ≤ c → c ≤ 8 → ∀ i, i < 6 → X' (c + 0) i = X (c + 6) i) := by
  unfold f_X2_copy_3_9
  refine stp_ex (fun X1 e1 => ?_)
  refine stp_ex (fun X2 e2 => ?_)
  refine stp_ex (fun X3 e3 => ?_)
  refine stp_ex (fun X4 e4 => ?_)
  refine stp_ex (fun X5 e5 => ?_)
  have o5 : ∀ c, c < 4 ∨ 8 < c → X5 c = X c := fun c hc => by rw [e5, upw_o (by omega), e4, upw_o (by omega), e3, upw_o (by omega), e2, upw_o (by omega), e1, upw_o (by omega)]
  have a0 : ∀ i, i < 6 → X5 4 i = X 10 i := fun i hi => by rw [e5, upw_o (by omega), e4, upw_o (by omega), e3, upw_o (by omega), e2, upw_o (by omega), e1, upw_s, cpy6 _ _ hi]
  have a1 : ∀ i, i < 6 → X5 5 i = X 11 i := fun i hi => by rw [e5, upw_o (by omega), e4, upw_o (by omega), e3, upw_o (by omega), e2, upw_s, cpy6 _ _ hi, e1, upw_o (by omega)]
  have a2 : ∀ i, i < 6 → X5 6 i = X 12 i := fun i hi => by rw [e5, upw_o (by omega), e4, upw_o (by omega), e3, upw_s, cpy6 _ _ hi, e2, upw_o (by omega), e1, upw_o (by omega)]
  have a3 : ∀ i, i < 6 → X5 7 i = X 13 i := fun i hi => by rw [e5, upw_o (by omega), e4, upw_s, cpy6 _ _ hi, e3, upw_o (by omega), e2, upw_o (by omega), e1, upw_o (by omega)]
  have a4 : ∀ i, i < 6 → X5 8 i = X 14 i := fun i hi => by rw [e5, upw_s, cpy6 _ _ hi, e4, upw_o (by omega), e3, upw_o (by omega), e2, upw_o (by omega), e1, upw_o (by omega)]
  have p4 : PMg X5 3 9 [] X5 := PM_0 X5 3 9
  refine stp_ex (fun y5 f5 => ?_)
  refine stp_ex (fun Z5 g5 => ?_)
  have p5 : PMg X5 3 9 [(5, 5)] Z5 := by rw [g5, f5]; exact PM_s p4 5 5 (by decide) (by decide)
  refine stp_ex (fun y6 f6 => ?_)
  refine stp_ex (fun Z6 g6 => ?_)
  have p6 : PMg X5 3 9 [(6, 6), (5, 5)] Z6 := by rw [g6, f6]; exact PM_s p5 6 6 (by decide) (by decide)
  refine stp_ex (fun y7 f7 => ?_)
  refine stp_ex (fun Z7 g7 => ?_)
  have p7 : PMg X5 3 9 [(7, 7), (6, 6), (5, 5)] Z7 := by rw [g7, f7]; exact PM_s p6 7 7 (by decide) (by decide)
  refine stp_ex (fun y8 f8 => ?_)
  refine stp_ex (fun Z8 g8 => ?_)
  have p8 : PMg X5 3 9 [(8, 8), (7, 7), (6, 6), (5, 5)] Z8 := by rw [g8, f8]; exact PM_s p7 8 8 (by decide) (by decide)
  refine stp_ex (fun y9 f9 => ?_)
  refine stp_ex (fun Z9 g9 => ?_)
  have p9 : PMg X5 3 9 [(9, 9), (8, 8), (7, 7), (6, 6), (5, 5)] Z9 := by rw [g9, f9]; exact PM_s p8 9 9 (by decide) (by decide)
  refine stp_ex (fun y10 f10 => ?_)
  refine stp_ex (fun Z10 g10 => ?_)
  have p10 : PMg X5 3 9 [(10, 10), (9, 9), (8, 8), (7, 7), (6, 6), (5, 5)] Z10 := by rw [g10, f10]; exact PM_s p9 10 10 (by decide) (by decide)
  refine stp_ex (fun y11 f11 => ?_)
  refine stp_ex (fun Z11 g11 => ?_)
  have p11 : PMg X5 3 9 [(11, 11), (10, 10), (9, 9), (8, 8), (7, 7), (6, 6), (5, 5)] Z11 := by rw [g11, f11]; exact PM_s p10 11 11 (by decide) (by decide)
  refine stp_ex (fun y12 f12 => ?_)
  refine stp_ex (fun Z12 g12 => ?_)
  have p12 : PMg X5 3 9 [(12, 12), (11, 11), (10, 10), (9, 9), (8, 8), (7, 7), (6, 6), (5, 5)] Z12 := by rw [g12, f12]; exact PM_s p11 12 12 (by decide) (by decide)
  refine stp_ex (fun y13 f13 => ?_)
  refine stp_ex (fun Z13 g13 => ?_)
  have p13 : PMg X5 3 9 [(13, 13), (12, 12), (11, 11), (10, 10), (9, 9), (8, 8), (7, 7), (6, 6), (5, 5)] Z13 := by rw [g13, f13]; exact PM_s p12 13 13 (by decide) (by decide)
  refine stp_ex (fun y14 f14 => ?_)
  refine stp_ex (fun Z14 g14 => ?_)
  have p14 : PMg X5 3 9 [(14, 14), (13, 13), (12, 12), (11, 11), (10, 10), (9, 9), (8, 8), (7, 7), (6, 6), (5, 5)] Z14 := by rw [g14, f14]; exact PM_s p13 14 14 (by decide) (by decide)
  refine stp_ex (fun y15 f15 => ?_)
  refine stp_ex (fun Z15 g15 => ?_)
  have p15 : PMg X5 3 9 [(15, 15), (14, 14), (13, 13), (12, 12), (11, 11), (10, 10), (9, 9), (8, 8), (7, 7), (6, 6), (5, 5)] Z15 := by rw [g15, f15]; exact PM_s p14 15 15 (by decide) (by decide)
  refine stp_ex (fun y16 f16 => ?_)
  refine stp_ex (fun Z16 g16 => ?_)
  have p16 : PMg X5 3 9 [(16, 16), (15, 15), (14, 14), (13, 13), (12, 12), (11, 11), (10, 10), (9, 9), (8, 8), (7, 7), (6, 6), (5, 5)] Z16 := by rw [g16, f16]; exact PM_s p15 16 16 (by decide) (by decide)
  refine ⟨Z16, rfl, fun c hc => ?_, fun j h1 h2 => ?_, fun c h1 h2 i hi => ?_⟩
  · rw [p16.1 c (by omega)]; exact o5 c (by omega)
  · have hq := p16.2.1 (j, j) (by rcases (show j = 5 ∨ j = 6 ∨ j = 7 ∨ j = 8 ∨ j = 9 ∨ j = 10 ∨ j = 11 ∨ j = 12 ∨ j = 13 ∨ j = 14 ∨ j = 15 ∨ j = 16 by omega) with rfl | rfl | rfl | rfl | rfl | rfl | rfl | rfl | rfl | rfl | rfl | rfl <;> decide)
    rw [hq, o5 9 (by omega)]
  · rw [p16.1 _ (by omega)]
    rcases (show c = 4 ∨ c = 5 ∨ c = 6 ∨ c = 7 ∨ c = 8 by omega) with rfl | rfl | rfl | rfl | rfl
    · exact a0 i hi
    · exact a1 i hi
    · exact a2 i hi
    · exact a3 i hi
    · exact a4 i hi
theorem mcp_3_6 : ∀ (e k f : Nat) (Y : MS), k + e = 12 → e < f → ∃ Y' : MS, g_X4_copy_3_6_2 f Y (nI k) = some Y' ∧ (∀ c, c ≠ 6 → Y'.1 c = Y.1 c) ∧ Y'.2 = Y.2 ∧ (∀ i, i < k → Y'.1 6 i = Y.1 6 i) ∧ ∀ i, k ≤ i → i < 12 → Y'.1 6 i = Y.1 3 i := by
  intro e
  induction e with
  | zero =>
    intro k f Y hk hf
    obtain ⟨f, rfl⟩ : ∃ g, f = g + 1 := ⟨f - 1, by omega⟩
    have ek : k = 12 := by omega
    subst ek
    exact ⟨Y, by rw [g_X4_copy_3_6_2, if_pos (by decide)], fun _ _ => rfl, rfl, fun _ _ => rfl, fun i h1 h2 => by omega⟩
  | succ e ih =>
    intro k f Y hk hf
    obtain ⟨f, rfl⟩ : ∃ g, f = g + 1 := ⟨f - 1, by omega⟩
    have hc : (nI k).toNatClampNeg = k := nI_clamp (by omega)
    obtain ⟨Y', q1, q2, q3, q4, q5⟩ := ih (k + 1) f (ups Y.1 6 k (Y.1 3 k), Y.2) (by omega) (by omega)
    refine ⟨Y', ?_, fun c hc => (q2 c hc).trans (ups_o hc _ _), q3, fun i hi => ?_, fun i h1 h2 => ?_⟩
    · rw [g_X4_copy_3_6_2, if_neg (lit_nle (L := 12) (b := 12) (k := k) rfl (by omega) (by omega))]
      simp only [stp_eq, pw_one, hc, pw_ix (show k < 12 by omega) (show (12 : Nat) < 2 ^ 31 by omega)]
      exact q1
    · rw [q4 i (by omega)]
      show (ups Y.1 6 k (Y.1 3 k)) 6 i = _
      rw [ups_s, upd_o (by omega)]
    · by_cases z : i = k
      · subst z
        rw [q4 i (by omega)]
        show (ups Y.1 6 i (Y.1 3 i)) 6 i = _
        rw [ups_s, upd_s]
      · rw [q5 i (by omega) h2]
        show (ups Y.1 6 k (Y.1 3 k)) 3 i = _
        rw [ups_o (by omega)]
theorem mcf_3_6 (Y : MS) : ∃ Y' : MS, f_X4_copy_3_6 Y = some Y' ∧ (∀ c, c ≠ 6 → Y'.1 c = Y.1 c) ∧ ∀ i, i < 12 → Y'.1 6 i = Y.1 3 i := by
  obtain ⟨Y', q1, q2, q3, q4, q5⟩ := mcp_3_6 12 0 NF Y (by omega) (by have := NF_ge; omega)
  exact ⟨Y', q1, q2, fun i hi => q5 i (by omega) hi⟩
theorem mcp_5_7 : ∀ (e k f : Nat) (Y : MS), k + e = 16 → e < f → ∃ Y' : MS, g_X4_copy_5_7_2 f Y (nI k) = some Y' ∧ (∀ c, c ≠ 7 → Y'.1 c = Y.1 c) ∧ Y'.2 = Y.2 ∧ (∀ i, i < k → Y'.1 7 i = Y.1 7 i) ∧ ∀ i, k ≤ i → i < 16 → Y'.1 7 i = Y.1 5 i := by
  intro e
  induction e with
  | zero =>
    intro k f Y hk hf
    obtain ⟨f, rfl⟩ : ∃ g, f = g + 1 := ⟨f - 1, by omega⟩
    have ek : k = 16 := by omega
    subst ek
    exact ⟨Y, by rw [g_X4_copy_5_7_2, if_pos (by decide)], fun _ _ => rfl, rfl, fun _ _ => rfl, fun i h1 h2 => by omega⟩
  | succ e ih =>
    intro k f Y hk hf
    obtain ⟨f, rfl⟩ : ∃ g, f = g + 1 := ⟨f - 1, by omega⟩
    have hc : (nI k).toNatClampNeg = k := nI_clamp (by omega)
    obtain ⟨Y', q1, q2, q3, q4, q5⟩ := ih (k + 1) f (ups Y.1 7 k (Y.1 5 k), Y.2) (by omega) (by omega)
    refine ⟨Y', ?_, fun c hc => (q2 c hc).trans (ups_o hc _ _), q3, fun i hi => ?_, fun i h1 h2 => ?_⟩
    · rw [g_X4_copy_5_7_2, if_neg (lit_nle (L := 16) (b := 16) (k := k) rfl (by omega) (by omega))]
      simp only [stp_eq, pw_one, hc, pw_ix (show k < 16 by omega) (show (16 : Nat) < 2 ^ 31 by omega)]
      exact q1
    · rw [q4 i (by omega)]
      show (ups Y.1 7 k (Y.1 5 k)) 7 i = _
      rw [ups_s, upd_o (by omega)]
    · by_cases z : i = k
      · subst z
        rw [q4 i (by omega)]
        show (ups Y.1 7 i (Y.1 5 i)) 7 i = _
        rw [ups_s, upd_s]
      · rw [q5 i (by omega) h2]
        show (ups Y.1 7 k (Y.1 5 k)) 5 i = _
        rw [ups_o (by omega)]
theorem mcf_5_7 (Y : MS) : ∃ Y' : MS, f_X4_copy_5_7 Y = some Y' ∧ (∀ c, c ≠ 7 → Y'.1 c = Y.1 c) ∧ ∀ i, i < 16 → Y'.1 7 i = Y.1 5 i := by
  obtain ⟨Y', q1, q2, q3, q4, q5⟩ := mcp_5_7 16 0 NF Y (by omega) (by have := NF_ge; omega)
  exact ⟨Y', q1, q2, fun i hi => q5 i (by omega) hi⟩
theorem mcp_2_8 : ∀ (e k f : Nat) (Y : MS), k + e = 6 → e < f → ∃ Y' : MS, g_X4_copy_2_8_2 f Y (nI k) = some Y' ∧ (∀ c, c ≠ 8 → Y'.1 c = Y.1 c) ∧ Y'.2 = Y.2 ∧ (∀ i, i < k → Y'.1 8 i = Y.1 8 i) ∧ ∀ i, k ≤ i → i < 6 → Y'.1 8 i = Y.1 2 i := by
  intro e
  induction e with
  | zero =>
    intro k f Y hk hf
    obtain ⟨f, rfl⟩ : ∃ g, f = g + 1 := ⟨f - 1, by omega⟩
    have ek : k = 6 := by omega
    subst ek
    exact ⟨Y, by rw [g_X4_copy_2_8_2, if_pos (by decide)], fun _ _ => rfl, rfl, fun _ _ => rfl, fun i h1 h2 => by omega⟩
  | succ e ih =>
    intro k f Y hk hf
    obtain ⟨f, rfl⟩ : ∃ g, f = g + 1 := ⟨f - 1, by omega⟩
    have hc : (nI k).toNatClampNeg = k := nI_clamp (by omega)
    obtain ⟨Y', q1, q2, q3, q4, q5⟩ := ih (k + 1) f (ups Y.1 8 k (Y.1 2 k), Y.2) (by omega) (by omega)
    refine ⟨Y', ?_, fun c hc => (q2 c hc).trans (ups_o hc _ _), q3, fun i hi => ?_, fun i h1 h2 => ?_⟩
    · rw [g_X4_copy_2_8_2, if_neg (lit_nle (L := 6) (b := 6) (k := k) rfl (by omega) (by omega))]
      simp only [stp_eq, pw_one, hc, pw_ix (show k < 6 by omega) (show (6 : Nat) < 2 ^ 31 by omega)]
      exact q1
    · rw [q4 i (by omega)]
      show (ups Y.1 8 k (Y.1 2 k)) 8 i = _
      rw [ups_s, upd_o (by omega)]
    · by_cases z : i = k
      · subst z
        rw [q4 i (by omega)]
        show (ups Y.1 8 i (Y.1 2 i)) 8 i = _
        rw [ups_s, upd_s]
      · rw [q5 i (by omega) h2]
        show (ups Y.1 8 k (Y.1 2 k)) 2 i = _
        rw [ups_o (by omega)]
theorem mcf_2_8 (Y : MS) : ∃ Y' : MS, f_X4_copy_2_8 Y = some Y' ∧ (∀ c, c ≠ 8 → Y'.1 c = Y.1 c) ∧ ∀ i, i < 6 → Y'.1 8 i = Y.1 2 i := by
  obtain ⟨Y', q1, q2, q3, q4, q5⟩ := mcp_2_8 6 0 NF Y (by omega) (by have := NF_ge; omega)
  exact ⟨Y', q1, q2, fun i hi => q5 i (by omega) hi⟩
theorem mcp_6_3 : ∀ (e k f : Nat) (Y : MS), k + e = 12 → e < f → ∃ Y' : MS, g_X4_copy_6_3_2 f Y (nI k) = some Y' ∧ (∀ c, c ≠ 3 → Y'.1 c = Y.1 c) ∧ Y'.2 = Y.2 ∧ (∀ i, i < k → Y'.1 3 i = Y.1 3 i) ∧ ∀ i, k ≤ i → i < 12 → Y'.1 3 i = Y.1 6 i := by
  intro e
  induction e with
  | zero =>
    intro k f Y hk hf
    obtain ⟨f, rfl⟩ : ∃ g, f = g + 1 := ⟨f - 1, by omega⟩
    have ek : k = 12 := by omega
    subst ek
    exact ⟨Y, by rw [g_X4_copy_6_3_2, if_pos (by decide)], fun _ _ => rfl, rfl, fun _ _ => rfl, fun i h1 h2 => by omega⟩
  | succ e ih =>
    intro k f Y hk hf
    obtain ⟨f, rfl⟩ : ∃ g, f = g + 1 := ⟨f - 1, by omega⟩
    have hc : (nI k).toNatClampNeg = k := nI_clamp (by omega)
    obtain ⟨Y', q1, q2, q3, q4, q5⟩ := ih (k + 1) f (ups Y.1 3 k (Y.1 6 k), Y.2) (by omega) (by omega)
    refine ⟨Y', ?_, fun c hc => (q2 c hc).trans (ups_o hc _ _), q3, fun i hi => ?_, fun i h1 h2 => ?_⟩
    · rw [g_X4_copy_6_3_2, if_neg (lit_nle (L := 12) (b := 12) (k := k) rfl (by omega) (by omega))]
      simp only [stp_eq, pw_one, hc, pw_ix (show k < 12 by omega) (show (12 : Nat) < 2 ^ 31 by omega)]
      exact q1
    · rw [q4 i (by omega)]
      show (ups Y.1 3 k (Y.1 6 k)) 3 i = _
      rw [ups_s, upd_o (by omega)]
    · by_cases z : i = k
      · subst z
        rw [q4 i (by omega)]
        show (ups Y.1 3 i (Y.1 6 i)) 3 i = _
        rw [ups_s, upd_s]
      · rw [q5 i (by omega) h2]
        show (ups Y.1 3 k (Y.1 6 k)) 6 i = _
        rw [ups_o (by omega)]
theorem mcf_6_3 (Y : MS) : ∃ Y' : MS, f_X4_copy_6_3 Y = some Y' ∧ (∀ c, c ≠ 3 → Y'.1 c = Y.1 c) ∧ ∀ i, i < 12 → Y'.1 3 i = Y.1 6 i := by
  obtain ⟨Y', q1, q2, q3, q4, q5⟩ := mcp_6_3 12 0 NF Y (by omega) (by have := NF_ge; omega)
  exact ⟨Y', q1, q2, fun i hi => q5 i (by omega) hi⟩
theorem mcp_7_5 : ∀ (e k f : Nat) (Y : MS), k + e = 16 → e < f → ∃ Y' : MS, g_X4_copy_7_5_2 f Y (nI k) = some Y' ∧ (∀ c, c ≠ 5 → Y'.1 c = Y.1 c) ∧ Y'.2 = Y.2 ∧ (∀ i, i < k → Y'.1 5 i = Y.1 5 i) ∧ ∀ i, k ≤ i → i < 16 → Y'.1 5 i = Y.1 7 i := by
  intro e
  induction e with
  | zero =>
    intro k f Y hk hf
    obtain ⟨f, rfl⟩ : ∃ g, f = g + 1 := ⟨f - 1, by omega⟩
    have ek : k = 16 := by omega
    subst ek
    exact ⟨Y, by rw [g_X4_copy_7_5_2, if_pos (by decide)], fun _ _ => rfl, rfl, fun _ _ => rfl, fun i h1 h2 => by omega⟩
  | succ e ih =>
    intro k f Y hk hf
    obtain ⟨f, rfl⟩ : ∃ g, f = g + 1 := ⟨f - 1, by omega⟩
    have hc : (nI k).toNatClampNeg = k := nI_clamp (by omega)
    obtain ⟨Y', q1, q2, q3, q4, q5⟩ := ih (k + 1) f (ups Y.1 5 k (Y.1 7 k), Y.2) (by omega) (by omega)
    refine ⟨Y', ?_, fun c hc => (q2 c hc).trans (ups_o hc _ _), q3, fun i hi => ?_, fun i h1 h2 => ?_⟩
    · rw [g_X4_copy_7_5_2, if_neg (lit_nle (L := 16) (b := 16) (k := k) rfl (by omega) (by omega))]
      simp only [stp_eq, pw_one, hc, pw_ix (show k < 16 by omega) (show (16 : Nat) < 2 ^ 31 by omega)]
      exact q1
    · rw [q4 i (by omega)]
      show (ups Y.1 5 k (Y.1 7 k)) 5 i = _
      rw [ups_s, upd_o (by omega)]
    · by_cases z : i = k
      · subst z
        rw [q4 i (by omega)]
        show (ups Y.1 5 i (Y.1 7 i)) 5 i = _
        rw [ups_s, upd_s]
      · rw [q5 i (by omega) h2]
        show (ups Y.1 5 k (Y.1 7 k)) 7 i = _
        rw [ups_o (by omega)]
theorem mcf_7_5 (Y : MS) : ∃ Y' : MS, f_X4_copy_7_5 Y = some Y' ∧ (∀ c, c ≠ 5 → Y'.1 c = Y.1 c) ∧ ∀ i, i < 16 → Y'.1 5 i = Y.1 7 i := by
  obtain ⟨Y', q1, q2, q3, q4, q5⟩ := mcp_7_5 16 0 NF Y (by omega) (by have := NF_ge; omega)
  exact ⟨Y', q1, q2, fun i hi => q5 i (by omega) hi⟩
theorem mcp_8_2 : ∀ (e k f : Nat) (Y : MS), k + e = 6 → e < f → ∃ Y' : MS, g_X4_copy_8_2_2 f Y (nI k) = some Y' ∧ (∀ c, c ≠ 2 → Y'.1 c = Y.1 c) ∧ Y'.2 = Y.2 ∧ (∀ i, i < k → Y'.1 2 i = Y.1 2 i) ∧ ∀ i, k ≤ i → i < 6 → Y'.1 2 i = Y.1 8 i := by
  intro e
  induction e with
  | zero =>
    intro k f Y hk hf
    obtain ⟨f, rfl⟩ : ∃ g, f = g + 1 := ⟨f - 1, by omega⟩
    have ek : k = 6 := by omega
    subst ek
    exact ⟨Y, by rw [g_X4_copy_8_2_2, if_pos (by decide)], fun _ _ => rfl, rfl, fun _ _ => rfl, fun i h1 h2 => by omega⟩
  | succ e ih =>
    intro k f Y hk hf
    obtain ⟨f, rfl⟩ : ∃ g, f = g + 1 := ⟨f - 1, by omega⟩
    have hc : (nI k).toNatClampNeg = k := nI_clamp (by omega)
    obtain ⟨Y', q1, q2, q3, q4, q5⟩ := ih (k + 1) f (ups Y.1 2 k (Y.1 8 k), Y.2) (by omega) (by omega)
    refine ⟨Y', ?_, fun c hc => (q2 c hc).trans (ups_o hc _ _), q3, fun i hi => ?_, fun i h1 h2 => ?_⟩
    · rw [g_X4_copy_8_2_2, if_neg (lit_nle (L := 6) (b := 6) (k := k) rfl (by omega) (by omega))]
      simp only [stp_eq, pw_one, hc, pw_ix (show k < 6 by omega) (show (6 : Nat) < 2 ^ 31 by omega)]
      exact q1
    · rw [q4 i (by omega)]
      show (ups Y.1 2 k (Y.1 8 k)) 2 i = _
      rw [ups_s, upd_o (by omega)]
    · by_cases z : i = k
      · subst z
        rw [q4 i (by omega)]
        show (ups Y.1 2 i (Y.1 8 i)) 2 i = _
        rw [ups_s, upd_s]
      · rw [q5 i (by omega) h2]
        show (ups Y.1 2 k (Y.1 8 k)) 8 i = _
        rw [ups_o (by omega)]
theorem mcf_8_2 (Y : MS) : ∃ Y' : MS, f_X4_copy_8_2 Y = some Y' ∧ (∀ c, c ≠ 2 → Y'.1 c = Y.1 c) ∧ ∀ i, i < 6 → Y'.1 2 i = Y.1 8 i := by
  obtain ⟨Y', q1, q2, q3, q4, q5⟩ := mcp_8_2 6 0 NF Y (by omega) (by have := NF_ge; omega)
  exact ⟨Y', q1, q2, fun i hi => q5 i (by omega) hi⟩
theorem imgM (Y : MS) (hl : f_X4_lacks Y = some 0) : ∃ (r : Int32) (Y' : MS), f_X4_image Y = some (r, Y') ∧ (r = Y.1 0 7 ∧ (∀ c, c ≠ 0 → c ≠ 6 → c ≠ 7 → c ≠ 8 → Y'.1 c = Y.1 c) ∧ (∀ i, i < 12 → Y'.1 6 i = Y.1 3 i) ∧ (∀ i, i < 16 → Y'.1 7 i = Y.1 5 i) ∧ (∀ i, i < 6 → Y'.1 8 i = Y.1 2 i) ∧ (∀ j, j < 17 ∨ 24 < j → Y'.1 0 j = Y.1 0 j) ∧ Y'.1 0 18 = Y.1 0 11 ∧ Y'.1 0 19 = Y.1 0 3 ∧ Y'.1 0 20 = Y.1 0 5 ∧ Y'.1 0 21 = Y.1 0 6 ∧ Y'.1 0 22 = Y.1 0 7 ∧ Y'.1 0 23 = Y.1 0 8 ∧ Y'.1 0 24 = Y.1 0 14 ∧ Y'.1 0 17 = Y.1 0 9) := by
  unfold f_X4_image
  rw [hl, Option.bind_some, if_pos rfl]
  obtain ⟨A1, c1, u1, v1⟩ := mcf_3_6 Y
  obtain ⟨A2, c2, u2, v2⟩ := mcf_5_7 A1
  obtain ⟨A, c3, u3, v3⟩ := mcf_2_8 A2
  rw [c1, Option.bind_some, c2, Option.bind_some, c3, Option.bind_some]
  have o : ∀ c, c ≠ 6 → c ≠ 7 → c ≠ 8 → A.1 c = Y.1 c := fun c a b d => by rw [u3 c d, u2 c b, u1 c a]
  have b1 : ∀ i, i < 12 → A.1 6 i = Y.1 3 i := fun i hi => by rw [u3 _ (by omega), u2 _ (by omega), v1 i hi]
  have b2 : ∀ i, i < 16 → A.1 7 i = Y.1 5 i := fun i hi => by rw [u3 _ (by omega), v2 i hi, u1 _ (by omega)]
  have b3 : ∀ i, i < 6 → A.1 8 i = Y.1 2 i := fun i hi => by rw [v3 i hi, u2 _ (by omega), u1 _ (by omega)]
  have p0 : PMg A.1 0 0 [] A.1 := PM_0 A.1 0 0
  refine stp_ex2 (fun y0 f0 => ?_)
  refine stp_ex2 (fun Z0 g0 => ?_)
  have p1 : PMg A.1 0 0 [(18, 11)] Z0.1 := by rw [g0, f0]; exact PM_s p0 18 11 (by decide) (by decide)
  refine stp_ex2 (fun y1 f1 => ?_)
  refine stp_ex2 (fun Z1 g1 => ?_)
  have p2 : PMg A.1 0 0 [(19, 3), (18, 11)] Z1.1 := by rw [g1, f1]; exact PM_s p1 19 3 (by decide) (by decide)
  refine stp_ex2 (fun y2 f2 => ?_)
  refine stp_ex2 (fun Z2 g2 => ?_)
  have p3 : PMg A.1 0 0 [(20, 5), (19, 3), (18, 11)] Z2.1 := by rw [g2, f2]; exact PM_s p2 20 5 (by decide) (by decide)
  refine stp_ex2 (fun y3 f3 => ?_)
  refine stp_ex2 (fun Z3 g3 => ?_)
  have p4 : PMg A.1 0 0 [(21, 6), (20, 5), (19, 3), (18, 11)] Z3.1 := by rw [g3, f3]; exact PM_s p3 21 6 (by decide) (by decide)
  refine stp_ex2 (fun y4 f4 => ?_)
  refine stp_ex2 (fun Z4 g4 => ?_)
  have p5 : PMg A.1 0 0 [(22, 7), (21, 6), (20, 5), (19, 3), (18, 11)] Z4.1 := by rw [g4, f4]; exact PM_s p4 22 7 (by decide) (by decide)
  refine stp_ex2 (fun y5 f5 => ?_)
  refine stp_ex2 (fun Z5 g5 => ?_)
  have p6 : PMg A.1 0 0 [(23, 8), (22, 7), (21, 6), (20, 5), (19, 3), (18, 11)] Z5.1 := by rw [g5, f5]; exact PM_s p5 23 8 (by decide) (by decide)
  refine stp_ex2 (fun y6 f6 => ?_)
  refine stp_ex2 (fun Z6 g6 => ?_)
  have p7 : PMg A.1 0 0 [(24, 14), (23, 8), (22, 7), (21, 6), (20, 5), (19, 3), (18, 11)] Z6.1 := by rw [g6, f6]; exact PM_s p6 24 14 (by decide) (by decide)
  refine stp_ex2 (fun y7 f7 => ?_)
  refine stp_ex2 (fun Z7 g7 => ?_)
  have p8 : PMg A.1 0 0 [(17, 9), (24, 14), (23, 8), (22, 7), (21, 6), (20, 5), (19, 3), (18, 11)] Z7.1 := by rw [g7, f7]; exact PM_s p7 17 9 (by decide) (by decide)
  refine ⟨Z7.1 0 7, Z7, rfl, ?_, fun c h0 h6 h7 h8 => ?_, fun i hi => ?_, fun i hi => ?_, fun i hi => ?_, fun j hj => ?_, ?_, ?_, ?_, ?_, ?_, ?_, ?_, ?_⟩
  · rw [p8.2.2 7 (by decide), o 0 (by omega) (by omega) (by omega)]
  · rw [p8.1 c h0]; exact o c h6 h7 h8
  · rw [p8.1 _ (by omega)]; exact b1 i hi
  · rw [p8.1 _ (by omega)]; exact b2 i hi
  · rw [p8.1 _ (by omega)]; exact b3 i hi
  · rw [p8.2.2 j (by intro q hq; simp only [List.mem_cons, List.not_mem_nil, or_false] at hq; rcases hq with rfl | rfl | rfl | rfl | rfl | rfl | rfl | rfl <;> (simp only []; omega)), o 0 (by omega) (by omega) (by omega)]
  · rw [p8.2.1 (18, 11) (by decide), o 0 (by omega) (by omega) (by omega)]
  · rw [p8.2.1 (19, 3) (by decide), o 0 (by omega) (by omega) (by omega)]
  · rw [p8.2.1 (20, 5) (by decide), o 0 (by omega) (by omega) (by omega)]
  · rw [p8.2.1 (21, 6) (by decide), o 0 (by omega) (by omega) (by omega)]
  · rw [p8.2.1 (22, 7) (by decide), o 0 (by omega) (by omega) (by omega)]
  · rw [p8.2.1 (23, 8) (by decide), o 0 (by omega) (by omega) (by omega)]
  · rw [p8.2.1 (24, 14) (by decide), o 0 (by omega) (by omega) (by omega)]
  · rw [p8.2.1 (17, 9) (by decide), o 0 (by omega) (by omega) (by omega)]
theorem resM (Y : MS) (hl : Y.1 0 17 = Y.1 0 9) : ∃ (r : Int32) (Y' : MS), f_X4_restore Y = some (r, Y') ∧ (r = Y.1 0 22 ∧ (∀ c, c ≠ 0 → c ≠ 3 → c ≠ 5 → c ≠ 2 → Y'.1 c = Y.1 c) ∧ (∀ i, i < 12 → Y'.1 3 i = Y.1 6 i) ∧ (∀ i, i < 16 → Y'.1 5 i = Y.1 7 i) ∧ (∀ i, i < 6 → Y'.1 2 i = Y.1 8 i) ∧ (∀ j, j = 1 ∨ j = 2 ∨ j = 4 ∨ j = 9 ∨ 17 ≤ j → Y'.1 0 j = Y.1 0 j) ∧ Y'.1 0 11 = Y.1 0 18 ∧ Y'.1 0 3 = Y.1 0 19 ∧ Y'.1 0 5 = Y.1 0 20 ∧ Y'.1 0 6 = Y.1 0 21 ∧ Y'.1 0 7 = Y.1 0 22 ∧ Y'.1 0 8 = Y.1 0 23 ∧ Y'.1 0 14 = Y.1 0 24) := by
  unfold f_X4_restore
  rw [if_pos hl]
  obtain ⟨A1, c1, u1, v1⟩ := mcf_6_3 Y
  obtain ⟨A2, c2, u2, v2⟩ := mcf_7_5 A1
  obtain ⟨A, c3, u3, v3⟩ := mcf_8_2 A2
  rw [c1, Option.bind_some, c2, Option.bind_some, c3, Option.bind_some]
  have o : ∀ c, c ≠ 3 → c ≠ 5 → c ≠ 2 → A.1 c = Y.1 c := fun c a b d => by rw [u3 c d, u2 c b, u1 c a]
  have b1 : ∀ i, i < 12 → A.1 3 i = Y.1 6 i := fun i hi => by rw [u3 _ (by omega), u2 _ (by omega), v1 i hi]
  have b2 : ∀ i, i < 16 → A.1 5 i = Y.1 7 i := fun i hi => by rw [u3 _ (by omega), v2 i hi, u1 _ (by omega)]
  have b3 : ∀ i, i < 6 → A.1 2 i = Y.1 8 i := fun i hi => by rw [v3 i hi, u2 _ (by omega), u1 _ (by omega)]
  have p0 : PMg A.1 0 0 [] A.1 := PM_0 A.1 0 0
  refine stp_ex2 (fun y0 f0 => ?_)
  refine stp_ex2 (fun Z0 g0 => ?_)
  have p1 : PMg A.1 0 0 [(11, 18)] Z0.1 := by rw [g0, f0]; exact PM_s p0 11 18 (by decide) (by decide)
  refine stp_ex2 (fun y1 f1 => ?_)
  refine stp_ex2 (fun Z1 g1 => ?_)
  have p2 : PMg A.1 0 0 [(3, 19), (11, 18)] Z1.1 := by rw [g1, f1]; exact PM_s p1 3 19 (by decide) (by decide)
  refine stp_ex2 (fun y2 f2 => ?_)
  refine stp_ex2 (fun Z2 g2 => ?_)
  have p3 : PMg A.1 0 0 [(5, 20), (3, 19), (11, 18)] Z2.1 := by rw [g2, f2]; exact PM_s p2 5 20 (by decide) (by decide)
  refine stp_ex2 (fun y3 f3 => ?_)
  refine stp_ex2 (fun Z3 g3 => ?_)
  have p4 : PMg A.1 0 0 [(6, 21), (5, 20), (3, 19), (11, 18)] Z3.1 := by rw [g3, f3]; exact PM_s p3 6 21 (by decide) (by decide)
  refine stp_ex2 (fun y4 f4 => ?_)
  refine stp_ex2 (fun Z4 g4 => ?_)
  have p5 : PMg A.1 0 0 [(7, 22), (6, 21), (5, 20), (3, 19), (11, 18)] Z4.1 := by rw [g4, f4]; exact PM_s p4 7 22 (by decide) (by decide)
  refine stp_ex2 (fun y5 f5 => ?_)
  refine stp_ex2 (fun Z5 g5 => ?_)
  have p6 : PMg A.1 0 0 [(8, 23), (7, 22), (6, 21), (5, 20), (3, 19), (11, 18)] Z5.1 := by rw [g5, f5]; exact PM_s p5 8 23 (by decide) (by decide)
  refine stp_ex2 (fun y6 f6 => ?_)
  refine stp_ex2 (fun Z6 g6 => ?_)
  have p7 : PMg A.1 0 0 [(14, 24), (8, 23), (7, 22), (6, 21), (5, 20), (3, 19), (11, 18)] Z6.1 := by rw [g6, f6]; exact PM_s p6 14 24 (by decide) (by decide)
  refine ⟨Z6.1 0 7, Z6, rfl, ?_, fun c h0 h6 h7 h8 => ?_, fun i hi => ?_, fun i hi => ?_, fun i hi => ?_, fun j hj => ?_, ?_, ?_, ?_, ?_, ?_, ?_, ?_⟩
  · rw [p7.2.1 (7, 22) (by decide), o 0 (by omega) (by omega) (by omega)]
  · rw [p7.1 c h0]; exact o c h6 h7 h8
  · rw [p7.1 _ (by omega)]; exact b1 i hi
  · rw [p7.1 _ (by omega)]; exact b2 i hi
  · rw [p7.1 _ (by omega)]; exact b3 i hi
  · rw [p7.2.2 j (by intro q hq; simp only [List.mem_cons, List.not_mem_nil, or_false] at hq; rcases hq with rfl | rfl | rfl | rfl | rfl | rfl | rfl <;> (simp only []; omega)), o 0 (by omega) (by omega) (by omega)]
  · rw [p7.2.1 (11, 18) (by decide), o 0 (by omega) (by omega) (by omega)]
  · rw [p7.2.1 (3, 19) (by decide), o 0 (by omega) (by omega) (by omega)]
  · rw [p7.2.1 (5, 20) (by decide), o 0 (by omega) (by omega) (by omega)]
  · rw [p7.2.1 (6, 21) (by decide), o 0 (by omega) (by omega) (by omega)]
  · rw [p7.2.1 (7, 22) (by decide), o 0 (by omega) (by omega) (by omega)]
  · rw [p7.2.1 (8, 23) (by decide), o 0 (by omega) (by omega) (by omega)]
  · rw [p7.2.1 (14, 24) (by decide), o 0 (by omega) (by omega) (by omega)]
theorem s_image {X : WS} {Y : MS} {N : Nat} (h : Rel X Y N) (hN : N ≤ 500) : Sim (f_X3_image X) (f_X4_image Y) N := by
  have hr := Rel_up h
  rcases hasG h hN with ⟨a, b⟩ | ⟨a, b⟩
  · obtain ⟨g1, tt, lv, tr, htr, ct, kp⟩ := h
    have htr0 : 0 < tr := by
      rcases ct.2.2 with ⟨z, z2⟩ | ⟨z, -⟩
      · exfalso
        unfold f_X3_hasTown at a
        rw [ct.1, z, if_pos (by decide)] at a
        exact absurd (Option.some.inj a) n01
      · exact z
    obtain ⟨X1, q1, q2, q3, q4⟩ := copyK X
    obtain ⟨r, Y', m1, m2, m3, m4, m5, m6, m7, m8, m9, m10, m11, m12, m13, m14, m15⟩ := imgM Y b
    rw [m1]
    unfold f_X3_image
    rw [a, Option.bind_some, if_neg n10, q1, Option.bind_some, stp_eq]
    have x0 : ∀ c, c ≠ 0 → c < 9 ∨ 14 < c → ups X1 0 4 1 c = X c := fun c h0 hc => by rw [ups_o h0]; exact q2 c hc
    have x9 : ∀ c, 9 ≤ c → ups X1 0 4 1 c = X1 c := fun c hc => by rw [ups_o (by omega)]
    obtain ⟨n, t, v, w, rr, td, lh, e6, ev, hv, e3, e5, e7, e8⟩ := id tt
    refine ⟨r, ups X1 0 4 1, Y', ?_, rfl, ?_, ?_, ?_, tr, by omega, ?_, Or.inl ⟨?_, htr0, ?_, ?_, ?_, ?_⟩⟩
    · rw [x0 3 (by omega) (by omega), m2, e7]
    · exact PG_c (by rw [x0 1 (by omega) (by omega)]) (x0 2 (by omega) (by omega)) (m7 1 (by omega)) (m3 1 (by omega) (by omega) (by omega) (by omega)) g1
    · exact TR_c (x0 3 (by omega) (by omega)) (x0 4 (by omega) (by omega)) (x0 5 (by omega) (by omega)) (x0 6 (by omega) (by omega)) (x0 7 (by omega) (by omega)) (x0 8 (by omega) (by omega)) (m3 2 (by omega) (by omega) (by omega) (by omega)) (m3 3 (by omega) (by omega) (by omega) (by omega)) (m3 5 (by omega) (by omega) (by omega) (by omega)) (m7 3 (by omega)) (m7 5 (by omega)) (m7 6 (by omega)) (m7 7 (by omega)) (m7 8 (by omega)) (m7 11 (by omega)) (m7 14 (by omega)) tt
    · exact LV_c (by rw [x0 3 (by omega) (by omega)]) (by rw [x0 3 (by omega) (by omega)]) (m7 2 (by omega)) (m7 4 (by omega)) lv
    · exact CT_c (by rw [ups_s, upd_o (by omega), q2 0 (by omega)]) (by rw [x0 3 (by omega) (by omega)]) (m7 9 (by omega)) ct
    · rw [ups_s, upd_s]
    · rw [m15]; exact ct.2.1
    · refine TR_pw (X := X) (Y := Y.1) ?_ ?_ ?_ ?_ ?_ ?_ tt
      · intro j h1 h2
        show (if 3 < 9 then ups X1 0 4 1 (3 + 6) else _) j = _
        rw [if_pos (by omega), x9 _ (by omega)]; exact q3 j h1 h2
      · intro c h1 h2 i hi
        show (if c < 9 then ups X1 0 4 1 (c + 6) else _) i = _
        rw [if_pos (by omega), x9 _ (by omega)]; exact q4 c h1 h2 i hi
      · intro k hk
        rcases hk with rfl | rfl | rfl | rfl | rfl | rfl | rfl
        · exact m9
        · exact m10
        · exact m11
        · exact m12
        · exact m13
        · exact m8
        · exact m14
      · intro i hi; exact m4 i hi
      · intro i hi; exact m5 i hi
      · intro i hi; exact m6 i hi
    · rw [x9 9 (by omega), x0 3 (by omega) (by omega)]; exact q3 8 (by omega) (by omega)
    · rw [x9 9 (by omega), x0 3 (by omega) (by omega)]; exact q3 10 (by omega) (by omega)
  · unfold f_X3_image f_X4_image
    rw [a, b, Option.bind_some, Option.bind_some, if_pos rfl, if_neg n10]
    exact ⟨_, _, _, rfl, rfl, hr⟩
theorem s_restore {X : WS} {Y : MS} {N : Nat} (h : Rel X Y N) (hN : N ≤ 500) : Sim (f_X3_restore X) (f_X4_restore Y) N := by
  have hr := Rel_up h
  obtain ⟨g1, tt, lv, tr, htr, ct, kp⟩ := h
  rcases kp with ⟨k1, k2, k3, k4, k5, k6⟩ | ⟨k1, k2⟩
  · obtain ⟨X', q1, q2, q3, q4⟩ := copyH X
    obtain ⟨r, Y', m1, m2, m3, m4, m5, m6, m7, m8, m9, m10, m11, m12, m13, m14⟩ := resM Y (by rw [k3]; exact ct.2.1.symm)
    rw [m1]
    unfold f_X3_restore
    rw [k1, if_neg n10, q1, Option.bind_some]
    obtain ⟨n, t, v, w, rr, td, lh, e6, ev, hv, e3, e5, e7, e8⟩ := id k4
    have e7' : Y.1 0 22 = X 9 12 := e7
    have tt' : TR X' Y'.1 := by
      refine TR_pw (X := kX X) (Y := kY Y.1) ?_ ?_ ?_ ?_ ?_ ?_ k4
      · intro j h1 h2; exact q3 j h1 h2
      · intro c h1 h2 i hi
        show X' c i = (if c < 9 then X (c + 6) else X c) i
        rw [if_pos (by omega)]; exact q4 c h1 h2 i hi
      · intro k hk
        rcases hk with rfl | rfl | rfl | rfl | rfl | rfl | rfl
        · exact m9
        · exact m10
        · exact m11
        · exact m12
        · exact m13
        · exact m8
        · exact m14
      · intro i hi; exact m4 i hi
      · intro i hi; exact m5 i hi
      · intro i hi; exact m6 i hi
    have x8 : X' 3 8 = X 3 8 := by rw [q3 8 (by omega) (by omega)]; exact k5
    have x10 : X' 3 10 = X 3 10 := by rw [q3 10 (by omega) (by omega)]; exact k6
    refine ⟨r, X', Y', by rw [q3 12 (by omega) (by omega), m2, e7'], rfl, ?_, tt', ?_, tr, by omega, ?_, ?_⟩
    · exact PG_c (by rw [q2 1 (by omega)]) (q2 2 (by omega)) (m7 1 (by omega)) (m3 1 (by omega) (by omega) (by omega) (by omega)) g1
    · exact LV_c x8 x10 (m7 2 (by omega)) (m7 4 (by omega)) lv
    · exact CT_c (by rw [q2 0 (by omega)]) x10 (m7 9 (by omega)) ct
    · exact KP_c (q2 9 (by omega)) (q2 10 (by omega)) (q2 11 (by omega)) (q2 12 (by omega)) (q2 13 (by omega)) (q2 14 (by omega)) (m3 6 (by omega) (by omega) (by omega) (by omega)) (m3 7 (by omega) (by omega) (by omega) (by omega)) (m3 8 (by omega) (by omega) (by omega) (by omega)) (fun k p q => m7 k (by omega)) (by rw [q2 0 (by omega)]) x8 x10 (Or.inl ⟨k1, k2, k3, k4, k5, k6⟩)
  · unfold f_X3_restore f_X4_restore
    rw [k1, if_pos rfl, if_neg ?_]
    · exact ⟨_, _, _, rfl, rfl, hr⟩
    · rw [ct.2.1]
      rcases k2 with e | ⟨kt, h1, e⟩
      · rw [e]; exact fun z => nI_ne_m1 (show tr < 2 ^ 31 by omega) z.symm
      · rw [e]; exact fun z => by have := (nI_eq (by omega) (by omega)).mp z; omega
