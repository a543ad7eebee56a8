abbrev classes : List vw_C := [(RX0, TX0, 8), (RX1, TX1, 2), (RX2, TX2, 17), (RX3, TX3, 6), (RX4, TX4, 29)]
def wl (a : Nat → Nat) (cA : ClassId) (X : WS) : va_W := [(a 0, .inr (3, [.ref (a 1), .ref (a 3), .ref (a 9), .ref (a 15), .int (X 0 4), .int (X 0 5)])), (a 1, .inr (1, [.ref (a 2), .int (X 1 1)])), (a 2, .inl (cA, 12, .inl (X 2))), (a 3, .inr (2, [.ref (a 4), .ref (a 5), .ref (a 6), .ref (a 7), .ref (a 8), .int (X 3 5), .int (X 3 6), .int (X 3 7), .int (X 3 8), .int (X 3 9), .int (X 3 10), .int (X 3 11), .int (X 3 12), .int (X 3 13), .int (X 3 14), .int (X 3 15), .int (X 3 16)])), (a 4, .inl (cA, 6, .inl (X 4))), (a 5, .inl (cA, 6, .inl (X 5))), (a 6, .inl (cA, 6, .inl (X 6))), (a 7, .inl (cA, 6, .inl (X 7))), (a 8, .inl (cA, 6, .inl (X 8))), (a 9, .inr (2, [.ref (a 10), .ref (a 11), .ref (a 12), .ref (a 13), .ref (a 14), .int (X 9 5), .int (X 9 6), .int (X 9 7), .int (X 9 8), .int (X 9 9), .int (X 9 10), .int (X 9 11), .int (X 9 12), .int (X 9 13), .int (X 9 14), .int (X 9 15), .int (X 9 16)])), (a 10, .inl (cA, 6, .inl (X 10))), (a 11, .inl (cA, 6, .inl (X 11))), (a 12, .inl (cA, 6, .inl (X 12))), (a 13, .inl (cA, 6, .inl (X 13))), (a 14, .inl (cA, 6, .inl (X 14))), (a 15, .inr (0, [.ref (a 16), .int (X 15 1), .int (X 15 2), .int (X 15 3), .int (X 15 4), .int (X 15 5), .int (X 15 6), .int (X 15 7)])), (a 16, .inl (cA, 6, .inl (X 16)))]
def wm (a : Nat → Nat) (cA : ClassId) (X : MS) : va_W := [(a 0, .inr (4, [.ref (a 1), .int (X.1 0 1), .int (X.1 0 2), .int (X.1 0 3), .int (X.1 0 4), .int (X.1 0 5), .int (X.1 0 6), .int (X.1 0 7), .int (X.1 0 8), .int (X.1 0 9), .ref (a 2), .int (X.1 0 11), .ref (a 3), .ref (a 4), .int (X.1 0 14), .ref (a 5), .int (X.1 0 16), .int (X.1 0 17), .int (X.1 0 18), .int (X.1 0 19), .int (X.1 0 20), .int (X.1 0 21), .int (X.1 0 22), .int (X.1 0 23), .int (X.1 0 24), .ref (a 6), .ref (a 7), .ref (a 8), .long X.2])), (a 1, .inl (cA, 12, .inl (X.1 1))), (a 2, .inl (cA, 6, .inl (X.1 2))), (a 3, .inl (cA, 12, .inl (X.1 3))), (a 4, .inl (cA, 3, .inl (X.1 4))), (a 5, .inl (cA, 16, .inl (X.1 5))), (a 6, .inl (cA, 12, .inl (X.1 6))), (a 7, .inl (cA, 16, .inl (X.1 7))), (a 8, .inl (cA, 6, .inl (X.1 8)))]
theorem va_D.same {A : Nat → Prop} {w1 w2 : va_W} (h : va_D A w1) (e : w1.map (fun q => q.1) = w2.map (fun q => q.1)) : va_D A w2 := by
  have at' : ∀ (k : Nat) (q : Nat × va_E), w2[k]? = some q → ∃ q', w1[k]? = some q' ∧ q'.1 = q.1 := by
    intro k q hq
    have h1 : (w1.map (fun q => q.1))[k]? = some q.1 := by rw [e, List.getElem?_map, hq]; rfl
    rw [List.getElem?_map] at h1
    cases hi : w1[k]? with
    | none => rw [hi] at h1; cases h1
    | some q' => rw [hi] at h1; exact ⟨q', rfl, Option.some.inj h1⟩
  refine ⟨fun i j p q hp hq hpq => ?_, fun k q hq => ?_⟩
  · obtain ⟨p', h1, h2⟩ := at' i p hp
    obtain ⟨q', h3, h4⟩ := at' j q hq
    exact h.1 i j p' q' h1 h3 (by rw [h2, h4]; exact hpq)
  · obtain ⟨q', h1, h2⟩ := at' k q hq
    rw [← h2]; exact h.2 k q' h1
theorem wlD {A : Nat → Prop} {a : Nat → Nat} {cA : ClassId} {X X' : WS} (h : va_D A (wl a cA X)) : va_D A (wl a cA X') := h.same rfl
theorem wmD {A : Nat → Prop} {a : Nat → Nat} {cA : ClassId} {X X' : MS} (h : va_D A (wm a cA X)) : va_D A (wm a cA X') := h.same rfl
abbrev NT : Type := String × Nat × String × String × String × String
def nwt : List NT := [("PaidToWhisper", 231, "PaidToWhisper$Page", "letters", "[I", "PaidToWhisper"), ("PaidToWhisper", 216, "PaidToWhisper$Page", "length", "I", "PaidToWhisper"), ("PaidToWhisper", 67, "PaidToWhisper$Town", "noise", "[I", "PaidToWhisper"), ("PaidToWhisper", 81, "PaidToWhisper$Town", "kinds", "[I", "PaidToWhisper"), ("PaidToWhisper", 96, "PaidToWhisper$Town", "needs", "[I", "PaidToWhisper"), ("PaidToWhisper", 99, "PaidToWhisper$Town", "repeats", "[I", "PaidToWhisper"), ("PaidToWhisper", 84, "PaidToWhisper$Town", "places", "[I", "PaidToWhisper"), ("PaidToWhisper", 177, "PaidToWhisper$Town", "listeners", "I", "PaidToWhisper"), ("PaidToWhisper$Inquiry", 27, "PaidToWhisper$Town", "heard", "I", "PaidToWhisper"), ("PaidToWhisper", 87, "PaidToWhisper$Town", "heard", "I", "PaidToWhisper"), ("PaidToWhisper$Inquiry", 22, "PaidToWhisper$Town", "voice", "I", "PaidToWhisper"), ("PaidToWhisper", 109, "PaidToWhisper$Town", "voice", "I", "PaidToWhisper"), ("PaidToWhisper", 202, "PaidToWhisper$Town", "law", "I", "PaidToWhisper"), ("PaidToWhisper", 205, "PaidToWhisper$Town", "cries", "I", "PaidToWhisper"), ("PaidToWhisper", 199, "PaidToWhisper$Town", "decrees", "I", "PaidToWhisper"), ("PaidToWhisper", 213, "PaidToWhisper$Town", "days", "I", "PaidToWhisper"), ("PaidToWhisper", 158, "PaidToWhisper$Town", "told", "I", "PaidToWhisper"), ("PaidToWhisper", 135, "PaidToWhisper$Inquiry", "quietest", "I", "PaidToWhisper"), ("PaidToWhisper", 138, "PaidToWhisper$Inquiry", "fewest", "I", "PaidToWhisper"), ("PaidToWhisper", 171, "PaidToWhisper$Inquiry", "found", "I", "PaidToWhisper"), ("PaidToWhisper", 174, "PaidToWhisper$Inquiry", "first", "I", "PaidToWhisper"), ("PaidToWhisper", 187, "PaidToWhisper$Inquiry", "together", "I", "PaidToWhisper"), ("PaidToWhisper", 190, "PaidToWhisper$Inquiry", "last", "I", "PaidToWhisper"), ("PaidToWhisper", 193, "PaidToWhisper$Inquiry", "seed", "I", "PaidToWhisper")]
theorem nk_58 : (("PaidToWhisper", 231, "PaidToWhisper$Page", "letters", "[I", "PaidToWhisper") : NT) ∈ nwt := by decide +kernel
theorem nk_60 : (("PaidToWhisper", 216, "PaidToWhisper$Page", "length", "I", "PaidToWhisper") : NT) ∈ nwt := by decide +kernel
theorem nk_74 : (("PaidToWhisper", 67, "PaidToWhisper$Town", "noise", "[I", "PaidToWhisper") : NT) ∈ nwt := by decide +kernel
theorem nk_76 : (("PaidToWhisper", 81, "PaidToWhisper$Town", "kinds", "[I", "PaidToWhisper") : NT) ∈ nwt := by decide +kernel
theorem nk_78 : (("PaidToWhisper", 96, "PaidToWhisper$Town", "needs", "[I", "PaidToWhisper") : NT) ∈ nwt := by decide +kernel
theorem nk_80 : (("PaidToWhisper", 99, "PaidToWhisper$Town", "repeats", "[I", "PaidToWhisper") : NT) ∈ nwt := by decide +kernel
theorem nk_82 : (("PaidToWhisper", 84, "PaidToWhisper$Town", "places", "[I", "PaidToWhisper") : NT) ∈ nwt := by decide +kernel
theorem nk_84 : (("PaidToWhisper", 177, "PaidToWhisper$Town", "listeners", "I", "PaidToWhisper") : NT) ∈ nwt := by decide +kernel
theorem nk_86 : (("PaidToWhisper$Inquiry", 27, "PaidToWhisper$Town", "heard", "I", "PaidToWhisper") : NT) ∈ nwt := by decide +kernel
theorem nk_88 : (("PaidToWhisper", 87, "PaidToWhisper$Town", "heard", "I", "PaidToWhisper") : NT) ∈ nwt := by decide +kernel
theorem nk_90 : (("PaidToWhisper$Inquiry", 22, "PaidToWhisper$Town", "voice", "I", "PaidToWhisper") : NT) ∈ nwt := by decide +kernel
theorem nk_92 : (("PaidToWhisper", 109, "PaidToWhisper$Town", "voice", "I", "PaidToWhisper") : NT) ∈ nwt := by decide +kernel
theorem nk_94 : (("PaidToWhisper", 202, "PaidToWhisper$Town", "law", "I", "PaidToWhisper") : NT) ∈ nwt := by decide +kernel
theorem nk_96 : (("PaidToWhisper", 205, "PaidToWhisper$Town", "cries", "I", "PaidToWhisper") : NT) ∈ nwt := by decide +kernel
theorem nk_98 : (("PaidToWhisper", 199, "PaidToWhisper$Town", "decrees", "I", "PaidToWhisper") : NT) ∈ nwt := by decide +kernel
theorem nk_100 : (("PaidToWhisper", 213, "PaidToWhisper$Town", "days", "I", "PaidToWhisper") : NT) ∈ nwt := by decide +kernel
theorem nk_102 : (("PaidToWhisper", 158, "PaidToWhisper$Town", "told", "I", "PaidToWhisper") : NT) ∈ nwt := by decide +kernel
theorem nk_148 : (("PaidToWhisper", 135, "PaidToWhisper$Inquiry", "quietest", "I", "PaidToWhisper") : NT) ∈ nwt := by decide +kernel
theorem nk_150 : (("PaidToWhisper", 138, "PaidToWhisper$Inquiry", "fewest", "I", "PaidToWhisper") : NT) ∈ nwt := by decide +kernel
theorem nk_152 : (("PaidToWhisper", 171, "PaidToWhisper$Inquiry", "found", "I", "PaidToWhisper") : NT) ∈ nwt := by decide +kernel
theorem nk_154 : (("PaidToWhisper", 174, "PaidToWhisper$Inquiry", "first", "I", "PaidToWhisper") : NT) ∈ nwt := by decide +kernel
theorem nk_156 : (("PaidToWhisper", 187, "PaidToWhisper$Inquiry", "together", "I", "PaidToWhisper") : NT) ∈ nwt := by decide +kernel
theorem nk_158 : (("PaidToWhisper", 190, "PaidToWhisper$Inquiry", "last", "I", "PaidToWhisper") : NT) ∈ nwt := by decide +kernel
theorem nk_160 : (("PaidToWhisper", 193, "PaidToWhisper$Inquiry", "seed", "I", "PaidToWhisper") : NT) ∈ nwt := by decide +kernel
def nwc (q : NT) : Cond := .fieldLinkNest q.1 q.2.1 q.2.2.1 q.2.2.2.1 q.2.2.2.2.1 q.2.2.2.2.2
def nst (U : State) : Prop := ∀ q ∈ nwt, va_Nw (nwc q) U
theorem nst.warm {s U : State} (hW : s.WarmedH U.vm) (h : nst s) : nst U := fun q hq => va_Nw.warmF hW (h q hq)
theorem nst.same {u U : State} (e : u.vm = U.vm) (h : nst u) : nst U := fun q hq => va_Nw.same rfl e (h q hq)
def Pc0 (av : List Value) : Array Value → State → Prop := va_Pc av (fun _ => True)
def PcX (dC : Nat → ClassId) (dI : Nat → Nat → Nat) (a : Nat → Nat) (cA : ClassId) (X : WS) (av : List Value) : Array Value → State → Prop := va_Pc av (fun U => va_P (dC, dI) classes (wl a cA X) U.heap ∧ va_K (dC, dI) classes [(cA, .int)] U ∧ nst U)
def PcXD (dC : Nat → ClassId) (dI : Nat → Nat → Nat) (A : Nat → Prop) (a : Nat → Nat) (cA : ClassId) (X : WS) (av : List Value) : Array Value → State → Prop := va_Pc av (fun U => va_P (dC, dI) classes (wl a cA X) U.heap ∧ va_K (dC, dI) classes [(cA, .int)] U ∧ nst U ∧ va_D A (wl a cA X))
def PcM (dC : Nat → ClassId) (dI : Nat → Nat → Nat) (a : Nat → Nat) (cA : ClassId) (X : MS) (av : List Value) : Array Value → State → Prop := va_Pc av (fun U => va_P (dC, dI) classes (wm a cA X) U.heap ∧ va_K (dC, dI) classes [(cA, .int)] U)
def PcMD (dC : Nat → ClassId) (dI : Nat → Nat → Nat) (A : Nat → Prop) (a : Nat → Nat) (cA : ClassId) (X : MS) (av : List Value) : Array Value → State → Prop := va_Pc av (fun U => va_P (dC, dI) classes (wm a cA X) U.heap ∧ va_K (dC, dI) classes [(cA, .int)] U ∧ va_D A (wm a cA X))
theorem bl0 {av : List Value} : FrameBlind (Pc0 av) := fun _ _ _ _ q => q
theorem blX {dC : Nat → ClassId} {dI : Nat → Nat → Nat} {a : Nat → Nat} {cA : ClassId} {X : WS} {av : List Value} : FrameBlind (PcX dC dI a cA X av) := fun a U g mk q => by obtain ⟨q0, qP, qK, qN⟩ := q; exact ⟨q0, qP, va_K.moved (u := U) (U := U.calling g mk a) (Vm.Alike.refl U.vm) qK, nst.same (u := U) (U := U.calling g mk a) rfl qN⟩
theorem blXD {dC : Nat → ClassId} {dI : Nat → Nat → Nat} {A : Nat → Prop} {a : Nat → Nat} {cA : ClassId} {X : WS} {av : List Value} : FrameBlind (PcXD dC dI A a cA X av) := fun a U g mk q => by obtain ⟨q0, qP, qK, qN, qD⟩ := q; exact ⟨q0, qP, va_K.moved (u := U) (U := U.calling g mk a) (Vm.Alike.refl U.vm) qK, nst.same (u := U) (U := U.calling g mk a) rfl qN, qD⟩
theorem blM {dC : Nat → ClassId} {dI : Nat → Nat → Nat} {a : Nat → Nat} {cA : ClassId} {X : MS} {av : List Value} : FrameBlind (PcM dC dI a cA X av) := fun a U g mk q => by obtain ⟨q0, qP, qK⟩ := q; exact ⟨q0, qP, va_K.moved (u := U) (U := U.calling g mk a) (Vm.Alike.refl U.vm) qK⟩
theorem blMD {dC : Nat → ClassId} {dI : Nat → Nat → Nat} {A : Nat → Prop} {a : Nat → Nat} {cA : ClassId} {X : MS} {av : List Value} : FrameBlind (PcMD dC dI A a cA X av) := fun a U g mk q => by obtain ⟨q0, qP, qK, qD⟩ := q; exact ⟨q0, qP, va_K.moved (u := U) (U := U.calling g mk a) (Vm.Alike.refl U.vm) qK, qD⟩
