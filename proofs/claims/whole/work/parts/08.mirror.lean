abbrev WS : Type := Nat → Nat → Int32
abbrev MS : Type := (Nat → Nat → Int32) × Int64
def NF : Nat := 1000
def ups (X : WS) (c k : Nat) (v : Int32) : WS := fun c' => if c' = c then upd (X c) k v else X c'
def upw (X : WS) (c : Nat) (f : Nat → Int32) : WS := fun c' => if c' = c then f else X c'
def stp {α β : Type} (v : α) (k : α → β) : β := k v
theorem stp_use {α β : Type} {v y : α} {k : α → β} {o : β} (h : stp v k = o) (e : y = v) : k y = o := by subst e; exact h
def ixc {α : Type} (i : Int32) (n : Nat) (t : Option α) : Option α := if i < 0 ∨ n ≤ i.toNatClampNeg then none else t
theorem ixc_use {α : Type} {i : Int32} {n : Nat} {t : Option α} {o : α} (h : ixc i n t = some o) : vp_in i n ∧ t = some o := by
  unfold ixc at h
  by_cases c : i < 0 ∨ n ≤ i.toNatClampNeg
  · rw [if_pos c] at h; cases h
  · rw [if_neg c] at h; exact ⟨c, h⟩
def dvc {α : Type} (y : Int32) (t : Option α) : Option α := if y = 0 then none else t
theorem dvc_use {α : Type} {y : Int32} {t : Option α} {o : α} (h : dvc y t = some o) : ¬ y = 0 ∧ t = some o := by
  unfold dvc at h
  by_cases c : y = 0
  · rw [if_pos c] at h; cases h
  · rw [if_neg c] at h; exact ⟨c, h⟩
def zck {α : Type} (v : Int32) (t : Option α) : Option α := if v = 0 ∨ v = 1 then t else none
theorem zck_use {α : Type} {v : Int32} {t : Option α} {o : α} (h : zck v t = some o) : (v = 0 ∨ v = 1) ∧ t = some o := by
  unfold zck at h
  by_cases c : v = 0 ∨ v = 1
  · rw [if_pos c] at h; exact ⟨c, h⟩
  · rw [if_neg c] at h; cases h
def bnd2 {α β γ : Type} (o : Option (α × β)) (k : α → β → Option γ) : Option γ := o.bind (fun q => k q.1 q.2)
theorem bnd2_use {α β γ : Type} {o : Option (α × β)} {k : α → β → Option γ} {r : γ} (h : bnd2 o k = some r) : ∃ x y, o = some (x, y) ∧ k x y = some r := by
  obtain ⟨⟨x, y⟩, h1, h2⟩ := Option.bind_eq_some_iff.mp h
  exact ⟨x, y, h1, h2⟩
theorem ite_t {α : Type} {c : Prop} {h : Decidable c} {t e o : α} (hw : (@ite α c h t e) = o) (hc : c) : t = o := by rw [if_pos hc] at hw; exact hw
theorem ite_f {α : Type} {c : Prop} {h : Decidable c} {t e o : α} (hw : (@ite α c h t e) = o) (hc : ¬ c) : e = o := by rw [if_neg hc] at hw; exact hw
theorem nz {v : Int32} (h : v = 0 ∨ v = 1) : narrow .boolean (.int v) = .int v := by rcases h with rfl | rfl <;> rfl
theorem i32_ne {x k : Int32} {z : Int} (h : ¬ x = k) (hz : k.toInt = z) : x.toInt ≠ z := fun e => h (Int32.toInt_inj.mp (e.trans hz.symm))
def f_X1_add (X : WS) (p1 : Int32) : Option (Int32 × WS) := (if (X 1 1) < 12 then ixc (X 1 1) 12 (stp (ups X 2 (Int32.toNatClampNeg (X 1 1)) p1) (fun X3 => stp ((X3 1 1) + 1) (fun x4 => stp (ups X3 1 1 x4) (fun X5 => some ((X5 1 1), X5))))) else some ((-104), X))
def f_X3_letter (X : WS) (p1 : Int32) : Option (Int32 × WS) := (if p1 < 1 then some ((-102), X) else (if p1 ≤ 126 then bnd2 (f_X1_add X p1) (fun r3 X4 => some (r3, X4)) else some ((-102), X)))
def f_X4_in (p0 : Int64) (p2 : Int64) (p4 : Int64) : Option Int32 := (if (lg_cmp p0 p2) < 0 then some 0 else (if 0 < (lg_cmp p0 p4) then some 0 else some 1))
def f_X4_letter (X : MS) (p1 : Int32) : Option (Int32 × MS) := (f_X4_in (Int32.toInt64 p1) 1 126).bind (fun r1 => (if r1 = 0 then some ((-102), X) else (if (X.1 0 1) = 12 then some ((-104), X) else ixc (X.1 0 1) 12 (stp (ups X.1 1 (Int32.toNatClampNeg (X.1 0 1)) p1, X.2) (fun X5 => stp ((X5.1 0 1) + 1) (fun x6 => stp (ups X5.1 0 1 x6, X5.2) (fun X7 => some ((X7.1 0 1), X7))))))))
def f_X1_clear (X : WS)  : Option (Int32 × WS) := stp (X 1 1) (fun x1 => stp (ups X 1 1 0) (fun X2 => some (x1, X2)))
def f_X3_blank (X : WS)  : Option (Int32 × WS) := bnd2 (f_X1_clear X) (fun r1 X2 => some (r1, X2))
def f_X4_blank (X : MS)  : Option (Int32 × MS) := stp (X.1 0 1) (fun x1 => stp (ups X.1 0 1 0, X.2) (fun X2 => some (x1, X2)))
def f_X1_fits (p0 : Int32) (p1 : Int32) : Option Int32 := (if 6 ≤ p0 then (if p0 = 6 then (if p1 = 59 then some 1 else some 0) else (if p0 = 7 then (if p1 < 49 then some 0 else (if 57 < p1 then some 0 else some 1)) else (if p0 = 8 then (if p1 < 49 then some 0 else (if 53 < p1 then some 0 else some 1)) else some 0))) else (if p1 < 48 then some 0 else (if 57 < p1 then some 0 else some 1)))
def g_X1_firstWrong_2 (X : WS) : Nat → Int32 → Option Int32
  | 0, _ => none
  | n + 1, v1 => (if (X 1 1) ≤ v1 then some v1 else ixc v1 12 ((f_X1_fits v1 (X 2 (Int32.toNatClampNeg v1))).bind (fun r3 => (if r3 = 0 then some v1 else stp (v1 + 1) (fun x5 => g_X1_firstWrong_2 X n x5)))))
def f_X1_firstWrong (X : WS)  : Option Int32 := g_X1_firstWrong_2 X NF 0
def f_X3_fault (X : WS)  : Option Int32 := (f_X1_firstWrong X).bind (fun r1 => some r1)
def f_X4_isGood (p0 : Int32) (p1 : Int32) : Option Int32 := stp (p1 - 48) (fun x1 => (if p0 = 6 then (if p1 = 59 then some 1 else some 0) else (if 6 ≤ p0 then (if p0 = 7 then (f_X4_in (Int32.toInt64 x1) 1 9).bind (fun r8 => zck r8 (some r8)) else (if p0 = 8 then (f_X4_in (Int32.toInt64 x1) 1 5).bind (fun r6 => (if r6 = 0 then some 0 else some 1)) else some 0)) else (f_X4_in (Int32.toInt64 x1) 0 9).bind (fun r9 => zck r9 (some r9)))))
def g_X4_faultOf_2 (X : MS) : Nat → Int32 → Option Int32
  | 0, _ => none
  | n + 1, v1 => (if (X.1 0 1) ≤ v1 then some v1 else ixc v1 12 ((f_X4_isGood v1 (X.1 1 (Int32.toNatClampNeg v1))).bind (fun r3 => (if r3 = 0 then some v1 else stp (v1 + 1) (fun x5 => g_X4_faultOf_2 X n x5)))))
def f_X4_faultOf (X : MS)  : Option Int32 := g_X4_faultOf_2 X NF 0
def f_X4_fault (X : MS)  : Option Int32 := (f_X4_faultOf X).bind (fun r1 => some r1)
def f_X1_isTown (X : WS)  : Option Int32 := (if (X 1 1) = 9 then (f_X1_firstWrong X).bind (fun r2 => (if r2 = 9 then some 1 else some 0)) else some 0)
def f_X1_digit (X : WS) (p1 : Int32) : Option Int32 := (if p1 < 0 then some 0 else (if 12 ≤ p1 then some 0 else ixc p1 12 (some ((X 2 (Int32.toNatClampNeg p1)) - 48))))
def f_X2_dropTold (X : WS)  : Option (Int32 × WS) := stp (X 3 14) (fun x1 => stp (ups X 3 14 0) (fun X2 => stp (ups X2 3 15 0) (fun X3 => stp (ups X3 3 16 0) (fun X4 => some (x1, X4)))))
def g_X2_begin_2 : Nat → WS → Int32 → Option WS
  | 0, _, _ => none
  | n + 1, X, v2 => (if 6 ≤ v2 then (f_X1_digit X 7).bind (fun r2 => stp (ups X 3 8 r2) (fun X3 => stp (X3 3 8) (fun x4 => stp (ups X3 3 9 x4) (fun X5 => (f_X1_digit X5 8).bind (fun r6 => stp (ups X5 3 10 r6) (fun X7 => stp (ups X7 3 5 0) (fun X8 => stp (ups X8 3 6 0) (fun X9 => stp (ups X9 3 7 0) (fun X10 => stp (ups X10 3 11 0) (fun X11 => stp (ups X11 3 12 1) (fun X12 => stp (ups X12 3 13 1) (fun X13 => bnd2 (f_X2_dropTold X13) (fun r14 X15 => some X15))))))))))))) else (f_X1_digit X v2).bind (fun r16 => ixc v2 6 (stp (ups X 4 (Int32.toNatClampNeg v2) r16) (fun X18 => stp (v2 + 1) (fun x19 => g_X2_begin_2 n X18 x19)))))
def f_X2_begin (X : WS)  : Option WS := g_X2_begin_2 NF X 0
def g_X2_noiseInAll_4 (X : WS) : Nat → Int32 → Int32 → Option Int32
  | 0, _, _ => none
  | n + 1, v1, v2 => (if 6 ≤ v2 then some v1 else ixc v2 6 (stp (v1 + (X 4 (Int32.toNatClampNeg v2))) (fun x3 => stp (v2 + 1) (fun x4 => g_X2_noiseInAll_4 X n x3 x4))))
def f_X2_noiseInAll (X : WS)  : Option Int32 := g_X2_noiseInAll_4 X NF 0 0
def f_X3_town (X : WS)  : Option (Int32 × WS) := (f_X1_isTown X).bind (fun r1 => (if r1 = 0 then some ((-103), X) else (f_X2_begin X).bind (fun X3 => bnd2 (f_X1_clear X3) (fun r4 X5 => stp (ups X5 0 4 0) (fun X6 => stp ((X6 0 5) + 1) (fun x7 => stp (ups X6 0 5 x7) (fun X8 => (f_X2_noiseInAll X8).bind (fun r9 => some (r9, X8)))))))))
def g_X4_town_25 : Nat → MS → Int32 → Int32 → Option (Int32 × MS)
  | 0, _, _, _ => none
  | n + 1, X, v1, v2 => (if 6 ≤ v2 then stp ((X.1 1 (Int32.toNatClampNeg 7)) - 48) (fun x5 => stp (ups X.1 0 2 x5, X.2) (fun X6 => stp (X6.1 0 2) (fun x7 => stp (ups X6.1 0 3 x7, X6.2) (fun X8 => stp ((X8.1 1 (Int32.toNatClampNeg 8)) - 48) (fun x9 => stp (ups X8.1 0 4 x9, X8.2) (fun X10 => stp (ups X10.1 0 5 0, X10.2) (fun X11 => stp (ups X11.1 0 6 0, X11.2) (fun X12 => stp (ups X12.1 0 7 1, X12.2) (fun X13 => stp (ups X13.1 0 8 1, X13.2) (fun X14 => stp (ups X14.1 0 11 0, X14.2) (fun X15 => stp (ups X15.1 0 14 0, X15.2) (fun X16 => stp ((X16.1 0 9) + 1) (fun x17 => stp (ups X16.1 0 9 x17, X16.2) (fun X18 => stp (ups X18.1 0 1 0, X18.2) (fun X19 => some (v1, X19)))))))))))))))) else ixc v2 12 (stp ((X.1 1 (Int32.toNatClampNeg v2)) - 48) (fun x22 => ixc v2 6 (stp (ups X.1 2 (Int32.toNatClampNeg v2) x22, X.2) (fun X23 => ixc v2 6 (stp (v1 + (X23.1 2 (Int32.toNatClampNeg v2))) (fun x25 => stp (v2 + 1) (fun x26 => g_X4_town_25 n X23 x25 x26))))))))
def f_X4_town (X : MS)  : Option (Int32 × MS) := (if (X.1 0 1) = 9 then (f_X4_faultOf X).bind (fun r2 => (if 9 ≤ r2 then g_X4_town_25 NF X 0 0 else some ((-103), X))) else some ((-103), X))
def f_X3_hasTown (X : WS)  : Option Int32 := (if (X 0 5) ≤ 0 then some 0 else some 1)
def f_X3_isPlace (X : WS) (p1 : Int32) : Option Int32 := (f_X3_hasTown X).bind (fun r1 => (if r1 = 0 then some 0 else (if p1 < 0 then some 0 else (if 6 ≤ p1 then some 0 else some 1))))
def f_X3_noise (X : WS) (p1 : Int32) : Option Int32 := (f_X3_isPlace X p1).bind (fun r1 => (if r1 = 0 then some (-101) else ixc p1 6 (some (X 4 (Int32.toNatClampNeg p1)))))
def f_X4_lacks (X : MS)  : Option Int32 := (if (X.1 0 4) = 0 then some 1 else some 0)
def f_X4_isPlace (X : MS) (p1 : Int32) : Option Int32 := (f_X4_lacks X).bind (fun r1 => (if r1 = 0 then (f_X4_in (Int32.toInt64 p1) 0 5).bind (fun r3 => (if r3 = 0 then some 0 else some 1)) else some 0))
def f_X4_noise (X : MS) (p1 : Int32) : Option Int32 := (f_X4_isPlace X p1).bind (fun r1 => (if r1 = 0 then some (-101) else ixc p1 6 (some (X.1 2 (Int32.toNatClampNeg p1)))))
def f_X3_hum (X : WS) (p1 : Int32) (p2 : Int32) : Option (Int32 × WS) := (f_X3_isPlace X p1).bind (fun r1 => (if r1 = 0 then some ((-101), X) else (if p2 < 0 then some ((-102), X) else (if p2 ≤ 9 then ixc p1 6 (stp (X 4 (Int32.toNatClampNeg p1)) (fun x6 => ixc p1 6 (stp (ups X 4 (Int32.toNatClampNeg p1) p2) (fun X8 => some (x6, X8))))) else some ((-102), X)))))
def f_X4_hum (X : MS) (p1 : Int32) (p2 : Int32) : Option (Int32 × MS) := (f_X4_isPlace X p1).bind (fun r1 => (if r1 = 0 then some ((-101), X) else (f_X4_in (Int32.toInt64 p2) 0 9).bind (fun r3 => (if r3 = 0 then some ((-102), X) else ixc p1 6 (stp (X.1 2 (Int32.toNatClampNeg p1)) (fun x6 => ixc p1 6 (stp (ups X.1 2 (Int32.toNatClampNeg p1) p2, X.2) (fun X8 => some (x6, X8)))))))))
def f_X3_isKind (p0 : Int32) : Option Int32 := (if p0 < 0 then some 0 else (if 4 < p0 then some 0 else some 1))
def f_X2_loudNeeded (p0 : Int32) : Option Int32 := (if p0 = 1 then some 5 else (if p0 = 2 then some 3 else some 1))
def f_X2_loudRepeated (p0 : Int32) : Option Int32 := (if p0 = 3 then some 4 else (if p0 = 4 then some 7 else some 0))
def f_X2_settle (X : WS) (p1 : Int32) (p2 : Int32) : Option (Int32 × WS) := stp (X 3 5) (fun x1 => (if x1 < 6 then ixc x1 6 (stp (ups X 5 (Int32.toNatClampNeg x1) p1) (fun X4 => (f_X2_loudNeeded p1).bind (fun r5 => ixc x1 6 (stp (ups X4 6 (Int32.toNatClampNeg x1) r5) (fun X7 => (f_X2_loudRepeated p1).bind (fun r8 => ixc x1 6 (stp (ups X7 7 (Int32.toNatClampNeg x1) r8) (fun X10 => ixc x1 6 (stp (ups X10 8 (Int32.toNatClampNeg x1) p2) (fun X12 => (if p1 = 2 then stp ((X12 3 6) ||| (1 <<< (x1 &&& 31))) (fun x16 => stp (ups X12 3 6 x16) (fun X17 => stp ((X17 3 5) + 1) (fun x18 => stp (ups X17 3 5 x18) (fun X19 => some (x1, X19))))) else stp ((X12 3 5) + 1) (fun x14 => stp (ups X12 3 5 x14) (fun X15 => some (x1, X15)))))))))))))) else some ((-104), X)))
def f_X3_listener (X : WS) (p1 : Int32) (p2 : Int32) : Option (Int32 × WS) := (f_X3_isKind p1).bind (fun r1 => (if r1 = 0 then some ((-102), X) else (f_X3_isPlace X p2).bind (fun r3 => (if r3 = 0 then some ((-101), X) else bnd2 (f_X2_settle X p1 p2) (fun r5 X6 => some (r5, X6))))))
def f_X4_listener (X : MS) (p1 : Int32) (p2 : Int32) : Option (Int32 × MS) := (f_X4_in (Int32.toInt64 p1) 0 4).bind (fun r1 => (if r1 = 0 then some ((-102), X) else (f_X4_isPlace X p2).bind (fun r3 => (if r3 = 0 then some ((-101), X) else (if (X.1 0 11) = 6 then some ((-104), X) else ixc (2 * (X.1 0 11)) 12 (stp (ups X.1 3 (Int32.toNatClampNeg (2 * (X.1 0 11))) p1, X.2) (fun X7 => ixc ((2 * (X7.1 0 11)) + 1) 12 (stp (ups X7.1 3 (Int32.toNatClampNeg ((2 * (X7.1 0 11)) + 1)) p2, X7.2) (fun X9 => stp ((X9.1 0 11) + 1) (fun x10 => stp (ups X9.1 0 11 x10, X9.2) (fun X11 => some (((X11.1 0 11) - 1), X11))))))))))))
def f_X3_isListener (X : WS) (p1 : Int32) : Option Int32 := (if p1 < 0 then some 0 else (if (X 3 5) ≤ p1 then some 0 else some 1))
def f_X2_knowing (X : WS) (p1 : Int32) : Option Int32 := some (p1 &&& ((X 3 6) ^^^ (-1)))
def f_X3_bit (p0 : Int32) (p1 : Int32) : Option Int32 := some ((p0 >>> (p1 &&& 31)) &&& 1)
def f_X3_about (X : WS) (p1 : Int32) (p2 : Int32) : Option Int32 := (f_X3_isListener X p1).bind (fun r1 => (if r1 = 0 then some (-101) else (if p2 = 0 then ixc p1 6 (some (X 5 (Int32.toNatClampNeg p1))) else (if p2 = 1 then ixc p1 6 (some (X 8 (Int32.toNatClampNeg p1))) else (if p2 = 2 then (f_X2_knowing X (X 3 7)).bind (fun r8 => (f_X3_bit r8 p1).bind (fun r9 => some r9)) else (if p2 = 3 then (f_X3_bit (X 3 7) p1).bind (fun r11 => some r11) else (if p2 = 4 then ixc p1 6 (some (X 6 (Int32.toNatClampNeg p1))) else (if p2 = 5 then ixc p1 6 (some (X 7 (Int32.toNatClampNeg p1))) else some (-102)))))))))
def f_X4_isListener (X : MS) (p1 : Int32) : Option Int32 := (f_X4_in (Int32.toInt64 p1) 0 (Int32.toInt64 ((X.1 0 11) - 1))).bind (fun r1 => zck r1 (some r1))
def g_X4_knowing_4 (X : MS) (v1 : Int32) : Nat → Int32 → Int32 → Option Int32
  | 0, _, _ => none
  | n + 1, v2, v3 => (if (X.1 0 11) ≤ v3 then some v2 else ixc (2 * v3) 12 ((if (X.1 3 (Int32.toNatClampNeg (2 * v3))) = 2 then stp (v2 ||| 0) (fun x6 => stp (v3 + 1) (fun x7 => g_X4_knowing_4 X v1 n x6 x7)) else stp (v2 ||| (v1 &&& (1 <<< (v3 &&& 31)))) (fun x4 => stp (v3 + 1) (fun x5 => g_X4_knowing_4 X v1 n x4 x5)))))
def f_X4_knowing (X : MS) (p1 : Int32) : Option Int32 := g_X4_knowing_4 X p1 NF 0 0
def f_X4_needsOf (X : MS) (p1 : Int32) : Option Int32 := ixc (2 * p1) 12 ((if (X.1 3 (Int32.toNatClampNeg (2 * p1))) = 1 then some 5 else ixc (2 * p1) 12 ((if (X.1 3 (Int32.toNatClampNeg (2 * p1))) = 2 then some 3 else some 1))))
def f_X4_criesOf (X : MS) (p1 : Int32) : Option Int32 := ixc (2 * p1) 12 ((if (X.1 3 (Int32.toNatClampNeg (2 * p1))) = 3 then some 4 else ixc (2 * p1) 12 ((if (X.1 3 (Int32.toNatClampNeg (2 * p1))) = 4 then some 7 else some 0))))
def f_X4_listenerOf (X : MS) (p1 : Int32) (p2 : Int32) : Option Int32 := (if p2 = 0 then ixc ((2 * p1) + p2) 12 (some (X.1 3 (Int32.toNatClampNeg ((2 * p1) + p2)))) else (if p2 = 1 then ixc ((2 * p1) + p2) 12 (some (X.1 3 (Int32.toNatClampNeg ((2 * p1) + p2)))) else (if p2 = 2 then (f_X4_knowing X (X.1 0 6)).bind (fun r6 => some ((r6 >>> (p1 &&& 31)) &&& 1)) else (if p2 = 3 then some (((X.1 0 6) >>> (p1 &&& 31)) &&& 1) else (if p2 = 4 then (f_X4_needsOf X p1).bind (fun r9 => some r9) else (if p2 = 5 then (f_X4_criesOf X p1).bind (fun r11 => some r11) else some (-102)))))))
def f_X4_about (X : MS) (p1 : Int32) (p2 : Int32) : Option Int32 := (f_X4_isListener X p1).bind (fun r1 => (if r1 = 0 then some (-101) else (f_X4_listenerOf X p1 p2).bind (fun r3 => some r3)))
def f_X3_isOfKind (p0 : Int32) (p1 : Int32) : Option Int32 := (if p1 = 0 then some 1 else (if p0 = p1 then some 1 else (if p0 = 4 then (if p1 = 3 then some 1 else some 0) else some 0)))
def f_X3_as (X : WS) (p1 : Int32) (p2 : Int32) : Option Int32 := (f_X3_isListener X p1).bind (fun r1 => (if r1 = 0 then some (-101) else (f_X3_isKind p2).bind (fun r3 => (if r3 = 0 then some (-102) else ixc p1 6 ((f_X3_isOfKind (X 5 (Int32.toNatClampNeg p1)) p2).bind (fun r6 => (if r6 = 0 then some (-1) else some p1)))))))
def f_X4_as (X : MS) (p1 : Int32) (p2 : Int32) : Option Int32 := (f_X4_isListener X p1).bind (fun r1 => (if r1 = 0 then some (-101) else (f_X4_in (Int32.toInt64 p2) 0 4).bind (fun r3 => (if r3 = 0 then some (-102) else ixc (2 * p1) 12 (stp (X.1 3 (Int32.toNatClampNeg (2 * p1))) (fun x6 => (if p2 = 0 then some p1 else (if p2 = x6 then some p1 else (if p2 = 3 then (if x6 = 4 then some p1 else some (-1)) else some (-1))))))))))
def f_X3_move (X : WS) (p1 : Int32) (p2 : Int32) : Option (Int32 × WS) := (f_X3_isListener X p1).bind (fun r1 => (if r1 = 0 then some ((-101), X) else (f_X3_isPlace X p2).bind (fun r3 => (if r3 = 0 then some ((-101), X) else ixc p1 6 (stp (X 8 (Int32.toNatClampNeg p1)) (fun x6 => ixc p1 6 (stp (ups X 8 (Int32.toNatClampNeg p1) p2) (fun X8 => some (x6, X8)))))))))
def f_X4_move (X : MS) (p1 : Int32) (p2 : Int32) : Option (Int32 × MS) := (f_X4_isListener X p1).bind (fun r1 => (if r1 = 0 then some ((-101), X) else (f_X4_isPlace X p2).bind (fun r3 => (if r3 = 0 then some ((-101), X) else ixc ((2 * p1) + 1) 12 (stp (X.1 3 (Int32.toNatClampNeg ((2 * p1) + 1))) (fun x6 => ixc ((2 * p1) + 1) 12 (stp (ups X.1 3 (Int32.toNatClampNeg ((2 * p1) + 1)) p2, X.2) (fun X8 => some (x6, X8)))))))))
def f_X3_isLoud (p0 : Int32) : Option Int32 := (if p0 < 1 then some 0 else (if 9 < p0 then some 0 else some 1))
def g_X2_hearing_5 (X : WS) (v1 : Int32) (v2 : Int32) : Nat → Int32 → Int32 → Option Int32
  | 0, _, _ => none
  | n + 1, v3, v4 => (if (X 3 5) ≤ v4 then some v3 else ixc v4 6 (stp (X 8 (Int32.toNatClampNeg v4)) (fun x3 => (if v1 ≤ x3 then stp (x3 - v1) (fun x5 => ixc x3 6 (ixc v4 6 ((if ((v2 - (2 * x5)) - (X 4 (Int32.toNatClampNeg x3))) < (X 6 (Int32.toNatClampNeg v4)) then stp (v4 + 1) (fun x9 => g_X2_hearing_5 X v1 v2 n v3 x9) else stp (v3 ||| (1 <<< (v4 &&& 31))) (fun x10 => stp (v4 + 1) (fun x11 => g_X2_hearing_5 X v1 v2 n x10 x11)))))) else stp (v1 - x3) (fun x12 => ixc x3 6 (ixc v4 6 ((if ((v2 - (2 * x12)) - (X 4 (Int32.toNatClampNeg x3))) < (X 6 (Int32.toNatClampNeg v4)) then stp (v4 + 1) (fun x16 => g_X2_hearing_5 X v1 v2 n v3 x16) else stp (v3 ||| (1 <<< (v4 &&& 31))) (fun x17 => stp (v4 + 1) (fun x18 => g_X2_hearing_5 X v1 v2 n x17 x18))))))))))
def f_X2_hearing (X : WS) (p1 : Int32) (p2 : Int32) : Option Int32 := g_X2_hearing_5 X p1 p2 NF 0 0
def g_X2_repeatedBy_4 (X : WS) (v1 : Int32) : Nat → Int32 → Int32 → Option Int32
  | 0, _, _ => none
  | n + 1, v2, v3 => (if (X 3 5) ≤ v3 then some v2 else (if ((v1 >>> (v3 &&& 31)) &&& 1) = 1 then ixc v3 6 ((if (X 7 (Int32.toNatClampNeg v3)) ≤ 0 then stp (v3 + 1) (fun x6 => g_X2_repeatedBy_4 X v1 n v2 x6) else ixc v3 6 (ixc v3 6 ((f_X2_hearing X (X 8 (Int32.toNatClampNeg v3)) (X 7 (Int32.toNatClampNeg v3))).bind (fun r9 => stp (v2 ||| r9) (fun x10 => stp (v3 + 1) (fun x11 => g_X2_repeatedBy_4 X v1 n x10 x11))))))) else stp (v3 + 1) (fun x3 => g_X2_repeatedBy_4 X v1 n v2 x3)))
def f_X2_repeatedBy (X : WS) (p1 : Int32) : Option Int32 := g_X2_repeatedBy_4 X p1 NF 0 0
def g_X2_spread_26 (X : WS) (v4 : Int32) : Nat → Int32 → Int32 → Int32 → Option Int32
  | 0, _, _, _ => none
  | n + 1, v5, v6, v7 => (if (X 3 5) ≤ v7 then some v5 else (if v6 = 0 then some v5 else (f_X2_repeatedBy X v6).bind (fun r6 => stp (r6 &&& (v4 ^^^ (-1))) (fun x7 => stp (x7 &&& (v5 ^^^ (-1))) (fun x8 => stp (v5 ||| x7) (fun x9 => stp (v7 + 1) (fun x10 => g_X2_spread_26 X v4 n x9 x8 x10)))))))
def f_X2_spread (X : WS) (p1 : Int32) (p2 : Int32) (p3 : Int32) (p4 : Int32) : Option Int32 := (f_X2_hearing X p2 p3).bind (fun r1 => stp (p1 ||| (r1 &&& (p4 ^^^ (-1)))) (fun x2 => stp (x2 &&& (p1 ^^^ (-1))) (fun x3 => g_X2_spread_26 X p4 NF x2 x3 0)))
def f_J6_bitCount_0f7a4 (p0 : Int32) : Option Int32 := stp (p0 - ((UInt32.toInt32 (Int32.toUInt32 p0 >>> (Int32.toUInt32 1 &&& Int32.toUInt32 31))) &&& 1431655765)) (fun x1 => stp ((x1 &&& 858993459) + ((UInt32.toInt32 (Int32.toUInt32 x1 >>> (Int32.toUInt32 2 &&& Int32.toUInt32 31))) &&& 858993459)) (fun x2 => stp ((x2 + (UInt32.toInt32 (Int32.toUInt32 x2 >>> (Int32.toUInt32 4 &&& Int32.toUInt32 31)))) &&& 252645135) (fun x3 => stp (x3 + (UInt32.toInt32 (Int32.toUInt32 x3 >>> (Int32.toUInt32 8 &&& Int32.toUInt32 31)))) (fun x4 => stp (x4 + (UInt32.toInt32 (Int32.toUInt32 x4 >>> (Int32.toUInt32 16 &&& Int32.toUInt32 31)))) (fun x5 => some (x5 &&& 63))))))
def f_X2_proclaim (X : WS) (p1 : Int32) (p2 : Int32) : Option (Int32 × WS) := (f_X2_spread X (X 3 7) p1 p2 0).bind (fun r1 => (f_X2_knowing X (r1 &&& ((X 3 7) ^^^ (-1)))).bind (fun r2 => stp (ups X 3 7 r1) (fun X3 => stp ((X3 3 9) - 1) (fun x4 => stp (ups X3 3 9 x4) (fun X5 => stp ((X5 3 11) + 1) (fun x6 => stp (ups X5 3 11 x6) (fun X7 => (f_J6_bitCount_0f7a4 r2).bind (fun r8 => some (r8, X7)))))))))
def f_X3_cry (X : WS) (p1 : Int32) (p2 : Int32) : Option (Int32 × WS) := (f_X3_isPlace X p1).bind (fun r1 => (if r1 = 0 then some ((-101), X) else (f_X3_isLoud p2).bind (fun r3 => (if r3 = 0 then some ((-102), X) else (if p2 ≤ (X 3 9) then bnd2 (f_X2_proclaim X p1 p2) (fun r6 X7 => some (r6, X7)) else some ((-103), X))))))
def g_X4_ones_4 (v0 : Int32) : Nat → Int32 → Int32 → Option Int32
  | 0, _, _ => none
  | n + 1, v1, v2 => (if 6 ≤ v2 then some v1 else stp (v1 + ((v0 >>> (v2 &&& 31)) &&& 1)) (fun x2 => stp (v2 + 1) (fun x3 => g_X4_ones_4 v0 n x2 x3)))
def f_X4_ones (p0 : Int32) : Option Int32 := g_X4_ones_4 p0 NF 0 0
def f_X4_allListeners (X : MS)  : Option Int32 := some ((1 <<< ((X.1 0 11) &&& 31)) - 1)
def g_X4_hearing_6 (X : MS) (v1 : Int32) (v2 : Int32) (v3 : Int32) : Nat → Int32 → Int32 → Option Int32
  | 0, _, _ => none
  | n + 1, v4, v5 => (if (X.1 0 11) ≤ v5 then some v4 else ixc ((2 * v5) + 1) 12 (stp (X.1 3 (Int32.toNatClampNeg ((2 * v5) + 1))) (fun x3 => (if x3 ≤ v1 then stp (v1 - x3) (fun x5 => ixc x3 6 ((f_X4_needsOf X v5).bind (fun r7 => (if ((v2 - (2 * x5)) - (X.1 2 (Int32.toNatClampNeg x3))) < r7 then stp (v4 ||| 0) (fun x10 => stp (v5 + 1) (fun x11 => g_X4_hearing_6 X v1 v2 v3 n x10 x11)) else stp (v4 ||| (v3 &&& (1 <<< (v5 &&& 31)))) (fun x13 => stp (v5 + 1) (fun x14 => g_X4_hearing_6 X v1 v2 v3 n x13 x14)))))) else stp (x3 - v1) (fun x15 => ixc x3 6 ((f_X4_needsOf X v5).bind (fun r17 => (if ((v2 - (2 * x15)) - (X.1 2 (Int32.toNatClampNeg x3))) < r17 then stp (v4 ||| 0) (fun x20 => stp (v5 + 1) (fun x21 => g_X4_hearing_6 X v1 v2 v3 n x20 x21)) else stp (v4 ||| (v3 &&& (1 <<< (v5 &&& 31)))) (fun x23 => stp (v5 + 1) (fun x24 => g_X4_hearing_6 X v1 v2 v3 n x23 x24))))))))))
def f_X4_hearing (X : MS) (p1 : Int32) (p2 : Int32) (p3 : Int32) : Option Int32 := g_X4_hearing_6 X p1 p2 p3 NF 0 0
def g_X4_heardBy_30 (X : MS) (k16 : Int32 → Int32 → Option Int32) (v3 : Int32) : Nat → Int32 → Int32 → Int32 → Int32 → Option Int32
  | 0, _, _, _, _ => none
  | n + 1, v5, v6, v7, v8 => (if (X.1 0 11) ≤ v8 then k16 v7 v5 else (if ((v5 >>> (v8 &&& 31)) &&& 1) = 1 then (if ((v6 >>> (v8 &&& 31)) &&& 1) = 0 then (f_X4_criesOf X v8).bind (fun r13 => (if r13 ≤ 0 then stp (v7 ||| 0) (fun x16 => stp (v8 + 1) (fun x17 => g_X4_heardBy_30 X k16 v3 n v5 v6 x16 x17)) else ixc ((2 * v8) + 1) 12 ((f_X4_criesOf X v8).bind (fun r20 => (f_X4_hearing X (X.1 3 (Int32.toNatClampNeg ((2 * v8) + 1))) r20 v3).bind (fun r21 => stp (v7 ||| r21) (fun x22 => stp (v8 + 1) (fun x23 => g_X4_heardBy_30 X k16 v3 n v5 v6 x22 x23))))))) else stp (v7 ||| 0) (fun x11 => stp (v8 + 1) (fun x12 => g_X4_heardBy_30 X k16 v3 n v5 v6 x11 x12))) else stp (v7 ||| 0) (fun x7 => stp (v8 + 1) (fun x8 => g_X4_heardBy_30 X k16 v3 n v5 v6 x7 x8))))
def g_X4_heardBy_16 (X : MS) (v3 : Int32) : Nat → Int32 → Int32 → Option Int32
  | 0, _, _ => none
  | n + 1, v5, v6 => (if v6 = v5 then some v5 else g_X4_heardBy_30 X (g_X4_heardBy_16 X v3 n) v3 NF v5 v6 v5 0)
def f_X4_heardBy (X : MS) (p1 : Int32) (p2 : Int32) (p3 : Int32) (p4 : Int32) : Option Int32 := (f_X4_hearing X p1 p2 p3).bind (fun r1 => stp (p4 ||| r1) (fun x2 => g_X4_heardBy_16 X p3 NF x2 p4))
def f_X4_cry (X : MS) (p1 : Int32) (p2 : Int32) : Option (Int32 × MS) := (f_X4_isPlace X p1).bind (fun r1 => (if r1 = 0 then some ((-101), X) else (f_X4_in (Int32.toInt64 p2) 1 9).bind (fun r3 => (if r3 = 0 then some ((-102), X) else (if p2 ≤ (X.1 0 3) then (f_X4_knowing X (X.1 0 6)).bind (fun r6 => (f_X4_ones r6).bind (fun r7 => (f_X4_allListeners X).bind (fun r8 => (f_X4_heardBy X p1 p2 r8 (X.1 0 6)).bind (fun r9 => stp (ups X.1 0 6 r9, X.2) (fun X10 => stp ((X10.1 0 3) - 1) (fun x11 => stp (ups X10.1 0 3 x11, X10.2) (fun X12 => stp ((X12.1 0 5) + 1) (fun x13 => stp (ups X12.1 0 5 x13, X12.2) (fun X14 => (f_X4_knowing X14 (X14.1 0 6)).bind (fun r15 => (f_X4_ones r15).bind (fun r16 => some ((r16 - r7), X14)))))))))))) else some ((-103), X))))))
def f_X3_would (X : WS) (p1 : Int32) (p2 : Int32) : Option Int32 := (f_X3_isPlace X p1).bind (fun r1 => (if r1 = 0 then some (-101) else (f_X3_isLoud p2).bind (fun r3 => (if r3 = 0 then some (-102) else (f_X2_spread X (X 3 7) p1 p2 0).bind (fun r5 => (f_X2_knowing X r5).bind (fun r6 => some r6))))))
def f_X4_knowThen (X : MS) (p1 : Int32) (p2 : Int32) (p3 : Int32) : Option Int32 := (f_X4_allListeners X).bind (fun r1 => (f_X4_heardBy X p1 p2 r1 p3).bind (fun r2 => (f_X4_knowing X r2).bind (fun r3 => some r3)))
def f_X4_would (X : MS) (p1 : Int32) (p2 : Int32) : Option Int32 := (f_X4_isPlace X p1).bind (fun r1 => (if r1 = 0 then some (-101) else (f_X4_in (Int32.toInt64 p2) 1 9).bind (fun r3 => (if r3 = 0 then some (-102) else (f_X4_knowThen X p1 p2 (X.1 0 6)).bind (fun r5 => some r5)))))
def f_J9_min_7cf53 (p0 : Int32) (p1 : Int32) : Option Int32 := (if p1 < p0 then some p1 else some p0)
def f_X2_sweeten (X : WS)  : Option (Int32 × WS) := (f_J9_min_7cf53 9 ((X 3 9) + 2)).bind (fun r1 => stp (ups X 3 9 r1) (fun X2 => some ((X2 3 9), X2)))
def f_X3_honey (X : WS)  : Option (Int32 × WS) := (f_X3_hasTown X).bind (fun r1 => (if r1 = 0 then some ((-103), X) else bnd2 (f_X2_sweeten X) (fun r3 X4 => some (r3, X4))))
def f_X4_honey (X : MS)  : Option (Int32 × MS) := (f_X4_lacks X).bind (fun r1 => (if r1 = 0 then (if ((X.1 0 3) + 2) ≤ 9 then stp ((X.1 0 3) + 2) (fun x4 => stp (ups X.1 0 3 x4, X.2) (fun X5 => some ((X5.1 0 3), X5))) else stp (ups X.1 0 3 9, X.2) (fun X6 => some ((X6.1 0 3), X6))) else some ((-103), X)))
def f_X2_sleep (X : WS)  : Option (Int32 × WS) := stp ((X 3 13) + 1) (fun x1 => stp (ups X 3 13 x1) (fun X2 => stp (X2 3 8) (fun x3 => stp (ups X2 3 9 x3) (fun X4 => some ((X4 3 9), X4)))))
def f_X3_day (X : WS)  : Option (Int32 × WS) := (f_X3_hasTown X).bind (fun r1 => (if r1 = 0 then some ((-103), X) else bnd2 (f_X2_sleep X) (fun r3 X4 => some (r3, X4))))
def f_X4_day (X : MS)  : Option (Int32 × MS) := (f_X4_lacks X).bind (fun r1 => (if r1 = 0 then stp (X.1 0 2) (fun x3 => stp (ups X.1 0 3 x3, X.2) (fun X4 => stp ((X4.1 0 8) + 1) (fun x5 => stp (ups X4.1 0 8 x5, X4.2) (fun X6 => some ((X6.1 0 3), X6))))) else some ((-103), X)))
def f_X2_renew (X : WS)  : Option (Int32 × WS) := (if (X 3 11) < (X 3 10) then stp (ups X 3 7 0) (fun X2 => stp (ups X2 3 11 0) (fun X3 => stp ((X3 3 12) + 1) (fun x4 => stp (ups X3 3 12 x4) (fun X5 => some (0, X5))))) else stp (ups X 3 7 0) (fun X6 => stp (ups X6 3 11 0) (fun X7 => stp ((X7 3 12) + 1) (fun x8 => stp (ups X7 3 12 x8) (fun X9 => some (1, X9))))))
def f_X3_decree (X : WS)  : Option (Int32 × WS) := (f_X3_hasTown X).bind (fun r1 => (if r1 = 0 then some ((-103), X) else bnd2 (f_X2_renew X) (fun r3 X4 => some (r3, X4))))
def f_X4_decree (X : MS)  : Option (Int32 × MS) := (f_X4_lacks X).bind (fun r1 => (if r1 = 0 then (if (X.1 0 5) < (X.1 0 4) then stp (ups X.1 0 5 0, X.2) (fun X4 => stp (ups X4.1 0 6 0, X4.2) (fun X5 => stp ((X5.1 0 7) + 1) (fun x6 => stp (ups X5.1 0 7 x6, X5.2) (fun X7 => some (0, X7))))) else stp (ups X.1 0 5 0, X.2) (fun X8 => stp (ups X8.1 0 6 0, X8.2) (fun X9 => stp ((X9.1 0 7) + 1) (fun x10 => stp (ups X9.1 0 7 x10, X9.2) (fun X11 => some (1, X11)))))) else some ((-103), X)))
def g_X0_whisper_12 : Nat → WS → Int32 → Option WS
  | 0, _, _ => none
  | n + 1, X, v2 => (if 6 ≤ v2 then some X else (if (X 3 9) < 1 then some X else (f_X2_spread X (X 3 7) v2 1 0).bind (fun r5 => (f_X2_knowing X r5).bind (fun r6 => (f_J6_bitCount_0f7a4 r6).bind (fun r7 => (if (X 15 1) = (-1) then stp (ups X 15 1 v2) (fun X9 => stp (ups X9 15 2 r7) (fun X10 => stp (v2 + 1) (fun x11 => g_X0_whisper_12 n X10 x11))) else (if (X 15 2) ≤ r7 then stp (v2 + 1) (fun x13 => g_X0_whisper_12 n X x13) else stp (ups X 15 1 v2) (fun X14 => stp (ups X14 15 2 r7) (fun X15 => stp (v2 + 1) (fun x16 => g_X0_whisper_12 n X15 x16))))))))))
def f_X0_whisper (X : WS)  : Option WS := stp (ups X 15 1 (-1)) (fun X1 => stp (ups X1 15 2 (-1)) (fun X2 => g_X0_whisper_12 NF X2 0))
def f_X3_least (X : WS) (p1 : Int32) : Option (Int32 × WS) := (if p1 < 0 then some ((-102), X) else (if p1 ≤ 1 then (f_X3_hasTown X).bind (fun r3 => (if r3 = 0 then some ((-103), X) else (f_X0_whisper X).bind (fun X5 => (if p1 = 0 then some ((X5 15 1), X5) else some ((X5 15 2), X5))))) else some ((-102), X)))
def g_X4_leastOf_7 (X : MS) (v1 : Int32) : Nat → Int32 → Int32 → Int32 → Option Int32
  | 0, _, _, _ => none
  | n + 1, v2, v3, v4 => (if v4 < 0 then (if v1 = 0 then some v2 else some v3) else (if (X.1 0 3) ≤ 0 then (if v1 = 0 then some v2 else some v3) else (f_X4_knowThen X v4 1 (X.1 0 6)).bind (fun r5 => (f_X4_ones r5).bind (fun r6 => (if v3 = (-1) then (if v3 = (-1) then stp (v4 + (-1)) (fun x9 => g_X4_leastOf_7 X v1 n v4 r6 x9) else (if v3 ≤ r6 then stp (v4 + (-1)) (fun x11 => g_X4_leastOf_7 X v1 n v4 v3 x11) else stp (v4 + (-1)) (fun x12 => g_X4_leastOf_7 X v1 n v4 r6 x12))) else (if v3 < r6 then (if v3 = (-1) then stp (v4 + (-1)) (fun x15 => g_X4_leastOf_7 X v1 n v2 r6 x15) else (if v3 ≤ r6 then stp (v4 + (-1)) (fun x17 => g_X4_leastOf_7 X v1 n v2 v3 x17) else stp (v4 + (-1)) (fun x18 => g_X4_leastOf_7 X v1 n v2 r6 x18))) else (if v3 = (-1) then stp (v4 + (-1)) (fun x20 => g_X4_leastOf_7 X v1 n v4 r6 x20) else (if v3 ≤ r6 then stp (v4 + (-1)) (fun x22 => g_X4_leastOf_7 X v1 n v4 v3 x22) else stp (v4 + (-1)) (fun x23 => g_X4_leastOf_7 X v1 n v4 r6 x23)))))))))
def f_X4_leastOf (X : MS) (p1 : Int32) : Option Int32 := g_X4_leastOf_7 X p1 NF (-1) (-1) 5
def f_X4_least (X : MS) (p1 : Int32) : Option Int32 := (f_X4_in (Int32.toInt64 p1) 0 1).bind (fun r1 => (if r1 = 0 then some (-102) else (f_X4_lacks X).bind (fun r3 => (if r3 = 0 then (f_X4_leastOf X p1).bind (fun r5 => some r5) else some (-103)))))
def f_X2_everyone (X : WS)  : Option Int32 := some ((1 <<< ((X 3 5) &&& 31)) - 1)
def g_X0_planFrom_48 (X : WS) (rec : Int32 → Int32 → Int32 → Int32 → Option Int32) (v1 : Int32) (v2 : Int32) (v3 : Int32) (v4 : Int32) (v5 : Int32) : Nat → Int32 → Option Int32
  | 0, _ => none
  | n + 1, v6 => (if 6 ≤ v6 then some (-1) else (f_X2_spread X v2 v6 v5 0).bind (fun r8 => (rec v1 r8 (v3 + 1) v4).bind (fun r9 => (if r9 = (-1) then stp (v6 + 1) (fun x11 => g_X0_planFrom_48 X rec v1 v2 v3 v4 v5 n x11) else some ((r9 <<< (3 &&& 31)) ||| v6)))))
def f_X0_planFrom (X : WS) : Nat → Int32 → Int32 → Int32 → Int32 → Option Int32
  | 0, _, _, _, _ => none
  | n + 1, p1, p2, p3, p4 => (if p4 ≤ p3 then (f_X2_knowing X p2).bind (fun r2 => (if (p1 &&& (r2 ^^^ (-1))) = 0 then some 0 else some (-1))) else (if p3 < 3 then stp ((X 3 9) - p3) (fun x5 => (if 1 ≤ x5 then g_X0_planFrom_48 X (f_X0_planFrom X n) p1 p2 p3 p4 x5 NF 0 else some (-1))) else (f_X2_knowing X p2).bind (fun r12 => (if (p1 &&& (r12 ^^^ (-1))) = 0 then some 0 else some (-1)))))
def g_X0_coverPlan_2 (X : WS) (v1 : Int32) : Nat → Int32 → Option Int32
  | 0, _ => none
  | n + 1, v2 => (if 3 < v2 then some (-1) else (f_X0_planFrom X 10 v1 (X 3 7) 0 v2).bind (fun r2 => (if r2 = (-1) then stp (v2 + 1) (fun x4 => g_X0_coverPlan_2 X v1 n x4) else some ((r2 <<< (2 &&& 31)) ||| v2))))
def f_X0_coverPlan (X : WS) (p1 : Int32) : Option Int32 := g_X0_coverPlan_2 X p1 NF 0
def f_X0_partOfPlan (p0 : Int32) (p1 : Int32) : Option Int32 := (if 0 ≤ p0 then stp (p0 &&& 3) (fun x2 => (if p1 = 0 then some x2 else stp (p1 - 10) (fun x4 => (if x4 < 0 then some (-1) else (if x4 < x2 then some ((p0 >>> ((2 + (3 * x4)) &&& 31)) &&& 7) else some (-1)))))) else some p0)
def f_X3_cover (X : WS) (p1 : Int32) (p2 : Int32) : Option Int32 := (if p2 = 0 then (if p1 < 0 then some (-102) else (f_X2_everyone X).bind (fun r3 => (if r3 < p1 then some (-102) else (f_X3_hasTown X).bind (fun r6 => (if r6 = 0 then some (-103) else (f_X0_coverPlan X p1).bind (fun r8 => (f_X0_partOfPlan r8 p2).bind (fun r9 => some r9))))))) else (if p2 < 10 then (if p1 < 0 then some (-102) else (f_X2_everyone X).bind (fun r12 => (if r12 < p1 then some (-102) else some (-102)))) else (if 12 < p2 then (if p1 < 0 then some (-102) else (f_X2_everyone X).bind (fun r17 => (if r17 < p1 then some (-102) else some (-102)))) else (if p1 < 0 then some (-102) else (f_X2_everyone X).bind (fun r21 => (if r21 < p1 then some (-102) else (f_X3_hasTown X).bind (fun r24 => (if r24 = 0 then some (-103) else (f_X0_coverPlan X p1).bind (fun r26 => (f_X0_partOfPlan r26 p2).bind (fun r27 => some r27))))))))))
def g_X4_isCovered_47 (v1 : Int32) (v2 : Int32) : Nat → MS → Int32 → Int32 → Option (Int32 × MS)
  | 0, _, _, _ => none
  | n + 1, X, v5, v6 => (if v2 ≤ v6 then (f_X4_knowing X v5).bind (fun r5 => (if (v1 &&& (r5 ^^^ (-1))) = 0 then some (1, X) else some (0, X))) else ixc v6 3 ((f_X4_allListeners X).bind (fun r8 => (f_X4_heardBy X (X.1 4 (Int32.toNatClampNeg v6)) ((X.1 0 3) - v6) r8 v5).bind (fun r9 => stp (v6 + 1) (fun x10 => g_X4_isCovered_47 v1 v2 n X r9 x10)))))
def g_X4_isCovered_8 (v1 : Int32) (v2 : Int32) : Nat → MS → Int32 → Int32 → Option (Int32 × MS)
  | 0, _, _, _ => none
  | n + 1, X, v4, v5 => (if v5 < 0 then stp (X.1 0 6) (fun x3 => g_X4_isCovered_47 v1 v2 NF X x3 0) else stp (v4 - v4 / 6 * 6) (fun x12 => ixc v5 3 (stp (ups X.1 4 (Int32.toNatClampNeg v5) x12, X.2) (fun X13 => stp (v4 / 6) (fun x14 => stp (v5 + (-1)) (fun x15 => g_X4_isCovered_8 v1 v2 n X13 x14 x15))))))
def f_X4_isCovered (X : MS) (p1 : Int32) (p2 : Int32) (p3 : Int32) : Option (Int32 × MS) := stp (p2 - 1) (fun x1 => g_X4_isCovered_8 p1 p2 NF X p3 x1)
def g_X4_coverOf_23 (k5 : MS → Int32 → Int32 → Option (Int32 × MS)) (v1 : Int32) (v2 : Int32) : Nat → MS → Int32 → Int32 → Int32 → Option (Int32 × MS)
  | 0, _, _, _, _ => none
  | n + 1, X, v3, v4, v5 => (if v3 ≤ v5 then stp (v3 * 6) (fun x4 => stp (v4 + 1) (fun x5 => k5 X x4 x5)) else bnd2 (f_X4_isCovered X v1 v4 v5) (fun r6 X7 => (if r6 = 0 then stp (v5 + 1) (fun x9 => g_X4_coverOf_23 k5 v1 v2 n X7 v3 v4 x9) else (if v2 = 0 then some (v4, X7) else (if v4 ≤ (v2 - 10) then some ((-1), X7) else ixc (v2 - 10) 3 (some ((X7.1 4 (Int32.toNatClampNeg (v2 - 10))), X7)))))))
def g_X4_coverOf_5 (v1 : Int32) (v2 : Int32) : Nat → MS → Int32 → Int32 → Option (Int32 × MS)
  | 0, _, _, _ => none
  | n + 1, X, v3, v4 => (if 4 ≤ v4 then some ((-1), X) else (if (X.1 0 3) < v4 then some ((-1), X) else g_X4_coverOf_23 (g_X4_coverOf_5 v1 v2 n) v1 v2 NF X v3 v4 0))
def f_X4_coverOf (X : MS) (p1 : Int32) (p2 : Int32) : Option (Int32 × MS) := g_X4_coverOf_5 p1 p2 NF X 1 0
def f_X4_cover (X : MS) (p1 : Int32) (p2 : Int32) : Option (Int32 × MS) := (f_X4_allListeners X).bind (fun r1 => (f_X4_in (Int32.toInt64 p1) 0 (Int32.toInt64 r1)).bind (fun r2 => (if r2 = 0 then some ((-102), X) else (if p2 = 0 then (f_X4_lacks X).bind (fun r5 => (if r5 = 0 then bnd2 (f_X4_coverOf X p1 p2) (fun r7 X8 => some (r7, X8)) else some ((-103), X))) else (f_X4_in (Int32.toInt64 p2) 10 12).bind (fun r9 => (if r9 = 0 then some ((-102), X) else (f_X4_lacks X).bind (fun r11 => (if r11 = 0 then bnd2 (f_X4_coverOf X p1 p2) (fun r13 X14 => some (r13, X14)) else some ((-103), X)))))))))
def f_X0_learns (X : WS) (p1 : Int32) (p2 : Int32) (p3 : Int32) (p4 : Int32) : Option Int32 := (f_X2_spread X 0 p2 p3 p4).bind (fun r1 => (f_X2_knowing X r1).bind (fun r2 => (if ((r2 >>> (p1 &&& 31)) &&& 1) = 1 then some 1 else some 0)))
def g_X0_sentAway_12 (X : WS) (v1 : Int32) (v2 : Int32) (v3 : Int32) (v5 : Int32) : Nat → Int32 → Int32 → Option Int32
  | 0, _, _ => none
  | n + 1, v4, v6 => (if v5 < v6 then some v4 else (if ((v6 >>> (v1 &&& 31)) &&& 1) = 0 then (if v4 = (-1) then (f_X0_learns X v1 v2 v3 v6).bind (fun r17 => (if r17 = 0 then stp (v6 + 1) (fun x20 => g_X0_sentAway_12 X v1 v2 v3 v5 n v6 x20) else stp (v6 + 1) (fun x19 => g_X0_sentAway_12 X v1 v2 v3 v5 n v4 x19))) else (f_J6_bitCount_0f7a4 v6).bind (fun r21 => (f_J6_bitCount_0f7a4 v4).bind (fun r22 => (if r22 ≤ r21 then stp (v6 + 1) (fun x26 => g_X0_sentAway_12 X v1 v2 v3 v5 n v4 x26) else (f_X0_learns X v1 v2 v3 v6).bind (fun r29 => (if r29 = 0 then stp (v6 + 1) (fun x32 => g_X0_sentAway_12 X v1 v2 v3 v5 n v6 x32) else stp (v6 + 1) (fun x31 => g_X0_sentAway_12 X v1 v2 v3 v5 n v4 x31))))))) else (if v4 = (-1) then stp (v6 + 1) (fun x6 => g_X0_sentAway_12 X v1 v2 v3 v5 n v4 x6) else (f_J6_bitCount_0f7a4 v6).bind (fun r7 => (f_J6_bitCount_0f7a4 v4).bind (fun r8 => (if r8 ≤ r7 then stp (v6 + 1) (fun x11 => g_X0_sentAway_12 X v1 v2 v3 v5 n v4 x11) else stp (v6 + 1) (fun x13 => g_X0_sentAway_12 X v1 v2 v3 v5 n v4 x13)))))))
def f_X0_sentAway (X : WS) (p1 : Int32) (p2 : Int32) (p3 : Int32) : Option Int32 := (f_X2_everyone X).bind (fun r1 => g_X0_sentAway_12 X p1 p2 p3 r1 NF (-1) 0)
def f_X3_howMany (p0 : Int32) : Option Int32 := (if 0 ≤ p0 then (f_J6_bitCount_0f7a4 p0).bind (fun r2 => some r2) else some p0)
def f_X3_hush (X : WS) (p1 : Int32) (p2 : Int32) (p3 : Int32) (p4 : Int32) : Option Int32 := (f_X3_isListener X p1).bind (fun r1 => (if r1 = 0 then some (-101) else (f_X3_isPlace X p2).bind (fun r3 => (if r3 = 0 then some (-101) else (f_X3_isLoud p3).bind (fun r5 => (if r5 = 0 then some (-102) else (if p4 < 0 then some (-102) else (if p4 ≤ 1 then (f_X0_sentAway X p1 p2 p3).bind (fun r9 => (if p4 = 0 then (f_X3_howMany r9).bind (fun r11 => some r11) else some r9)) else some (-102)))))))))
def g_X4_hushOf_6 (X : MS) (v1 : Int32) (v2 : Int32) (v3 : Int32) : Nat → Int32 → Int32 → Option Int32
  | 0, _, _ => none
  | n + 1, v4, v5 => (f_X4_allListeners X).bind (fun r1 => (if r1 < v5 then some v4 else (if ((v5 >>> (v1 &&& 31)) &&& 1) = 0 then (if v4 = (-1) then (f_X4_allListeners X).bind (fun r9 => (f_X4_heardBy X v2 v3 (r9 &&& (v5 ^^^ (-1))) 0).bind (fun r10 => (f_X4_knowing X r10).bind (fun r12 => (if ((r12 >>> (v1 &&& 31)) &&& 1) = 0 then stp (v5 + 1) (fun x15 => g_X4_hushOf_6 X v1 v2 v3 n v5 x15) else stp (v5 + 1) (fun x14 => g_X4_hushOf_6 X v1 v2 v3 n v4 x14))))) else (f_X4_ones v5).bind (fun r16 => (f_X4_ones v4).bind (fun r17 => (if r17 ≤ r16 then (f_X4_allListeners X).bind (fun r19 => (f_X4_heardBy X v2 v3 (r19 &&& (v5 ^^^ (-1))) 0).bind (fun r20 => stp (v5 + 1) (fun x22 => g_X4_hushOf_6 X v1 v2 v3 n v4 x22))) else (f_X4_allListeners X).bind (fun r23 => (f_X4_heardBy X v2 v3 (r23 &&& (v5 ^^^ (-1))) 0).bind (fun r24 => (f_X4_knowing X r24).bind (fun r26 => (if ((r26 >>> (v1 &&& 31)) &&& 1) = 0 then stp (v5 + 1) (fun x29 => g_X4_hushOf_6 X v1 v2 v3 n v5 x29) else stp (v5 + 1) (fun x28 => g_X4_hushOf_6 X v1 v2 v3 n v4 x28))))))))) else (f_X4_allListeners X).bind (fun r4 => (f_X4_heardBy X v2 v3 (r4 &&& (v5 ^^^ (-1))) 0).bind (fun r5 => stp (v5 + 1) (fun x7 => g_X4_hushOf_6 X v1 v2 v3 n v4 x7))))))
def f_X4_hushOf (X : MS) (p1 : Int32) (p2 : Int32) (p3 : Int32) : Option Int32 := g_X4_hushOf_6 X p1 p2 p3 NF (-1) 0
def f_X4_tellHush (X : MS) (p1 : Int32) (p2 : Int32) (p3 : Int32) (p4 : Int32) : Option Int32 := (f_X4_hushOf X p1 p2 p3).bind (fun r1 => (if r1 = (-1) then some r1 else (if p4 = 1 then some r1 else (f_X4_ones r1).bind (fun r4 => some r4))))
def f_X4_hush (X : MS) (p1 : Int32) (p2 : Int32) (p3 : Int32) (p4 : Int32) : Option Int32 := (f_X4_isListener X p1).bind (fun r1 => (if r1 = 0 then some (-101) else (f_X4_isPlace X p2).bind (fun r3 => (if r3 = 0 then some (-101) else (f_X4_in (Int32.toInt64 p3) 1 9).bind (fun r5 => (if r5 = 0 then some (-102) else (f_X4_in (Int32.toInt64 p4) 0 1).bind (fun r7 => (if r7 = 0 then some (-102) else (f_X4_tellHush X p1 p2 p3 p4).bind (fun r9 => some r9)))))))))
def f_X2_note (X : WS) (p1 : Int32) (p2 : Int32) : Option (Int32 × WS) := (if p2 = 0 then stp ((X 3 16) ||| (1 <<< (p1 &&& 31))) (fun x2 => stp (ups X 3 16 x2) (fun X3 => stp ((X3 3 14) + 1) (fun x4 => stp (ups X3 3 14 x4) (fun X5 => some ((X5 3 14), X5))))) else stp ((X 3 15) ||| (1 <<< (p1 &&& 31))) (fun x6 => stp (ups X 3 15 x6) (fun X7 => stp ((X7 3 14) + 1) (fun x8 => stp (ups X7 3 14 x8) (fun X9 => some ((X9 3 14), X9))))))
def f_X3_tell (X : WS) (p1 : Int32) (p2 : Int32) : Option (Int32 × WS) := (f_X3_isListener X p1).bind (fun r1 => (if r1 = 0 then some ((-101), X) else (if (X 3 14) < 8 then bnd2 (f_X2_note X p1 p2) (fun r4 X5 => some (r4, X5)) else some ((-104), X))))
def f_X4_tell (X : MS) (p1 : Int32) (p2 : Int32) : Option (Int32 × MS) := (f_X4_isListener X p1).bind (fun r1 => (if r1 = 0 then some ((-101), X) else (if (X.1 0 14) = 8 then some ((-104), X) else ixc (2 * (X.1 0 14)) 16 (stp (ups X.1 5 (Int32.toNatClampNeg (2 * (X.1 0 14))) p1, X.2) (fun X5 => (if p2 = 0 then ixc ((2 * (X5.1 0 14)) + 1) 16 (stp (ups X5.1 5 (Int32.toNatClampNeg ((2 * (X5.1 0 14)) + 1)) 0, X5.2) (fun X8 => stp ((X8.1 0 14) + 1) (fun x9 => stp (ups X8.1 0 14 x9, X8.2) (fun X10 => some ((X10.1 0 14), X10))))) else ixc ((2 * (X5.1 0 14)) + 1) 16 (stp (ups X5.1 5 (Int32.toNatClampNeg ((2 * (X5.1 0 14)) + 1)) 1, X5.2) (fun X12 => stp ((X12.1 0 14) + 1) (fun x13 => stp (ups X12.1 0 14 x13, X12.2) (fun X14 => some ((X14.1 0 14), X14)))))))))))
def f_X3_forget (X : WS)  : Option (Int32 × WS) := bnd2 (f_X2_dropTold X) (fun r1 X2 => some (r1, X2))
def f_X4_forget (X : MS)  : Option (Int32 × MS) := stp (X.1 0 14) (fun x1 => stp (ups X.1 0 14 0, X.2) (fun X2 => some (x1, X2)))
def f_X2_isAsTold (X : WS) (p1 : Int32) : Option Int32 := (if ((X 3 15) &&& (p1 ^^^ (-1))) = 0 then (if ((X 3 16) &&& p1) = 0 then some 1 else some 0) else some 0)
def g_X0_tally_2 (v1 : Int32) : Nat → WS → Int32 → Option WS
  | 0, _, _ => none
  | n + 1, X, v2 => (if 6 ≤ v2 then some X else ixc v2 6 (stp ((X 16 (Int32.toNatClampNeg v2)) + ((v1 >>> (v2 &&& 31)) &&& 1)) (fun x4 => ixc v2 6 (stp (ups X 16 (Int32.toNatClampNeg v2) x4) (fun X5 => stp (v2 + 1) (fun x6 => g_X0_tally_2 v1 n X5 x6))))))
def f_X0_tally (X : WS) (p1 : Int32) : Option WS := g_X0_tally_2 p1 NF X 0
def g_X0_seek_41 (k33 : WS → Int32 → Option WS) : Nat → WS → Int32 → Int32 → Option WS
  | 0, _, _, _ => none
  | n + 1, X, v2, v3 => (if 9 < v3 then stp (v2 + 1) (fun x6 => k33 X x6) else (f_X2_spread X 0 v2 v3 0).bind (fun r7 => (f_X2_knowing X r7).bind (fun r8 => (f_X2_isAsTold X r8).bind (fun r9 => (if r9 = 0 then stp (v3 + 1) (fun x11 => g_X0_seek_41 k33 n X v2 x11) else (if (X 15 3) = 0 then stp ((10 * v2) + v3) (fun x19 => stp (ups X 15 4 x19) (fun X20 => stp ((X20 15 3) + 1) (fun x21 => stp (ups X20 15 3 x21) (fun X22 => (f_X0_tally X22 r8).bind (fun X23 => stp (v3 + 1) (fun x24 => g_X0_seek_41 k33 n X23 v2 x24)))))) else stp (X 15 4) (fun x13 => stp (ups X 15 4 x13) (fun X14 => stp ((X14 15 3) + 1) (fun x15 => stp (ups X14 15 3 x15) (fun X16 => (f_X0_tally X16 r8).bind (fun X17 => stp (v3 + 1) (fun x18 => g_X0_seek_41 k33 n X17 v2 x18))))))))))))
def g_X0_seek_33 : Nat → WS → Int32 → Option WS
  | 0, _, _ => none
  | n + 1, X, v2 => (if 6 ≤ v2 then some X else g_X0_seek_41 (g_X0_seek_33 n) NF X v2 1)
def g_X0_seek_12 : Nat → WS → Int32 → Option WS
  | 0, _, _ => none
  | n + 1, X, v2 => (if 6 ≤ v2 then g_X0_seek_33 NF X 0 else ixc v2 6 (stp (ups X 16 (Int32.toNatClampNeg v2) 0) (fun X26 => stp (v2 + 1) (fun x27 => g_X0_seek_12 n X26 x27))))
def f_X0_seek (X : WS)  : Option WS := stp (ups X 15 3 0) (fun X1 => stp (ups X1 15 4 (-1)) (fun X2 => g_X0_seek_12 NF X2 0))
def f_X3_where (X : WS) (p1 : Int32) : Option (Int32 × WS) := (if p1 < 0 then some ((-102), X) else (if p1 ≤ 1 then (f_X3_hasTown X).bind (fun r3 => (if r3 = 0 then some ((-103), X) else (f_X0_seek X).bind (fun X5 => (if p1 = 0 then some ((X5 15 3), X5) else some ((X5 15 4), X5))))) else some ((-102), X)))
def g_X4_isTold_19 (X : MS) (v2 : Int32) : Nat → Int32 → Int32 → Option Int32
  | 0, _, _ => none
  | n + 1, v3, v4 => (if (X.1 0 14) ≤ v4 then zck v3 (some v3) else (if v3 = 0 then stp (v4 + 1) (fun x4 => g_X4_isTold_19 X v2 n 0 x4) else ixc (2 * v4) 16 (ixc ((2 * v4) + 1) 16 ((if ((v2 >>> ((X.1 5 (Int32.toNatClampNeg (2 * v4))) &&& 31)) &&& 1) = (X.1 5 (Int32.toNatClampNeg ((2 * v4) + 1))) then stp (v4 + 1) (fun x9 => g_X4_isTold_19 X v2 n 1 x9) else stp (v4 + 1) (fun x8 => g_X4_isTold_19 X v2 n 0 x8))))))
def f_X4_isTold (X : MS) (p1 : Int32) : Option Int32 := (f_X4_knowThen X (p1 / 10) (p1 - p1 / 10 * 10) 0).bind (fun r1 => g_X4_isTold_19 X r1 NF 1 0)
def g_X4_whereOf_8 (X : MS) (v1 : Int32) : Nat → Int32 → Int32 → Int32 → Option Int32
  | 0, _, _, _ => none
  | n + 1, v2, v3, v4 => (if v4 ≤ 0 then (if v1 = 0 then some v2 else some v3) else (if (v4 - v4 / 10 * 10) ≤ 0 then stp (v4 + (-1)) (fun x4 => g_X4_whereOf_8 X v1 n v2 v3 x4) else (f_X4_isTold X v4).bind (fun r5 => (if r5 = 0 then stp (v4 + (-1)) (fun x7 => g_X4_whereOf_8 X v1 n v2 v3 x7) else stp (v2 + 1) (fun x8 => stp (v4 + (-1)) (fun x9 => g_X4_whereOf_8 X v1 n x8 v4 x9))))))
def f_X4_whereOf (X : MS) (p1 : Int32) : Option Int32 := g_X4_whereOf_8 X p1 NF 0 (-1) 59
def f_X4_where (X : MS) (p1 : Int32) : Option Int32 := (f_X4_in (Int32.toInt64 p1) 0 1).bind (fun r1 => (if r1 = 0 then some (-102) else (f_X4_lacks X).bind (fun r3 => (if r3 = 0 then (f_X4_whereOf X p1).bind (fun r5 => some r5) else some (-103)))))
def f_J9_max_7cf53 (p0 : Int32) (p1 : Int32) : Option Int32 := (if p0 < p1 then some p1 else some p0)
def g_X0_bestAsked_10 (X : WS) (v1 : Int32) : Nat → Int32 → Int32 → Int32 → Option Int32
  | 0, _, _, _ => none
  | n + 1, v2, v3, v4 => (if v1 ≤ v4 then some v2 else (if 6 ≤ v4 then some v2 else (if (X 15 3) ≤ 0 then some v2 else ixc v4 6 (ixc v4 6 ((f_J9_max_7cf53 (X 16 (Int32.toNatClampNeg v4)) ((X 15 3) - (X 16 (Int32.toNatClampNeg v4)))).bind (fun r7 => (if v2 = (-1) then stp (v4 + 1) (fun x9 => g_X0_bestAsked_10 X v1 n v4 r7 x9) else (if v3 ≤ r7 then stp (v4 + 1) (fun x11 => g_X0_bestAsked_10 X v1 n v2 v3 x11) else stp (v4 + 1) (fun x12 => g_X0_bestAsked_10 X v1 n v4 r7 x12)))))))))
def f_X0_bestAsked (X : WS) (p1 : Int32) : Option Int32 := stp (X 15 3) (fun x1 => g_X0_bestAsked_10 X p1 NF (-1) x1 0)
def f_X3_ask (X : WS)  : Option (Int32 × WS) := (f_X3_hasTown X).bind (fun r1 => (if r1 = 0 then some ((-103), X) else (f_X0_seek X).bind (fun X3 => (f_X0_bestAsked X3 (X3 3 5)).bind (fun r4 => some (r4, X3)))))
def g_X4_askOf_33 (X : MS) (k14 : Int32 → Int32 → Int32 → Option Int32) (v1 : Int32) : Nat → Int32 → Int32 → Int32 → Int32 → Int32 → Option Int32
  | 0, _, _, _, _, _ => none
  | n + 1, v2, v3, v4, v5, v6 => (if 60 ≤ v6 then (if v5 ≤ (v1 - v5) then stp (v1 - v5) (fun x6 => (if v3 ≤ x6 then (if v3 ≤ x6 then stp (v4 + 1) (fun x9 => k14 v2 v3 x9) else stp (v4 + 1) (fun x10 => k14 v2 x6 x10)) else (if v3 ≤ x6 then stp (v4 + 1) (fun x12 => k14 v4 v3 x12) else stp (v4 + 1) (fun x13 => k14 v4 x6 x13)))) else (if v3 ≤ v5 then (if v3 ≤ v5 then stp (v4 + 1) (fun x16 => k14 v2 v3 x16) else stp (v4 + 1) (fun x17 => k14 v2 v5 x17)) else (if v3 ≤ v5 then stp (v4 + 1) (fun x19 => k14 v4 v3 x19) else stp (v4 + 1) (fun x20 => k14 v4 v5 x20)))) else (if (v6 - v6 / 10 * 10) ≤ 0 then stp (v5 + 0) (fun x23 => stp (v6 + 1) (fun x24 => g_X4_askOf_33 X k14 v1 n v2 v3 v4 x23 x24)) else (f_X4_isTold X v6).bind (fun r25 => (if r25 = 0 then stp (v5 + 0) (fun x28 => stp (v6 + 1) (fun x29 => g_X4_askOf_33 X k14 v1 n v2 v3 v4 x28 x29)) else (f_X4_knowThen X (v6 / 10) (v6 - v6 / 10 * 10) 0).bind (fun r31 => stp (v5 + ((r31 >>> (v4 &&& 31)) &&& 1)) (fun x32 => stp (v6 + 1) (fun x33 => g_X4_askOf_33 X k14 v1 n v2 v3 v4 x32 x33)))))))
def g_X4_askOf_14 (X : MS) (v1 : Int32) : Nat → Int32 → Int32 → Int32 → Option Int32
  | 0, _, _, _ => none
  | n + 1, v2, v3, v4 => (if (X.1 0 11) ≤ v4 then some v2 else (if v1 ≤ 0 then some v2 else g_X4_askOf_33 X (g_X4_askOf_14 X v1 n) v1 NF v2 v3 v4 0 1))
def f_X4_askOf (X : MS)  : Option Int32 := (f_X4_whereOf X 0).bind (fun r1 => g_X4_askOf_14 X r1 NF (-1) 99 0)
def f_X4_ask (X : MS)  : Option Int32 := (f_X4_lacks X).bind (fun r1 => (if r1 = 0 then (f_X4_askOf X).bind (fun r3 => some r3) else some (-103)))
def f_X0_draw (X : WS) (p1 : Int32) : Option (Int32 × WS) := stp (Int64.toInt32 (((1103515245 * (Int32.toInt64 (X 15 7))) + 12345) &&& 2147483647)) (fun x1 => stp (ups X 15 7 x1) (fun X2 => (if p1 ≤ 0 then some (0, X2) else dvc p1 (some ((((X2 15 7) / 65536) - ((X2 15 7) / 65536) / p1 * p1), X2)))))
def g_X0_live_18 (v2 : Int32) : Nat → WS → Int32 → Option WS
  | 0, _, _ => none
  | n + 1, X, v4 => (if v2 ≤ v4 then some X else bnd2 (f_X0_draw X 6) (fun r5 X6 => bnd2 (f_X0_draw X6 9) (fun r7 X8 => stp (1 + r7) (fun x9 => (f_X2_spread X8 0 r5 x9 0).bind (fun r10 => (f_X2_knowing X8 r10).bind (fun r11 => (f_J6_bitCount_0f7a4 r11).bind (fun r12 => stp (ups X8 15 6 r12) (fun X13 => stp ((X13 15 5) + (X13 15 6)) (fun x14 => stp (ups X13 15 5 x14) (fun X15 => stp (v4 + 1) (fun x16 => g_X0_live_18 v2 n X15 x16)))))))))))
def f_X0_live (X : WS) (p2 : Int32) (p3 : Int32) : Option WS := stp (ups X 15 5 0) (fun X1 => stp (ups X1 15 6 0) (fun X2 => stp (ups X2 15 7 p3) (fun X3 => g_X0_live_18 p2 NF X3 0)))
def f_X3_days (X : WS) (p1 : Int32) (p2 : Int32) (p3 : Int32) : Option (Int32 × WS) := (if p1 < 1 then some ((-102), X) else (if 60 < p1 then some ((-102), X) else (if p2 < 0 then some ((-102), X) else (if p3 < 0 then some ((-102), X) else (if p3 ≤ 2 then (f_X3_hasTown X).bind (fun r6 => (if r6 = 0 then some ((-103), X) else (f_X0_live X p1 p2).bind (fun X8 => (if p3 = 0 then some ((X8 15 5), X8) else (if p3 = 1 then some ((X8 15 6), X8) else some ((X8 15 7), X8)))))) else some ((-102), X))))))
def f_X4_draw (X : MS) (p1 : Int32) : Option (Int32 × MS) := stp (Int64.toInt32 (((1103515245 * (Int32.toInt64 (X.1 0 16))) + 12345) &&& 2147483647)) (fun x1 => stp (ups X.1 0 16 x1, X.2) (fun X2 => dvc p1 (some ((((X2.1 0 16) / 65536) - ((X2.1 0 16) / 65536) / p1 * p1), X2))))
def g_X4_days_55 (v1 : Int32) (v3 : Int32) : Nat → MS → Int32 → Int32 → Int32 → Option (Int32 × MS)
  | 0, _, _, _, _ => none
  | n + 1, X, v4, v5, v6 => (if v1 ≤ v6 then (if v3 = 0 then some (v4, X) else (if v3 = 1 then some (v5, X) else some ((X.1 0 16), X))) else bnd2 (f_X4_draw X 6) (fun r12 X13 => bnd2 (f_X4_draw X13 9) (fun r14 X15 => (f_X4_knowThen X15 r12 (r14 + 1) 0).bind (fun r16 => (f_X4_ones r16).bind (fun r17 => stp (v4 + r17) (fun x18 => stp (v6 + 1) (fun x19 => g_X4_days_55 v1 v3 n X15 x18 r17 x19)))))))
def f_X4_days (X : MS) (p1 : Int32) (p2 : Int32) (p3 : Int32) : Option (Int32 × MS) := (f_X4_in (Int32.toInt64 p1) 1 60).bind (fun r1 => (if r1 = 0 then some ((-102), X) else (if p2 < 0 then some ((-102), X) else (f_X4_in (Int32.toInt64 p3) 0 2).bind (fun r4 => (if r4 = 0 then some ((-102), X) else (f_X4_lacks X).bind (fun r6 => (if r6 = 0 then stp (ups X.1 0 16 p2, X.2) (fun X8 => g_X4_days_55 p1 p3 NF X8 0 0 0) else some ((-103), X))))))))
def f_X2_copy_9_3 (X : WS)  : Option WS := stp (upw X 10 (va_cpy (X 4) (X 10) (Int32.toNatClampNeg 0) (Int32.toNatClampNeg 0) (Int32.toNatClampNeg 6))) (fun X1 => stp (upw X1 11 (va_cpy (X1 5) (X1 11) (Int32.toNatClampNeg 0) (Int32.toNatClampNeg 0) (Int32.toNatClampNeg 6))) (fun X2 => stp (upw X2 12 (va_cpy (X2 6) (X2 12) (Int32.toNatClampNeg 0) (Int32.toNatClampNeg 0) (Int32.toNatClampNeg 6))) (fun X3 => stp (upw X3 13 (va_cpy (X3 7) (X3 13) (Int32.toNatClampNeg 0) (Int32.toNatClampNeg 0) (Int32.toNatClampNeg 6))) (fun X4 => stp (upw X4 14 (va_cpy (X4 8) (X4 14) (Int32.toNatClampNeg 0) (Int32.toNatClampNeg 0) (Int32.toNatClampNeg 6))) (fun X5 => stp (X5 3 5) (fun x6 => stp (ups X5 9 5 x6) (fun X7 => stp (X7 3 6) (fun x8 => stp (ups X7 9 6 x8) (fun X9 => stp (X9 3 7) (fun x10 => stp (ups X9 9 7 x10) (fun X11 => stp (X11 3 8) (fun x12 => stp (ups X11 9 8 x12) (fun X13 => stp (X13 3 9) (fun x14 => stp (ups X13 9 9 x14) (fun X15 => stp (X15 3 10) (fun x16 => stp (ups X15 9 10 x16) (fun X17 => stp (X17 3 11) (fun x18 => stp (ups X17 9 11 x18) (fun X19 => stp (X19 3 12) (fun x20 => stp (ups X19 9 12 x20) (fun X21 => stp (X21 3 13) (fun x22 => stp (ups X21 9 13 x22) (fun X23 => stp (X23 3 14) (fun x24 => stp (ups X23 9 14 x24) (fun X25 => stp (X25 3 15) (fun x26 => stp (ups X25 9 15 x26) (fun X27 => stp (X27 3 16) (fun x28 => stp (ups X27 9 16 x28) (fun X29 => some X29)))))))))))))))))))))))))))))
def f_X3_image (X : WS)  : Option (Int32 × WS) := (f_X3_hasTown X).bind (fun r1 => (if r1 = 0 then some ((-103), X) else (f_X2_copy_9_3 X).bind (fun X3 => stp (ups X3 0 4 1) (fun X4 => some ((X4 3 12), X4)))))
def g_X4_copy_3_6_2 : Nat → MS → Int32 → Option MS
  | 0, _, _ => none
  | n + 1, X, v2 => (if 12 ≤ v2 then some X else ixc v2 12 (stp (X.1 3 (Int32.toNatClampNeg v2)) (fun x4 => ixc v2 12 (stp (ups X.1 6 (Int32.toNatClampNeg v2) x4, X.2) (fun X5 => stp (v2 + 1) (fun x6 => g_X4_copy_3_6_2 n X5 x6))))))
def f_X4_copy_3_6 (X : MS)  : Option MS := g_X4_copy_3_6_2 NF X 0
def g_X4_copy_5_7_2 : Nat → MS → Int32 → Option MS
  | 0, _, _ => none
  | n + 1, X, v2 => (if 16 ≤ v2 then some X else ixc v2 16 (stp (X.1 5 (Int32.toNatClampNeg v2)) (fun x4 => ixc v2 16 (stp (ups X.1 7 (Int32.toNatClampNeg v2) x4, X.2) (fun X5 => stp (v2 + 1) (fun x6 => g_X4_copy_5_7_2 n X5 x6))))))
def f_X4_copy_5_7 (X : MS)  : Option MS := g_X4_copy_5_7_2 NF X 0
def g_X4_copy_2_8_2 : Nat → MS → Int32 → Option MS
  | 0, _, _ => none
  | n + 1, X, v2 => (if 6 ≤ v2 then some X else ixc v2 6 (stp (X.1 2 (Int32.toNatClampNeg v2)) (fun x4 => ixc v2 6 (stp (ups X.1 8 (Int32.toNatClampNeg v2) x4, X.2) (fun X5 => stp (v2 + 1) (fun x6 => g_X4_copy_2_8_2 n X5 x6))))))
def f_X4_copy_2_8 (X : MS)  : Option MS := g_X4_copy_2_8_2 NF X 0
def f_X4_image (X : MS)  : Option (Int32 × MS) := (f_X4_lacks X).bind (fun r1 => (if r1 = 0 then (f_X4_copy_3_6 X).bind (fun X3 => (f_X4_copy_5_7 X3).bind (fun X4 => (f_X4_copy_2_8 X4).bind (fun X5 => stp (X5.1 0 11) (fun x6 => stp (ups X5.1 0 18 x6, X5.2) (fun X7 => stp (X7.1 0 3) (fun x8 => stp (ups X7.1 0 19 x8, X7.2) (fun X9 => stp (X9.1 0 5) (fun x10 => stp (ups X9.1 0 20 x10, X9.2) (fun X11 => stp (X11.1 0 6) (fun x12 => stp (ups X11.1 0 21 x12, X11.2) (fun X13 => stp (X13.1 0 7) (fun x14 => stp (ups X13.1 0 22 x14, X13.2) (fun X15 => stp (X15.1 0 8) (fun x16 => stp (ups X15.1 0 23 x16, X15.2) (fun X17 => stp (X17.1 0 14) (fun x18 => stp (ups X17.1 0 24 x18, X17.2) (fun X19 => stp (X19.1 0 9) (fun x20 => stp (ups X19.1 0 17 x20, X19.2) (fun X21 => some ((X21.1 0 7), X21)))))))))))))))))))) else some ((-103), X)))
def f_X2_copy_3_9 (X : WS)  : Option WS := stp (upw X 4 (va_cpy (X 10) (X 4) (Int32.toNatClampNeg 0) (Int32.toNatClampNeg 0) (Int32.toNatClampNeg 6))) (fun X1 => stp (upw X1 5 (va_cpy (X1 11) (X1 5) (Int32.toNatClampNeg 0) (Int32.toNatClampNeg 0) (Int32.toNatClampNeg 6))) (fun X2 => stp (upw X2 6 (va_cpy (X2 12) (X2 6) (Int32.toNatClampNeg 0) (Int32.toNatClampNeg 0) (Int32.toNatClampNeg 6))) (fun X3 => stp (upw X3 7 (va_cpy (X3 13) (X3 7) (Int32.toNatClampNeg 0) (Int32.toNatClampNeg 0) (Int32.toNatClampNeg 6))) (fun X4 => stp (upw X4 8 (va_cpy (X4 14) (X4 8) (Int32.toNatClampNeg 0) (Int32.toNatClampNeg 0) (Int32.toNatClampNeg 6))) (fun X5 => stp (X5 9 5) (fun x6 => stp (ups X5 3 5 x6) (fun X7 => stp (X7 9 6) (fun x8 => stp (ups X7 3 6 x8) (fun X9 => stp (X9 9 7) (fun x10 => stp (ups X9 3 7 x10) (fun X11 => stp (X11 9 8) (fun x12 => stp (ups X11 3 8 x12) (fun X13 => stp (X13 9 9) (fun x14 => stp (ups X13 3 9 x14) (fun X15 => stp (X15 9 10) (fun x16 => stp (ups X15 3 10 x16) (fun X17 => stp (X17 9 11) (fun x18 => stp (ups X17 3 11 x18) (fun X19 => stp (X19 9 12) (fun x20 => stp (ups X19 3 12 x20) (fun X21 => stp (X21 9 13) (fun x22 => stp (ups X21 3 13 x22) (fun X23 => stp (X23 9 14) (fun x24 => stp (ups X23 3 14 x24) (fun X25 => stp (X25 9 15) (fun x26 => stp (ups X25 3 15 x26) (fun X27 => stp (X27 9 16) (fun x28 => stp (ups X27 3 16 x28) (fun X29 => some X29)))))))))))))))))))))))))))))
def f_X3_restore (X : WS)  : Option (Int32 × WS) := (if (X 0 4) = 0 then some ((-103), X) else (f_X2_copy_3_9 X).bind (fun X2 => some ((X2 3 12), X2)))
def g_X4_copy_6_3_2 : Nat → MS → Int32 → Option MS
  | 0, _, _ => none
  | n + 1, X, v2 => (if 12 ≤ v2 then some X else ixc v2 12 (stp (X.1 6 (Int32.toNatClampNeg v2)) (fun x4 => ixc v2 12 (stp (ups X.1 3 (Int32.toNatClampNeg v2) x4, X.2) (fun X5 => stp (v2 + 1) (fun x6 => g_X4_copy_6_3_2 n X5 x6))))))
def f_X4_copy_6_3 (X : MS)  : Option MS := g_X4_copy_6_3_2 NF X 0
def g_X4_copy_7_5_2 : Nat → MS → Int32 → Option MS
  | 0, _, _ => none
  | n + 1, X, v2 => (if 16 ≤ v2 then some X else ixc v2 16 (stp (X.1 7 (Int32.toNatClampNeg v2)) (fun x4 => ixc v2 16 (stp (ups X.1 5 (Int32.toNatClampNeg v2) x4, X.2) (fun X5 => stp (v2 + 1) (fun x6 => g_X4_copy_7_5_2 n X5 x6))))))
def f_X4_copy_7_5 (X : MS)  : Option MS := g_X4_copy_7_5_2 NF X 0
def g_X4_copy_8_2_2 : Nat → MS → Int32 → Option MS
  | 0, _, _ => none
  | n + 1, X, v2 => (if 6 ≤ v2 then some X else ixc v2 6 (stp (X.1 8 (Int32.toNatClampNeg v2)) (fun x4 => ixc v2 6 (stp (ups X.1 2 (Int32.toNatClampNeg v2) x4, X.2) (fun X5 => stp (v2 + 1) (fun x6 => g_X4_copy_8_2_2 n X5 x6))))))
def f_X4_copy_8_2 (X : MS)  : Option MS := g_X4_copy_8_2_2 NF X 0
def f_X4_restore (X : MS)  : Option (Int32 × MS) := (if (X.1 0 17) = (X.1 0 9) then (f_X4_copy_6_3 X).bind (fun X2 => (f_X4_copy_7_5 X2).bind (fun X3 => (f_X4_copy_8_2 X3).bind (fun X4 => stp (X4.1 0 18) (fun x5 => stp (ups X4.1 0 11 x5, X4.2) (fun X6 => stp (X6.1 0 19) (fun x7 => stp (ups X6.1 0 3 x7, X6.2) (fun X8 => stp (X8.1 0 20) (fun x9 => stp (ups X8.1 0 5 x9, X8.2) (fun X10 => stp (X10.1 0 21) (fun x11 => stp (ups X10.1 0 6 x11, X10.2) (fun X12 => stp (X12.1 0 22) (fun x13 => stp (ups X12.1 0 7 x13, X12.2) (fun X14 => stp (X14.1 0 23) (fun x15 => stp (ups X14.1 0 8 x15, X14.2) (fun X16 => stp (X16.1 0 24) (fun x17 => stp (ups X16.1 0 14 x17, X16.2) (fun X18 => some ((X18.1 0 7), X18)))))))))))))))))) else some ((-103), X))
def f_X3_count (X : WS) (p1 : Int32) : Option Int32 := (if p1 = 0 then some (X 3 5) else (if p1 = 1 then some (X 3 9) else (if p1 = 2 then some (X 3 10) else (if p1 = 3 then some (X 3 11) else (if p1 = 4 then (f_X2_knowing X (X 3 7)).bind (fun r6 => (f_J6_bitCount_0f7a4 r6).bind (fun r7 => some r7)) else (if p1 = 5 then some (X 3 12) else (if p1 = 6 then some (X 3 13) else (if p1 = 7 then some (X 3 14) else (if p1 = 8 then some (X 1 1) else (if p1 = 9 then some (X 0 5) else some (-102)))))))))))
def f_X4_countOf (X : MS) (p1 : Int32) : Option Int32 := (if p1 = 0 then some (X.1 0 11) else (if p1 = 1 then some (X.1 0 3) else (if p1 = 2 then some (X.1 0 4) else (if p1 = 3 then some (X.1 0 5) else (if p1 = 4 then (f_X4_knowing X (X.1 0 6)).bind (fun r6 => (f_X4_ones r6).bind (fun r7 => some r7)) else (if p1 = 5 then some (X.1 0 7) else (if p1 = 6 then some (X.1 0 8) else (if p1 = 7 then some (X.1 0 14) else (if p1 = 8 then some (X.1 0 1) else (if p1 = 9 then some (X.1 0 9) else some (-102)))))))))))
def f_X4_count (X : MS) (p1 : Int32) : Option Int32 := (f_X4_countOf X p1).bind (fun r1 => some r1)
def f_X3_fold (p0 : Int64) (p2 : Int64) : Option Int64 := some ((31 * p0) + p2)
def g_X3_foldListeners_20 (X : WS) (k5 : Int64 → Int32 → Option Int64) : Nat → Int64 → Int32 → Int32 → Option Int64
  | 0, _, _, _ => none
  | n + 1, v3, v5, v6 => (if 5 < v6 then (f_X0_sentAway X v5 2 9).bind (fun r3 => (f_X3_howMany r3).bind (fun r4 => (f_X3_fold v3 (Int32.toInt64 r4)).bind (fun r5 => (f_X3_fold r5 (Int32.toInt64 r3)).bind (fun r6 => stp (v5 + 1) (fun x7 => k5 r6 x7))))) else (f_X3_about X v5 v6).bind (fun r8 => (f_X3_fold v3 (Int32.toInt64 r8)).bind (fun r9 => stp (v6 + 1) (fun x10 => g_X3_foldListeners_20 X k5 n r9 v5 x10))))
def g_X3_foldListeners_5 (X : WS) : Nat → Int64 → Int32 → Option Int64
  | 0, _, _ => none
  | n + 1, v3, v5 => (if (X 3 5) ≤ v5 then some v3 else g_X3_foldListeners_20 X (g_X3_foldListeners_5 X n) NF v3 v5 0)
def f_X3_foldListeners (X : WS) (p1 : Int64) : Option Int64 := g_X3_foldListeners_5 X NF p1 0
def g_X3_foldPlaces_5 (X : WS) : Nat → Int64 → Int32 → Option Int64
  | 0, _, _ => none
  | n + 1, v3, v5 => (if 6 ≤ v5 then some v3 else (f_X3_noise X v5).bind (fun r2 => (f_X3_fold v3 (Int32.toInt64 r2)).bind (fun r3 => (f_X3_would X v5 5).bind (fun r4 => (f_X3_fold r3 (Int32.toInt64 r4)).bind (fun r5 => stp (v5 + 1) (fun x6 => g_X3_foldPlaces_5 X n r5 x6))))))
def f_X3_foldPlaces (X : WS) (p1 : Int64) : Option Int64 := g_X3_foldPlaces_5 X NF p1 0
def g_X3_foldQuestions_52 (v5 : Int32) : Nat → WS → Int64 → Int32 → Option (Int64 × WS)
  | 0, _, _, _ => none
  | n + 1, X, v3, v6 => (if 12 < v6 then bnd2 (f_X3_where X 0) (fun r12 X13 => (f_X3_fold v3 (Int32.toInt64 r12)).bind (fun r14 => bnd2 (f_X3_where X13 1) (fun r15 X16 => (f_X3_fold r14 (Int32.toInt64 r15)).bind (fun r17 => bnd2 (f_X3_ask X16) (fun r18 X19 => (f_X3_fold r17 (Int32.toInt64 r18)).bind (fun r20 => some (r20, X19))))))) else (f_X0_partOfPlan v5 v6).bind (fun r21 => (f_X3_fold v3 (Int32.toInt64 r21)).bind (fun r22 => stp (v6 + 1) (fun x23 => g_X3_foldQuestions_52 v5 n X r22 x23))))
def f_X3_foldQuestions (X : WS) (p1 : Int64) : Option (Int64 × WS) := bnd2 (f_X3_least X 0) (fun r1 X2 => (f_X3_fold p1 (Int32.toInt64 r1)).bind (fun r3 => bnd2 (f_X3_least X2 1) (fun r4 X5 => (f_X3_fold r3 (Int32.toInt64 r4)).bind (fun r6 => (f_X2_everyone X5).bind (fun r7 => (f_X0_coverPlan X5 r7).bind (fun r8 => (f_X0_partOfPlan r8 0).bind (fun r9 => (f_X3_fold r6 (Int32.toInt64 r9)).bind (fun r10 => g_X3_foldQuestions_52 r8 NF X5 r10 10))))))))
def g_X3_digest_61 : Nat → WS → Int64 → Int32 → Option (Int64 × WS)
  | 0, _, _, _ => none
  | n + 1, X, v1, v3 => (if 9 < v3 then some (v1, X) else (f_X3_count X v3).bind (fun r6 => (f_X3_fold v1 (Int32.toInt64 r6)).bind (fun r7 => stp (v3 + 1) (fun x8 => g_X3_digest_61 n X r7 x8))))
def g_X3_digest_27 : Nat → WS → Int64 → Int32 → Option (Int64 × WS)
  | 0, _, _, _ => none
  | n + 1, X, v1, v3 => (if (X 1 1) ≤ v3 then g_X3_digest_61 NF X v1 0 else ixc v3 12 ((f_X3_fold v1 (Int32.toInt64 (X 2 (Int32.toNatClampNeg v3)))).bind (fun r10 => stp (v3 + 1) (fun x11 => g_X3_digest_27 n X r10 x11))))
def f_X3_digest (X : WS)  : Option (Int64 × WS) := (f_X3_foldListeners X 1009).bind (fun r1 => (f_X3_hasTown X).bind (fun r2 => (if r2 = 0 then g_X3_digest_27 NF X r1 0 else (f_X3_foldPlaces X r1).bind (fun r12 => bnd2 (f_X3_foldQuestions X r12) (fun r13 X14 => g_X3_digest_27 NF X14 r13 0)))))
def f_X4_say (X : MS) (p1 : Int64) : Option MS := stp ((31 * X.2) + p1) (fun x1 => stp (X.1, x1) (fun X2 => some X2))
def g_X4_sayTown_77 : Nat → MS → Int32 → Option MS
  | 0, _, _ => none
  | n + 1, X, v1 => (if 13 ≤ v1 then (f_X4_whereOf X 0).bind (fun r11 => (f_X4_say X (Int32.toInt64 r11)).bind (fun X12 => (f_X4_whereOf X12 1).bind (fun r13 => (f_X4_say X12 (Int32.toInt64 r13)).bind (fun X14 => (f_X4_askOf X14).bind (fun r15 => (f_X4_say X14 (Int32.toInt64 r15)).bind (fun X16 => some X16)))))) else (f_X4_allListeners X).bind (fun r17 => bnd2 (f_X4_coverOf X r17 v1) (fun r18 X19 => (f_X4_say X19 (Int32.toInt64 r18)).bind (fun X20 => stp (v1 + 1) (fun x21 => g_X4_sayTown_77 n X20 x21)))))
def g_X4_sayTown_2 : Nat → MS → Int32 → Option MS
  | 0, _, _ => none
  | n + 1, X, v1 => (if 6 ≤ v1 then (f_X4_leastOf X 0).bind (fun r2 => (f_X4_say X (Int32.toInt64 r2)).bind (fun X3 => (f_X4_leastOf X3 1).bind (fun r4 => (f_X4_say X3 (Int32.toInt64 r4)).bind (fun X5 => (f_X4_allListeners X5).bind (fun r6 => bnd2 (f_X4_coverOf X5 r6 0) (fun r7 X8 => (f_X4_say X8 (Int32.toInt64 r7)).bind (fun X9 => g_X4_sayTown_77 NF X9 10))))))) else ixc v1 6 ((f_X4_say X (Int32.toInt64 (X.1 2 (Int32.toNatClampNeg v1)))).bind (fun X23 => (f_X4_knowThen X23 v1 5 (X23.1 0 6)).bind (fun r24 => (f_X4_say X23 (Int32.toInt64 r24)).bind (fun X25 => stp (v1 + 1) (fun x26 => g_X4_sayTown_2 n X25 x26))))))
def f_X4_sayTown (X : MS)  : Option MS := g_X4_sayTown_2 NF X 0
def g_X4_digest_116 : Nat → MS → Int32 → Option (Int64 × MS)
  | 0, _, _ => none
  | n + 1, X, v1 => (if 10 ≤ v1 then some (X.2, X) else (f_X4_countOf X v1).bind (fun r7 => (f_X4_say X (Int32.toInt64 r7)).bind (fun X8 => stp (v1 + 1) (fun x9 => g_X4_digest_116 n X8 x9))))
def g_X4_digest_89 : Nat → MS → Int32 → Option (Int64 × MS)
  | 0, _, _ => none
  | n + 1, X, v1 => (if (X.1 0 1) ≤ v1 then g_X4_digest_116 NF X 0 else ixc v1 12 ((f_X4_say X (Int32.toInt64 (X.1 1 (Int32.toNatClampNeg v1)))).bind (fun X11 => stp (v1 + 1) (fun x12 => g_X4_digest_89 n X11 x12))))
def g_X4_digest_19 (k9 : MS → Int32 → Option (Int64 × MS)) : Nat → MS → Int32 → Int32 → Option (Int64 × MS)
  | 0, _, _, _ => none
  | n + 1, X, v1, v2 => (if 6 ≤ v2 then (f_X4_tellHush X v1 2 9 0).bind (fun r15 => (f_X4_say X (Int32.toInt64 r15)).bind (fun X16 => (f_X4_tellHush X16 v1 2 9 1).bind (fun r17 => (f_X4_say X16 (Int32.toInt64 r17)).bind (fun X18 => stp (v1 + 1) (fun x19 => k9 X18 x19))))) else (f_X4_listenerOf X v1 v2).bind (fun r20 => (f_X4_say X (Int32.toInt64 r20)).bind (fun X21 => stp (v2 + 1) (fun x22 => g_X4_digest_19 k9 n X21 v1 x22))))
def g_X4_digest_9 : Nat → MS → Int32 → Option (Int64 × MS)
  | 0, _, _ => none
  | n + 1, X, v1 => (if (X.1 0 11) ≤ v1 then (f_X4_lacks X).bind (fun r3 => (if r3 = 0 then (f_X4_sayTown X).bind (fun X13 => g_X4_digest_89 NF X13 0) else g_X4_digest_89 NF X 0)) else g_X4_digest_19 (g_X4_digest_9 n) NF X v1 0)
def f_X4_digest (X : MS)  : Option (Int64 × MS) := stp (X.1, 1009) (fun X1 => g_X4_digest_9 NF X1 0)
