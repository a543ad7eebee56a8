def PcI (dC : Nat → ClassId) (dI : Nat → Nat → Nat) (W0 : va_W) (h0 sz : Nat) : Array Value → State → Prop := va_Pc [.ref h0] (fun U => U.heap.size = sz ∧ va_P (dC, dI) classes W0 U.heap ∧ va_K (dC, dI) classes [] U ∧ va_D (fun _ => True) W0)
theorem blI {dC : Nat → ClassId} {dI : Nat → Nat → Nat} {W0 : va_W} {h0 sz : Nat} : FrameBlind (PcI dC dI W0 h0 sz) := fun a U g mk q => by obtain ⟨q0, q1, qP, qK, qD⟩ := q; exact ⟨q0, q1, qP, va_K.moved (u := U) (U := U.calling g mk a) (Vm.Alike.refl U.vm) qK, qD⟩
theorem cA_eq {D : va_G} {cl : List vw_C} {tys : List (ClassId × FieldType)} {U : State} {c1 c2 : ClassId} (hK : va_K D cl tys U) (i j : Nat) (h1 : tys[i]? = some (c1, .int)) (h2 : tys[j]? = some (c2, .int)) : c1 = c2 := by
  have a : U.vm.findClass ("[" ++ FieldType.int.toString) = some c1 := (hK.2 i _ h1).2
  have b : U.vm.findClass ("[" ++ FieldType.int.toString) = some c2 := (hK.2 j _ h2).2
  exact Option.some.inj (a.symm.trans b)
def XZ : WS := fun _ _ => 0
def YZ : MS := (fun c k => if c = 0 then (if k = 17 then -1 else 0) else 0, 0)

set_option maxHeartbeats 4000000 in
set_option maxRecDepth 100000 in
theorem i_X0 (l : Launch) (dC : Nat → ClassId) (dI : Nat → Nat → Nat) (h0 : Nat) (sz : Nat) : Met l yX0_init (.code yX0_init cX0_init 1 none :: lw_g) ({ frames := 1, cells := 1, slots := 6, locals := 12 }) (PcI dC dI [(h0, .inr (0, [.null, .int 0, .int 0, .int 0, .int 0, .int 0, .int 0, .int 0]))] h0 sz) (va_Qv (fun _ : Unit => True) (fun (_ : Unit) t => ∃ (y0 : Nat) (cZ : ClassId), va_P (dC, dI) classes [(h0, .inr (0, [.ref y0, .int 0, .int 0, .int 0, .int 0, .int 0, .int 0, .int 0])), (y0, .inl (cZ, 6, .inl (fun _ => 0)))] t.heap ∧ va_K (dC, dI) classes [(cZ, .int)] t ∧ va_D (va_A [(h0, .inr (0, [.null, .int 0, .int 0, .int 0, .int 0, .int 0, .int 0, .int 0]))] sz) [(h0, .inr (0, [.ref y0, .int 0, .int 0, .int 0, .int 0, .int 0, .int 0, .int 0])), (y0, .inl (cZ, 6, .inl (fun _ => 0)))]) (va_A [(h0, .inr (0, [.null, .int 0, .int 0, .int 0, .int 0, .int 0, .int 0, .int 0]))] sz)) 1 6 (va_A [(h0, .inr (0, [.null, .int 0, .int 0, .int 0, .int 0, .int 0, .int 0, .int 0]))] sz) := by
  refine Met.ofW (cc := cX0_init) (maxL := 1) (ret := none) (by decide) rfl ?_
  intro p e s m args below meth c s₁ B hml hv
  obtain ⟨rfl, hsz, hP, hK, hD0⟩ := hv
  have hx := B.exec
  have hb := B.bytes
  have hr := B.returns
  have hts0 := atoms_spec (ws := (.code yX0_init cX0_init 1 none :: lw_g)) B.pre
  have hts : ∀ w ∈ lw_g, w.before (([.ref h0] : List Value).toArray) s = true := fun w h => hts0 w (List.mem_cons_of_mem _ h)
  have hown : s.vm.findClass RX0 = some m.cls := findClass_of_methodNamed B.named
  have hlocks := B.notSynchronized
  have hin : meth.name = "<init>" := (name_of_methodNamed B.named B.method).1
  subst hsz
  have hD := hD0.self (sz := s.heap.size)
  generalize hAe : va_A [(h0, .inr (0, [.null, .int 0, .int 0, .int 0, .int 0, .int 0, .int 0, .int 0]))] s.heap.size = A at hD ⊢
  have hA : ∀ q : Nat, s.heap.size ≤ q → A q := fun q h => by rw [← hAe]; exact Or.inr h
  have hS : va_S A s.heap s.heap [] := va_S.rf
  have hP : va_P (dC, dI) classes [(h0, .inr (0, [.null, .int 0, .int 0, .int 0, .int 0, .int 0, .int 0, .int 0]))] s.heap := hP
  have hl := lv_entry ([.ref h0]) (n := 1) (Nat.le_of_ble_eq_true rfl)
  rw [lg_entry_eq]
  generalize (lg_sl ([.ref h0]) ++ List.replicate (1 - (lg_sl ([.ref h0])).length) Slot.unset).toArray = ls at hl ⊢
  have hl : lv_has ls 1 [(0, .ref h0)] := hl
  refine lv_aload_n hx hb dX0_init_0 rfl (lv_at hl 0 rfl) ?_
  refine W.objInit hx hb hown (hts _ wd_145) (hts _ wd_49) (hts _ wd_50) rfl (by rw [hml]; exact hl.1) rfl dX0_init_1 (Nat.le_of_ble_eq_true rfl) (Nat.le_of_ble_eq_true rfl) ?_
  refine W.eq (g2 := F0 m 4 ls []) rfl ?_
  refine lv_aload_n hx hb dX0_init_4 rfl (lv_at hl 0 rfl) ?_
  refine lv_bipush (v := 6) hx hb dX0_init_5 (by decide) ?_
  refine va_newa (atype := .int) (ty := .int) (N' := 6) (a0 := (6, .inl (fun _ => 0))) hx hb (hts _ wd_66) rfl hK hP hD hS hA (fun cA => rfl) (by decide) (by decide) (by decide) (Nat.le_of_ble_eq_true rfl) (Nat.le_of_ble_eq_true rfl) dX0_init_7 (fun q1 c2 H hK hP hD hS => ?_)
  have hP : va_P (dC, dI) classes [(h0, .inr (0, [.null, .int 0, .int 0, .int 0, .int 0, .int 0, .int 0, .int 0])), (q1, .inl (c2, 6, .inl (fun _ => 0)))] H := hP
  have hD : va_D A [(h0, .inr (0, [.null, .int 0, .int 0, .int 0, .int 0, .int 0, .int 0, .int 0])), (q1, .inl (c2, 6, .inl (fun _ => 0)))] := hD
  have hK : va_K (dC, dI) classes [(c2, .int)] s := hK
  refine W.widen (k := 1) (n := 6) (by omega) (by omega) ?_
  refine va_putF (D := (dC, dI)) (ci := 0) (v := .ref q1) (ty := .array .int) (C := RX0) (T := TX0) (N := 8) hx hb hts iX0 tyX0 tyX0_ok nmX0 hown hK hP hD hS 0 rfl rfl 0 (by decide) (hts _ wd_146) (fun _ h9 => h9) rfl hin rfl (by decide +kernel) rfl rfl (Nat.le_of_ble_eq_true rfl) dX0_init_9 (fun H locs hP hD hS => ?_)
  have hP : va_P (dC, dI) classes [(h0, .inr (0, [.ref q1, .int 0, .int 0, .int 0, .int 0, .int 0, .int 0, .int 0])), (q1, .inl (c2, 6, .inl (fun _ => 0)))] H := hP
  have hD : va_D A [(h0, .inr (0, [.ref q1, .int 0, .int 0, .int 0, .int 0, .int 0, .int 0, .int 0])), (q1, .inl (c2, 6, .inl (fun _ => 0)))] := hD
  have hP9 := hP.sub (ws' := [(h0, .inr (0, [.ref q1, .int 0, .int 0, .int 0, .int 0, .int 0, .int 0, .int 0])), (q1, .inl (c2, 6, .inl (fun _ => 0)))]) [0, 1] rfl
  have hD9 := hD.sub (ws' := [(h0, .inr (0, [.ref q1, .int 0, .int 0, .int 0, .int 0, .int 0, .int 0, .int 0])), (q1, .inl (c2, 6, .inl (fun _ => 0)))]) [0, 1] (by decide) rfl
  have hK9 := hK.sub (tys' := [(c2, .int)]) [0] rfl
  exact W.vret hx hb hr (fun t ht hW => ⟨⟨(), rfl, trivial, q1, c2, by rw [ht]; exact hP9, va_K.moved hW.alike hK9, hD9⟩, hS.F ht⟩) hS.2.2 dX0_init_12
set_option maxHeartbeats 4000000 in
set_option maxRecDepth 100000 in
theorem i_X1 (l : Launch) (dC : Nat → ClassId) (dI : Nat → Nat → Nat) (h0 : Nat) (sz : Nat) : Met l yX1_init (.code yX1_init cX1_init 1 none :: lw_g) ({ frames := 1, cells := 1, slots := 12, locals := 12 }) (PcI dC dI [(h0, .inr (1, [.null, .int 0]))] h0 sz) (va_Qv (fun _ : Unit => True) (fun (_ : Unit) t => ∃ (y0 : Nat) (cZ : ClassId), va_P (dC, dI) classes [(h0, .inr (1, [.ref y0, .int 0])), (y0, .inl (cZ, 12, .inl (fun _ => 0)))] t.heap ∧ va_K (dC, dI) classes [(cZ, .int)] t ∧ va_D (va_A [(h0, .inr (1, [.null, .int 0]))] sz) [(h0, .inr (1, [.ref y0, .int 0])), (y0, .inl (cZ, 12, .inl (fun _ => 0)))]) (va_A [(h0, .inr (1, [.null, .int 0]))] sz)) 1 12 (va_A [(h0, .inr (1, [.null, .int 0]))] sz) := by
  refine Met.ofW (cc := cX1_init) (maxL := 1) (ret := none) (by decide) rfl ?_
  intro p e s m args below meth c s₁ B hml hv
  obtain ⟨rfl, hsz, hP, hK, hD0⟩ := hv
  have hx := B.exec
  have hb := B.bytes
  have hr := B.returns
  have hts0 := atoms_spec (ws := (.code yX1_init cX1_init 1 none :: lw_g)) B.pre
  have hts : ∀ w ∈ lw_g, w.before (([.ref h0] : List Value).toArray) s = true := fun w h => hts0 w (List.mem_cons_of_mem _ h)
  have hown : s.vm.findClass RX1 = some m.cls := findClass_of_methodNamed B.named
  have hlocks := B.notSynchronized
  have hin : meth.name = "<init>" := (name_of_methodNamed B.named B.method).1
  subst hsz
  have hD := hD0.self (sz := s.heap.size)
  generalize hAe : va_A [(h0, .inr (1, [.null, .int 0]))] s.heap.size = A at hD ⊢
  have hA : ∀ q : Nat, s.heap.size ≤ q → A q := fun q h => by rw [← hAe]; exact Or.inr h
  have hS : va_S A s.heap s.heap [] := va_S.rf
  have hP : va_P (dC, dI) classes [(h0, .inr (1, [.null, .int 0]))] s.heap := hP
  have hl := lv_entry ([.ref h0]) (n := 1) (Nat.le_of_ble_eq_true rfl)
  rw [lg_entry_eq]
  generalize (lg_sl ([.ref h0]) ++ List.replicate (1 - (lg_sl ([.ref h0])).length) Slot.unset).toArray = ls at hl ⊢
  have hl : lv_has ls 1 [(0, .ref h0)] := hl
  refine lv_aload_n hx hb dX1_init_0 rfl (lv_at hl 0 rfl) ?_
  refine W.objInit hx hb hown (hts _ wd_56) (hts _ wd_49) (hts _ wd_50) rfl (by rw [hml]; exact hl.1) rfl dX1_init_1 (Nat.le_of_ble_eq_true rfl) (Nat.le_of_ble_eq_true rfl) ?_
  refine W.eq (g2 := F0 m 4 ls []) rfl ?_
  refine lv_aload_n hx hb dX1_init_4 rfl (lv_at hl 0 rfl) ?_
  refine lv_bipush (v := 12) hx hb dX1_init_5 (by decide) ?_
  refine va_newa (atype := .int) (ty := .int) (N' := 12) (a0 := (12, .inl (fun _ => 0))) hx hb (hts _ wd_66) rfl hK hP hD hS hA (fun cA => rfl) (by decide) (by decide) (by decide) (Nat.le_of_ble_eq_true rfl) (Nat.le_of_ble_eq_true rfl) dX1_init_7 (fun q1 c2 H hK hP hD hS => ?_)
  have hP : va_P (dC, dI) classes [(h0, .inr (1, [.null, .int 0])), (q1, .inl (c2, 12, .inl (fun _ => 0)))] H := hP
  have hD : va_D A [(h0, .inr (1, [.null, .int 0])), (q1, .inl (c2, 12, .inl (fun _ => 0)))] := hD
  have hK : va_K (dC, dI) classes [(c2, .int)] s := hK
  refine W.widen (k := 1) (n := 12) (by omega) (by omega) ?_
  refine va_putF (D := (dC, dI)) (ci := 1) (v := .ref q1) (ty := .array .int) (C := RX1) (T := TX1) (N := 2) hx hb hts iX1 tyX1 tyX1_ok nmX1 hown hK hP hD hS 0 rfl rfl 0 (by decide) (hts _ wd_57) (fun _ h9 => h9) rfl hin rfl (by decide +kernel) rfl rfl (Nat.le_of_ble_eq_true rfl) dX1_init_9 (fun H locs hP hD hS => ?_)
  have hP : va_P (dC, dI) classes [(h0, .inr (1, [.ref q1, .int 0])), (q1, .inl (c2, 12, .inl (fun _ => 0)))] H := hP
  have hD : va_D A [(h0, .inr (1, [.ref q1, .int 0])), (q1, .inl (c2, 12, .inl (fun _ => 0)))] := hD
  refine lv_aload_n hx hb dX1_init_12 rfl (lv_at hl 0 rfl) ?_
  refine lv_iconst (v := 0) hx hb dX1_init_13 (by decide) ?_
  refine va_put (D := (dC, dI)) (ci := 1) (v := .int 0) (ty := .int) (C := RX1) (T := TX1) (N := 2) hx hb hts iX1 tyX1 tyX1_ok nmX1 hown hK hP hD hS 0 rfl rfl 1 (by decide) (hts _ wd_59) (fun _ h9 => h9) rfl (by decide +kernel) rfl rfl (Nat.le_of_ble_eq_true rfl) dX1_init_14 (fun H locs hP hD hS => ?_)
  have hP : va_P (dC, dI) classes [(h0, .inr (1, [.ref q1, .int 0])), (q1, .inl (c2, 12, .inl (fun _ => 0)))] H := hP
  have hD : va_D A [(h0, .inr (1, [.ref q1, .int 0])), (q1, .inl (c2, 12, .inl (fun _ => 0)))] := hD
  have hP9 := hP.sub (ws' := [(h0, .inr (1, [.ref q1, .int 0])), (q1, .inl (c2, 12, .inl (fun _ => 0)))]) [0, 1] rfl
  have hD9 := hD.sub (ws' := [(h0, .inr (1, [.ref q1, .int 0])), (q1, .inl (c2, 12, .inl (fun _ => 0)))]) [0, 1] (by decide) rfl
  have hK9 := hK.sub (tys' := [(c2, .int)]) [0] rfl
  exact W.vret hx hb hr (fun t ht hW => ⟨⟨(), rfl, trivial, q1, c2, by rw [ht]; exact hP9, va_K.moved hW.alike hK9, hD9⟩, hS.F ht⟩) hS.2.2 dX1_init_17
set_option maxHeartbeats 4000000 in
set_option maxRecDepth 100000 in
theorem i_X2 (l : Launch) (dC : Nat → ClassId) (dI : Nat → Nat → Nat) (h0 : Nat) (sz : Nat) : Met l yX2_init (.code yX2_init cX2_init 1 none :: lw_g) ({ frames := 1, cells := 5, slots := 30, locals := 12 }) (PcI dC dI [(h0, .inr (2, [.null, .null, .null, .null, .null, .int 0, .int 0, .int 0, .int 0, .int 0, .int 0, .int 0, .int 0, .int 0, .int 0, .int 0, .int 0]))] h0 sz) (va_Qv (fun _ : Unit => True) (fun (_ : Unit) t => ∃ (y0 : Nat) (y1 : Nat) (y2 : Nat) (y3 : Nat) (y4 : Nat) (cZ : ClassId), va_P (dC, dI) classes [(h0, .inr (2, [.ref y0, .ref y1, .ref y2, .ref y3, .ref y4, .int 0, .int 0, .int 0, .int 0, .int 0, .int 0, .int 0, .int 0, .int 0, .int 0, .int 0, .int 0])), (y0, .inl (cZ, 6, .inl (fun _ => 0))), (y1, .inl (cZ, 6, .inl (fun _ => 0))), (y2, .inl (cZ, 6, .inl (fun _ => 0))), (y3, .inl (cZ, 6, .inl (fun _ => 0))), (y4, .inl (cZ, 6, .inl (fun _ => 0)))] t.heap ∧ va_K (dC, dI) classes [(cZ, .int)] t ∧ va_D (va_A [(h0, .inr (2, [.null, .null, .null, .null, .null, .int 0, .int 0, .int 0, .int 0, .int 0, .int 0, .int 0, .int 0, .int 0, .int 0, .int 0, .int 0]))] sz) [(h0, .inr (2, [.ref y0, .ref y1, .ref y2, .ref y3, .ref y4, .int 0, .int 0, .int 0, .int 0, .int 0, .int 0, .int 0, .int 0, .int 0, .int 0, .int 0, .int 0])), (y0, .inl (cZ, 6, .inl (fun _ => 0))), (y1, .inl (cZ, 6, .inl (fun _ => 0))), (y2, .inl (cZ, 6, .inl (fun _ => 0))), (y3, .inl (cZ, 6, .inl (fun _ => 0))), (y4, .inl (cZ, 6, .inl (fun _ => 0)))]) (va_A [(h0, .inr (2, [.null, .null, .null, .null, .null, .int 0, .int 0, .int 0, .int 0, .int 0, .int 0, .int 0, .int 0, .int 0, .int 0, .int 0, .int 0]))] sz)) 5 30 (va_A [(h0, .inr (2, [.null, .null, .null, .null, .null, .int 0, .int 0, .int 0, .int 0, .int 0, .int 0, .int 0, .int 0, .int 0, .int 0, .int 0, .int 0]))] sz) := by
  refine Met.ofW (cc := cX2_init) (maxL := 1) (ret := none) (by decide) rfl ?_
  intro p e s m args below meth c s₁ B hml hv
  obtain ⟨rfl, hsz, hP, hK, hD0⟩ := hv
  have hx := B.exec
  have hb := B.bytes
  have hr := B.returns
  have hts0 := atoms_spec (ws := (.code yX2_init cX2_init 1 none :: lw_g)) B.pre
  have hts : ∀ w ∈ lw_g, w.before (([.ref h0] : List Value).toArray) s = true := fun w h => hts0 w (List.mem_cons_of_mem _ h)
  have hown : s.vm.findClass RX2 = some m.cls := findClass_of_methodNamed B.named
  have hlocks := B.notSynchronized
  have hin : meth.name = "<init>" := (name_of_methodNamed B.named B.method).1
  subst hsz
  have hD := hD0.self (sz := s.heap.size)
  generalize hAe : va_A [(h0, .inr (2, [.null, .null, .null, .null, .null, .int 0, .int 0, .int 0, .int 0, .int 0, .int 0, .int 0, .int 0, .int 0, .int 0, .int 0, .int 0]))] s.heap.size = A at hD ⊢
  have hA : ∀ q : Nat, s.heap.size ≤ q → A q := fun q h => by rw [← hAe]; exact Or.inr h
  have hS : va_S A s.heap s.heap [] := va_S.rf
  have hP : va_P (dC, dI) classes [(h0, .inr (2, [.null, .null, .null, .null, .null, .int 0, .int 0, .int 0, .int 0, .int 0, .int 0, .int 0, .int 0, .int 0, .int 0, .int 0, .int 0]))] s.heap := hP
  have hl := lv_entry ([.ref h0]) (n := 1) (Nat.le_of_ble_eq_true rfl)
  rw [lg_entry_eq]
  generalize (lg_sl ([.ref h0]) ++ List.replicate (1 - (lg_sl ([.ref h0])).length) Slot.unset).toArray = ls at hl ⊢
  have hl : lv_has ls 1 [(0, .ref h0)] := hl
  refine lv_aload_n hx hb dX2_init_0 rfl (lv_at hl 0 rfl) ?_
  refine W.objInit hx hb hown (hts _ wd_72) (hts _ wd_49) (hts _ wd_50) rfl (by rw [hml]; exact hl.1) rfl dX2_init_1 (Nat.le_of_ble_eq_true rfl) (Nat.le_of_ble_eq_true rfl) ?_
  refine W.eq (g2 := F0 m 4 ls []) rfl ?_
  refine lv_aload_n hx hb dX2_init_4 rfl (lv_at hl 0 rfl) ?_
  refine lv_bipush (v := 6) hx hb dX2_init_5 (by decide) ?_
  refine va_newa (atype := .int) (ty := .int) (N' := 6) (a0 := (6, .inl (fun _ => 0))) hx hb (hts _ wd_66) rfl hK hP hD hS hA (fun cA => rfl) (by decide) (by decide) (by decide) (Nat.le_of_ble_eq_true rfl) (Nat.le_of_ble_eq_true rfl) dX2_init_7 (fun q1 c2 H hK hP hD hS => ?_)
  have hP : va_P (dC, dI) classes [(h0, .inr (2, [.null, .null, .null, .null, .null, .int 0, .int 0, .int 0, .int 0, .int 0, .int 0, .int 0, .int 0, .int 0, .int 0, .int 0, .int 0])), (q1, .inl (c2, 6, .inl (fun _ => 0)))] H := hP
  have hD : va_D A [(h0, .inr (2, [.null, .null, .null, .null, .null, .int 0, .int 0, .int 0, .int 0, .int 0, .int 0, .int 0, .int 0, .int 0, .int 0, .int 0, .int 0])), (q1, .inl (c2, 6, .inl (fun _ => 0)))] := hD
  have hK : va_K (dC, dI) classes [(c2, .int)] s := hK
  refine W.widen (k := 1) (n := 6) (by omega) (by omega) ?_
  refine va_putF (D := (dC, dI)) (ci := 2) (v := .ref q1) (ty := .array .int) (C := RX2) (T := TX2) (N := 17) hx hb hts iX2 tyX2 tyX2_ok nmX2 hown hK hP hD hS 0 rfl rfl 0 (by decide) (hts _ wd_73) (fun _ h9 => h9) rfl hin rfl (by decide +kernel) rfl rfl (Nat.le_of_ble_eq_true rfl) dX2_init_9 (fun H locs hP hD hS => ?_)
  have hP : va_P (dC, dI) classes [(h0, .inr (2, [.ref q1, .null, .null, .null, .null, .int 0, .int 0, .int 0, .int 0, .int 0, .int 0, .int 0, .int 0, .int 0, .int 0, .int 0, .int 0])), (q1, .inl (c2, 6, .inl (fun _ => 0)))] H := hP
  have hD : va_D A [(h0, .inr (2, [.ref q1, .null, .null, .null, .null, .int 0, .int 0, .int 0, .int 0, .int 0, .int 0, .int 0, .int 0, .int 0, .int 0, .int 0, .int 0])), (q1, .inl (c2, 6, .inl (fun _ => 0)))] := hD
  refine lv_aload_n hx hb dX2_init_12 rfl (lv_at hl 0 rfl) ?_
  refine lv_bipush (v := 6) hx hb dX2_init_13 (by decide) ?_
  refine va_newa (atype := .int) (ty := .int) (N' := 6) (a0 := (6, .inl (fun _ => 0))) hx hb (hts _ wd_66) rfl hK hP hD hS hA (fun cA => rfl) (by decide) (by decide) (by decide) (Nat.le_of_ble_eq_true rfl) (Nat.le_of_ble_eq_true rfl) dX2_init_15 (fun q3 c4 H hK hP hD hS => ?_)
  have hP : va_P (dC, dI) classes [(h0, .inr (2, [.ref q1, .null, .null, .null, .null, .int 0, .int 0, .int 0, .int 0, .int 0, .int 0, .int 0, .int 0, .int 0, .int 0, .int 0, .int 0])), (q1, .inl (c2, 6, .inl (fun _ => 0))), (q3, .inl (c4, 6, .inl (fun _ => 0)))] H := hP
  have hD : va_D A [(h0, .inr (2, [.ref q1, .null, .null, .null, .null, .int 0, .int 0, .int 0, .int 0, .int 0, .int 0, .int 0, .int 0, .int 0, .int 0, .int 0, .int 0])), (q1, .inl (c2, 6, .inl (fun _ => 0))), (q3, .inl (c4, 6, .inl (fun _ => 0)))] := hD
  have hK : va_K (dC, dI) classes [(c2, .int), (c4, .int)] s := hK
  refine W.widen (k := 2) (n := 12) (by omega) (by omega) ?_
  refine va_putF (D := (dC, dI)) (ci := 2) (v := .ref q3) (ty := .array .int) (C := RX2) (T := TX2) (N := 17) hx hb hts iX2 tyX2 tyX2_ok nmX2 hown hK hP hD hS 0 rfl rfl 1 (by decide) (hts _ wd_75) (fun _ h9 => h9) rfl hin rfl (by decide +kernel) rfl rfl (Nat.le_of_ble_eq_true rfl) dX2_init_17 (fun H locs hP hD hS => ?_)
  have hP : va_P (dC, dI) classes [(h0, .inr (2, [.ref q1, .ref q3, .null, .null, .null, .int 0, .int 0, .int 0, .int 0, .int 0, .int 0, .int 0, .int 0, .int 0, .int 0, .int 0, .int 0])), (q1, .inl (c2, 6, .inl (fun _ => 0))), (q3, .inl (c4, 6, .inl (fun _ => 0)))] H := hP
  have hD : va_D A [(h0, .inr (2, [.ref q1, .ref q3, .null, .null, .null, .int 0, .int 0, .int 0, .int 0, .int 0, .int 0, .int 0, .int 0, .int 0, .int 0, .int 0, .int 0])), (q1, .inl (c2, 6, .inl (fun _ => 0))), (q3, .inl (c4, 6, .inl (fun _ => 0)))] := hD
  refine lv_aload_n hx hb dX2_init_20 rfl (lv_at hl 0 rfl) ?_
  refine lv_bipush (v := 6) hx hb dX2_init_21 (by decide) ?_
  refine va_newa (atype := .int) (ty := .int) (N' := 6) (a0 := (6, .inl (fun _ => 0))) hx hb (hts _ wd_66) rfl hK hP hD hS hA (fun cA => rfl) (by decide) (by decide) (by decide) (Nat.le_of_ble_eq_true rfl) (Nat.le_of_ble_eq_true rfl) dX2_init_23 (fun q5 c6 H hK hP hD hS => ?_)
  have hP : va_P (dC, dI) classes [(h0, .inr (2, [.ref q1, .ref q3, .null, .null, .null, .int 0, .int 0, .int 0, .int 0, .int 0, .int 0, .int 0, .int 0, .int 0, .int 0, .int 0, .int 0])), (q1, .inl (c2, 6, .inl (fun _ => 0))), (q3, .inl (c4, 6, .inl (fun _ => 0))), (q5, .inl (c6, 6, .inl (fun _ => 0)))] H := hP
  have hD : va_D A [(h0, .inr (2, [.ref q1, .ref q3, .null, .null, .null, .int 0, .int 0, .int 0, .int 0, .int 0, .int 0, .int 0, .int 0, .int 0, .int 0, .int 0, .int 0])), (q1, .inl (c2, 6, .inl (fun _ => 0))), (q3, .inl (c4, 6, .inl (fun _ => 0))), (q5, .inl (c6, 6, .inl (fun _ => 0)))] := hD
  have hK : va_K (dC, dI) classes [(c2, .int), (c4, .int), (c6, .int)] s := hK
  refine W.widen (k := 3) (n := 18) (by omega) (by omega) ?_
  refine va_putF (D := (dC, dI)) (ci := 2) (v := .ref q5) (ty := .array .int) (C := RX2) (T := TX2) (N := 17) hx hb hts iX2 tyX2 tyX2_ok nmX2 hown hK hP hD hS 0 rfl rfl 2 (by decide) (hts _ wd_77) (fun _ h9 => h9) rfl hin rfl (by decide +kernel) rfl rfl (Nat.le_of_ble_eq_true rfl) dX2_init_25 (fun H locs hP hD hS => ?_)
  have hP : va_P (dC, dI) classes [(h0, .inr (2, [.ref q1, .ref q3, .ref q5, .null, .null, .int 0, .int 0, .int 0, .int 0, .int 0, .int 0, .int 0, .int 0, .int 0, .int 0, .int 0, .int 0])), (q1, .inl (c2, 6, .inl (fun _ => 0))), (q3, .inl (c4, 6, .inl (fun _ => 0))), (q5, .inl (c6, 6, .inl (fun _ => 0)))] H := hP
  have hD : va_D A [(h0, .inr (2, [.ref q1, .ref q3, .ref q5, .null, .null, .int 0, .int 0, .int 0, .int 0, .int 0, .int 0, .int 0, .int 0, .int 0, .int 0, .int 0, .int 0])), (q1, .inl (c2, 6, .inl (fun _ => 0))), (q3, .inl (c4, 6, .inl (fun _ => 0))), (q5, .inl (c6, 6, .inl (fun _ => 0)))] := hD
  refine lv_aload_n hx hb dX2_init_28 rfl (lv_at hl 0 rfl) ?_
  refine lv_bipush (v := 6) hx hb dX2_init_29 (by decide) ?_
  refine va_newa (atype := .int) (ty := .int) (N' := 6) (a0 := (6, .inl (fun _ => 0))) hx hb (hts _ wd_66) rfl hK hP hD hS hA (fun cA => rfl) (by decide) (by decide) (by decide) (Nat.le_of_ble_eq_true rfl) (Nat.le_of_ble_eq_true rfl) dX2_init_31 (fun q7 c8 H hK hP hD hS => ?_)
  have hP : va_P (dC, dI) classes [(h0, .inr (2, [.ref q1, .ref q3, .ref q5, .null, .null, .int 0, .int 0, .int 0, .int 0, .int 0, .int 0, .int 0, .int 0, .int 0, .int 0, .int 0, .int 0])), (q1, .inl (c2, 6, .inl (fun _ => 0))), (q3, .inl (c4, 6, .inl (fun _ => 0))), (q5, .inl (c6, 6, .inl (fun _ => 0))), (q7, .inl (c8, 6, .inl (fun _ => 0)))] H := hP
  have hD : va_D A [(h0, .inr (2, [.ref q1, .ref q3, .ref q5, .null, .null, .int 0, .int 0, .int 0, .int 0, .int 0, .int 0, .int 0, .int 0, .int 0, .int 0, .int 0, .int 0])), (q1, .inl (c2, 6, .inl (fun _ => 0))), (q3, .inl (c4, 6, .inl (fun _ => 0))), (q5, .inl (c6, 6, .inl (fun _ => 0))), (q7, .inl (c8, 6, .inl (fun _ => 0)))] := hD
  have hK : va_K (dC, dI) classes [(c2, .int), (c4, .int), (c6, .int), (c8, .int)] s := hK
  refine W.widen (k := 4) (n := 24) (by omega) (by omega) ?_
  refine va_putF (D := (dC, dI)) (ci := 2) (v := .ref q7) (ty := .array .int) (C := RX2) (T := TX2) (N := 17) hx hb hts iX2 tyX2 tyX2_ok nmX2 hown hK hP hD hS 0 rfl rfl 3 (by decide) (hts _ wd_79) (fun _ h9 => h9) rfl hin rfl (by decide +kernel) rfl rfl (Nat.le_of_ble_eq_true rfl) dX2_init_33 (fun H locs hP hD hS => ?_)
  have hP : va_P (dC, dI) classes [(h0, .inr (2, [.ref q1, .ref q3, .ref q5, .ref q7, .null, .int 0, .int 0, .int 0, .int 0, .int 0, .int 0, .int 0, .int 0, .int 0, .int 0, .int 0, .int 0])), (q1, .inl (c2, 6, .inl (fun _ => 0))), (q3, .inl (c4, 6, .inl (fun _ => 0))), (q5, .inl (c6, 6, .inl (fun _ => 0))), (q7, .inl (c8, 6, .inl (fun _ => 0)))] H := hP
  have hD : va_D A [(h0, .inr (2, [.ref q1, .ref q3, .ref q5, .ref q7, .null, .int 0, .int 0, .int 0, .int 0, .int 0, .int 0, .int 0, .int 0, .int 0, .int 0, .int 0, .int 0])), (q1, .inl (c2, 6, .inl (fun _ => 0))), (q3, .inl (c4, 6, .inl (fun _ => 0))), (q5, .inl (c6, 6, .inl (fun _ => 0))), (q7, .inl (c8, 6, .inl (fun _ => 0)))] := hD
  refine lv_aload_n hx hb dX2_init_36 rfl (lv_at hl 0 rfl) ?_
  refine lv_bipush (v := 6) hx hb dX2_init_37 (by decide) ?_
  refine va_newa (atype := .int) (ty := .int) (N' := 6) (a0 := (6, .inl (fun _ => 0))) hx hb (hts _ wd_66) rfl hK hP hD hS hA (fun cA => rfl) (by decide) (by decide) (by decide) (Nat.le_of_ble_eq_true rfl) (Nat.le_of_ble_eq_true rfl) dX2_init_39 (fun q9 c10 H hK hP hD hS => ?_)
  have hP : va_P (dC, dI) classes [(h0, .inr (2, [.ref q1, .ref q3, .ref q5, .ref q7, .null, .int 0, .int 0, .int 0, .int 0, .int 0, .int 0, .int 0, .int 0, .int 0, .int 0, .int 0, .int 0])), (q1, .inl (c2, 6, .inl (fun _ => 0))), (q3, .inl (c4, 6, .inl (fun _ => 0))), (q5, .inl (c6, 6, .inl (fun _ => 0))), (q7, .inl (c8, 6, .inl (fun _ => 0))), (q9, .inl (c10, 6, .inl (fun _ => 0)))] H := hP
  have hD : va_D A [(h0, .inr (2, [.ref q1, .ref q3, .ref q5, .ref q7, .null, .int 0, .int 0, .int 0, .int 0, .int 0, .int 0, .int 0, .int 0, .int 0, .int 0, .int 0, .int 0])), (q1, .inl (c2, 6, .inl (fun _ => 0))), (q3, .inl (c4, 6, .inl (fun _ => 0))), (q5, .inl (c6, 6, .inl (fun _ => 0))), (q7, .inl (c8, 6, .inl (fun _ => 0))), (q9, .inl (c10, 6, .inl (fun _ => 0)))] := hD
  have hK : va_K (dC, dI) classes [(c2, .int), (c4, .int), (c6, .int), (c8, .int), (c10, .int)] s := hK
  refine W.widen (k := 5) (n := 30) (by omega) (by omega) ?_
  refine va_putF (D := (dC, dI)) (ci := 2) (v := .ref q9) (ty := .array .int) (C := RX2) (T := TX2) (N := 17) hx hb hts iX2 tyX2 tyX2_ok nmX2 hown hK hP hD hS 0 rfl rfl 4 (by decide) (hts _ wd_81) (fun _ h9 => h9) rfl hin rfl (by decide +kernel) rfl rfl (Nat.le_of_ble_eq_true rfl) dX2_init_41 (fun H locs hP hD hS => ?_)
  have hP : va_P (dC, dI) classes [(h0, .inr (2, [.ref q1, .ref q3, .ref q5, .ref q7, .ref q9, .int 0, .int 0, .int 0, .int 0, .int 0, .int 0, .int 0, .int 0, .int 0, .int 0, .int 0, .int 0])), (q1, .inl (c2, 6, .inl (fun _ => 0))), (q3, .inl (c4, 6, .inl (fun _ => 0))), (q5, .inl (c6, 6, .inl (fun _ => 0))), (q7, .inl (c8, 6, .inl (fun _ => 0))), (q9, .inl (c10, 6, .inl (fun _ => 0)))] H := hP
  have hD : va_D A [(h0, .inr (2, [.ref q1, .ref q3, .ref q5, .ref q7, .ref q9, .int 0, .int 0, .int 0, .int 0, .int 0, .int 0, .int 0, .int 0, .int 0, .int 0, .int 0, .int 0])), (q1, .inl (c2, 6, .inl (fun _ => 0))), (q3, .inl (c4, 6, .inl (fun _ => 0))), (q5, .inl (c6, 6, .inl (fun _ => 0))), (q7, .inl (c8, 6, .inl (fun _ => 0))), (q9, .inl (c10, 6, .inl (fun _ => 0)))] := hD
  have u0 : c2 = c4 := cA_eq hK 0 1 rfl rfl
  subst u0
  have hK := hK.sub (tys' := [(c2, .int), (c6, .int), (c8, .int), (c10, .int)]) [0, 2, 3, 4] rfl
  have u1 : c2 = c6 := cA_eq hK 0 1 rfl rfl
  subst u1
  have hK := hK.sub (tys' := [(c2, .int), (c8, .int), (c10, .int)]) [0, 2, 3] rfl
  have u2 : c2 = c8 := cA_eq hK 0 1 rfl rfl
  subst u2
  have hK := hK.sub (tys' := [(c2, .int), (c10, .int)]) [0, 2] rfl
  have u3 : c2 = c10 := cA_eq hK 0 1 rfl rfl
  subst u3
  have hK := hK.sub (tys' := [(c2, .int)]) [0] rfl
  have hP9 := hP.sub (ws' := [(h0, .inr (2, [.ref q1, .ref q3, .ref q5, .ref q7, .ref q9, .int 0, .int 0, .int 0, .int 0, .int 0, .int 0, .int 0, .int 0, .int 0, .int 0, .int 0, .int 0])), (q1, .inl (c2, 6, .inl (fun _ => 0))), (q3, .inl (c2, 6, .inl (fun _ => 0))), (q5, .inl (c2, 6, .inl (fun _ => 0))), (q7, .inl (c2, 6, .inl (fun _ => 0))), (q9, .inl (c2, 6, .inl (fun _ => 0)))]) [0, 1, 2, 3, 4, 5] rfl
  have hD9 := hD.sub (ws' := [(h0, .inr (2, [.ref q1, .ref q3, .ref q5, .ref q7, .ref q9, .int 0, .int 0, .int 0, .int 0, .int 0, .int 0, .int 0, .int 0, .int 0, .int 0, .int 0, .int 0])), (q1, .inl (c2, 6, .inl (fun _ => 0))), (q3, .inl (c2, 6, .inl (fun _ => 0))), (q5, .inl (c2, 6, .inl (fun _ => 0))), (q7, .inl (c2, 6, .inl (fun _ => 0))), (q9, .inl (c2, 6, .inl (fun _ => 0)))]) [0, 1, 2, 3, 4, 5] (by decide) rfl
  have hK9 := hK.sub (tys' := [(c2, .int)]) [0] rfl
  exact W.vret hx hb hr (fun t ht hW => ⟨⟨(), rfl, trivial, q1, q3, q5, q7, q9, c2, by rw [ht]; exact hP9, va_K.moved hW.alike hK9, hD9⟩, hS.F ht⟩) hS.2.2 dX2_init_44
set_option maxHeartbeats 4000000 in
set_option maxRecDepth 100000 in
theorem i_X3 (l : Launch) (dC : Nat → ClassId) (dI : Nat → Nat → Nat) (h0 : Nat) (sz : Nat) : Met l yX3_init (.code yX3_init cX3_init 1 none :: lw_g) ({ frames := 2, cells := 16, slots := 122, locals := 32 }) (PcI dC dI [(h0, .inr (3, [.null, .null, .null, .null, .int 0, .int 0]))] h0 sz) (va_Qv (fun _ : Unit => True) (fun (_ : Unit) t => ∃ (a : Nat → Nat) (cZ : ClassId), a 0 = h0 ∧ va_P (dC, dI) classes (wl a cZ XZ) t.heap ∧ va_K (dC, dI) classes [(cZ, .int)] t ∧ va_D (va_A [(h0, .inr (3, [.null, .null, .null, .null, .int 0, .int 0]))] sz) (wl a cZ XZ)) (va_A [(h0, .inr (3, [.null, .null, .null, .null, .int 0, .int 0]))] sz)) 16 122 (va_A [(h0, .inr (3, [.null, .null, .null, .null, .int 0, .int 0]))] sz) := by
  refine Met.ofW (cc := cX3_init) (maxL := 1) (ret := none) (by decide) rfl ?_
  intro p e s m args below meth c s₁ B hml hv
  obtain ⟨rfl, hsz, hP, hK, hD0⟩ := hv
  have hx := B.exec
  have hb := B.bytes
  have hr := B.returns
  have hts0 := atoms_spec (ws := (.code yX3_init cX3_init 1 none :: lw_g)) B.pre
  have hts : ∀ w ∈ lw_g, w.before (([.ref h0] : List Value).toArray) s = true := fun w h => hts0 w (List.mem_cons_of_mem _ h)
  have hown : s.vm.findClass RX3 = some m.cls := findClass_of_methodNamed B.named
  have hlocks := B.notSynchronized
  have hin : meth.name = "<init>" := (name_of_methodNamed B.named B.method).1
  subst hsz
  have hD := hD0.self (sz := s.heap.size)
  generalize hAe : va_A [(h0, .inr (3, [.null, .null, .null, .null, .int 0, .int 0]))] s.heap.size = A at hD ⊢
  have hA : ∀ q : Nat, s.heap.size ≤ q → A q := fun q h => by rw [← hAe]; exact Or.inr h
  have hS : va_S A s.heap s.heap [] := va_S.rf
  have hP : va_P (dC, dI) classes [(h0, .inr (3, [.null, .null, .null, .null, .int 0, .int 0]))] s.heap := hP
  have hl := lv_entry ([.ref h0]) (n := 1) (Nat.le_of_ble_eq_true rfl)
  rw [lg_entry_eq]
  generalize (lg_sl ([.ref h0]) ++ List.replicate (1 - (lg_sl ([.ref h0])).length) Slot.unset).toArray = ls at hl ⊢
  have hl : lv_has ls 1 [(0, .ref h0)] := hl
  refine lv_aload_n hx hb dX3_init_0 rfl (lv_at hl 0 rfl) ?_
  refine W.objInit hx hb hown (hts _ wd_48) (hts _ wd_49) (hts _ wd_50) rfl (by rw [hml]; exact hl.1) rfl dX3_init_1 (Nat.le_of_ble_eq_true rfl) (Nat.le_of_ble_eq_true rfl) ?_
  refine W.eq (g2 := F0 m 4 ls []) rfl ?_
  refine lv_aload_n hx hb dX3_init_4 rfl (lv_at hl 0 rfl) ?_
  refine va_new (ci := 1) (fs := [.null, .int 0]) (C := RX1) (T := TX1) (N := 2) hx hb hts iX1 tyX1 tyX1_ok hown (hts _ wd_51) (hts _ wd_52) (hts _ wd_36) hK hP hD hS hA rfl (fun j hj => by rcases (show j = 0 ∨ j = 1 by omega) with rfl | rfl <;> rfl) (Nat.le_of_ble_eq_true rfl) (Nat.le_of_ble_eq_true rfl) dX3_init_5 (fun q1 H hP hD hS => ?_)
  have hP : va_P (dC, dI) classes [(h0, .inr (3, [.null, .null, .null, .null, .int 0, .int 0])), (q1, .inr (1, [.null, .int 0]))] H := hP
  have hD : va_D A [(h0, .inr (3, [.null, .null, .null, .null, .int 0, .int 0])), (q1, .inr (1, [.null, .int 0]))] := hD
  refine W.widen (k := 1) (n := 2) (by omega) (by omega) ?_
  refine lv_dup hx hb dX3_init_8 rfl ?_
  have hPc := hP.sub (ws' := [(q1, .inr (1, [.null, .int 0]))]) [1] rfl
  have hDc := hD.sub (ws' := [(q1, .inr (1, [.null, .int 0]))]) [1] (by decide) rfl
  have hKc := hK.sub (tys' := []) [] rfl
  have hFc := va_free (wc := [(q1, .inr (1, [.null, .int 0]))]) hD hS hA [1] rfl
  refine va_callv (va_runI (As := []) (rest := [.ref q1, .ref h0]) ⟨hx, hb, hml, hown, hts⟩ (i_X1 l dC dI q1 H.size) ⟨callB_of 0 hts gd_X1_init rfl rfl rfl (hts _ wd_36) (hts _ wd_53) hd_X1_init ⟨Nat.le_of_ble_eq_true rfl, Nat.le_of_ble_eq_true rfl⟩, rfl, hts _ wd_54⟩ ⟨blI, fun U hU hW => ⟨rfl, by rw [hU], by rw [hU]; exact hPc, va_K.moved hW.alike hKc, hDc.weaken (fun _ _ _ _ => trivial)⟩⟩ rfl rfl hl.1 rfl (lv_room (Nat.le_of_ble_eq_true rfl)) dX3_init_9 ⟨Nat.le_of_ble_eq_true rfl, Nat.le_of_ble_eq_true rfl⟩) hS (fun q _ h => hFc q h) hFc (fun u t H1 locs ht hvm hw hB hz1 hk1 hS => ?_)
  obtain ⟨q2, c3, hP1, hK1, hD1⟩ := hB
  rw [ht] at hP1
  have hK1 := va_K.moved hvm.symm hK1
  obtain ⟨hP, hD⟩ := va_join (wr := [(h0, .inr (3, [.null, .null, .null, .null, .int 0, .int 0]))]) (w1 := [(q1, .inr (1, [.ref q2, .int 0])), (q2, .inl (c3, 12, .inl (fun _ => 0)))]) hP hD [1] [0] rfl rfl (by decide) (by decide) hk1 hFc hP1 hD1
  have hK := (hK.sub (tys' := []) [] rfl).app hK1
  generalize H1 = H at hP hS ⊢
  have hP : va_P (dC, dI) classes [(h0, .inr (3, [.null, .null, .null, .null, .int 0, .int 0])), (q1, .inr (1, [.ref q2, .int 0])), (q2, .inl (c3, 12, .inl (fun _ => 0)))] H := hP
  have hD : va_D A [(h0, .inr (3, [.null, .null, .null, .null, .int 0, .int 0])), (q1, .inr (1, [.ref q2, .int 0])), (q2, .inl (c3, 12, .inl (fun _ => 0)))] := hD
  have hK : va_K (dC, dI) classes [(c3, .int)] s := hK
  refine W.widen (k := 2) (n := 14) (by omega) (by omega) ?_
  refine va_putF (D := (dC, dI)) (ci := 3) (v := .ref q1) (ty := .object "PaidToWhisper$Page") (C := RX3) (T := TX3) (N := 6) hx hb hts iX3 tyX3 tyX3_ok nmX3 hown hK hP hD hS 0 rfl rfl 0 (by decide) (hts _ wd_178) (fun _ h9 => h9) rfl hin rfl (by decide +kernel) rfl rfl (Nat.le_of_ble_eq_true rfl) dX3_init_12 (fun H locs hP hD hS => ?_)
  have hP : va_P (dC, dI) classes [(h0, .inr (3, [.ref q1, .null, .null, .null, .int 0, .int 0])), (q1, .inr (1, [.ref q2, .int 0])), (q2, .inl (c3, 12, .inl (fun _ => 0)))] H := hP
  have hD : va_D A [(h0, .inr (3, [.ref q1, .null, .null, .null, .int 0, .int 0])), (q1, .inr (1, [.ref q2, .int 0])), (q2, .inl (c3, 12, .inl (fun _ => 0)))] := hD
  refine lv_aload_n hx hb dX3_init_15 rfl (lv_at hl 0 rfl) ?_
  refine va_new (ci := 2) (fs := [.null, .null, .null, .null, .null, .int 0, .int 0, .int 0, .int 0, .int 0, .int 0, .int 0, .int 0, .int 0, .int 0, .int 0, .int 0]) (C := RX2) (T := TX2) (N := 17) hx hb hts iX2 tyX2 tyX2_ok hown (hts _ wd_67) (hts _ wd_68) (hts _ wd_37) hK hP hD hS hA rfl (fun j hj => by rcases (show j = 0 ∨ j = 1 ∨ j = 2 ∨ j = 3 ∨ j = 4 ∨ j = 5 ∨ j = 6 ∨ j = 7 ∨ j = 8 ∨ j = 9 ∨ j = 10 ∨ j = 11 ∨ j = 12 ∨ j = 13 ∨ j = 14 ∨ j = 15 ∨ j = 16 by omega) with rfl | rfl | rfl | rfl | rfl | rfl | rfl | rfl | rfl | rfl | rfl | rfl | rfl | rfl | rfl | rfl | rfl <;> rfl) (Nat.le_of_ble_eq_true rfl) (Nat.le_of_ble_eq_true rfl) dX3_init_16 (fun q4 H hP hD hS => ?_)
  have hP : va_P (dC, dI) classes [(h0, .inr (3, [.ref q1, .null, .null, .null, .int 0, .int 0])), (q1, .inr (1, [.ref q2, .int 0])), (q2, .inl (c3, 12, .inl (fun _ => 0))), (q4, .inr (2, [.null, .null, .null, .null, .null, .int 0, .int 0, .int 0, .int 0, .int 0, .int 0, .int 0, .int 0, .int 0, .int 0, .int 0, .int 0]))] H := hP
  have hD : va_D A [(h0, .inr (3, [.ref q1, .null, .null, .null, .int 0, .int 0])), (q1, .inr (1, [.ref q2, .int 0])), (q2, .inl (c3, 12, .inl (fun _ => 0))), (q4, .inr (2, [.null, .null, .null, .null, .null, .int 0, .int 0, .int 0, .int 0, .int 0, .int 0, .int 0, .int 0, .int 0, .int 0, .int 0, .int 0]))] := hD
  refine W.widen (k := 3) (n := 31) (by omega) (by omega) ?_
  refine lv_dup hx hb dX3_init_19 rfl ?_
  have hPc := hP.sub (ws' := [(q4, .inr (2, [.null, .null, .null, .null, .null, .int 0, .int 0, .int 0, .int 0, .int 0, .int 0, .int 0, .int 0, .int 0, .int 0, .int 0, .int 0]))]) [3] rfl
  have hDc := hD.sub (ws' := [(q4, .inr (2, [.null, .null, .null, .null, .null, .int 0, .int 0, .int 0, .int 0, .int 0, .int 0, .int 0, .int 0, .int 0, .int 0, .int 0, .int 0]))]) [3] (by decide) rfl
  have hKc := hK.sub (tys' := []) [] rfl
  have hFc := va_free (wc := [(q4, .inr (2, [.null, .null, .null, .null, .null, .int 0, .int 0, .int 0, .int 0, .int 0, .int 0, .int 0, .int 0, .int 0, .int 0, .int 0, .int 0]))]) hD hS hA [3] rfl
  refine va_callv (va_runI (As := []) (rest := [.ref q4, .ref h0]) ⟨hx, hb, hml, hown, hts⟩ (i_X2 l dC dI q4 H.size) ⟨callB_of 0 hts gd_X2_init rfl rfl rfl (hts _ wd_37) (hts _ wd_69) hd_X2_init ⟨Nat.le_of_ble_eq_true rfl, Nat.le_of_ble_eq_true rfl⟩, rfl, hts _ wd_70⟩ ⟨blI, fun U hU hW => ⟨rfl, by rw [hU], by rw [hU]; exact hPc, va_K.moved hW.alike hKc, hDc.weaken (fun _ _ _ _ => trivial)⟩⟩ rfl rfl hl.1 rfl (lv_room (Nat.le_of_ble_eq_true rfl)) dX3_init_20 ⟨Nat.le_of_ble_eq_true rfl, Nat.le_of_ble_eq_true rfl⟩) hS (fun q _ h => hFc q h) hFc (fun u t H1 locs ht hvm hw hB hz1 hk1 hS => ?_)
  obtain ⟨q5, q6, q7, q8, q9, c10, hP1, hK1, hD1⟩ := hB
  rw [ht] at hP1
  have hK1 := va_K.moved hvm.symm hK1
  obtain ⟨hP, hD⟩ := va_join (wr := [(h0, .inr (3, [.ref q1, .null, .null, .null, .int 0, .int 0])), (q1, .inr (1, [.ref q2, .int 0])), (q2, .inl (c3, 12, .inl (fun _ => 0)))]) (w1 := [(q4, .inr (2, [.ref q5, .ref q6, .ref q7, .ref q8, .ref q9, .int 0, .int 0, .int 0, .int 0, .int 0, .int 0, .int 0, .int 0, .int 0, .int 0, .int 0, .int 0])), (q5, .inl (c10, 6, .inl (fun _ => 0))), (q6, .inl (c10, 6, .inl (fun _ => 0))), (q7, .inl (c10, 6, .inl (fun _ => 0))), (q8, .inl (c10, 6, .inl (fun _ => 0))), (q9, .inl (c10, 6, .inl (fun _ => 0)))]) hP hD [3] [0, 1, 2] rfl rfl (by decide) (by decide) hk1 hFc hP1 hD1
  have hK := (hK.sub (tys' := [(c3, .int)]) [0] rfl).app hK1
  generalize H1 = H at hP hS ⊢
  have hP : va_P (dC, dI) classes [(h0, .inr (3, [.ref q1, .null, .null, .null, .int 0, .int 0])), (q1, .inr (1, [.ref q2, .int 0])), (q2, .inl (c3, 12, .inl (fun _ => 0))), (q4, .inr (2, [.ref q5, .ref q6, .ref q7, .ref q8, .ref q9, .int 0, .int 0, .int 0, .int 0, .int 0, .int 0, .int 0, .int 0, .int 0, .int 0, .int 0, .int 0])), (q5, .inl (c10, 6, .inl (fun _ => 0))), (q6, .inl (c10, 6, .inl (fun _ => 0))), (q7, .inl (c10, 6, .inl (fun _ => 0))), (q8, .inl (c10, 6, .inl (fun _ => 0))), (q9, .inl (c10, 6, .inl (fun _ => 0)))] H := hP
  have hD : va_D A [(h0, .inr (3, [.ref q1, .null, .null, .null, .int 0, .int 0])), (q1, .inr (1, [.ref q2, .int 0])), (q2, .inl (c3, 12, .inl (fun _ => 0))), (q4, .inr (2, [.ref q5, .ref q6, .ref q7, .ref q8, .ref q9, .int 0, .int 0, .int 0, .int 0, .int 0, .int 0, .int 0, .int 0, .int 0, .int 0, .int 0, .int 0])), (q5, .inl (c10, 6, .inl (fun _ => 0))), (q6, .inl (c10, 6, .inl (fun _ => 0))), (q7, .inl (c10, 6, .inl (fun _ => 0))), (q8, .inl (c10, 6, .inl (fun _ => 0))), (q9, .inl (c10, 6, .inl (fun _ => 0)))] := hD
  have hK : va_K (dC, dI) classes [(c3, .int), (c10, .int)] s := hK
  refine W.widen (k := 8) (n := 61) (by omega) (by omega) ?_
  refine va_putF (D := (dC, dI)) (ci := 3) (v := .ref q4) (ty := .object "PaidToWhisper$Town") (C := RX3) (T := TX3) (N := 6) hx hb hts iX3 tyX3 tyX3_ok nmX3 hown hK hP hD hS 0 rfl rfl 1 (by decide) (hts _ wd_179) (fun _ h9 => h9) rfl hin rfl (by decide +kernel) rfl rfl (Nat.le_of_ble_eq_true rfl) dX3_init_23 (fun H locs hP hD hS => ?_)
  have hP : va_P (dC, dI) classes [(h0, .inr (3, [.ref q1, .ref q4, .null, .null, .int 0, .int 0])), (q1, .inr (1, [.ref q2, .int 0])), (q2, .inl (c3, 12, .inl (fun _ => 0))), (q4, .inr (2, [.ref q5, .ref q6, .ref q7, .ref q8, .ref q9, .int 0, .int 0, .int 0, .int 0, .int 0, .int 0, .int 0, .int 0, .int 0, .int 0, .int 0, .int 0])), (q5, .inl (c10, 6, .inl (fun _ => 0))), (q6, .inl (c10, 6, .inl (fun _ => 0))), (q7, .inl (c10, 6, .inl (fun _ => 0))), (q8, .inl (c10, 6, .inl (fun _ => 0))), (q9, .inl (c10, 6, .inl (fun _ => 0)))] H := hP
  have hD : va_D A [(h0, .inr (3, [.ref q1, .ref q4, .null, .null, .int 0, .int 0])), (q1, .inr (1, [.ref q2, .int 0])), (q2, .inl (c3, 12, .inl (fun _ => 0))), (q4, .inr (2, [.ref q5, .ref q6, .ref q7, .ref q8, .ref q9, .int 0, .int 0, .int 0, .int 0, .int 0, .int 0, .int 0, .int 0, .int 0, .int 0, .int 0, .int 0])), (q5, .inl (c10, 6, .inl (fun _ => 0))), (q6, .inl (c10, 6, .inl (fun _ => 0))), (q7, .inl (c10, 6, .inl (fun _ => 0))), (q8, .inl (c10, 6, .inl (fun _ => 0))), (q9, .inl (c10, 6, .inl (fun _ => 0)))] := hD
  refine lv_aload_n hx hb dX3_init_26 rfl (lv_at hl 0 rfl) ?_
  refine va_new (ci := 2) (fs := [.null, .null, .null, .null, .null, .int 0, .int 0, .int 0, .int 0, .int 0, .int 0, .int 0, .int 0, .int 0, .int 0, .int 0, .int 0]) (C := RX2) (T := TX2) (N := 17) hx hb hts iX2 tyX2 tyX2_ok hown (hts _ wd_67) (hts _ wd_68) (hts _ wd_37) hK hP hD hS hA rfl (fun j hj => by rcases (show j = 0 ∨ j = 1 ∨ j = 2 ∨ j = 3 ∨ j = 4 ∨ j = 5 ∨ j = 6 ∨ j = 7 ∨ j = 8 ∨ j = 9 ∨ j = 10 ∨ j = 11 ∨ j = 12 ∨ j = 13 ∨ j = 14 ∨ j = 15 ∨ j = 16 by omega) with rfl | rfl | rfl | rfl | rfl | rfl | rfl | rfl | rfl | rfl | rfl | rfl | rfl | rfl | rfl | rfl | rfl <;> rfl) (Nat.le_of_ble_eq_true rfl) (Nat.le_of_ble_eq_true rfl) dX3_init_27 (fun q11 H hP hD hS => ?_)
  have hP : va_P (dC, dI) classes [(h0, .inr (3, [.ref q1, .ref q4, .null, .null, .int 0, .int 0])), (q1, .inr (1, [.ref q2, .int 0])), (q2, .inl (c3, 12, .inl (fun _ => 0))), (q4, .inr (2, [.ref q5, .ref q6, .ref q7, .ref q8, .ref q9, .int 0, .int 0, .int 0, .int 0, .int 0, .int 0, .int 0, .int 0, .int 0, .int 0, .int 0, .int 0])), (q5, .inl (c10, 6, .inl (fun _ => 0))), (q6, .inl (c10, 6, .inl (fun _ => 0))), (q7, .inl (c10, 6, .inl (fun _ => 0))), (q8, .inl (c10, 6, .inl (fun _ => 0))), (q9, .inl (c10, 6, .inl (fun _ => 0))), (q11, .inr (2, [.null, .null, .null, .null, .null, .int 0, .int 0, .int 0, .int 0, .int 0, .int 0, .int 0, .int 0, .int 0, .int 0, .int 0, .int 0]))] H := hP
  have hD : va_D A [(h0, .inr (3, [.ref q1, .ref q4, .null, .null, .int 0, .int 0])), (q1, .inr (1, [.ref q2, .int 0])), (q2, .inl (c3, 12, .inl (fun _ => 0))), (q4, .inr (2, [.ref q5, .ref q6, .ref q7, .ref q8, .ref q9, .int 0, .int 0, .int 0, .int 0, .int 0, .int 0, .int 0, .int 0, .int 0, .int 0, .int 0, .int 0])), (q5, .inl (c10, 6, .inl (fun _ => 0))), (q6, .inl (c10, 6, .inl (fun _ => 0))), (q7, .inl (c10, 6, .inl (fun _ => 0))), (q8, .inl (c10, 6, .inl (fun _ => 0))), (q9, .inl (c10, 6, .inl (fun _ => 0))), (q11, .inr (2, [.null, .null, .null, .null, .null, .int 0, .int 0, .int 0, .int 0, .int 0, .int 0, .int 0, .int 0, .int 0, .int 0, .int 0, .int 0]))] := hD
  refine W.widen (k := 9) (n := 78) (by omega) (by omega) ?_
  refine lv_dup hx hb dX3_init_30 rfl ?_
  have hPc := hP.sub (ws' := [(q11, .inr (2, [.null, .null, .null, .null, .null, .int 0, .int 0, .int 0, .int 0, .int 0, .int 0, .int 0, .int 0, .int 0, .int 0, .int 0, .int 0]))]) [9] rfl
  have hDc := hD.sub (ws' := [(q11, .inr (2, [.null, .null, .null, .null, .null, .int 0, .int 0, .int 0, .int 0, .int 0, .int 0, .int 0, .int 0, .int 0, .int 0, .int 0, .int 0]))]) [9] (by decide) rfl
  have hKc := hK.sub (tys' := []) [] rfl
  have hFc := va_free (wc := [(q11, .inr (2, [.null, .null, .null, .null, .null, .int 0, .int 0, .int 0, .int 0, .int 0, .int 0, .int 0, .int 0, .int 0, .int 0, .int 0, .int 0]))]) hD hS hA [9] rfl
  refine va_callv (va_runI (As := []) (rest := [.ref q11, .ref h0]) ⟨hx, hb, hml, hown, hts⟩ (i_X2 l dC dI q11 H.size) ⟨callB_of 0 hts gd_X2_init rfl rfl rfl (hts _ wd_37) (hts _ wd_69) hd_X2_init ⟨Nat.le_of_ble_eq_true rfl, Nat.le_of_ble_eq_true rfl⟩, rfl, hts _ wd_70⟩ ⟨blI, fun U hU hW => ⟨rfl, by rw [hU], by rw [hU]; exact hPc, va_K.moved hW.alike hKc, hDc.weaken (fun _ _ _ _ => trivial)⟩⟩ rfl rfl hl.1 rfl (lv_room (Nat.le_of_ble_eq_true rfl)) dX3_init_31 ⟨Nat.le_of_ble_eq_true rfl, Nat.le_of_ble_eq_true rfl⟩) hS (fun q _ h => hFc q h) hFc (fun u t H1 locs ht hvm hw hB hz1 hk1 hS => ?_)
  obtain ⟨q12, q13, q14, q15, q16, c17, hP1, hK1, hD1⟩ := hB
  rw [ht] at hP1
  have hK1 := va_K.moved hvm.symm hK1
  obtain ⟨hP, hD⟩ := va_join (wr := [(h0, .inr (3, [.ref q1, .ref q4, .null, .null, .int 0, .int 0])), (q1, .inr (1, [.ref q2, .int 0])), (q2, .inl (c3, 12, .inl (fun _ => 0))), (q4, .inr (2, [.ref q5, .ref q6, .ref q7, .ref q8, .ref q9, .int 0, .int 0, .int 0, .int 0, .int 0, .int 0, .int 0, .int 0, .int 0, .int 0, .int 0, .int 0])), (q5, .inl (c10, 6, .inl (fun _ => 0))), (q6, .inl (c10, 6, .inl (fun _ => 0))), (q7, .inl (c10, 6, .inl (fun _ => 0))), (q8, .inl (c10, 6, .inl (fun _ => 0))), (q9, .inl (c10, 6, .inl (fun _ => 0)))]) (w1 := [(q11, .inr (2, [.ref q12, .ref q13, .ref q14, .ref q15, .ref q16, .int 0, .int 0, .int 0, .int 0, .int 0, .int 0, .int 0, .int 0, .int 0, .int 0, .int 0, .int 0])), (q12, .inl (c17, 6, .inl (fun _ => 0))), (q13, .inl (c17, 6, .inl (fun _ => 0))), (q14, .inl (c17, 6, .inl (fun _ => 0))), (q15, .inl (c17, 6, .inl (fun _ => 0))), (q16, .inl (c17, 6, .inl (fun _ => 0)))]) hP hD [9] [0, 1, 2, 3, 4, 5, 6, 7, 8] rfl rfl (by decide) (by decide) hk1 hFc hP1 hD1
  have hK := (hK.sub (tys' := [(c3, .int), (c10, .int)]) [0, 1] rfl).app hK1
  generalize H1 = H at hP hS ⊢
  have hP : va_P (dC, dI) classes [(h0, .inr (3, [.ref q1, .ref q4, .null, .null, .int 0, .int 0])), (q1, .inr (1, [.ref q2, .int 0])), (q2, .inl (c3, 12, .inl (fun _ => 0))), (q4, .inr (2, [.ref q5, .ref q6, .ref q7, .ref q8, .ref q9, .int 0, .int 0, .int 0, .int 0, .int 0, .int 0, .int 0, .int 0, .int 0, .int 0, .int 0, .int 0])), (q5, .inl (c10, 6, .inl (fun _ => 0))), (q6, .inl (c10, 6, .inl (fun _ => 0))), (q7, .inl (c10, 6, .inl (fun _ => 0))), (q8, .inl (c10, 6, .inl (fun _ => 0))), (q9, .inl (c10, 6, .inl (fun _ => 0))), (q11, .inr (2, [.ref q12, .ref q13, .ref q14, .ref q15, .ref q16, .int 0, .int 0, .int 0, .int 0, .int 0, .int 0, .int 0, .int 0, .int 0, .int 0, .int 0, .int 0])), (q12, .inl (c17, 6, .inl (fun _ => 0))), (q13, .inl (c17, 6, .inl (fun _ => 0))), (q14, .inl (c17, 6, .inl (fun _ => 0))), (q15, .inl (c17, 6, .inl (fun _ => 0))), (q16, .inl (c17, 6, .inl (fun _ => 0)))] H := hP
  have hD : va_D A [(h0, .inr (3, [.ref q1, .ref q4, .null, .null, .int 0, .int 0])), (q1, .inr (1, [.ref q2, .int 0])), (q2, .inl (c3, 12, .inl (fun _ => 0))), (q4, .inr (2, [.ref q5, .ref q6, .ref q7, .ref q8, .ref q9, .int 0, .int 0, .int 0, .int 0, .int 0, .int 0, .int 0, .int 0, .int 0, .int 0, .int 0, .int 0])), (q5, .inl (c10, 6, .inl (fun _ => 0))), (q6, .inl (c10, 6, .inl (fun _ => 0))), (q7, .inl (c10, 6, .inl (fun _ => 0))), (q8, .inl (c10, 6, .inl (fun _ => 0))), (q9, .inl (c10, 6, .inl (fun _ => 0))), (q11, .inr (2, [.ref q12, .ref q13, .ref q14, .ref q15, .ref q16, .int 0, .int 0, .int 0, .int 0, .int 0, .int 0, .int 0, .int 0, .int 0, .int 0, .int 0, .int 0])), (q12, .inl (c17, 6, .inl (fun _ => 0))), (q13, .inl (c17, 6, .inl (fun _ => 0))), (q14, .inl (c17, 6, .inl (fun _ => 0))), (q15, .inl (c17, 6, .inl (fun _ => 0))), (q16, .inl (c17, 6, .inl (fun _ => 0)))] := hD
  have hK : va_K (dC, dI) classes [(c3, .int), (c10, .int), (c17, .int)] s := hK
  refine W.widen (k := 14) (n := 108) (by omega) (by omega) ?_
  refine va_putF (D := (dC, dI)) (ci := 3) (v := .ref q11) (ty := .object "PaidToWhisper$Town") (C := RX3) (T := TX3) (N := 6) hx hb hts iX3 tyX3 tyX3_ok nmX3 hown hK hP hD hS 0 rfl rfl 2 (by decide) (hts _ wd_180) (fun _ h9 => h9) rfl hin rfl (by decide +kernel) rfl rfl (Nat.le_of_ble_eq_true rfl) dX3_init_34 (fun H locs hP hD hS => ?_)
  have hP : va_P (dC, dI) classes [(h0, .inr (3, [.ref q1, .ref q4, .ref q11, .null, .int 0, .int 0])), (q1, .inr (1, [.ref q2, .int 0])), (q2, .inl (c3, 12, .inl (fun _ => 0))), (q4, .inr (2, [.ref q5, .ref q6, .ref q7, .ref q8, .ref q9, .int 0, .int 0, .int 0, .int 0, .int 0, .int 0, .int 0, .int 0, .int 0, .int 0, .int 0, .int 0])), (q5, .inl (c10, 6, .inl (fun _ => 0))), (q6, .inl (c10, 6, .inl (fun _ => 0))), (q7, .inl (c10, 6, .inl (fun _ => 0))), (q8, .inl (c10, 6, .inl (fun _ => 0))), (q9, .inl (c10, 6, .inl (fun _ => 0))), (q11, .inr (2, [.ref q12, .ref q13, .ref q14, .ref q15, .ref q16, .int 0, .int 0, .int 0, .int 0, .int 0, .int 0, .int 0, .int 0, .int 0, .int 0, .int 0, .int 0])), (q12, .inl (c17, 6, .inl (fun _ => 0))), (q13, .inl (c17, 6, .inl (fun _ => 0))), (q14, .inl (c17, 6, .inl (fun _ => 0))), (q15, .inl (c17, 6, .inl (fun _ => 0))), (q16, .inl (c17, 6, .inl (fun _ => 0)))] H := hP
  have hD : va_D A [(h0, .inr (3, [.ref q1, .ref q4, .ref q11, .null, .int 0, .int 0])), (q1, .inr (1, [.ref q2, .int 0])), (q2, .inl (c3, 12, .inl (fun _ => 0))), (q4, .inr (2, [.ref q5, .ref q6, .ref q7, .ref q8, .ref q9, .int 0, .int 0, .int 0, .int 0, .int 0, .int 0, .int 0, .int 0, .int 0, .int 0, .int 0, .int 0])), (q5, .inl (c10, 6, .inl (fun _ => 0))), (q6, .inl (c10, 6, .inl (fun _ => 0))), (q7, .inl (c10, 6, .inl (fun _ => 0))), (q8, .inl (c10, 6, .inl (fun _ => 0))), (q9, .inl (c10, 6, .inl (fun _ => 0))), (q11, .inr (2, [.ref q12, .ref q13, .ref q14, .ref q15, .ref q16, .int 0, .int 0, .int 0, .int 0, .int 0, .int 0, .int 0, .int 0, .int 0, .int 0, .int 0, .int 0])), (q12, .inl (c17, 6, .inl (fun _ => 0))), (q13, .inl (c17, 6, .inl (fun _ => 0))), (q14, .inl (c17, 6, .inl (fun _ => 0))), (q15, .inl (c17, 6, .inl (fun _ => 0))), (q16, .inl (c17, 6, .inl (fun _ => 0)))] := hD
  refine lv_aload_n hx hb dX3_init_37 rfl (lv_at hl 0 rfl) ?_
  refine va_new (ci := 0) (fs := [.null, .int 0, .int 0, .int 0, .int 0, .int 0, .int 0, .int 0]) (C := RX0) (T := TX0) (N := 8) hx hb hts iX0 tyX0 tyX0_ok hown (hts _ wd_140) (hts _ wd_141) (hts _ wd_38) hK hP hD hS hA rfl (fun j hj => by rcases (show j = 0 ∨ j = 1 ∨ j = 2 ∨ j = 3 ∨ j = 4 ∨ j = 5 ∨ j = 6 ∨ j = 7 by omega) with rfl | rfl | rfl | rfl | rfl | rfl | rfl | rfl <;> rfl) (Nat.le_of_ble_eq_true rfl) (Nat.le_of_ble_eq_true rfl) dX3_init_38 (fun q18 H hP hD hS => ?_)
  have hP : va_P (dC, dI) classes [(h0, .inr (3, [.ref q1, .ref q4, .ref q11, .null, .int 0, .int 0])), (q1, .inr (1, [.ref q2, .int 0])), (q2, .inl (c3, 12, .inl (fun _ => 0))), (q4, .inr (2, [.ref q5, .ref q6, .ref q7, .ref q8, .ref q9, .int 0, .int 0, .int 0, .int 0, .int 0, .int 0, .int 0, .int 0, .int 0, .int 0, .int 0, .int 0])), (q5, .inl (c10, 6, .inl (fun _ => 0))), (q6, .inl (c10, 6, .inl (fun _ => 0))), (q7, .inl (c10, 6, .inl (fun _ => 0))), (q8, .inl (c10, 6, .inl (fun _ => 0))), (q9, .inl (c10, 6, .inl (fun _ => 0))), (q11, .inr (2, [.ref q12, .ref q13, .ref q14, .ref q15, .ref q16, .int 0, .int 0, .int 0, .int 0, .int 0, .int 0, .int 0, .int 0, .int 0, .int 0, .int 0, .int 0])), (q12, .inl (c17, 6, .inl (fun _ => 0))), (q13, .inl (c17, 6, .inl (fun _ => 0))), (q14, .inl (c17, 6, .inl (fun _ => 0))), (q15, .inl (c17, 6, .inl (fun _ => 0))), (q16, .inl (c17, 6, .inl (fun _ => 0))), (q18, .inr (0, [.null, .int 0, .int 0, .int 0, .int 0, .int 0, .int 0, .int 0]))] H := hP
  have hD : va_D A [(h0, .inr (3, [.ref q1, .ref q4, .ref q11, .null, .int 0, .int 0])), (q1, .inr (1, [.ref q2, .int 0])), (q2, .inl (c3, 12, .inl (fun _ => 0))), (q4, .inr (2, [.ref q5, .ref q6, .ref q7, .ref q8, .ref q9, .int 0, .int 0, .int 0, .int 0, .int 0, .int 0, .int 0, .int 0, .int 0, .int 0, .int 0, .int 0])), (q5, .inl (c10, 6, .inl (fun _ => 0))), (q6, .inl (c10, 6, .inl (fun _ => 0))), (q7, .inl (c10, 6, .inl (fun _ => 0))), (q8, .inl (c10, 6, .inl (fun _ => 0))), (q9, .inl (c10, 6, .inl (fun _ => 0))), (q11, .inr (2, [.ref q12, .ref q13, .ref q14, .ref q15, .ref q16, .int 0, .int 0, .int 0, .int 0, .int 0, .int 0, .int 0, .int 0, .int 0, .int 0, .int 0, .int 0])), (q12, .inl (c17, 6, .inl (fun _ => 0))), (q13, .inl (c17, 6, .inl (fun _ => 0))), (q14, .inl (c17, 6, .inl (fun _ => 0))), (q15, .inl (c17, 6, .inl (fun _ => 0))), (q16, .inl (c17, 6, .inl (fun _ => 0))), (q18, .inr (0, [.null, .int 0, .int 0, .int 0, .int 0, .int 0, .int 0, .int 0]))] := hD
  refine W.widen (k := 15) (n := 116) (by omega) (by omega) ?_
  refine lv_dup hx hb dX3_init_41 rfl ?_
  have hPc := hP.sub (ws' := [(q18, .inr (0, [.null, .int 0, .int 0, .int 0, .int 0, .int 0, .int 0, .int 0]))]) [15] rfl
  have hDc := hD.sub (ws' := [(q18, .inr (0, [.null, .int 0, .int 0, .int 0, .int 0, .int 0, .int 0, .int 0]))]) [15] (by decide) rfl
  have hKc := hK.sub (tys' := []) [] rfl
  have hFc := va_free (wc := [(q18, .inr (0, [.null, .int 0, .int 0, .int 0, .int 0, .int 0, .int 0, .int 0]))]) hD hS hA [15] rfl
  refine va_callv (va_runI (As := []) (rest := [.ref q18, .ref h0]) ⟨hx, hb, hml, hown, hts⟩ (i_X0 l dC dI q18 H.size) ⟨callB_of 0 hts gd_X0_init rfl rfl rfl (hts _ wd_38) (hts _ wd_142) hd_X0_init ⟨Nat.le_of_ble_eq_true rfl, Nat.le_of_ble_eq_true rfl⟩, rfl, hts _ wd_143⟩ ⟨blI, fun U hU hW => ⟨rfl, by rw [hU], by rw [hU]; exact hPc, va_K.moved hW.alike hKc, hDc.weaken (fun _ _ _ _ => trivial)⟩⟩ rfl rfl hl.1 rfl (lv_room (Nat.le_of_ble_eq_true rfl)) dX3_init_42 ⟨Nat.le_of_ble_eq_true rfl, Nat.le_of_ble_eq_true rfl⟩) hS (fun q _ h => hFc q h) hFc (fun u t H1 locs ht hvm hw hB hz1 hk1 hS => ?_)
  obtain ⟨q19, c20, hP1, hK1, hD1⟩ := hB
  rw [ht] at hP1
  have hK1 := va_K.moved hvm.symm hK1
  obtain ⟨hP, hD⟩ := va_join (wr := [(h0, .inr (3, [.ref q1, .ref q4, .ref q11, .null, .int 0, .int 0])), (q1, .inr (1, [.ref q2, .int 0])), (q2, .inl (c3, 12, .inl (fun _ => 0))), (q4, .inr (2, [.ref q5, .ref q6, .ref q7, .ref q8, .ref q9, .int 0, .int 0, .int 0, .int 0, .int 0, .int 0, .int 0, .int 0, .int 0, .int 0, .int 0, .int 0])), (q5, .inl (c10, 6, .inl (fun _ => 0))), (q6, .inl (c10, 6, .inl (fun _ => 0))), (q7, .inl (c10, 6, .inl (fun _ => 0))), (q8, .inl (c10, 6, .inl (fun _ => 0))), (q9, .inl (c10, 6, .inl (fun _ => 0))), (q11, .inr (2, [.ref q12, .ref q13, .ref q14, .ref q15, .ref q16, .int 0, .int 0, .int 0, .int 0, .int 0, .int 0, .int 0, .int 0, .int 0, .int 0, .int 0, .int 0])), (q12, .inl (c17, 6, .inl (fun _ => 0))), (q13, .inl (c17, 6, .inl (fun _ => 0))), (q14, .inl (c17, 6, .inl (fun _ => 0))), (q15, .inl (c17, 6, .inl (fun _ => 0))), (q16, .inl (c17, 6, .inl (fun _ => 0)))]) (w1 := [(q18, .inr (0, [.ref q19, .int 0, .int 0, .int 0, .int 0, .int 0, .int 0, .int 0])), (q19, .inl (c20, 6, .inl (fun _ => 0)))]) hP hD [15] [0, 1, 2, 3, 4, 5, 6, 7, 8, 9, 10, 11, 12, 13, 14] rfl rfl (by decide) (by decide) hk1 hFc hP1 hD1
  have hK := (hK.sub (tys' := [(c3, .int), (c10, .int), (c17, .int)]) [0, 1, 2] rfl).app hK1
  generalize H1 = H at hP hS ⊢
  have hP : va_P (dC, dI) classes [(h0, .inr (3, [.ref q1, .ref q4, .ref q11, .null, .int 0, .int 0])), (q1, .inr (1, [.ref q2, .int 0])), (q2, .inl (c3, 12, .inl (fun _ => 0))), (q4, .inr (2, [.ref q5, .ref q6, .ref q7, .ref q8, .ref q9, .int 0, .int 0, .int 0, .int 0, .int 0, .int 0, .int 0, .int 0, .int 0, .int 0, .int 0, .int 0])), (q5, .inl (c10, 6, .inl (fun _ => 0))), (q6, .inl (c10, 6, .inl (fun _ => 0))), (q7, .inl (c10, 6, .inl (fun _ => 0))), (q8, .inl (c10, 6, .inl (fun _ => 0))), (q9, .inl (c10, 6, .inl (fun _ => 0))), (q11, .inr (2, [.ref q12, .ref q13, .ref q14, .ref q15, .ref q16, .int 0, .int 0, .int 0, .int 0, .int 0, .int 0, .int 0, .int 0, .int 0, .int 0, .int 0, .int 0])), (q12, .inl (c17, 6, .inl (fun _ => 0))), (q13, .inl (c17, 6, .inl (fun _ => 0))), (q14, .inl (c17, 6, .inl (fun _ => 0))), (q15, .inl (c17, 6, .inl (fun _ => 0))), (q16, .inl (c17, 6, .inl (fun _ => 0))), (q18, .inr (0, [.ref q19, .int 0, .int 0, .int 0, .int 0, .int 0, .int 0, .int 0])), (q19, .inl (c20, 6, .inl (fun _ => 0)))] H := hP
  have hD : va_D A [(h0, .inr (3, [.ref q1, .ref q4, .ref q11, .null, .int 0, .int 0])), (q1, .inr (1, [.ref q2, .int 0])), (q2, .inl (c3, 12, .inl (fun _ => 0))), (q4, .inr (2, [.ref q5, .ref q6, .ref q7, .ref q8, .ref q9, .int 0, .int 0, .int 0, .int 0, .int 0, .int 0, .int 0, .int 0, .int 0, .int 0, .int 0, .int 0])), (q5, .inl (c10, 6, .inl (fun _ => 0))), (q6, .inl (c10, 6, .inl (fun _ => 0))), (q7, .inl (c10, 6, .inl (fun _ => 0))), (q8, .inl (c10, 6, .inl (fun _ => 0))), (q9, .inl (c10, 6, .inl (fun _ => 0))), (q11, .inr (2, [.ref q12, .ref q13, .ref q14, .ref q15, .ref q16, .int 0, .int 0, .int 0, .int 0, .int 0, .int 0, .int 0, .int 0, .int 0, .int 0, .int 0, .int 0])), (q12, .inl (c17, 6, .inl (fun _ => 0))), (q13, .inl (c17, 6, .inl (fun _ => 0))), (q14, .inl (c17, 6, .inl (fun _ => 0))), (q15, .inl (c17, 6, .inl (fun _ => 0))), (q16, .inl (c17, 6, .inl (fun _ => 0))), (q18, .inr (0, [.ref q19, .int 0, .int 0, .int 0, .int 0, .int 0, .int 0, .int 0])), (q19, .inl (c20, 6, .inl (fun _ => 0)))] := hD
  have hK : va_K (dC, dI) classes [(c3, .int), (c10, .int), (c17, .int), (c20, .int)] s := hK
  refine W.widen (k := 16) (n := 122) (by omega) (by omega) ?_
  refine va_putF (D := (dC, dI)) (ci := 3) (v := .ref q18) (ty := .object "PaidToWhisper$Inquiry") (C := RX3) (T := TX3) (N := 6) hx hb hts iX3 tyX3 tyX3_ok nmX3 hown hK hP hD hS 0 rfl rfl 3 (by decide) (hts _ wd_181) (fun _ h9 => h9) rfl hin rfl (by decide +kernel) rfl rfl (Nat.le_of_ble_eq_true rfl) dX3_init_45 (fun H locs hP hD hS => ?_)
  have hP : va_P (dC, dI) classes [(h0, .inr (3, [.ref q1, .ref q4, .ref q11, .ref q18, .int 0, .int 0])), (q1, .inr (1, [.ref q2, .int 0])), (q2, .inl (c3, 12, .inl (fun _ => 0))), (q4, .inr (2, [.ref q5, .ref q6, .ref q7, .ref q8, .ref q9, .int 0, .int 0, .int 0, .int 0, .int 0, .int 0, .int 0, .int 0, .int 0, .int 0, .int 0, .int 0])), (q5, .inl (c10, 6, .inl (fun _ => 0))), (q6, .inl (c10, 6, .inl (fun _ => 0))), (q7, .inl (c10, 6, .inl (fun _ => 0))), (q8, .inl (c10, 6, .inl (fun _ => 0))), (q9, .inl (c10, 6, .inl (fun _ => 0))), (q11, .inr (2, [.ref q12, .ref q13, .ref q14, .ref q15, .ref q16, .int 0, .int 0, .int 0, .int 0, .int 0, .int 0, .int 0, .int 0, .int 0, .int 0, .int 0, .int 0])), (q12, .inl (c17, 6, .inl (fun _ => 0))), (q13, .inl (c17, 6, .inl (fun _ => 0))), (q14, .inl (c17, 6, .inl (fun _ => 0))), (q15, .inl (c17, 6, .inl (fun _ => 0))), (q16, .inl (c17, 6, .inl (fun _ => 0))), (q18, .inr (0, [.ref q19, .int 0, .int 0, .int 0, .int 0, .int 0, .int 0, .int 0])), (q19, .inl (c20, 6, .inl (fun _ => 0)))] H := hP
  have hD : va_D A [(h0, .inr (3, [.ref q1, .ref q4, .ref q11, .ref q18, .int 0, .int 0])), (q1, .inr (1, [.ref q2, .int 0])), (q2, .inl (c3, 12, .inl (fun _ => 0))), (q4, .inr (2, [.ref q5, .ref q6, .ref q7, .ref q8, .ref q9, .int 0, .int 0, .int 0, .int 0, .int 0, .int 0, .int 0, .int 0, .int 0, .int 0, .int 0, .int 0])), (q5, .inl (c10, 6, .inl (fun _ => 0))), (q6, .inl (c10, 6, .inl (fun _ => 0))), (q7, .inl (c10, 6, .inl (fun _ => 0))), (q8, .inl (c10, 6, .inl (fun _ => 0))), (q9, .inl (c10, 6, .inl (fun _ => 0))), (q11, .inr (2, [.ref q12, .ref q13, .ref q14, .ref q15, .ref q16, .int 0, .int 0, .int 0, .int 0, .int 0, .int 0, .int 0, .int 0, .int 0, .int 0, .int 0, .int 0])), (q12, .inl (c17, 6, .inl (fun _ => 0))), (q13, .inl (c17, 6, .inl (fun _ => 0))), (q14, .inl (c17, 6, .inl (fun _ => 0))), (q15, .inl (c17, 6, .inl (fun _ => 0))), (q16, .inl (c17, 6, .inl (fun _ => 0))), (q18, .inr (0, [.ref q19, .int 0, .int 0, .int 0, .int 0, .int 0, .int 0, .int 0])), (q19, .inl (c20, 6, .inl (fun _ => 0)))] := hD
  refine lv_aload_n hx hb dX3_init_48 rfl (lv_at hl 0 rfl) ?_
  refine lv_iconst (v := 0) hx hb dX3_init_49 (by decide) ?_
  refine va_put (D := (dC, dI)) (ci := 3) (v := .int 0) (ty := .boolean) (C := RX3) (T := TX3) (N := 6) hx hb hts iX3 tyX3 tyX3_ok nmX3 hown hK hP hD hS 0 rfl rfl 4 (by decide) (hts _ wd_182) (fun _ h9 => h9) rfl (by decide +kernel) rfl rfl (Nat.le_of_ble_eq_true rfl) dX3_init_50 (fun H locs hP hD hS => ?_)
  have hP : va_P (dC, dI) classes [(h0, .inr (3, [.ref q1, .ref q4, .ref q11, .ref q18, .int 0, .int 0])), (q1, .inr (1, [.ref q2, .int 0])), (q2, .inl (c3, 12, .inl (fun _ => 0))), (q4, .inr (2, [.ref q5, .ref q6, .ref q7, .ref q8, .ref q9, .int 0, .int 0, .int 0, .int 0, .int 0, .int 0, .int 0, .int 0, .int 0, .int 0, .int 0, .int 0])), (q5, .inl (c10, 6, .inl (fun _ => 0))), (q6, .inl (c10, 6, .inl (fun _ => 0))), (q7, .inl (c10, 6, .inl (fun _ => 0))), (q8, .inl (c10, 6, .inl (fun _ => 0))), (q9, .inl (c10, 6, .inl (fun _ => 0))), (q11, .inr (2, [.ref q12, .ref q13, .ref q14, .ref q15, .ref q16, .int 0, .int 0, .int 0, .int 0, .int 0, .int 0, .int 0, .int 0, .int 0, .int 0, .int 0, .int 0])), (q12, .inl (c17, 6, .inl (fun _ => 0))), (q13, .inl (c17, 6, .inl (fun _ => 0))), (q14, .inl (c17, 6, .inl (fun _ => 0))), (q15, .inl (c17, 6, .inl (fun _ => 0))), (q16, .inl (c17, 6, .inl (fun _ => 0))), (q18, .inr (0, [.ref q19, .int 0, .int 0, .int 0, .int 0, .int 0, .int 0, .int 0])), (q19, .inl (c20, 6, .inl (fun _ => 0)))] H := hP
  have hD : va_D A [(h0, .inr (3, [.ref q1, .ref q4, .ref q11, .ref q18, .int 0, .int 0])), (q1, .inr (1, [.ref q2, .int 0])), (q2, .inl (c3, 12, .inl (fun _ => 0))), (q4, .inr (2, [.ref q5, .ref q6, .ref q7, .ref q8, .ref q9, .int 0, .int 0, .int 0, .int 0, .int 0, .int 0, .int 0, .int 0, .int 0, .int 0, .int 0, .int 0])), (q5, .inl (c10, 6, .inl (fun _ => 0))), (q6, .inl (c10, 6, .inl (fun _ => 0))), (q7, .inl (c10, 6, .inl (fun _ => 0))), (q8, .inl (c10, 6, .inl (fun _ => 0))), (q9, .inl (c10, 6, .inl (fun _ => 0))), (q11, .inr (2, [.ref q12, .ref q13, .ref q14, .ref q15, .ref q16, .int 0, .int 0, .int 0, .int 0, .int 0, .int 0, .int 0, .int 0, .int 0, .int 0, .int 0, .int 0])), (q12, .inl (c17, 6, .inl (fun _ => 0))), (q13, .inl (c17, 6, .inl (fun _ => 0))), (q14, .inl (c17, 6, .inl (fun _ => 0))), (q15, .inl (c17, 6, .inl (fun _ => 0))), (q16, .inl (c17, 6, .inl (fun _ => 0))), (q18, .inr (0, [.ref q19, .int 0, .int 0, .int 0, .int 0, .int 0, .int 0, .int 0])), (q19, .inl (c20, 6, .inl (fun _ => 0)))] := hD
  refine lv_aload_n hx hb dX3_init_53 rfl (lv_at hl 0 rfl) ?_
  refine lv_iconst (v := 0) hx hb dX3_init_54 (by decide) ?_
  refine va_put (D := (dC, dI)) (ci := 3) (v := .int 0) (ty := .int) (C := RX3) (T := TX3) (N := 6) hx hb hts iX3 tyX3 tyX3_ok nmX3 hown hK hP hD hS 0 rfl rfl 5 (by decide) (hts _ wd_183) (fun _ h9 => h9) rfl (by decide +kernel) rfl rfl (Nat.le_of_ble_eq_true rfl) dX3_init_55 (fun H locs hP hD hS => ?_)
  have hP : va_P (dC, dI) classes [(h0, .inr (3, [.ref q1, .ref q4, .ref q11, .ref q18, .int 0, .int 0])), (q1, .inr (1, [.ref q2, .int 0])), (q2, .inl (c3, 12, .inl (fun _ => 0))), (q4, .inr (2, [.ref q5, .ref q6, .ref q7, .ref q8, .ref q9, .int 0, .int 0, .int 0, .int 0, .int 0, .int 0, .int 0, .int 0, .int 0, .int 0, .int 0, .int 0])), (q5, .inl (c10, 6, .inl (fun _ => 0))), (q6, .inl (c10, 6, .inl (fun _ => 0))), (q7, .inl (c10, 6, .inl (fun _ => 0))), (q8, .inl (c10, 6, .inl (fun _ => 0))), (q9, .inl (c10, 6, .inl (fun _ => 0))), (q11, .inr (2, [.ref q12, .ref q13, .ref q14, .ref q15, .ref q16, .int 0, .int 0, .int 0, .int 0, .int 0, .int 0, .int 0, .int 0, .int 0, .int 0, .int 0, .int 0])), (q12, .inl (c17, 6, .inl (fun _ => 0))), (q13, .inl (c17, 6, .inl (fun _ => 0))), (q14, .inl (c17, 6, .inl (fun _ => 0))), (q15, .inl (c17, 6, .inl (fun _ => 0))), (q16, .inl (c17, 6, .inl (fun _ => 0))), (q18, .inr (0, [.ref q19, .int 0, .int 0, .int 0, .int 0, .int 0, .int 0, .int 0])), (q19, .inl (c20, 6, .inl (fun _ => 0)))] H := hP
  have hD : va_D A [(h0, .inr (3, [.ref q1, .ref q4, .ref q11, .ref q18, .int 0, .int 0])), (q1, .inr (1, [.ref q2, .int 0])), (q2, .inl (c3, 12, .inl (fun _ => 0))), (q4, .inr (2, [.ref q5, .ref q6, .ref q7, .ref q8, .ref q9, .int 0, .int 0, .int 0, .int 0, .int 0, .int 0, .int 0, .int 0, .int 0, .int 0, .int 0, .int 0])), (q5, .inl (c10, 6, .inl (fun _ => 0))), (q6, .inl (c10, 6, .inl (fun _ => 0))), (q7, .inl (c10, 6, .inl (fun _ => 0))), (q8, .inl (c10, 6, .inl (fun _ => 0))), (q9, .inl (c10, 6, .inl (fun _ => 0))), (q11, .inr (2, [.ref q12, .ref q13, .ref q14, .ref q15, .ref q16, .int 0, .int 0, .int 0, .int 0, .int 0, .int 0, .int 0, .int 0, .int 0, .int 0, .int 0, .int 0])), (q12, .inl (c17, 6, .inl (fun _ => 0))), (q13, .inl (c17, 6, .inl (fun _ => 0))), (q14, .inl (c17, 6, .inl (fun _ => 0))), (q15, .inl (c17, 6, .inl (fun _ => 0))), (q16, .inl (c17, 6, .inl (fun _ => 0))), (q18, .inr (0, [.ref q19, .int 0, .int 0, .int 0, .int 0, .int 0, .int 0, .int 0])), (q19, .inl (c20, 6, .inl (fun _ => 0)))] := hD
  have u0 : c3 = c10 := cA_eq hK 0 1 rfl rfl
  subst u0
  have hK := hK.sub (tys' := [(c3, .int), (c17, .int), (c20, .int)]) [0, 2, 3] rfl
  have u1 : c3 = c17 := cA_eq hK 0 1 rfl rfl
  subst u1
  have hK := hK.sub (tys' := [(c3, .int), (c20, .int)]) [0, 2] rfl
  have u2 : c3 = c20 := cA_eq hK 0 1 rfl rfl
  subst u2
  have hK := hK.sub (tys' := [(c3, .int)]) [0] rfl
  have hP9 := hP.sub (ws' := [(h0, .inr (3, [.ref q1, .ref q4, .ref q11, .ref q18, .int 0, .int 0])), (q1, .inr (1, [.ref q2, .int 0])), (q2, .inl (c3, 12, .inl (fun _ => 0))), (q4, .inr (2, [.ref q5, .ref q6, .ref q7, .ref q8, .ref q9, .int 0, .int 0, .int 0, .int 0, .int 0, .int 0, .int 0, .int 0, .int 0, .int 0, .int 0, .int 0])), (q5, .inl (c3, 6, .inl (fun _ => 0))), (q6, .inl (c3, 6, .inl (fun _ => 0))), (q7, .inl (c3, 6, .inl (fun _ => 0))), (q8, .inl (c3, 6, .inl (fun _ => 0))), (q9, .inl (c3, 6, .inl (fun _ => 0))), (q11, .inr (2, [.ref q12, .ref q13, .ref q14, .ref q15, .ref q16, .int 0, .int 0, .int 0, .int 0, .int 0, .int 0, .int 0, .int 0, .int 0, .int 0, .int 0, .int 0])), (q12, .inl (c3, 6, .inl (fun _ => 0))), (q13, .inl (c3, 6, .inl (fun _ => 0))), (q14, .inl (c3, 6, .inl (fun _ => 0))), (q15, .inl (c3, 6, .inl (fun _ => 0))), (q16, .inl (c3, 6, .inl (fun _ => 0))), (q18, .inr (0, [.ref q19, .int 0, .int 0, .int 0, .int 0, .int 0, .int 0, .int 0])), (q19, .inl (c3, 6, .inl (fun _ => 0)))]) [0, 1, 2, 3, 4, 5, 6, 7, 8, 9, 10, 11, 12, 13, 14, 15, 16] rfl
  have hD9 := hD.sub (ws' := [(h0, .inr (3, [.ref q1, .ref q4, .ref q11, .ref q18, .int 0, .int 0])), (q1, .inr (1, [.ref q2, .int 0])), (q2, .inl (c3, 12, .inl (fun _ => 0))), (q4, .inr (2, [.ref q5, .ref q6, .ref q7, .ref q8, .ref q9, .int 0, .int 0, .int 0, .int 0, .int 0, .int 0, .int 0, .int 0, .int 0, .int 0, .int 0, .int 0])), (q5, .inl (c3, 6, .inl (fun _ => 0))), (q6, .inl (c3, 6, .inl (fun _ => 0))), (q7, .inl (c3, 6, .inl (fun _ => 0))), (q8, .inl (c3, 6, .inl (fun _ => 0))), (q9, .inl (c3, 6, .inl (fun _ => 0))), (q11, .inr (2, [.ref q12, .ref q13, .ref q14, .ref q15, .ref q16, .int 0, .int 0, .int 0, .int 0, .int 0, .int 0, .int 0, .int 0, .int 0, .int 0, .int 0, .int 0])), (q12, .inl (c3, 6, .inl (fun _ => 0))), (q13, .inl (c3, 6, .inl (fun _ => 0))), (q14, .inl (c3, 6, .inl (fun _ => 0))), (q15, .inl (c3, 6, .inl (fun _ => 0))), (q16, .inl (c3, 6, .inl (fun _ => 0))), (q18, .inr (0, [.ref q19, .int 0, .int 0, .int 0, .int 0, .int 0, .int 0, .int 0])), (q19, .inl (c3, 6, .inl (fun _ => 0)))]) [0, 1, 2, 3, 4, 5, 6, 7, 8, 9, 10, 11, 12, 13, 14, 15, 16] (by decide) rfl
  have hK9 := hK.sub (tys' := [(c3, .int)]) [0] rfl
  exact W.vret hx hb hr (fun t ht hW => ⟨⟨(), rfl, trivial, (fun k => [h0, q1, q2, q4, q5, q6, q7, q8, q9, q11, q12, q13, q14, q15, q16, q18, q19].getD k 0), c3, rfl, by rw [ht]; exact hP9, va_K.moved hW.alike hK9, hD9⟩, hS.F ht⟩) hS.2.2 dX3_init_58
set_option maxHeartbeats 4000000 in
set_option maxRecDepth 100000 in
theorem i_X4 (l : Launch) (dC : Nat → ClassId) (dI : Nat → Nat → Nat) (h0 : Nat) (sz : Nat) : Met l yX4_init (.code yX4_init cX4_init 1 none :: lw_g) ({ frames := 1, cells := 8, slots := 83, locals := 12 }) (PcI dC dI [(h0, .inr (4, [.null, .int 0, .int 0, .int 0, .int 0, .int 0, .int 0, .int 0, .int 0, .int 0, .null, .int 0, .null, .null, .int 0, .null, .int 0, .int 0, .int 0, .int 0, .int 0, .int 0, .int 0, .int 0, .int 0, .null, .null, .null, .long 0]))] h0 sz) (va_Qv (fun _ : Unit => True) (fun (_ : Unit) t => ∃ (a : Nat → Nat) (cZ : ClassId), a 0 = h0 ∧ va_P (dC, dI) classes (wm a cZ YZ) t.heap ∧ va_K (dC, dI) classes [(cZ, .int)] t ∧ va_D (va_A [(h0, .inr (4, [.null, .int 0, .int 0, .int 0, .int 0, .int 0, .int 0, .int 0, .int 0, .int 0, .null, .int 0, .null, .null, .int 0, .null, .int 0, .int 0, .int 0, .int 0, .int 0, .int 0, .int 0, .int 0, .int 0, .null, .null, .null, .long 0]))] sz) (wm a cZ YZ)) (va_A [(h0, .inr (4, [.null, .int 0, .int 0, .int 0, .int 0, .int 0, .int 0, .int 0, .int 0, .int 0, .null, .int 0, .null, .null, .int 0, .null, .int 0, .int 0, .int 0, .int 0, .int 0, .int 0, .int 0, .int 0, .int 0, .null, .null, .null, .long 0]))] sz)) 8 83 (va_A [(h0, .inr (4, [.null, .int 0, .int 0, .int 0, .int 0, .int 0, .int 0, .int 0, .int 0, .int 0, .null, .int 0, .null, .null, .int 0, .null, .int 0, .int 0, .int 0, .int 0, .int 0, .int 0, .int 0, .int 0, .int 0, .null, .null, .null, .long 0]))] sz) := by
  refine Met.ofW (cc := cX4_init) (maxL := 1) (ret := none) (by decide) rfl ?_
  intro p e s m args below meth c s₁ B hml hv
  obtain ⟨rfl, hsz, hP, hK, hD0⟩ := hv
  have hx := B.exec
  have hb := B.bytes
  have hr := B.returns
  have hts0 := atoms_spec (ws := (.code yX4_init cX4_init 1 none :: lw_g)) B.pre
  have hts : ∀ w ∈ lw_g, w.before (([.ref h0] : List Value).toArray) s = true := fun w h => hts0 w (List.mem_cons_of_mem _ h)
  have hown : s.vm.findClass RX4 = some m.cls := findClass_of_methodNamed B.named
  have hlocks := B.notSynchronized
  have hin : meth.name = "<init>" := (name_of_methodNamed B.named B.method).1
  subst hsz
  have hD := hD0.self (sz := s.heap.size)
  generalize hAe : va_A [(h0, .inr (4, [.null, .int 0, .int 0, .int 0, .int 0, .int 0, .int 0, .int 0, .int 0, .int 0, .null, .int 0, .null, .null, .int 0, .null, .int 0, .int 0, .int 0, .int 0, .int 0, .int 0, .int 0, .int 0, .int 0, .null, .null, .null, .long 0]))] s.heap.size = A at hD ⊢
  have hA : ∀ q : Nat, s.heap.size ≤ q → A q := fun q h => by rw [← hAe]; exact Or.inr h
  have hS : va_S A s.heap s.heap [] := va_S.rf
  have hP : va_P (dC, dI) classes [(h0, .inr (4, [.null, .int 0, .int 0, .int 0, .int 0, .int 0, .int 0, .int 0, .int 0, .int 0, .null, .int 0, .null, .null, .int 0, .null, .int 0, .int 0, .int 0, .int 0, .int 0, .int 0, .int 0, .int 0, .int 0, .null, .null, .null, .long 0]))] s.heap := hP
  have hl := lv_entry ([.ref h0]) (n := 1) (Nat.le_of_ble_eq_true rfl)
  rw [lg_entry_eq]
  generalize (lg_sl ([.ref h0]) ++ List.replicate (1 - (lg_sl ([.ref h0])).length) Slot.unset).toArray = ls at hl ⊢
  have hl : lv_has ls 1 [(0, .ref h0)] := hl
  refine lv_aload_n hx hb dX4_init_0 rfl (lv_at hl 0 rfl) ?_
  refine W.objInit hx hb hown (hts _ wd_521) (hts _ wd_49) (hts _ wd_50) rfl (by rw [hml]; exact hl.1) rfl dX4_init_1 (Nat.le_of_ble_eq_true rfl) (Nat.le_of_ble_eq_true rfl) ?_
  refine W.eq (g2 := F0 m 4 ls []) rfl ?_
  refine lv_aload_n hx hb dX4_init_4 rfl (lv_at hl 0 rfl) ?_
  refine lv_bipush (v := 12) hx hb dX4_init_5 (by decide) ?_
  refine va_newa (atype := .int) (ty := .int) (N' := 12) (a0 := (12, .inl (fun _ => 0))) hx hb (hts _ wd_66) rfl hK hP hD hS hA (fun cA => rfl) (by decide) (by decide) (by decide) (Nat.le_of_ble_eq_true rfl) (Nat.le_of_ble_eq_true rfl) dX4_init_7 (fun q1 c2 H hK hP hD hS => ?_)
  have hP : va_P (dC, dI) classes [(h0, .inr (4, [.null, .int 0, .int 0, .int 0, .int 0, .int 0, .int 0, .int 0, .int 0, .int 0, .null, .int 0, .null, .null, .int 0, .null, .int 0, .int 0, .int 0, .int 0, .int 0, .int 0, .int 0, .int 0, .int 0, .null, .null, .null, .long 0])), (q1, .inl (c2, 12, .inl (fun _ => 0)))] H := hP
  have hD : va_D A [(h0, .inr (4, [.null, .int 0, .int 0, .int 0, .int 0, .int 0, .int 0, .int 0, .int 0, .int 0, .null, .int 0, .null, .null, .int 0, .null, .int 0, .int 0, .int 0, .int 0, .int 0, .int 0, .int 0, .int 0, .int 0, .null, .null, .null, .long 0])), (q1, .inl (c2, 12, .inl (fun _ => 0)))] := hD
  have hK : va_K (dC, dI) classes [(c2, .int)] s := hK
  refine W.widen (k := 1) (n := 12) (by omega) (by omega) ?_
  refine va_putF (D := (dC, dI)) (ci := 4) (v := .ref q1) (ty := .array .int) (C := RX4) (T := TX4) (N := 29) hx hb hts iX4 tyX4 tyX4_ok nmX4 hown hK hP hD hS 0 rfl rfl 0 (by decide) (hts _ wd_522) (fun _ h9 => h9) rfl hin rfl (by decide +kernel) rfl rfl (Nat.le_of_ble_eq_true rfl) dX4_init_9 (fun H locs hP hD hS => ?_)
  have hP : va_P (dC, dI) classes [(h0, .inr (4, [.ref q1, .int 0, .int 0, .int 0, .int 0, .int 0, .int 0, .int 0, .int 0, .int 0, .null, .int 0, .null, .null, .int 0, .null, .int 0, .int 0, .int 0, .int 0, .int 0, .int 0, .int 0, .int 0, .int 0, .null, .null, .null, .long 0])), (q1, .inl (c2, 12, .inl (fun _ => 0)))] H := hP
  have hD : va_D A [(h0, .inr (4, [.ref q1, .int 0, .int 0, .int 0, .int 0, .int 0, .int 0, .int 0, .int 0, .int 0, .null, .int 0, .null, .null, .int 0, .null, .int 0, .int 0, .int 0, .int 0, .int 0, .int 0, .int 0, .int 0, .int 0, .null, .null, .null, .long 0])), (q1, .inl (c2, 12, .inl (fun _ => 0)))] := hD
  refine lv_aload_n hx hb dX4_init_12 rfl (lv_at hl 0 rfl) ?_
  refine lv_bipush (v := 6) hx hb dX4_init_13 (by decide) ?_
  refine va_newa (atype := .int) (ty := .int) (N' := 6) (a0 := (6, .inl (fun _ => 0))) hx hb (hts _ wd_66) rfl hK hP hD hS hA (fun cA => rfl) (by decide) (by decide) (by decide) (Nat.le_of_ble_eq_true rfl) (Nat.le_of_ble_eq_true rfl) dX4_init_15 (fun q3 c4 H hK hP hD hS => ?_)
  have hP : va_P (dC, dI) classes [(h0, .inr (4, [.ref q1, .int 0, .int 0, .int 0, .int 0, .int 0, .int 0, .int 0, .int 0, .int 0, .null, .int 0, .null, .null, .int 0, .null, .int 0, .int 0, .int 0, .int 0, .int 0, .int 0, .int 0, .int 0, .int 0, .null, .null, .null, .long 0])), (q1, .inl (c2, 12, .inl (fun _ => 0))), (q3, .inl (c4, 6, .inl (fun _ => 0)))] H := hP
  have hD : va_D A [(h0, .inr (4, [.ref q1, .int 0, .int 0, .int 0, .int 0, .int 0, .int 0, .int 0, .int 0, .int 0, .null, .int 0, .null, .null, .int 0, .null, .int 0, .int 0, .int 0, .int 0, .int 0, .int 0, .int 0, .int 0, .int 0, .null, .null, .null, .long 0])), (q1, .inl (c2, 12, .inl (fun _ => 0))), (q3, .inl (c4, 6, .inl (fun _ => 0)))] := hD
  have hK : va_K (dC, dI) classes [(c2, .int), (c4, .int)] s := hK
  refine W.widen (k := 2) (n := 18) (by omega) (by omega) ?_
  refine va_putF (D := (dC, dI)) (ci := 4) (v := .ref q3) (ty := .array .int) (C := RX4) (T := TX4) (N := 29) hx hb hts iX4 tyX4 tyX4_ok nmX4 hown hK hP hD hS 0 rfl rfl 10 (by decide) (hts _ wd_532) (fun _ h9 => h9) rfl hin rfl (by decide +kernel) rfl rfl (Nat.le_of_ble_eq_true rfl) dX4_init_17 (fun H locs hP hD hS => ?_)
  have hP : va_P (dC, dI) classes [(h0, .inr (4, [.ref q1, .int 0, .int 0, .int 0, .int 0, .int 0, .int 0, .int 0, .int 0, .int 0, .ref q3, .int 0, .null, .null, .int 0, .null, .int 0, .int 0, .int 0, .int 0, .int 0, .int 0, .int 0, .int 0, .int 0, .null, .null, .null, .long 0])), (q1, .inl (c2, 12, .inl (fun _ => 0))), (q3, .inl (c4, 6, .inl (fun _ => 0)))] H := hP
  have hD : va_D A [(h0, .inr (4, [.ref q1, .int 0, .int 0, .int 0, .int 0, .int 0, .int 0, .int 0, .int 0, .int 0, .ref q3, .int 0, .null, .null, .int 0, .null, .int 0, .int 0, .int 0, .int 0, .int 0, .int 0, .int 0, .int 0, .int 0, .null, .null, .null, .long 0])), (q1, .inl (c2, 12, .inl (fun _ => 0))), (q3, .inl (c4, 6, .inl (fun _ => 0)))] := hD
  refine lv_aload_n hx hb dX4_init_20 rfl (lv_at hl 0 rfl) ?_
  refine lv_bipush (v := 12) hx hb dX4_init_21 (by decide) ?_
  refine va_newa (atype := .int) (ty := .int) (N' := 12) (a0 := (12, .inl (fun _ => 0))) hx hb (hts _ wd_66) rfl hK hP hD hS hA (fun cA => rfl) (by decide) (by decide) (by decide) (Nat.le_of_ble_eq_true rfl) (Nat.le_of_ble_eq_true rfl) dX4_init_23 (fun q5 c6 H hK hP hD hS => ?_)
  have hP : va_P (dC, dI) classes [(h0, .inr (4, [.ref q1, .int 0, .int 0, .int 0, .int 0, .int 0, .int 0, .int 0, .int 0, .int 0, .ref q3, .int 0, .null, .null, .int 0, .null, .int 0, .int 0, .int 0, .int 0, .int 0, .int 0, .int 0, .int 0, .int 0, .null, .null, .null, .long 0])), (q1, .inl (c2, 12, .inl (fun _ => 0))), (q3, .inl (c4, 6, .inl (fun _ => 0))), (q5, .inl (c6, 12, .inl (fun _ => 0)))] H := hP
  have hD : va_D A [(h0, .inr (4, [.ref q1, .int 0, .int 0, .int 0, .int 0, .int 0, .int 0, .int 0, .int 0, .int 0, .ref q3, .int 0, .null, .null, .int 0, .null, .int 0, .int 0, .int 0, .int 0, .int 0, .int 0, .int 0, .int 0, .int 0, .null, .null, .null, .long 0])), (q1, .inl (c2, 12, .inl (fun _ => 0))), (q3, .inl (c4, 6, .inl (fun _ => 0))), (q5, .inl (c6, 12, .inl (fun _ => 0)))] := hD
  have hK : va_K (dC, dI) classes [(c2, .int), (c4, .int), (c6, .int)] s := hK
  refine W.widen (k := 3) (n := 30) (by omega) (by omega) ?_
  refine va_putF (D := (dC, dI)) (ci := 4) (v := .ref q5) (ty := .array .int) (C := RX4) (T := TX4) (N := 29) hx hb hts iX4 tyX4 tyX4_ok nmX4 hown hK hP hD hS 0 rfl rfl 12 (by decide) (hts _ wd_534) (fun _ h9 => h9) rfl hin rfl (by decide +kernel) rfl rfl (Nat.le_of_ble_eq_true rfl) dX4_init_25 (fun H locs hP hD hS => ?_)
  have hP : va_P (dC, dI) classes [(h0, .inr (4, [.ref q1, .int 0, .int 0, .int 0, .int 0, .int 0, .int 0, .int 0, .int 0, .int 0, .ref q3, .int 0, .ref q5, .null, .int 0, .null, .int 0, .int 0, .int 0, .int 0, .int 0, .int 0, .int 0, .int 0, .int 0, .null, .null, .null, .long 0])), (q1, .inl (c2, 12, .inl (fun _ => 0))), (q3, .inl (c4, 6, .inl (fun _ => 0))), (q5, .inl (c6, 12, .inl (fun _ => 0)))] H := hP
  have hD : va_D A [(h0, .inr (4, [.ref q1, .int 0, .int 0, .int 0, .int 0, .int 0, .int 0, .int 0, .int 0, .int 0, .ref q3, .int 0, .ref q5, .null, .int 0, .null, .int 0, .int 0, .int 0, .int 0, .int 0, .int 0, .int 0, .int 0, .int 0, .null, .null, .null, .long 0])), (q1, .inl (c2, 12, .inl (fun _ => 0))), (q3, .inl (c4, 6, .inl (fun _ => 0))), (q5, .inl (c6, 12, .inl (fun _ => 0)))] := hD
  refine lv_aload_n hx hb dX4_init_28 rfl (lv_at hl 0 rfl) ?_
  refine lv_iconst (v := 3) hx hb dX4_init_29 (by decide) ?_
  refine va_newa (atype := .int) (ty := .int) (N' := 3) (a0 := (3, .inl (fun _ => 0))) hx hb (hts _ wd_66) rfl hK hP hD hS hA (fun cA => rfl) (by decide) (by decide) (by decide) (Nat.le_of_ble_eq_true rfl) (Nat.le_of_ble_eq_true rfl) dX4_init_30 (fun q7 c8 H hK hP hD hS => ?_)
  have hP : va_P (dC, dI) classes [(h0, .inr (4, [.ref q1, .int 0, .int 0, .int 0, .int 0, .int 0, .int 0, .int 0, .int 0, .int 0, .ref q3, .int 0, .ref q5, .null, .int 0, .null, .int 0, .int 0, .int 0, .int 0, .int 0, .int 0, .int 0, .int 0, .int 0, .null, .null, .null, .long 0])), (q1, .inl (c2, 12, .inl (fun _ => 0))), (q3, .inl (c4, 6, .inl (fun _ => 0))), (q5, .inl (c6, 12, .inl (fun _ => 0))), (q7, .inl (c8, 3, .inl (fun _ => 0)))] H := hP
  have hD : va_D A [(h0, .inr (4, [.ref q1, .int 0, .int 0, .int 0, .int 0, .int 0, .int 0, .int 0, .int 0, .int 0, .ref q3, .int 0, .ref q5, .null, .int 0, .null, .int 0, .int 0, .int 0, .int 0, .int 0, .int 0, .int 0, .int 0, .int 0, .null, .null, .null, .long 0])), (q1, .inl (c2, 12, .inl (fun _ => 0))), (q3, .inl (c4, 6, .inl (fun _ => 0))), (q5, .inl (c6, 12, .inl (fun _ => 0))), (q7, .inl (c8, 3, .inl (fun _ => 0)))] := hD
  have hK : va_K (dC, dI) classes [(c2, .int), (c4, .int), (c6, .int), (c8, .int)] s := hK
  refine W.widen (k := 4) (n := 33) (by omega) (by omega) ?_
  refine va_putF (D := (dC, dI)) (ci := 4) (v := .ref q7) (ty := .array .int) (C := RX4) (T := TX4) (N := 29) hx hb hts iX4 tyX4 tyX4_ok nmX4 hown hK hP hD hS 0 rfl rfl 13 (by decide) (hts _ wd_535) (fun _ h9 => h9) rfl hin rfl (by decide +kernel) rfl rfl (Nat.le_of_ble_eq_true rfl) dX4_init_32 (fun H locs hP hD hS => ?_)
  have hP : va_P (dC, dI) classes [(h0, .inr (4, [.ref q1, .int 0, .int 0, .int 0, .int 0, .int 0, .int 0, .int 0, .int 0, .int 0, .ref q3, .int 0, .ref q5, .ref q7, .int 0, .null, .int 0, .int 0, .int 0, .int 0, .int 0, .int 0, .int 0, .int 0, .int 0, .null, .null, .null, .long 0])), (q1, .inl (c2, 12, .inl (fun _ => 0))), (q3, .inl (c4, 6, .inl (fun _ => 0))), (q5, .inl (c6, 12, .inl (fun _ => 0))), (q7, .inl (c8, 3, .inl (fun _ => 0)))] H := hP
  have hD : va_D A [(h0, .inr (4, [.ref q1, .int 0, .int 0, .int 0, .int 0, .int 0, .int 0, .int 0, .int 0, .int 0, .ref q3, .int 0, .ref q5, .ref q7, .int 0, .null, .int 0, .int 0, .int 0, .int 0, .int 0, .int 0, .int 0, .int 0, .int 0, .null, .null, .null, .long 0])), (q1, .inl (c2, 12, .inl (fun _ => 0))), (q3, .inl (c4, 6, .inl (fun _ => 0))), (q5, .inl (c6, 12, .inl (fun _ => 0))), (q7, .inl (c8, 3, .inl (fun _ => 0)))] := hD
  refine lv_aload_n hx hb dX4_init_35 rfl (lv_at hl 0 rfl) ?_
  refine lv_bipush (v := 16) hx hb dX4_init_36 (by decide) ?_
  refine va_newa (atype := .int) (ty := .int) (N' := 16) (a0 := (16, .inl (fun _ => 0))) hx hb (hts _ wd_66) rfl hK hP hD hS hA (fun cA => rfl) (by decide) (by decide) (by decide) (Nat.le_of_ble_eq_true rfl) (Nat.le_of_ble_eq_true rfl) dX4_init_38 (fun q9 c10 H hK hP hD hS => ?_)
  have hP : va_P (dC, dI) classes [(h0, .inr (4, [.ref q1, .int 0, .int 0, .int 0, .int 0, .int 0, .int 0, .int 0, .int 0, .int 0, .ref q3, .int 0, .ref q5, .ref q7, .int 0, .null, .int 0, .int 0, .int 0, .int 0, .int 0, .int 0, .int 0, .int 0, .int 0, .null, .null, .null, .long 0])), (q1, .inl (c2, 12, .inl (fun _ => 0))), (q3, .inl (c4, 6, .inl (fun _ => 0))), (q5, .inl (c6, 12, .inl (fun _ => 0))), (q7, .inl (c8, 3, .inl (fun _ => 0))), (q9, .inl (c10, 16, .inl (fun _ => 0)))] H := hP
  have hD : va_D A [(h0, .inr (4, [.ref q1, .int 0, .int 0, .int 0, .int 0, .int 0, .int 0, .int 0, .int 0, .int 0, .ref q3, .int 0, .ref q5, .ref q7, .int 0, .null, .int 0, .int 0, .int 0, .int 0, .int 0, .int 0, .int 0, .int 0, .int 0, .null, .null, .null, .long 0])), (q1, .inl (c2, 12, .inl (fun _ => 0))), (q3, .inl (c4, 6, .inl (fun _ => 0))), (q5, .inl (c6, 12, .inl (fun _ => 0))), (q7, .inl (c8, 3, .inl (fun _ => 0))), (q9, .inl (c10, 16, .inl (fun _ => 0)))] := hD
  have hK : va_K (dC, dI) classes [(c2, .int), (c4, .int), (c6, .int), (c8, .int), (c10, .int)] s := hK
  refine W.widen (k := 5) (n := 49) (by omega) (by omega) ?_
  refine va_putF (D := (dC, dI)) (ci := 4) (v := .ref q9) (ty := .array .int) (C := RX4) (T := TX4) (N := 29) hx hb hts iX4 tyX4 tyX4_ok nmX4 hown hK hP hD hS 0 rfl rfl 15 (by decide) (hts _ wd_537) (fun _ h9 => h9) rfl hin rfl (by decide +kernel) rfl rfl (Nat.le_of_ble_eq_true rfl) dX4_init_40 (fun H locs hP hD hS => ?_)
  have hP : va_P (dC, dI) classes [(h0, .inr (4, [.ref q1, .int 0, .int 0, .int 0, .int 0, .int 0, .int 0, .int 0, .int 0, .int 0, .ref q3, .int 0, .ref q5, .ref q7, .int 0, .ref q9, .int 0, .int 0, .int 0, .int 0, .int 0, .int 0, .int 0, .int 0, .int 0, .null, .null, .null, .long 0])), (q1, .inl (c2, 12, .inl (fun _ => 0))), (q3, .inl (c4, 6, .inl (fun _ => 0))), (q5, .inl (c6, 12, .inl (fun _ => 0))), (q7, .inl (c8, 3, .inl (fun _ => 0))), (q9, .inl (c10, 16, .inl (fun _ => 0)))] H := hP
  have hD : va_D A [(h0, .inr (4, [.ref q1, .int 0, .int 0, .int 0, .int 0, .int 0, .int 0, .int 0, .int 0, .int 0, .ref q3, .int 0, .ref q5, .ref q7, .int 0, .ref q9, .int 0, .int 0, .int 0, .int 0, .int 0, .int 0, .int 0, .int 0, .int 0, .null, .null, .null, .long 0])), (q1, .inl (c2, 12, .inl (fun _ => 0))), (q3, .inl (c4, 6, .inl (fun _ => 0))), (q5, .inl (c6, 12, .inl (fun _ => 0))), (q7, .inl (c8, 3, .inl (fun _ => 0))), (q9, .inl (c10, 16, .inl (fun _ => 0)))] := hD
  refine lv_aload_n hx hb dX4_init_43 rfl (lv_at hl 0 rfl) ?_
  refine lv_bipush (v := 12) hx hb dX4_init_44 (by decide) ?_
  refine va_newa (atype := .int) (ty := .int) (N' := 12) (a0 := (12, .inl (fun _ => 0))) hx hb (hts _ wd_66) rfl hK hP hD hS hA (fun cA => rfl) (by decide) (by decide) (by decide) (Nat.le_of_ble_eq_true rfl) (Nat.le_of_ble_eq_true rfl) dX4_init_46 (fun q11 c12 H hK hP hD hS => ?_)
  have hP : va_P (dC, dI) classes [(h0, .inr (4, [.ref q1, .int 0, .int 0, .int 0, .int 0, .int 0, .int 0, .int 0, .int 0, .int 0, .ref q3, .int 0, .ref q5, .ref q7, .int 0, .ref q9, .int 0, .int 0, .int 0, .int 0, .int 0, .int 0, .int 0, .int 0, .int 0, .null, .null, .null, .long 0])), (q1, .inl (c2, 12, .inl (fun _ => 0))), (q3, .inl (c4, 6, .inl (fun _ => 0))), (q5, .inl (c6, 12, .inl (fun _ => 0))), (q7, .inl (c8, 3, .inl (fun _ => 0))), (q9, .inl (c10, 16, .inl (fun _ => 0))), (q11, .inl (c12, 12, .inl (fun _ => 0)))] H := hP
  have hD : va_D A [(h0, .inr (4, [.ref q1, .int 0, .int 0, .int 0, .int 0, .int 0, .int 0, .int 0, .int 0, .int 0, .ref q3, .int 0, .ref q5, .ref q7, .int 0, .ref q9, .int 0, .int 0, .int 0, .int 0, .int 0, .int 0, .int 0, .int 0, .int 0, .null, .null, .null, .long 0])), (q1, .inl (c2, 12, .inl (fun _ => 0))), (q3, .inl (c4, 6, .inl (fun _ => 0))), (q5, .inl (c6, 12, .inl (fun _ => 0))), (q7, .inl (c8, 3, .inl (fun _ => 0))), (q9, .inl (c10, 16, .inl (fun _ => 0))), (q11, .inl (c12, 12, .inl (fun _ => 0)))] := hD
  have hK : va_K (dC, dI) classes [(c2, .int), (c4, .int), (c6, .int), (c8, .int), (c10, .int), (c12, .int)] s := hK
  refine W.widen (k := 6) (n := 61) (by omega) (by omega) ?_
  refine va_putF (D := (dC, dI)) (ci := 4) (v := .ref q11) (ty := .array .int) (C := RX4) (T := TX4) (N := 29) hx hb hts iX4 tyX4 tyX4_ok nmX4 hown hK hP hD hS 0 rfl rfl 25 (by decide) (hts _ wd_547) (fun _ h9 => h9) rfl hin rfl (by decide +kernel) rfl rfl (Nat.le_of_ble_eq_true rfl) dX4_init_48 (fun H locs hP hD hS => ?_)
  have hP : va_P (dC, dI) classes [(h0, .inr (4, [.ref q1, .int 0, .int 0, .int 0, .int 0, .int 0, .int 0, .int 0, .int 0, .int 0, .ref q3, .int 0, .ref q5, .ref q7, .int 0, .ref q9, .int 0, .int 0, .int 0, .int 0, .int 0, .int 0, .int 0, .int 0, .int 0, .ref q11, .null, .null, .long 0])), (q1, .inl (c2, 12, .inl (fun _ => 0))), (q3, .inl (c4, 6, .inl (fun _ => 0))), (q5, .inl (c6, 12, .inl (fun _ => 0))), (q7, .inl (c8, 3, .inl (fun _ => 0))), (q9, .inl (c10, 16, .inl (fun _ => 0))), (q11, .inl (c12, 12, .inl (fun _ => 0)))] H := hP
  have hD : va_D A [(h0, .inr (4, [.ref q1, .int 0, .int 0, .int 0, .int 0, .int 0, .int 0, .int 0, .int 0, .int 0, .ref q3, .int 0, .ref q5, .ref q7, .int 0, .ref q9, .int 0, .int 0, .int 0, .int 0, .int 0, .int 0, .int 0, .int 0, .int 0, .ref q11, .null, .null, .long 0])), (q1, .inl (c2, 12, .inl (fun _ => 0))), (q3, .inl (c4, 6, .inl (fun _ => 0))), (q5, .inl (c6, 12, .inl (fun _ => 0))), (q7, .inl (c8, 3, .inl (fun _ => 0))), (q9, .inl (c10, 16, .inl (fun _ => 0))), (q11, .inl (c12, 12, .inl (fun _ => 0)))] := hD
  refine lv_aload_n hx hb dX4_init_51 rfl (lv_at hl 0 rfl) ?_
  refine lv_bipush (v := 16) hx hb dX4_init_52 (by decide) ?_
  refine va_newa (atype := .int) (ty := .int) (N' := 16) (a0 := (16, .inl (fun _ => 0))) hx hb (hts _ wd_66) rfl hK hP hD hS hA (fun cA => rfl) (by decide) (by decide) (by decide) (Nat.le_of_ble_eq_true rfl) (Nat.le_of_ble_eq_true rfl) dX4_init_54 (fun q13 c14 H hK hP hD hS => ?_)
  have hP : va_P (dC, dI) classes [(h0, .inr (4, [.ref q1, .int 0, .int 0, .int 0, .int 0, .int 0, .int 0, .int 0, .int 0, .int 0, .ref q3, .int 0, .ref q5, .ref q7, .int 0, .ref q9, .int 0, .int 0, .int 0, .int 0, .int 0, .int 0, .int 0, .int 0, .int 0, .ref q11, .null, .null, .long 0])), (q1, .inl (c2, 12, .inl (fun _ => 0))), (q3, .inl (c4, 6, .inl (fun _ => 0))), (q5, .inl (c6, 12, .inl (fun _ => 0))), (q7, .inl (c8, 3, .inl (fun _ => 0))), (q9, .inl (c10, 16, .inl (fun _ => 0))), (q11, .inl (c12, 12, .inl (fun _ => 0))), (q13, .inl (c14, 16, .inl (fun _ => 0)))] H := hP
  have hD : va_D A [(h0, .inr (4, [.ref q1, .int 0, .int 0, .int 0, .int 0, .int 0, .int 0, .int 0, .int 0, .int 0, .ref q3, .int 0, .ref q5, .ref q7, .int 0, .ref q9, .int 0, .int 0, .int 0, .int 0, .int 0, .int 0, .int 0, .int 0, .int 0, .ref q11, .null, .null, .long 0])), (q1, .inl (c2, 12, .inl (fun _ => 0))), (q3, .inl (c4, 6, .inl (fun _ => 0))), (q5, .inl (c6, 12, .inl (fun _ => 0))), (q7, .inl (c8, 3, .inl (fun _ => 0))), (q9, .inl (c10, 16, .inl (fun _ => 0))), (q11, .inl (c12, 12, .inl (fun _ => 0))), (q13, .inl (c14, 16, .inl (fun _ => 0)))] := hD
  have hK : va_K (dC, dI) classes [(c2, .int), (c4, .int), (c6, .int), (c8, .int), (c10, .int), (c12, .int), (c14, .int)] s := hK
  refine W.widen (k := 7) (n := 77) (by omega) (by omega) ?_
  refine va_putF (D := (dC, dI)) (ci := 4) (v := .ref q13) (ty := .array .int) (C := RX4) (T := TX4) (N := 29) hx hb hts iX4 tyX4 tyX4_ok nmX4 hown hK hP hD hS 0 rfl rfl 26 (by decide) (hts _ wd_548) (fun _ h9 => h9) rfl hin rfl (by decide +kernel) rfl rfl (Nat.le_of_ble_eq_true rfl) dX4_init_56 (fun H locs hP hD hS => ?_)
  have hP : va_P (dC, dI) classes [(h0, .inr (4, [.ref q1, .int 0, .int 0, .int 0, .int 0, .int 0, .int 0, .int 0, .int 0, .int 0, .ref q3, .int 0, .ref q5, .ref q7, .int 0, .ref q9, .int 0, .int 0, .int 0, .int 0, .int 0, .int 0, .int 0, .int 0, .int 0, .ref q11, .ref q13, .null, .long 0])), (q1, .inl (c2, 12, .inl (fun _ => 0))), (q3, .inl (c4, 6, .inl (fun _ => 0))), (q5, .inl (c6, 12, .inl (fun _ => 0))), (q7, .inl (c8, 3, .inl (fun _ => 0))), (q9, .inl (c10, 16, .inl (fun _ => 0))), (q11, .inl (c12, 12, .inl (fun _ => 0))), (q13, .inl (c14, 16, .inl (fun _ => 0)))] H := hP
  have hD : va_D A [(h0, .inr (4, [.ref q1, .int 0, .int 0, .int 0, .int 0, .int 0, .int 0, .int 0, .int 0, .int 0, .ref q3, .int 0, .ref q5, .ref q7, .int 0, .ref q9, .int 0, .int 0, .int 0, .int 0, .int 0, .int 0, .int 0, .int 0, .int 0, .ref q11, .ref q13, .null, .long 0])), (q1, .inl (c2, 12, .inl (fun _ => 0))), (q3, .inl (c4, 6, .inl (fun _ => 0))), (q5, .inl (c6, 12, .inl (fun _ => 0))), (q7, .inl (c8, 3, .inl (fun _ => 0))), (q9, .inl (c10, 16, .inl (fun _ => 0))), (q11, .inl (c12, 12, .inl (fun _ => 0))), (q13, .inl (c14, 16, .inl (fun _ => 0)))] := hD
  refine lv_aload_n hx hb dX4_init_59 rfl (lv_at hl 0 rfl) ?_
  refine lv_bipush (v := 6) hx hb dX4_init_60 (by decide) ?_
  refine va_newa (atype := .int) (ty := .int) (N' := 6) (a0 := (6, .inl (fun _ => 0))) hx hb (hts _ wd_66) rfl hK hP hD hS hA (fun cA => rfl) (by decide) (by decide) (by decide) (Nat.le_of_ble_eq_true rfl) (Nat.le_of_ble_eq_true rfl) dX4_init_62 (fun q15 c16 H hK hP hD hS => ?_)
  have hP : va_P (dC, dI) classes [(h0, .inr (4, [.ref q1, .int 0, .int 0, .int 0, .int 0, .int 0, .int 0, .int 0, .int 0, .int 0, .ref q3, .int 0, .ref q5, .ref q7, .int 0, .ref q9, .int 0, .int 0, .int 0, .int 0, .int 0, .int 0, .int 0, .int 0, .int 0, .ref q11, .ref q13, .null, .long 0])), (q1, .inl (c2, 12, .inl (fun _ => 0))), (q3, .inl (c4, 6, .inl (fun _ => 0))), (q5, .inl (c6, 12, .inl (fun _ => 0))), (q7, .inl (c8, 3, .inl (fun _ => 0))), (q9, .inl (c10, 16, .inl (fun _ => 0))), (q11, .inl (c12, 12, .inl (fun _ => 0))), (q13, .inl (c14, 16, .inl (fun _ => 0))), (q15, .inl (c16, 6, .inl (fun _ => 0)))] H := hP
  have hD : va_D A [(h0, .inr (4, [.ref q1, .int 0, .int 0, .int 0, .int 0, .int 0, .int 0, .int 0, .int 0, .int 0, .ref q3, .int 0, .ref q5, .ref q7, .int 0, .ref q9, .int 0, .int 0, .int 0, .int 0, .int 0, .int 0, .int 0, .int 0, .int 0, .ref q11, .ref q13, .null, .long 0])), (q1, .inl (c2, 12, .inl (fun _ => 0))), (q3, .inl (c4, 6, .inl (fun _ => 0))), (q5, .inl (c6, 12, .inl (fun _ => 0))), (q7, .inl (c8, 3, .inl (fun _ => 0))), (q9, .inl (c10, 16, .inl (fun _ => 0))), (q11, .inl (c12, 12, .inl (fun _ => 0))), (q13, .inl (c14, 16, .inl (fun _ => 0))), (q15, .inl (c16, 6, .inl (fun _ => 0)))] := hD
  have hK : va_K (dC, dI) classes [(c2, .int), (c4, .int), (c6, .int), (c8, .int), (c10, .int), (c12, .int), (c14, .int), (c16, .int)] s := hK
  refine W.widen (k := 8) (n := 83) (by omega) (by omega) ?_
  refine va_putF (D := (dC, dI)) (ci := 4) (v := .ref q15) (ty := .array .int) (C := RX4) (T := TX4) (N := 29) hx hb hts iX4 tyX4 tyX4_ok nmX4 hown hK hP hD hS 0 rfl rfl 27 (by decide) (hts _ wd_549) (fun _ h9 => h9) rfl hin rfl (by decide +kernel) rfl rfl (Nat.le_of_ble_eq_true rfl) dX4_init_64 (fun H locs hP hD hS => ?_)
  have hP : va_P (dC, dI) classes [(h0, .inr (4, [.ref q1, .int 0, .int 0, .int 0, .int 0, .int 0, .int 0, .int 0, .int 0, .int 0, .ref q3, .int 0, .ref q5, .ref q7, .int 0, .ref q9, .int 0, .int 0, .int 0, .int 0, .int 0, .int 0, .int 0, .int 0, .int 0, .ref q11, .ref q13, .ref q15, .long 0])), (q1, .inl (c2, 12, .inl (fun _ => 0))), (q3, .inl (c4, 6, .inl (fun _ => 0))), (q5, .inl (c6, 12, .inl (fun _ => 0))), (q7, .inl (c8, 3, .inl (fun _ => 0))), (q9, .inl (c10, 16, .inl (fun _ => 0))), (q11, .inl (c12, 12, .inl (fun _ => 0))), (q13, .inl (c14, 16, .inl (fun _ => 0))), (q15, .inl (c16, 6, .inl (fun _ => 0)))] H := hP
  have hD : va_D A [(h0, .inr (4, [.ref q1, .int 0, .int 0, .int 0, .int 0, .int 0, .int 0, .int 0, .int 0, .int 0, .ref q3, .int 0, .ref q5, .ref q7, .int 0, .ref q9, .int 0, .int 0, .int 0, .int 0, .int 0, .int 0, .int 0, .int 0, .int 0, .ref q11, .ref q13, .ref q15, .long 0])), (q1, .inl (c2, 12, .inl (fun _ => 0))), (q3, .inl (c4, 6, .inl (fun _ => 0))), (q5, .inl (c6, 12, .inl (fun _ => 0))), (q7, .inl (c8, 3, .inl (fun _ => 0))), (q9, .inl (c10, 16, .inl (fun _ => 0))), (q11, .inl (c12, 12, .inl (fun _ => 0))), (q13, .inl (c14, 16, .inl (fun _ => 0))), (q15, .inl (c16, 6, .inl (fun _ => 0)))] := hD
  refine lv_aload_n hx hb dX4_init_67 rfl (lv_at hl 0 rfl) ?_
  refine lv_iconst (v := (-1)) hx hb dX4_init_68 (by decide) ?_
  refine va_put (D := (dC, dI)) (ci := 4) (v := .int (-1)) (ty := .int) (C := RX4) (T := TX4) (N := 29) hx hb hts iX4 tyX4 tyX4_ok nmX4 hown hK hP hD hS 0 rfl rfl 17 (by decide) (hts _ wd_539) (fun _ h9 => h9) rfl (by decide +kernel) rfl rfl (Nat.le_of_ble_eq_true rfl) dX4_init_69 (fun H locs hP hD hS => ?_)
  have hP : va_P (dC, dI) classes [(h0, .inr (4, [.ref q1, .int 0, .int 0, .int 0, .int 0, .int 0, .int 0, .int 0, .int 0, .int 0, .ref q3, .int 0, .ref q5, .ref q7, .int 0, .ref q9, .int 0, .int (-1), .int 0, .int 0, .int 0, .int 0, .int 0, .int 0, .int 0, .ref q11, .ref q13, .ref q15, .long 0])), (q1, .inl (c2, 12, .inl (fun _ => 0))), (q3, .inl (c4, 6, .inl (fun _ => 0))), (q5, .inl (c6, 12, .inl (fun _ => 0))), (q7, .inl (c8, 3, .inl (fun _ => 0))), (q9, .inl (c10, 16, .inl (fun _ => 0))), (q11, .inl (c12, 12, .inl (fun _ => 0))), (q13, .inl (c14, 16, .inl (fun _ => 0))), (q15, .inl (c16, 6, .inl (fun _ => 0)))] H := hP
  have hD : va_D A [(h0, .inr (4, [.ref q1, .int 0, .int 0, .int 0, .int 0, .int 0, .int 0, .int 0, .int 0, .int 0, .ref q3, .int 0, .ref q5, .ref q7, .int 0, .ref q9, .int 0, .int (-1), .int 0, .int 0, .int 0, .int 0, .int 0, .int 0, .int 0, .ref q11, .ref q13, .ref q15, .long 0])), (q1, .inl (c2, 12, .inl (fun _ => 0))), (q3, .inl (c4, 6, .inl (fun _ => 0))), (q5, .inl (c6, 12, .inl (fun _ => 0))), (q7, .inl (c8, 3, .inl (fun _ => 0))), (q9, .inl (c10, 16, .inl (fun _ => 0))), (q11, .inl (c12, 12, .inl (fun _ => 0))), (q13, .inl (c14, 16, .inl (fun _ => 0))), (q15, .inl (c16, 6, .inl (fun _ => 0)))] := hD
  have u0 : c2 = c4 := cA_eq hK 0 1 rfl rfl
  subst u0
  have hK := hK.sub (tys' := [(c2, .int), (c6, .int), (c8, .int), (c10, .int), (c12, .int), (c14, .int), (c16, .int)]) [0, 2, 3, 4, 5, 6, 7] rfl
  have u1 : c2 = c6 := cA_eq hK 0 1 rfl rfl
  subst u1
  have hK := hK.sub (tys' := [(c2, .int), (c8, .int), (c10, .int), (c12, .int), (c14, .int), (c16, .int)]) [0, 2, 3, 4, 5, 6] rfl
  have u2 : c2 = c8 := cA_eq hK 0 1 rfl rfl
  subst u2
  have hK := hK.sub (tys' := [(c2, .int), (c10, .int), (c12, .int), (c14, .int), (c16, .int)]) [0, 2, 3, 4, 5] rfl
  have u3 : c2 = c10 := cA_eq hK 0 1 rfl rfl
  subst u3
  have hK := hK.sub (tys' := [(c2, .int), (c12, .int), (c14, .int), (c16, .int)]) [0, 2, 3, 4] rfl
  have u4 : c2 = c12 := cA_eq hK 0 1 rfl rfl
  subst u4
  have hK := hK.sub (tys' := [(c2, .int), (c14, .int), (c16, .int)]) [0, 2, 3] rfl
  have u5 : c2 = c14 := cA_eq hK 0 1 rfl rfl
  subst u5
  have hK := hK.sub (tys' := [(c2, .int), (c16, .int)]) [0, 2] rfl
  have u6 : c2 = c16 := cA_eq hK 0 1 rfl rfl
  subst u6
  have hK := hK.sub (tys' := [(c2, .int)]) [0] rfl
  have hP9 := hP.sub (ws' := [(h0, .inr (4, [.ref q1, .int 0, .int 0, .int 0, .int 0, .int 0, .int 0, .int 0, .int 0, .int 0, .ref q3, .int 0, .ref q5, .ref q7, .int 0, .ref q9, .int 0, .int (-1), .int 0, .int 0, .int 0, .int 0, .int 0, .int 0, .int 0, .ref q11, .ref q13, .ref q15, .long 0])), (q1, .inl (c2, 12, .inl (fun _ => 0))), (q3, .inl (c2, 6, .inl (fun _ => 0))), (q5, .inl (c2, 12, .inl (fun _ => 0))), (q7, .inl (c2, 3, .inl (fun _ => 0))), (q9, .inl (c2, 16, .inl (fun _ => 0))), (q11, .inl (c2, 12, .inl (fun _ => 0))), (q13, .inl (c2, 16, .inl (fun _ => 0))), (q15, .inl (c2, 6, .inl (fun _ => 0)))]) [0, 1, 2, 3, 4, 5, 6, 7, 8] rfl
  have hD9 := hD.sub (ws' := [(h0, .inr (4, [.ref q1, .int 0, .int 0, .int 0, .int 0, .int 0, .int 0, .int 0, .int 0, .int 0, .ref q3, .int 0, .ref q5, .ref q7, .int 0, .ref q9, .int 0, .int (-1), .int 0, .int 0, .int 0, .int 0, .int 0, .int 0, .int 0, .ref q11, .ref q13, .ref q15, .long 0])), (q1, .inl (c2, 12, .inl (fun _ => 0))), (q3, .inl (c2, 6, .inl (fun _ => 0))), (q5, .inl (c2, 12, .inl (fun _ => 0))), (q7, .inl (c2, 3, .inl (fun _ => 0))), (q9, .inl (c2, 16, .inl (fun _ => 0))), (q11, .inl (c2, 12, .inl (fun _ => 0))), (q13, .inl (c2, 16, .inl (fun _ => 0))), (q15, .inl (c2, 6, .inl (fun _ => 0)))]) [0, 1, 2, 3, 4, 5, 6, 7, 8] (by decide) rfl
  have hK9 := hK.sub (tys' := [(c2, .int)]) [0] rfl
  exact W.vret hx hb hr (fun t ht hW => ⟨⟨(), rfl, trivial, (fun k => [h0, q1, q3, q5, q7, q9, q11, q13, q15].getD k 0), c2, rfl, by rw [ht]; exact hP9, va_K.moved hW.alike hK9, hD9⟩, hS.F ht⟩) hS.2.2 dX4_init_72
