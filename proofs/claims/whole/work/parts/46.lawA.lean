
/-! THE CLAIM OUT OF ONE WALK OF THE LAW'S BODY. Your part is whole_start (and what it stands on); all else here is the same for every law, but numbers. -/
def R_law : String := "PaidToWhisperLaw"
def lw_P (b : Addr) (xs : List Int32) (args : Array Value) (s : State) : Prop := args = #[.ref b] ∧ s.IntsAt b xs ∧ xs.length ≤ 320 ∧ (Jvm.Cond.and given_1 narrow_1).before args s = true
def lw_Q (_ : Array Value) (s : State) (o : Outcome) (t : State) : Prop := o = .returned (some (.int 1)) ∧ Framed s o t [] 600000 7302250
def lw_Z (below : List Frame) (a : Array Value) (s : State) : State → Prop := fun t => ∃ o, t.status = .running ∧ Ended t below o ∧ lw_Q a s o t
/-- the law's own end, with 1 on the stack, nothing written that was there before, its room as the claim has it -/
theorem lw_ret {p : Program} {l : Launch} {e : Env} {s : State} {m : MethodId} {below : List Frame} {meth : Method} {c : Code} {b : Nat} (hx : p.tables.exec = Jvm.exec) (hb : c.code = code) (hr : meth.sig.returnType = ret) (hlocks : meth.locks = false) {pc : Nat} {H : Heap} {ls : Array Slot} (hdg : decode code pc = .ok (.ireturn, 1)) : W p l e room_1 s m #[Value.ref b] below meth c H [] 600000 7302250 (lw_Z below #[Value.ref b] s) (F0 m pc ls [.int 1]) := by
  intro T hT X
  obtain ⟨fs, hret, hrun, hended, hW, hframe⟩ := X.leave (v := some (.int 1)) (hlocks := hlocks) (fun h => by rw [hr] at h; cases h)
  have hmeth' : T.vm.method? m = some meth := X.method'
  refine ⟨T.setFrames fs, ?_, .returned (some (.int 1)), hrun, hended, rfl, ⟨_, rfl⟩, hW, hframe⟩
  jvm_step X.here [X.here.top, hx, hb, hdg, hmeth', hr, ret, narrow_b1]
  (try refine ⟨rfl, ?_⟩); (try refine ⟨rfl, ?_⟩)
  first | (intro acts; rw [hret _ acts rfl rfl rfl]) | rw [hret _ _ rfl rfl rfl]
  exact Steps.refl _
/-- what holds at the law's entry: the machine, the code, the tables' words (any of lw_tbl by 'hts w (by decide +kernel)'), the script of L ints xs at the cell b, what the Statement gives of the start (any of its parts by flat_of_before) -/
def lw_At (p : Program) (s : State) (m : MethodId) (meth : Method) (c : Code) (b L : Nat) (xs : Nat → Int32) : Prop :=
  p.tables.exec = Jvm.exec ∧ c.code = code ∧ meth.sig.returnType = ret ∧ c.maxLocals = 4 ∧ s.vm.findClass R_law = some m.cls ∧ (∀ w ∈ lw_tbl, w.before #[Value.ref b] s = true) ∧ va_X b L xs s s.heap ∧ b < s.heap.size ∧ meth.locks = false ∧ (Jvm.Cond.and given_1 narrow_1).before #[Value.ref b] s = true

theorem lg_self (r : Int64) : lg_cmp r r = 0 := by
  unfold lg_cmp
  rw [if_neg (show ¬ r > r from fun h => Int64.lt_irrefl h), if_pos rfl]
def AX (a : Nat → Nat) : Nat → Prop := fun q => ∃ k, k < 17 ∧ q = a k
def AM (b : Nat → Nat) : Nat → Prop := fun q => ∃ k, k < 9 ∧ q = b k
theorem keepP {D : va_G} {cl : List vw_C} {A B : Nat → Prop} {ws w2 : va_W} {H H1 : Heap} (h : va_P D cl ws H) (hD : va_D B w2) (hj : ∀ q, B q → ¬ A q) (hk : ∀ q : Nat, q < H.size → ¬ A q → H1[q]? = H[q]?) (e : w2.map (fun q => q.1) = ws.map (fun q => q.1) := by rfl) : va_P D cl ws H1 :=
  fun k q hq => (h k q hq).kept (hk q.1 (h k q hq).lt (hj q.1 ((hD.same e).2 k q hq)))
theorem nw_tbl : ∀ q ∈ nwt, nwc q ∈ lw_tbl := by decide +kernel
theorem wl_mem (a : Nat → Nat) (cA : ClassId) (X : WS) : ∀ q ∈ wl a cA X, AX a q.1 := List.forall_mem_cons.mpr ⟨⟨0, by omega, rfl⟩, List.forall_mem_cons.mpr ⟨⟨1, by omega, rfl⟩, List.forall_mem_cons.mpr ⟨⟨2, by omega, rfl⟩, List.forall_mem_cons.mpr ⟨⟨3, by omega, rfl⟩, List.forall_mem_cons.mpr ⟨⟨4, by omega, rfl⟩, List.forall_mem_cons.mpr ⟨⟨5, by omega, rfl⟩, List.forall_mem_cons.mpr ⟨⟨6, by omega, rfl⟩, List.forall_mem_cons.mpr ⟨⟨7, by omega, rfl⟩, List.forall_mem_cons.mpr ⟨⟨8, by omega, rfl⟩, List.forall_mem_cons.mpr ⟨⟨9, by omega, rfl⟩, List.forall_mem_cons.mpr ⟨⟨10, by omega, rfl⟩, List.forall_mem_cons.mpr ⟨⟨11, by omega, rfl⟩, List.forall_mem_cons.mpr ⟨⟨12, by omega, rfl⟩, List.forall_mem_cons.mpr ⟨⟨13, by omega, rfl⟩, List.forall_mem_cons.mpr ⟨⟨14, by omega, rfl⟩, List.forall_mem_cons.mpr ⟨⟨15, by omega, rfl⟩, List.forall_mem_cons.mpr ⟨⟨16, by omega, rfl⟩, fun _ h => absurd h List.not_mem_nil⟩⟩⟩⟩⟩⟩⟩⟩⟩⟩⟩⟩⟩⟩⟩⟩⟩
theorem wm_mem (a : Nat → Nat) (cA : ClassId) (X : MS) : ∀ q ∈ wm a cA X, AM a q.1 := List.forall_mem_cons.mpr ⟨⟨0, by omega, rfl⟩, List.forall_mem_cons.mpr ⟨⟨1, by omega, rfl⟩, List.forall_mem_cons.mpr ⟨⟨2, by omega, rfl⟩, List.forall_mem_cons.mpr ⟨⟨3, by omega, rfl⟩, List.forall_mem_cons.mpr ⟨⟨4, by omega, rfl⟩, List.forall_mem_cons.mpr ⟨⟨5, by omega, rfl⟩, List.forall_mem_cons.mpr ⟨⟨6, by omega, rfl⟩, List.forall_mem_cons.mpr ⟨⟨7, by omega, rfl⟩, List.forall_mem_cons.mpr ⟨⟨8, by omega, rfl⟩, fun _ h => absurd h List.not_mem_nil⟩⟩⟩⟩⟩⟩⟩⟩⟩
theorem wl_get (a : Nat → Nat) (cA : ClassId) (X : WS) : ∀ k, k < 17 → ∃ e, (wl a cA X)[k]? = some (a k, e) := by
  intro k hk
  rcases (show k = 0 ∨ k = 1 ∨ k = 2 ∨ k = 3 ∨ k = 4 ∨ k = 5 ∨ k = 6 ∨ k = 7 ∨ k = 8 ∨ k = 9 ∨ k = 10 ∨ k = 11 ∨ k = 12 ∨ k = 13 ∨ k = 14 ∨ k = 15 ∨ k = 16 by omega) with rfl | rfl | rfl | rfl | rfl | rfl | rfl | rfl | rfl | rfl | rfl | rfl | rfl | rfl | rfl | rfl | rfl <;> exact ⟨_, rfl⟩
theorem wm_get (a : Nat → Nat) (cA : ClassId) (X : MS) : ∀ k, k < 9 → ∃ e, (wm a cA X)[k]? = some (a k, e) := by
  intro k hk
  rcases (show k = 0 ∨ k = 1 ∨ k = 2 ∨ k = 3 ∨ k = 4 ∨ k = 5 ∨ k = 6 ∨ k = 7 ∨ k = 8 by omega) with rfl | rfl | rfl | rfl | rfl | rfl | rfl | rfl | rfl <;> exact ⟨_, rfl⟩
theorem D_app {A : Nat → Prop} {w1 w2 : va_W} (h : va_D A (w1 ++ w2)) : va_D A w1 ∧ va_D A w2 ∧ ∀ (i j : Nat) (p q : Nat × va_E), w1[i]? = some p → w2[j]? = some q → p.1 ≠ q.1 := by
  have l1 : ∀ (i : Nat) (p : Nat × va_E), w1[i]? = some p → (w1 ++ w2)[i]? = some p := fun i p hp => by
    rw [List.getElem?_append_left (List.getElem?_eq_some_iff.mp hp).1]; exact hp
  have l2 : ∀ (j : Nat) (q : Nat × va_E), w2[j]? = some q → (w1 ++ w2)[w1.length + j]? = some q := fun j q hq => by
    rw [List.getElem?_append_right (by omega), Nat.add_sub_cancel_left]; exact hq
  refine ⟨⟨fun i j p q hp hq e => h.1 i j p q (l1 i p hp) (l1 j q hq) e, fun k q hq => h.2 k q (l1 k q hq)⟩, ⟨fun i j p q hp hq e => ?_, fun k q hq => h.2 _ q (l2 k q hq)⟩, fun i j p q hp hq e => ?_⟩
  · have := h.1 _ _ p q (l2 i p hp) (l2 j q hq) e; omega
  · have h1 := h.1 _ _ p q (l1 i p hp) (l2 j q hq) e
    have h2 := (List.getElem?_eq_some_iff.mp hp).1
    omega
theorem wl_self {A : Nat → Prop} {a : Nat → Nat} {cA : ClassId} {X : WS} (h : va_D A (wl a cA X)) : va_D (AX a) (wl a cA X) := ⟨h.1, fun k q hq => wl_mem a cA X q (List.mem_of_getElem? hq)⟩
theorem wm_self {A : Nat → Prop} {a : Nat → Nat} {cA : ClassId} {X : MS} (h : va_D A (wm a cA X)) : va_D (AM a) (wm a cA X) := ⟨h.1, fun k q hq => wm_mem a cA X q (List.mem_of_getElem? hq)⟩
theorem Rel0 : Rel XZ YZ 0 := by
  refine ⟨⟨0, by omega, rfl, rfl, fun i hi => by omega⟩, ⟨0, 0, 0, ⟨by omega, rfl, fun j hj => by omega, rfl⟩, ⟨rfl, fun j hj => by omega, fun q hq => rfl⟩, TD_0 rfl rfl rfl rfl, lo_0 0, rfl, rfl, by omega, rfl, rfl, rfl, rfl⟩, ⟨rfl, rfl, 0, by omega, rfl⟩, 0, by omega, ⟨rfl, rfl, Or.inl ⟨rfl, rfl⟩⟩, Or.inr ⟨rfl, Or.inl rfl⟩⟩
