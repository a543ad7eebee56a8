section
-- ===== PART A: goes FIRST, ahead of the names: the tables' words, and 'selects' of the private methods out of them =====
/-- a private method of a class that the tables say can be made, by its rows of tables_1 -/
def lw_okq (q : MethodName × Nat) : Prop := (q.1.cls ≠ "java/lang/invoke/MethodHandle" ∧ q.1.cls ≠ "java/lang/invoke/VarHandle") ∧ Cond.instantiable q.1.cls q.2 ∈ tables_1 ∧ Cond.privateMethod q.1 ∈ tables_1 ∧ Cond.instanceMethod q.1 ∈ tables_1
theorem lw_p0 : lw_okq (⟨"PaidToWhisper", "isPlace", "(I)Z"⟩, 6) := ⟨⟨by decide +kernel, by decide +kernel⟩, List.mem_of_getElem? (i := 10) (by decide +kernel), List.mem_of_getElem? (i := 220) (by decide +kernel), List.mem_of_getElem? (i := 221) (by decide +kernel)⟩
theorem lw_p1 : lw_okq (⟨"PaidToWhisper", "hasTown", "()Z"⟩, 6) := ⟨⟨by decide +kernel, by decide +kernel⟩, List.mem_of_getElem? (i := 10) (by decide +kernel), List.mem_of_getElem? (i := 224) (by decide +kernel), List.mem_of_getElem? (i := 225) (by decide +kernel)⟩
theorem lw_p2 : lw_okq (⟨"PaidToWhisper", "isListener", "(I)Z"⟩, 6) := ⟨⟨by decide +kernel, by decide +kernel⟩, List.mem_of_getElem? (i := 10) (by decide +kernel), List.mem_of_getElem? (i := 253) (by decide +kernel), List.mem_of_getElem? (i := 254) (by decide +kernel)⟩
theorem lw_p3 : lw_okq (⟨"PaidToWhisper$Town", "hearing", "(II)I"⟩, 17) := ⟨⟨by decide +kernel, by decide +kernel⟩, List.mem_of_getElem? (i := 34) (by decide +kernel), List.mem_of_getElem? (i := 290) (by decide +kernel), List.mem_of_getElem? (i := 291) (by decide +kernel)⟩
theorem lw_p4 : lw_okq (⟨"PaidToWhisper$Town", "repeatedBy", "(I)I"⟩, 17) := ⟨⟨by decide +kernel, by decide +kernel⟩, List.mem_of_getElem? (i := 34) (by decide +kernel), List.mem_of_getElem? (i := 294) (by decide +kernel), List.mem_of_getElem? (i := 295) (by decide +kernel)⟩
theorem lw_p5 : lw_okq (⟨"PaidToWhisper$Inquiry", "tally", "(I)V"⟩, 8) := ⟨⟨by decide +kernel, by decide +kernel⟩, List.mem_of_getElem? (i := 107) (by decide +kernel), List.mem_of_getElem? (i := 405) (by decide +kernel), List.mem_of_getElem? (i := 406) (by decide +kernel)⟩
theorem lw_p6 : lw_okq (⟨"PaidToWhisper$Inquiry", "draw", "(I)I"⟩, 8) := ⟨⟨by decide +kernel, by decide +kernel⟩, List.mem_of_getElem? (i := 107) (by decide +kernel), List.mem_of_getElem? (i := 428) (by decide +kernel), List.mem_of_getElem? (i := 429) (by decide +kernel)⟩
theorem lw_p7 : lw_okq (⟨"PaidToWhisper", "foldListeners", "(J)J"⟩, 6) := ⟨⟨by decide +kernel, by decide +kernel⟩, List.mem_of_getElem? (i := 10) (by decide +kernel), List.mem_of_getElem? (i := 460) (by decide +kernel), List.mem_of_getElem? (i := 461) (by decide +kernel)⟩
theorem lw_p8 : lw_okq (⟨"PaidToWhisper", "foldPlaces", "(J)J"⟩, 6) := ⟨⟨by decide +kernel, by decide +kernel⟩, List.mem_of_getElem? (i := 10) (by decide +kernel), List.mem_of_getElem? (i := 469) (by decide +kernel), List.mem_of_getElem? (i := 470) (by decide +kernel)⟩
theorem lw_p9 : lw_okq (⟨"PaidToWhisper", "foldQuestions", "(J)J"⟩, 6) := ⟨⟨by decide +kernel, by decide +kernel⟩, List.mem_of_getElem? (i := 10) (by decide +kernel), List.mem_of_getElem? (i := 475) (by decide +kernel), List.mem_of_getElem? (i := 476) (by decide +kernel)⟩
theorem lw_p10 : lw_okq (⟨"PaidToWhisperModel", "faultOf", "()I"⟩, 29) := ⟨⟨by decide +kernel, by decide +kernel⟩, List.mem_of_getElem? (i := 483) (by decide +kernel), List.mem_of_getElem? (i := 593) (by decide +kernel), List.mem_of_getElem? (i := 594) (by decide +kernel)⟩
theorem lw_p11 : lw_okq (⟨"PaidToWhisperModel", "isPlace", "(I)Z"⟩, 29) := ⟨⟨by decide +kernel, by decide +kernel⟩, List.mem_of_getElem? (i := 483) (by decide +kernel), List.mem_of_getElem? (i := 610) (by decide +kernel), List.mem_of_getElem? (i := 611) (by decide +kernel)⟩
theorem lw_p12 : lw_okq (⟨"PaidToWhisperModel", "lacks", "()Z"⟩, 29) := ⟨⟨by decide +kernel, by decide +kernel⟩, List.mem_of_getElem? (i := 483) (by decide +kernel), List.mem_of_getElem? (i := 614) (by decide +kernel), List.mem_of_getElem? (i := 615) (by decide +kernel)⟩
theorem lw_p13 : lw_okq (⟨"PaidToWhisperModel", "isListener", "(I)Z"⟩, 29) := ⟨⟨by decide +kernel, by decide +kernel⟩, List.mem_of_getElem? (i := 483) (by decide +kernel), List.mem_of_getElem? (i := 631) (by decide +kernel), List.mem_of_getElem? (i := 632) (by decide +kernel)⟩
theorem lw_p14 : lw_okq (⟨"PaidToWhisperModel", "listenerOf", "(II)I"⟩, 29) := ⟨⟨by decide +kernel, by decide +kernel⟩, List.mem_of_getElem? (i := 483) (by decide +kernel), List.mem_of_getElem? (i := 635) (by decide +kernel), List.mem_of_getElem? (i := 636) (by decide +kernel)⟩
theorem lw_p15 : lw_okq (⟨"PaidToWhisperModel", "knowing", "(I)I"⟩, 29) := ⟨⟨by decide +kernel, by decide +kernel⟩, List.mem_of_getElem? (i := 483) (by decide +kernel), List.mem_of_getElem? (i := 639) (by decide +kernel), List.mem_of_getElem? (i := 640) (by decide +kernel)⟩
def lw_privs_1 : List (MethodName × Nat) := [(⟨"PaidToWhisper", "isPlace", "(I)Z"⟩, 6), (⟨"PaidToWhisper", "hasTown", "()Z"⟩, 6), (⟨"PaidToWhisper", "isListener", "(I)Z"⟩, 6), (⟨"PaidToWhisper$Town", "hearing", "(II)I"⟩, 17), (⟨"PaidToWhisper$Town", "repeatedBy", "(I)I"⟩, 17), (⟨"PaidToWhisper$Inquiry", "tally", "(I)V"⟩, 8), (⟨"PaidToWhisper$Inquiry", "draw", "(I)I"⟩, 8), (⟨"PaidToWhisper", "foldListeners", "(J)J"⟩, 6), (⟨"PaidToWhisper", "foldPlaces", "(J)J"⟩, 6), (⟨"PaidToWhisper", "foldQuestions", "(J)J"⟩, 6), (⟨"PaidToWhisperModel", "faultOf", "()I"⟩, 29), (⟨"PaidToWhisperModel", "isPlace", "(I)Z"⟩, 29), (⟨"PaidToWhisperModel", "lacks", "()Z"⟩, 29), (⟨"PaidToWhisperModel", "isListener", "(I)Z"⟩, 29), (⟨"PaidToWhisperModel", "listenerOf", "(II)I"⟩, 29), (⟨"PaidToWhisperModel", "knowing", "(I)I"⟩, 29)]
theorem lw_r1 : ∀ q ∈ lw_privs_1, lw_okq q := List.forall_mem_cons.mpr ⟨lw_p0, List.forall_mem_cons.mpr ⟨lw_p1, List.forall_mem_cons.mpr ⟨lw_p2, List.forall_mem_cons.mpr ⟨lw_p3, List.forall_mem_cons.mpr ⟨lw_p4, List.forall_mem_cons.mpr ⟨lw_p5, List.forall_mem_cons.mpr ⟨lw_p6, List.forall_mem_cons.mpr ⟨lw_p7, List.forall_mem_cons.mpr ⟨lw_p8, List.forall_mem_cons.mpr ⟨lw_p9, List.forall_mem_cons.mpr ⟨lw_p10, List.forall_mem_cons.mpr ⟨lw_p11, List.forall_mem_cons.mpr ⟨lw_p12, List.forall_mem_cons.mpr ⟨lw_p13, List.forall_mem_cons.mpr ⟨lw_p14, List.forall_mem_cons.mpr ⟨lw_p15, fun _ h => absurd h List.not_mem_nil⟩⟩⟩⟩⟩⟩⟩⟩⟩⟩⟩⟩⟩⟩⟩⟩
theorem lw_p16 : lw_okq (⟨"PaidToWhisperModel", "needsOf", "(I)I"⟩, 29) := ⟨⟨by decide +kernel, by decide +kernel⟩, List.mem_of_getElem? (i := 483) (by decide +kernel), List.mem_of_getElem? (i := 643) (by decide +kernel), List.mem_of_getElem? (i := 644) (by decide +kernel)⟩
theorem lw_p17 : lw_okq (⟨"PaidToWhisperModel", "criesOf", "(I)I"⟩, 29) := ⟨⟨by decide +kernel, by decide +kernel⟩, List.mem_of_getElem? (i := 483) (by decide +kernel), List.mem_of_getElem? (i := 647) (by decide +kernel), List.mem_of_getElem? (i := 648) (by decide +kernel)⟩
theorem lw_p18 : lw_okq (⟨"PaidToWhisperModel", "allListeners", "()I"⟩, 29) := ⟨⟨by decide +kernel, by decide +kernel⟩, List.mem_of_getElem? (i := 483) (by decide +kernel), List.mem_of_getElem? (i := 666) (by decide +kernel), List.mem_of_getElem? (i := 667) (by decide +kernel)⟩
theorem lw_p19 : lw_okq (⟨"PaidToWhisperModel", "heardBy", "(IIII)I"⟩, 29) := ⟨⟨by decide +kernel, by decide +kernel⟩, List.mem_of_getElem? (i := 483) (by decide +kernel), List.mem_of_getElem? (i := 670) (by decide +kernel), List.mem_of_getElem? (i := 671) (by decide +kernel)⟩
theorem lw_p20 : lw_okq (⟨"PaidToWhisperModel", "hearing", "(III)I"⟩, 29) := ⟨⟨by decide +kernel, by decide +kernel⟩, List.mem_of_getElem? (i := 483) (by decide +kernel), List.mem_of_getElem? (i := 674) (by decide +kernel), List.mem_of_getElem? (i := 675) (by decide +kernel)⟩
theorem lw_p21 : lw_okq (⟨"PaidToWhisperModel", "knowThen", "(III)I"⟩, 29) := ⟨⟨by decide +kernel, by decide +kernel⟩, List.mem_of_getElem? (i := 483) (by decide +kernel), List.mem_of_getElem? (i := 682) (by decide +kernel), List.mem_of_getElem? (i := 683) (by decide +kernel)⟩
theorem lw_p22 : lw_okq (⟨"PaidToWhisperModel", "leastOf", "(I)I"⟩, 29) := ⟨⟨by decide +kernel, by decide +kernel⟩, List.mem_of_getElem? (i := 483) (by decide +kernel), List.mem_of_getElem? (i := 702) (by decide +kernel), List.mem_of_getElem? (i := 703) (by decide +kernel)⟩
theorem lw_p23 : lw_okq (⟨"PaidToWhisperModel", "coverOf", "(II)I"⟩, 29) := ⟨⟨by decide +kernel, by decide +kernel⟩, List.mem_of_getElem? (i := 483) (by decide +kernel), List.mem_of_getElem? (i := 712) (by decide +kernel), List.mem_of_getElem? (i := 713) (by decide +kernel)⟩
theorem lw_p24 : lw_okq (⟨"PaidToWhisperModel", "isCovered", "(III)Z"⟩, 29) := ⟨⟨by decide +kernel, by decide +kernel⟩, List.mem_of_getElem? (i := 483) (by decide +kernel), List.mem_of_getElem? (i := 716) (by decide +kernel), List.mem_of_getElem? (i := 717) (by decide +kernel)⟩
theorem lw_p25 : lw_okq (⟨"PaidToWhisperModel", "tellHush", "(IIII)I"⟩, 29) := ⟨⟨by decide +kernel, by decide +kernel⟩, List.mem_of_getElem? (i := 483) (by decide +kernel), List.mem_of_getElem? (i := 724) (by decide +kernel), List.mem_of_getElem? (i := 725) (by decide +kernel)⟩
theorem lw_p26 : lw_okq (⟨"PaidToWhisperModel", "hushOf", "(III)I"⟩, 29) := ⟨⟨by decide +kernel, by decide +kernel⟩, List.mem_of_getElem? (i := 483) (by decide +kernel), List.mem_of_getElem? (i := 728) (by decide +kernel), List.mem_of_getElem? (i := 729) (by decide +kernel)⟩
theorem lw_p27 : lw_okq (⟨"PaidToWhisperModel", "whereOf", "(I)I"⟩, 29) := ⟨⟨by decide +kernel, by decide +kernel⟩, List.mem_of_getElem? (i := 483) (by decide +kernel), List.mem_of_getElem? (i := 744) (by decide +kernel), List.mem_of_getElem? (i := 745) (by decide +kernel)⟩
theorem lw_p28 : lw_okq (⟨"PaidToWhisperModel", "isTold", "(I)Z"⟩, 29) := ⟨⟨by decide +kernel, by decide +kernel⟩, List.mem_of_getElem? (i := 483) (by decide +kernel), List.mem_of_getElem? (i := 748) (by decide +kernel), List.mem_of_getElem? (i := 749) (by decide +kernel)⟩
theorem lw_p29 : lw_okq (⟨"PaidToWhisperModel", "askOf", "()I"⟩, 29) := ⟨⟨by decide +kernel, by decide +kernel⟩, List.mem_of_getElem? (i := 483) (by decide +kernel), List.mem_of_getElem? (i := 756) (by decide +kernel), List.mem_of_getElem? (i := 757) (by decide +kernel)⟩
theorem lw_p30 : lw_okq (⟨"PaidToWhisperModel", "draw", "(I)I"⟩, 29) := ⟨⟨by decide +kernel, by decide +kernel⟩, List.mem_of_getElem? (i := 483) (by decide +kernel), List.mem_of_getElem? (i := 766) (by decide +kernel), List.mem_of_getElem? (i := 767) (by decide +kernel)⟩
theorem lw_p31 : lw_okq (⟨"PaidToWhisperModel", "countOf", "(I)I"⟩, 29) := ⟨⟨by decide +kernel, by decide +kernel⟩, List.mem_of_getElem? (i := 483) (by decide +kernel), List.mem_of_getElem? (i := 789) (by decide +kernel), List.mem_of_getElem? (i := 790) (by decide +kernel)⟩
def lw_privs_2 : List (MethodName × Nat) := [(⟨"PaidToWhisperModel", "needsOf", "(I)I"⟩, 29), (⟨"PaidToWhisperModel", "criesOf", "(I)I"⟩, 29), (⟨"PaidToWhisperModel", "allListeners", "()I"⟩, 29), (⟨"PaidToWhisperModel", "heardBy", "(IIII)I"⟩, 29), (⟨"PaidToWhisperModel", "hearing", "(III)I"⟩, 29), (⟨"PaidToWhisperModel", "knowThen", "(III)I"⟩, 29), (⟨"PaidToWhisperModel", "leastOf", "(I)I"⟩, 29), (⟨"PaidToWhisperModel", "coverOf", "(II)I"⟩, 29), (⟨"PaidToWhisperModel", "isCovered", "(III)Z"⟩, 29), (⟨"PaidToWhisperModel", "tellHush", "(IIII)I"⟩, 29), (⟨"PaidToWhisperModel", "hushOf", "(III)I"⟩, 29), (⟨"PaidToWhisperModel", "whereOf", "(I)I"⟩, 29), (⟨"PaidToWhisperModel", "isTold", "(I)Z"⟩, 29), (⟨"PaidToWhisperModel", "askOf", "()I"⟩, 29), (⟨"PaidToWhisperModel", "draw", "(I)I"⟩, 29), (⟨"PaidToWhisperModel", "countOf", "(I)I"⟩, 29)]
theorem lw_r2 : ∀ q ∈ lw_privs_2, lw_okq q := List.forall_mem_cons.mpr ⟨lw_p16, List.forall_mem_cons.mpr ⟨lw_p17, List.forall_mem_cons.mpr ⟨lw_p18, List.forall_mem_cons.mpr ⟨lw_p19, List.forall_mem_cons.mpr ⟨lw_p20, List.forall_mem_cons.mpr ⟨lw_p21, List.forall_mem_cons.mpr ⟨lw_p22, List.forall_mem_cons.mpr ⟨lw_p23, List.forall_mem_cons.mpr ⟨lw_p24, List.forall_mem_cons.mpr ⟨lw_p25, List.forall_mem_cons.mpr ⟨lw_p26, List.forall_mem_cons.mpr ⟨lw_p27, List.forall_mem_cons.mpr ⟨lw_p28, List.forall_mem_cons.mpr ⟨lw_p29, List.forall_mem_cons.mpr ⟨lw_p30, List.forall_mem_cons.mpr ⟨lw_p31, fun _ h => absurd h List.not_mem_nil⟩⟩⟩⟩⟩⟩⟩⟩⟩⟩⟩⟩⟩⟩⟩⟩
theorem lw_p32 : lw_okq (⟨"PaidToWhisperModel", "say", "(J)V"⟩, 29) := ⟨⟨by decide +kernel, by decide +kernel⟩, List.mem_of_getElem? (i := 483) (by decide +kernel), List.mem_of_getElem? (i := 798) (by decide +kernel), List.mem_of_getElem? (i := 799) (by decide +kernel)⟩
theorem lw_p33 : lw_okq (⟨"PaidToWhisperModel", "sayTown", "()V"⟩, 29) := ⟨⟨by decide +kernel, by decide +kernel⟩, List.mem_of_getElem? (i := 483) (by decide +kernel), List.mem_of_getElem? (i := 803) (by decide +kernel), List.mem_of_getElem? (i := 804) (by decide +kernel)⟩
def lw_privs_3 : List (MethodName × Nat) := [(⟨"PaidToWhisperModel", "say", "(J)V"⟩, 29), (⟨"PaidToWhisperModel", "sayTown", "()V"⟩, 29)]
theorem lw_r3 : ∀ q ∈ lw_privs_3, lw_okq q := List.forall_mem_cons.mpr ⟨lw_p32, List.forall_mem_cons.mpr ⟨lw_p33, fun _ h => absurd h List.not_mem_nil⟩⟩
def lw_privs : List (MethodName × Nat) := lw_privs_1 ++ (lw_privs_2 ++ (lw_privs_3))
def lw_tbl : List Cond := k2_sels lw_privs ++ tables_1
theorem lw_privs_ok : ∀ q ∈ lw_privs, lw_okq q := by
  show ∀ q ∈ lw_privs_1 ++ (lw_privs_2 ++ (lw_privs_3)), lw_okq q
  exact List.forall_mem_append.mpr ⟨lw_r1, List.forall_mem_append.mpr ⟨lw_r2, lw_r3⟩⟩
end
section
def RX0 : String := "PaidToWhisper$Inquiry"
def TX0 : u_T := fun k => match k with
  | 0 => ("PaidToWhisper$Inquiry", "knowingAt", "[I", true)
  | 1 => ("PaidToWhisper$Inquiry", "quietest", "I", false)
  | 2 => ("PaidToWhisper$Inquiry", "fewest", "I", false)
  | 3 => ("PaidToWhisper$Inquiry", "found", "I", false)
  | 4 => ("PaidToWhisper$Inquiry", "first", "I", false)
  | 5 => ("PaidToWhisper$Inquiry", "together", "I", false)
  | 6 => ("PaidToWhisper$Inquiry", "last", "I", false)
  | _ => ("PaidToWhisper$Inquiry", "seed", "I", false)
def tyX0 : Nat → FieldType := fun k => match k with
  | 0 => .array .int
  | 1 => .int
  | 2 => .int
  | 3 => .int
  | 4 => .int
  | 5 => .int
  | 6 => .int
  | _ => .int
theorem nmX0 : ∀ a, a < 8 → ∀ b, b < 8 → a ≠ b → (TX0 a).2.1 ≠ (TX0 b).2.1 := by decide +kernel
theorem tyX0_ok : ∀ k, k < 8 → parseFieldDescriptor (TX0 k).2.2.1 = some (tyX0 k) := by decide +kernel
abbrev cX0_init : ByteArray := prog_2_method_1_code
def yX0_init : MethodName := ⟨RX0, "<init>", "()V"⟩
abbrev cX0_whisper : ByteArray := prog_2_method_2_code
def yX0_whisper : MethodName := ⟨RX0, "whisper", "(LPaidToWhisper$Town;)V"⟩
abbrev cX0_coverPlan : ByteArray := prog_2_method_3_code
def yX0_coverPlan : MethodName := ⟨RX0, "coverPlan", "(LPaidToWhisper$Town;I)I"⟩
abbrev cX0_planFrom : ByteArray := prog_2_method_4_code
def yX0_planFrom : MethodName := ⟨RX0, "planFrom", "(LPaidToWhisper$Town;IIII)I"⟩
abbrev cX0_partOfPlan : ByteArray := prog_2_method_5_code
def yX0_partOfPlan : MethodName := ⟨RX0, "partOfPlan", "(II)I"⟩
abbrev cX0_sentAway : ByteArray := prog_2_method_6_code
def yX0_sentAway : MethodName := ⟨RX0, "sentAway", "(LPaidToWhisper$Town;III)I"⟩
abbrev cX0_learns : ByteArray := prog_2_method_7_code
def yX0_learns : MethodName := ⟨RX0, "learns", "(LPaidToWhisper$Town;IIII)Z"⟩
abbrev cX0_seek : ByteArray := prog_2_method_8_code
def yX0_seek : MethodName := ⟨RX0, "seek", "(LPaidToWhisper$Town;)V"⟩
abbrev cX0_tally : ByteArray := prog_2_method_9_code
def yX0_tally : MethodName := ⟨RX0, "tally", "(I)V"⟩
abbrev cX0_bestAsked : ByteArray := prog_2_method_10_code
def yX0_bestAsked : MethodName := ⟨RX0, "bestAsked", "(I)I"⟩
abbrev cX0_live : ByteArray := prog_2_method_11_code
def yX0_live : MethodName := ⟨RX0, "live", "(LPaidToWhisper$Town;II)V"⟩
abbrev cX0_draw : ByteArray := prog_2_method_12_code
def yX0_draw : MethodName := ⟨RX0, "draw", "(I)I"⟩
def RX1 : String := "PaidToWhisper$Page"
def TX1 : u_T := fun k => match k with
  | 0 => ("PaidToWhisper$Page", "letters", "[I", true)
  | _ => ("PaidToWhisper$Page", "length", "I", false)
def tyX1 : Nat → FieldType := fun k => match k with
  | 0 => .array .int
  | _ => .int
theorem nmX1 : ∀ a, a < 2 → ∀ b, b < 2 → a ≠ b → (TX1 a).2.1 ≠ (TX1 b).2.1 := by decide +kernel
theorem tyX1_ok : ∀ k, k < 2 → parseFieldDescriptor (TX1 k).2.2.1 = some (tyX1 k) := by decide +kernel
abbrev cX1_init : ByteArray := prog_3_method_1_code
def yX1_init : MethodName := ⟨RX1, "<init>", "()V"⟩
abbrev cX1_add : ByteArray := prog_3_method_2_code
def yX1_add : MethodName := ⟨RX1, "add", "(I)I"⟩
abbrev cX1_clear : ByteArray := prog_3_method_3_code
def yX1_clear : MethodName := ⟨RX1, "clear", "()I"⟩
abbrev cX1_firstWrong : ByteArray := prog_3_method_4_code
def yX1_firstWrong : MethodName := ⟨RX1, "firstWrong", "()I"⟩
abbrev cX1_isTown : ByteArray := prog_3_method_5_code
def yX1_isTown : MethodName := ⟨RX1, "isTown", "()Z"⟩
abbrev cX1_digit : ByteArray := prog_3_method_6_code
def yX1_digit : MethodName := ⟨RX1, "digit", "(I)I"⟩
abbrev cX1_fits : ByteArray := prog_3_method_7_code
def yX1_fits : MethodName := ⟨RX1, "fits", "(II)Z"⟩
def RX2 : String := "PaidToWhisper$Town"
def TX2 : u_T := fun k => match k with
  | 0 => ("PaidToWhisper$Town", "noise", "[I", true)
  | 1 => ("PaidToWhisper$Town", "kinds", "[I", true)
  | 2 => ("PaidToWhisper$Town", "needs", "[I", true)
  | 3 => ("PaidToWhisper$Town", "repeats", "[I", true)
  | 4 => ("PaidToWhisper$Town", "places", "[I", true)
  | 5 => ("PaidToWhisper$Town", "listeners", "I", false)
  | 6 => ("PaidToWhisper$Town", "geese", "I", false)
  | 7 => ("PaidToWhisper$Town", "heard", "I", false)
  | 8 => ("PaidToWhisper$Town", "firstVoice", "I", false)
  | 9 => ("PaidToWhisper$Town", "voice", "I", false)
  | 10 => ("PaidToWhisper$Town", "law", "I", false)
  | 11 => ("PaidToWhisper$Town", "cries", "I", false)
  | 12 => ("PaidToWhisper$Town", "decrees", "I", false)
  | 13 => ("PaidToWhisper$Town", "days", "I", false)
  | 14 => ("PaidToWhisper$Town", "told", "I", false)
  | 15 => ("PaidToWhisper$Town", "toldKnowing", "I", false)
  | _ => ("PaidToWhisper$Town", "toldIgnorant", "I", false)
def tyX2 : Nat → FieldType := fun k => match k with
  | 0 => .array .int
  | 1 => .array .int
  | 2 => .array .int
  | 3 => .array .int
  | 4 => .array .int
  | 5 => .int
  | 6 => .int
  | 7 => .int
  | 8 => .int
  | 9 => .int
  | 10 => .int
  | 11 => .int
  | 12 => .int
  | 13 => .int
  | 14 => .int
  | 15 => .int
  | _ => .int
theorem nmX2 : ∀ a, a < 17 → ∀ b, b < 17 → a ≠ b → (TX2 a).2.1 ≠ (TX2 b).2.1 := by decide +kernel
theorem tyX2_ok : ∀ k, k < 17 → parseFieldDescriptor (TX2 k).2.2.1 = some (tyX2 k) := by decide +kernel
abbrev cX2_init : ByteArray := prog_4_method_1_code
def yX2_init : MethodName := ⟨RX2, "<init>", "()V"⟩
abbrev cX2_begin : ByteArray := prog_4_method_2_code
def yX2_begin : MethodName := ⟨RX2, "begin", "(LPaidToWhisper$Page;)V"⟩
abbrev cX2_copy : ByteArray := prog_4_method_3_code
def yX2_copy : MethodName := ⟨RX2, "copy", "(LPaidToWhisper$Town;)V"⟩
abbrev cX2_noiseInAll : ByteArray := prog_4_method_4_code
def yX2_noiseInAll : MethodName := ⟨RX2, "noiseInAll", "()I"⟩
abbrev cX2_settle : ByteArray := prog_4_method_5_code
def yX2_settle : MethodName := ⟨RX2, "settle", "(II)I"⟩
abbrev cX2_everyone : ByteArray := prog_4_method_6_code
def yX2_everyone : MethodName := ⟨RX2, "everyone", "()I"⟩
abbrev cX2_proclaim : ByteArray := prog_4_method_7_code
def yX2_proclaim : MethodName := ⟨RX2, "proclaim", "(II)I"⟩
abbrev cX2_sweeten : ByteArray := prog_4_method_8_code
def yX2_sweeten : MethodName := ⟨RX2, "sweeten", "()I"⟩
abbrev cX2_sleep : ByteArray := prog_4_method_9_code
def yX2_sleep : MethodName := ⟨RX2, "sleep", "()I"⟩
abbrev cX2_renew : ByteArray := prog_4_method_10_code
def yX2_renew : MethodName := ⟨RX2, "renew", "()I"⟩
abbrev cX2_note : ByteArray := prog_4_method_11_code
def yX2_note : MethodName := ⟨RX2, "note", "(IZ)I"⟩
abbrev cX2_dropTold : ByteArray := prog_4_method_12_code
def yX2_dropTold : MethodName := ⟨RX2, "dropTold", "()I"⟩
abbrev cX2_isAsTold : ByteArray := prog_4_method_13_code
def yX2_isAsTold : MethodName := ⟨RX2, "isAsTold", "(I)Z"⟩
abbrev cX2_knowing : ByteArray := prog_4_method_14_code
def yX2_knowing : MethodName := ⟨RX2, "knowing", "(I)I"⟩
abbrev cX2_spread : ByteArray := prog_4_method_15_code
def yX2_spread : MethodName := ⟨RX2, "spread", "(IIII)I"⟩
abbrev cX2_repeatedBy : ByteArray := prog_4_method_16_code
def yX2_repeatedBy : MethodName := ⟨RX2, "repeatedBy", "(I)I"⟩
abbrev cX2_hearing : ByteArray := prog_4_method_17_code
def yX2_hearing : MethodName := ⟨RX2, "hearing", "(II)I"⟩
abbrev cX2_loudNeeded : ByteArray := prog_4_method_18_code
def yX2_loudNeeded : MethodName := ⟨RX2, "loudNeeded", "(I)I"⟩
abbrev cX2_loudRepeated : ByteArray := prog_4_method_19_code
def yX2_loudRepeated : MethodName := ⟨RX2, "loudRepeated", "(I)I"⟩
def RX3 : String := "PaidToWhisper"
def TX3 : u_T := fun k => match k with
  | 0 => ("PaidToWhisper", "page", "LPaidToWhisper$Page;", true)
  | 1 => ("PaidToWhisper", "here", "LPaidToWhisper$Town;", true)
  | 2 => ("PaidToWhisper", "kept", "LPaidToWhisper$Town;", true)
  | 3 => ("PaidToWhisper", "inquiry", "LPaidToWhisper$Inquiry;", true)
  | 4 => ("PaidToWhisper", "imageKept", "Z", false)
  | _ => ("PaidToWhisper", "townsRead", "I", false)
def tyX3 : Nat → FieldType := fun k => match k with
  | 0 => .object "PaidToWhisper$Page"
  | 1 => .object "PaidToWhisper$Town"
  | 2 => .object "PaidToWhisper$Town"
  | 3 => .object "PaidToWhisper$Inquiry"
  | 4 => .boolean
  | _ => .int
theorem nmX3 : ∀ a, a < 6 → ∀ b, b < 6 → a ≠ b → (TX3 a).2.1 ≠ (TX3 b).2.1 := by decide +kernel
theorem tyX3_ok : ∀ k, k < 6 → parseFieldDescriptor (TX3 k).2.2.1 = some (tyX3 k) := by decide +kernel
abbrev cX3_init : ByteArray := prog_1_method_1_code
def yX3_init : MethodName := ⟨RX3, "<init>", "()V"⟩
abbrev cX3_letter : ByteArray := prog_1_method_2_code
def yX3_letter : MethodName := ⟨RX3, "letter", "(I)I"⟩
abbrev cX3_blank : ByteArray := prog_1_method_3_code
def yX3_blank : MethodName := ⟨RX3, "blank", "()I"⟩
abbrev cX3_fault : ByteArray := prog_1_method_4_code
def yX3_fault : MethodName := ⟨RX3, "fault", "()I"⟩
abbrev cX3_town : ByteArray := prog_1_method_5_code
def yX3_town : MethodName := ⟨RX3, "town", "()I"⟩
abbrev cX3_noise : ByteArray := prog_1_method_6_code
def yX3_noise : MethodName := ⟨RX3, "noise", "(I)I"⟩
abbrev cX3_hum : ByteArray := prog_1_method_7_code
def yX3_hum : MethodName := ⟨RX3, "hum", "(II)I"⟩
abbrev cX3_listener : ByteArray := prog_1_method_8_code
def yX3_listener : MethodName := ⟨RX3, "listener", "(II)I"⟩
abbrev cX3_about : ByteArray := prog_1_method_9_code
def yX3_about : MethodName := ⟨RX3, "about", "(II)I"⟩
abbrev cX3_as : ByteArray := prog_1_method_10_code
def yX3_as : MethodName := ⟨RX3, "as", "(II)I"⟩
abbrev cX3_move : ByteArray := prog_1_method_11_code
def yX3_move : MethodName := ⟨RX3, "move", "(II)I"⟩
abbrev cX3_cry : ByteArray := prog_1_method_12_code
def yX3_cry : MethodName := ⟨RX3, "cry", "(II)I"⟩
abbrev cX3_would : ByteArray := prog_1_method_13_code
def yX3_would : MethodName := ⟨RX3, "would", "(II)I"⟩
abbrev cX3_honey : ByteArray := prog_1_method_14_code
def yX3_honey : MethodName := ⟨RX3, "honey", "()I"⟩
abbrev cX3_day : ByteArray := prog_1_method_15_code
def yX3_day : MethodName := ⟨RX3, "day", "()I"⟩
abbrev cX3_decree : ByteArray := prog_1_method_16_code
def yX3_decree : MethodName := ⟨RX3, "decree", "()I"⟩
abbrev cX3_least : ByteArray := prog_1_method_17_code
def yX3_least : MethodName := ⟨RX3, "least", "(I)I"⟩
abbrev cX3_cover : ByteArray := prog_1_method_18_code
def yX3_cover : MethodName := ⟨RX3, "cover", "(II)I"⟩
abbrev cX3_hush : ByteArray := prog_1_method_19_code
def yX3_hush : MethodName := ⟨RX3, "hush", "(IIII)I"⟩
abbrev cX3_tell : ByteArray := prog_1_method_20_code
def yX3_tell : MethodName := ⟨RX3, "tell", "(IZ)I"⟩
abbrev cX3_forget : ByteArray := prog_1_method_21_code
def yX3_forget : MethodName := ⟨RX3, "forget", "()I"⟩
abbrev cX3_where : ByteArray := prog_1_method_22_code
def yX3_where : MethodName := ⟨RX3, "where", "(I)I"⟩
abbrev cX3_ask : ByteArray := prog_1_method_23_code
def yX3_ask : MethodName := ⟨RX3, "ask", "()I"⟩
abbrev cX3_days : ByteArray := prog_1_method_24_code
def yX3_days : MethodName := ⟨RX3, "days", "(III)I"⟩
abbrev cX3_image : ByteArray := prog_1_method_25_code
def yX3_image : MethodName := ⟨RX3, "image", "()I"⟩
abbrev cX3_restore : ByteArray := prog_1_method_26_code
def yX3_restore : MethodName := ⟨RX3, "restore", "()I"⟩
abbrev cX3_count : ByteArray := prog_1_method_27_code
def yX3_count : MethodName := ⟨RX3, "count", "(I)I"⟩
abbrev cX3_digest : ByteArray := prog_1_method_28_code
def yX3_digest : MethodName := ⟨RX3, "digest", "()J"⟩
abbrev cX3_foldListeners : ByteArray := prog_1_method_29_code
def yX3_foldListeners : MethodName := ⟨RX3, "foldListeners", "(J)J"⟩
abbrev cX3_foldPlaces : ByteArray := prog_1_method_30_code
def yX3_foldPlaces : MethodName := ⟨RX3, "foldPlaces", "(J)J"⟩
abbrev cX3_foldQuestions : ByteArray := prog_1_method_31_code
def yX3_foldQuestions : MethodName := ⟨RX3, "foldQuestions", "(J)J"⟩
abbrev cX3_fold : ByteArray := prog_1_method_32_code
def yX3_fold : MethodName := ⟨RX3, "fold", "(JJ)J"⟩
abbrev cX3_hasTown : ByteArray := prog_1_method_33_code
def yX3_hasTown : MethodName := ⟨RX3, "hasTown", "()Z"⟩
abbrev cX3_isPlace : ByteArray := prog_1_method_34_code
def yX3_isPlace : MethodName := ⟨RX3, "isPlace", "(I)Z"⟩
abbrev cX3_isListener : ByteArray := prog_1_method_35_code
def yX3_isListener : MethodName := ⟨RX3, "isListener", "(I)Z"⟩
abbrev cX3_isKind : ByteArray := prog_1_method_36_code
def yX3_isKind : MethodName := ⟨RX3, "isKind", "(I)Z"⟩
abbrev cX3_isLoud : ByteArray := prog_1_method_37_code
def yX3_isLoud : MethodName := ⟨RX3, "isLoud", "(I)Z"⟩
abbrev cX3_isOfKind : ByteArray := prog_1_method_38_code
def yX3_isOfKind : MethodName := ⟨RX3, "isOfKind", "(II)Z"⟩
abbrev cX3_bit : ByteArray := prog_1_method_39_code
def yX3_bit : MethodName := ⟨RX3, "bit", "(II)I"⟩
abbrev cX3_howMany : ByteArray := prog_1_method_40_code
def yX3_howMany : MethodName := ⟨RX3, "howMany", "(I)I"⟩
def RX4 : String := "PaidToWhisperModel"
def TX4 : u_T := fun k => match k with
  | 0 => ("PaidToWhisperModel", "page", "[I", true)
  | 1 => ("PaidToWhisperModel", "pageMany", "I", false)
  | 2 => ("PaidToWhisperModel", "voiceFirst", "I", false)
  | 3 => ("PaidToWhisperModel", "voice", "I", false)
  | 4 => ("PaidToWhisperModel", "lawMany", "I", false)
  | 5 => ("PaidToWhisperModel", "cries", "I", false)
  | 6 => ("PaidToWhisperModel", "heardBits", "I", false)
  | 7 => ("PaidToWhisperModel", "decrees", "I", false)
  | 8 => ("PaidToWhisperModel", "daysNow", "I", false)
  | 9 => ("PaidToWhisperModel", "townsRead", "I", false)
  | 10 => ("PaidToWhisperModel", "noises", "[I", true)
  | 11 => ("PaidToWhisperModel", "listeners", "I", false)
  | 12 => ("PaidToWhisperModel", "rows", "[I", true)
  | 13 => ("PaidToWhisperModel", "row", "[I", true)
  | 14 => ("PaidToWhisperModel", "toldMany", "I", false)
  | 15 => ("PaidToWhisperModel", "told", "[I", true)
  | 16 => ("PaidToWhisperModel", "seedNow", "I", false)
  | 17 => ("PaidToWhisperModel", "keptTown", "I", false)
  | 18 => ("PaidToWhisperModel", "keptListeners", "I", false)
  | 19 => ("PaidToWhisperModel", "keptVoice", "I", false)
  | 20 => ("PaidToWhisperModel", "keptCries", "I", false)
  | 21 => ("PaidToWhisperModel", "keptHeard", "I", false)
  | 22 => ("PaidToWhisperModel", "keptDecrees", "I", false)
  | 23 => ("PaidToWhisperModel", "keptDays", "I", false)
  | 24 => ("PaidToWhisperModel", "keptTold", "I", false)
  | 25 => ("PaidToWhisperModel", "keptRows", "[I", true)
  | 26 => ("PaidToWhisperModel", "keptTolds", "[I", true)
  | 27 => ("PaidToWhisperModel", "keptNoises", "[I", true)
  | _ => ("PaidToWhisperModel", "hash", "J", false)
def tyX4 : Nat → FieldType := fun k => match k with
  | 0 => .array .int
  | 1 => .int
  | 2 => .int
  | 3 => .int
  | 4 => .int
  | 5 => .int
  | 6 => .int
  | 7 => .int
  | 8 => .int
  | 9 => .int
  | 10 => .array .int
  | 11 => .int
  | 12 => .array .int
  | 13 => .array .int
  | 14 => .int
  | 15 => .array .int
  | 16 => .int
  | 17 => .int
  | 18 => .int
  | 19 => .int
  | 20 => .int
  | 21 => .int
  | 22 => .int
  | 23 => .int
  | 24 => .int
  | 25 => .array .int
  | 26 => .array .int
  | 27 => .array .int
  | _ => .long
theorem nmX4 : ∀ a, a < 29 → ∀ b, b < 29 → a ≠ b → (TX4 a).2.1 ≠ (TX4 b).2.1 := by decide +kernel
theorem tyX4_ok : ∀ k, k < 29 → parseFieldDescriptor (TX4 k).2.2.1 = some (tyX4 k) := by decide +kernel
abbrev cX4_init : ByteArray := prog_6_method_1_code
def yX4_init : MethodName := ⟨RX4, "<init>", "()V"⟩
abbrev cX4_in : ByteArray := prog_6_method_2_code
def yX4_in : MethodName := ⟨RX4, "in", "(JJJ)Z"⟩
abbrev cX4_copy : ByteArray := prog_6_method_3_code
def yX4_copy : MethodName := ⟨RX4, "copy", "([I[I)V"⟩
abbrev cX4_ones : ByteArray := prog_6_method_4_code
def yX4_ones : MethodName := ⟨RX4, "ones", "(I)I"⟩
abbrev cX4_letter : ByteArray := prog_6_method_5_code
def yX4_letter : MethodName := ⟨RX4, "letter", "(I)I"⟩
abbrev cX4_blank : ByteArray := prog_6_method_6_code
def yX4_blank : MethodName := ⟨RX4, "blank", "()I"⟩
abbrev cX4_isGood : ByteArray := prog_6_method_7_code
def yX4_isGood : MethodName := ⟨RX4, "isGood", "(II)Z"⟩
abbrev cX4_faultOf : ByteArray := prog_6_method_8_code
def yX4_faultOf : MethodName := ⟨RX4, "faultOf", "()I"⟩
abbrev cX4_fault : ByteArray := prog_6_method_9_code
def yX4_fault : MethodName := ⟨RX4, "fault", "()I"⟩
abbrev cX4_town : ByteArray := prog_6_method_10_code
def yX4_town : MethodName := ⟨RX4, "town", "()I"⟩
abbrev cX4_lacks : ByteArray := prog_6_method_11_code
def yX4_lacks : MethodName := ⟨RX4, "lacks", "()Z"⟩
abbrev cX4_isPlace : ByteArray := prog_6_method_12_code
def yX4_isPlace : MethodName := ⟨RX4, "isPlace", "(I)Z"⟩
abbrev cX4_noise : ByteArray := prog_6_method_13_code
def yX4_noise : MethodName := ⟨RX4, "noise", "(I)I"⟩
abbrev cX4_hum : ByteArray := prog_6_method_14_code
def yX4_hum : MethodName := ⟨RX4, "hum", "(II)I"⟩
abbrev cX4_isListener : ByteArray := prog_6_method_15_code
def yX4_isListener : MethodName := ⟨RX4, "isListener", "(I)Z"⟩
abbrev cX4_allListeners : ByteArray := prog_6_method_16_code
def yX4_allListeners : MethodName := ⟨RX4, "allListeners", "()I"⟩
abbrev cX4_listener : ByteArray := prog_6_method_17_code
def yX4_listener : MethodName := ⟨RX4, "listener", "(II)I"⟩
abbrev cX4_needsOf : ByteArray := prog_6_method_18_code
def yX4_needsOf : MethodName := ⟨RX4, "needsOf", "(I)I"⟩
abbrev cX4_criesOf : ByteArray := prog_6_method_19_code
def yX4_criesOf : MethodName := ⟨RX4, "criesOf", "(I)I"⟩
abbrev cX4_hearing : ByteArray := prog_6_method_20_code
def yX4_hearing : MethodName := ⟨RX4, "hearing", "(III)I"⟩
abbrev cX4_heardBy : ByteArray := prog_6_method_21_code
def yX4_heardBy : MethodName := ⟨RX4, "heardBy", "(IIII)I"⟩
abbrev cX4_knowing : ByteArray := prog_6_method_22_code
def yX4_knowing : MethodName := ⟨RX4, "knowing", "(I)I"⟩
abbrev cX4_listenerOf : ByteArray := prog_6_method_23_code
def yX4_listenerOf : MethodName := ⟨RX4, "listenerOf", "(II)I"⟩
abbrev cX4_about : ByteArray := prog_6_method_24_code
def yX4_about : MethodName := ⟨RX4, "about", "(II)I"⟩
abbrev cX4_as : ByteArray := prog_6_method_25_code
def yX4_as : MethodName := ⟨RX4, "as", "(II)I"⟩
abbrev cX4_move : ByteArray := prog_6_method_26_code
def yX4_move : MethodName := ⟨RX4, "move", "(II)I"⟩
abbrev cX4_knowThen : ByteArray := prog_6_method_27_code
def yX4_knowThen : MethodName := ⟨RX4, "knowThen", "(III)I"⟩
abbrev cX4_cry : ByteArray := prog_6_method_28_code
def yX4_cry : MethodName := ⟨RX4, "cry", "(II)I"⟩
abbrev cX4_would : ByteArray := prog_6_method_29_code
def yX4_would : MethodName := ⟨RX4, "would", "(II)I"⟩
abbrev cX4_honey : ByteArray := prog_6_method_30_code
def yX4_honey : MethodName := ⟨RX4, "honey", "()I"⟩
abbrev cX4_day : ByteArray := prog_6_method_31_code
def yX4_day : MethodName := ⟨RX4, "day", "()I"⟩
abbrev cX4_decree : ByteArray := prog_6_method_32_code
def yX4_decree : MethodName := ⟨RX4, "decree", "()I"⟩
abbrev cX4_leastOf : ByteArray := prog_6_method_33_code
def yX4_leastOf : MethodName := ⟨RX4, "leastOf", "(I)I"⟩
abbrev cX4_least : ByteArray := prog_6_method_34_code
def yX4_least : MethodName := ⟨RX4, "least", "(I)I"⟩
abbrev cX4_isCovered : ByteArray := prog_6_method_35_code
def yX4_isCovered : MethodName := ⟨RX4, "isCovered", "(III)Z"⟩
abbrev cX4_coverOf : ByteArray := prog_6_method_36_code
def yX4_coverOf : MethodName := ⟨RX4, "coverOf", "(II)I"⟩
abbrev cX4_cover : ByteArray := prog_6_method_37_code
def yX4_cover : MethodName := ⟨RX4, "cover", "(II)I"⟩
abbrev cX4_hushOf : ByteArray := prog_6_method_38_code
def yX4_hushOf : MethodName := ⟨RX4, "hushOf", "(III)I"⟩
abbrev cX4_tellHush : ByteArray := prog_6_method_39_code
def yX4_tellHush : MethodName := ⟨RX4, "tellHush", "(IIII)I"⟩
abbrev cX4_hush : ByteArray := prog_6_method_40_code
def yX4_hush : MethodName := ⟨RX4, "hush", "(IIII)I"⟩
abbrev cX4_tell : ByteArray := prog_6_method_41_code
def yX4_tell : MethodName := ⟨RX4, "tell", "(IZ)I"⟩
abbrev cX4_forget : ByteArray := prog_6_method_42_code
def yX4_forget : MethodName := ⟨RX4, "forget", "()I"⟩
abbrev cX4_isTold : ByteArray := prog_6_method_43_code
def yX4_isTold : MethodName := ⟨RX4, "isTold", "(I)Z"⟩
abbrev cX4_whereOf : ByteArray := prog_6_method_44_code
def yX4_whereOf : MethodName := ⟨RX4, "whereOf", "(I)I"⟩
abbrev cX4_where : ByteArray := prog_6_method_45_code
def yX4_where : MethodName := ⟨RX4, "where", "(I)I"⟩
abbrev cX4_askOf : ByteArray := prog_6_method_46_code
def yX4_askOf : MethodName := ⟨RX4, "askOf", "()I"⟩
abbrev cX4_ask : ByteArray := prog_6_method_47_code
def yX4_ask : MethodName := ⟨RX4, "ask", "()I"⟩
abbrev cX4_draw : ByteArray := prog_6_method_48_code
def yX4_draw : MethodName := ⟨RX4, "draw", "(I)I"⟩
abbrev cX4_days : ByteArray := prog_6_method_49_code
def yX4_days : MethodName := ⟨RX4, "days", "(III)I"⟩
abbrev cX4_image : ByteArray := prog_6_method_50_code
def yX4_image : MethodName := ⟨RX4, "image", "()I"⟩
abbrev cX4_restore : ByteArray := prog_6_method_51_code
def yX4_restore : MethodName := ⟨RX4, "restore", "()I"⟩
abbrev cX4_countOf : ByteArray := prog_6_method_52_code
def yX4_countOf : MethodName := ⟨RX4, "countOf", "(I)I"⟩
abbrev cX4_count : ByteArray := prog_6_method_53_code
def yX4_count : MethodName := ⟨RX4, "count", "(I)I"⟩
abbrev cX4_say : ByteArray := prog_6_method_54_code
def yX4_say : MethodName := ⟨RX4, "say", "(J)V"⟩
abbrev cX4_sayTown : ByteArray := prog_6_method_55_code
def yX4_sayTown : MethodName := ⟨RX4, "sayTown", "()V"⟩
abbrev cX4_digest : ByteArray := prog_6_method_56_code
def yX4_digest : MethodName := ⟨RX4, "digest", "()J"⟩
def RJ6 : String := "java/lang/Integer"
def TJ6 : u_T := fun k => match k with
  | _ => ("", "", "", false)
def tyJ6 : Nat → FieldType := fun k => match k with
  | _ => .int
theorem nmJ6 : ∀ a, a < 0 → ∀ b, b < 0 → a ≠ b → (TJ6 a).2.1 ≠ (TJ6 b).2.1 := by decide +kernel
theorem tyJ6_ok : ∀ k, k < 0 → parseFieldDescriptor (TJ6 k).2.2.1 = some (tyJ6 k) := by decide +kernel
abbrev cJ6_bitCount_0f7a4 : ByteArray := prog_7_method_49_code
def yJ6_bitCount_0f7a4 : MethodName := ⟨RJ6, "bitCount", "(I)I"⟩
def RJ9 : String := "java/lang/Math"
def TJ9 : u_T := fun k => match k with
  | _ => ("", "", "", false)
def tyJ9 : Nat → FieldType := fun k => match k with
  | _ => .int
theorem nmJ9 : ∀ a, a < 0 → ∀ b, b < 0 → a ≠ b → (TJ9 a).2.1 ≠ (TJ9 b).2.1 := by decide +kernel
theorem tyJ9_ok : ∀ k, k < 0 → parseFieldDescriptor (TJ9 k).2.2.1 = some (tyJ9 k) := by decide +kernel
abbrev cJ9_max_7cf53 : ByteArray := prog_8_method_65_code
def yJ9_max_7cf53 : MethodName := ⟨RJ9, "max", "(II)I"⟩
abbrev cJ9_min_7cf53 : ByteArray := prog_8_method_69_code
def yJ9_min_7cf53 : MethodName := ⟨RJ9, "min", "(II)I"⟩
def RJ10 : String := "java/lang/System"
def TJ10 : u_T := fun k => match k with
  | _ => ("", "", "", false)
def tyJ10 : Nat → FieldType := fun k => match k with
  | _ => .int
theorem nmJ10 : ∀ a, a < 0 → ∀ b, b < 0 → a ≠ b → (TJ10 a).2.1 ≠ (TJ10 b).2.1 := by decide +kernel
theorem tyJ10_ok : ∀ k, k < 0 → parseFieldDescriptor (TJ10 k).2.2.1 = some (tyJ10 k) := by decide +kernel
def RL : String := "PaidToWhisperLaw"
abbrev cL_law : ByteArray := code
def yL_law : MethodName := ⟨RL, "law", "([I)Z"⟩
def lw_g : List Cond := lw_tbl.filter goodWord
theorem gw_all : lw_g.all goodWord = true := List.all_eq_true.mpr (fun w h => (List.mem_filter.mp h).2)
theorem gw_mem {w : Cond} {i : Nat} (h : lw_tbl[i]? = some w) (h2 : goodWord w = true) : w ∈ lw_g := List.mem_filter.mpr ⟨List.mem_of_getElem? h, h2⟩
theorem gw_in {y : MethodName} {bs : ByteArray} {k : Nat} {r : Option FieldType} (h : Cond.code y bs k r ∈ lw_g) : GoodIn lw_g (Cond.code y bs k r :: lw_g) := fun w hw => (List.mem_cons.mp hw).elim (fun e => by subst e; exact ⟨h, good_of_word (List.all_eq_true.mp gw_all _ h)⟩) (fun h2 => ⟨h2, good_of_word (List.all_eq_true.mp gw_all _ h2)⟩)
theorem iX0 : ∀ w ∈ u_ws RX0 TX0 8, w ∈ lw_g := fun w hw => List.mem_filter.mpr ⟨(show ∀ w ∈ u_ws RX0 TX0 8, w ∈ lw_tbl by decide +kernel) w hw, (show ∀ w ∈ u_ws RX0 TX0 8, goodWord w = true by decide +kernel) w hw⟩
theorem iX1 : ∀ w ∈ u_ws RX1 TX1 2, w ∈ lw_g := fun w hw => List.mem_filter.mpr ⟨(show ∀ w ∈ u_ws RX1 TX1 2, w ∈ lw_tbl by decide +kernel) w hw, (show ∀ w ∈ u_ws RX1 TX1 2, goodWord w = true by decide +kernel) w hw⟩
theorem iX2 : ∀ w ∈ u_ws RX2 TX2 17, w ∈ lw_g := fun w hw => List.mem_filter.mpr ⟨(show ∀ w ∈ u_ws RX2 TX2 17, w ∈ lw_tbl by decide +kernel) w hw, (show ∀ w ∈ u_ws RX2 TX2 17, goodWord w = true by decide +kernel) w hw⟩
theorem iX3 : ∀ w ∈ u_ws RX3 TX3 6, w ∈ lw_g := fun w hw => List.mem_filter.mpr ⟨(show ∀ w ∈ u_ws RX3 TX3 6, w ∈ lw_tbl by decide +kernel) w hw, (show ∀ w ∈ u_ws RX3 TX3 6, goodWord w = true by decide +kernel) w hw⟩
theorem iX4 : ∀ w ∈ u_ws RX4 TX4 29, w ∈ lw_g := fun w hw => List.mem_filter.mpr ⟨(show ∀ w ∈ u_ws RX4 TX4 29, w ∈ lw_tbl by decide +kernel) w hw, (show ∀ w ∈ u_ws RX4 TX4 29, goodWord w = true by decide +kernel) w hw⟩
end
section
theorem wd_34 : (Jvm.Cond.initialized "PaidToWhisperLaw") ∈ lw_g := gw_mem (i := 34) (by decide +kernel) (by decide +kernel)
theorem wd_35 : (Jvm.Cond.initialized "PaidToWhisper") ∈ lw_g := gw_mem (i := 35) (by decide +kernel) (by decide +kernel)
theorem wd_36 : (Jvm.Cond.initialized "PaidToWhisper$Page") ∈ lw_g := gw_mem (i := 36) (by decide +kernel) (by decide +kernel)
theorem wd_37 : (Jvm.Cond.initialized "PaidToWhisper$Town") ∈ lw_g := gw_mem (i := 37) (by decide +kernel) (by decide +kernel)
theorem wd_38 : (Jvm.Cond.initialized "PaidToWhisper$Inquiry") ∈ lw_g := gw_mem (i := 38) (by decide +kernel) (by decide +kernel)
theorem wd_39 : (Jvm.Cond.initialized "PaidToWhisperModel") ∈ lw_g := gw_mem (i := 39) (by decide +kernel) (by decide +kernel)
theorem wd_40 : (Jvm.Cond.initialized "java/lang/Integer") ∈ lw_g := gw_mem (i := 40) (by decide +kernel) (by decide +kernel)
theorem wd_41 : (Jvm.Cond.initialized "java/lang/Math") ∈ lw_g := gw_mem (i := 41) (by decide +kernel) (by decide +kernel)
theorem wd_42 : (Jvm.Cond.initialized "java/lang/System") ∈ lw_g := gw_mem (i := 42) (by decide +kernel) (by decide +kernel)
theorem wd_43 : (Jvm.Cond.classLink "PaidToWhisperLaw" (7 : Nat) "PaidToWhisper") ∈ lw_g := gw_mem (i := 43) (by decide +kernel) (by decide +kernel)
theorem wd_44 : (Jvm.Cond.instantiable "PaidToWhisper" (6 : Nat)) ∈ lw_g := gw_mem (i := 44) (by decide +kernel) (by decide +kernel)
theorem wd_45 : (Jvm.Cond.methodLink "PaidToWhisperLaw" (9 : Nat) ({ cls := "PaidToWhisper", name := "<init>", desc := "()V" } : Jvm.MethodName)) ∈ lw_g := gw_mem (i := 45) (by decide +kernel) (by decide +kernel)
theorem wd_46 : (Jvm.Cond.instanceMethod ({ cls := "PaidToWhisper", name := "<init>", desc := "()V" } : Jvm.MethodName)) ∈ lw_g := gw_mem (i := 46) (by decide +kernel) (by decide +kernel)
theorem wd_47 : (Jvm.Cond.code ({ cls := "PaidToWhisper", name := "<init>", desc := "()V" } : Jvm.MethodName) prog_1_method_1_code (1 : Nat) (Option.none : Option Jvm.ClassFile.FieldType)) ∈ lw_g := gw_mem (i := 47) (by decide +kernel) (by decide +kernel)
theorem wd_48 : (Jvm.Cond.methodLink "PaidToWhisper" (1 : Nat) ({ cls := "java/lang/Object", name := "<init>", desc := "()V" } : Jvm.MethodName)) ∈ lw_g := gw_mem (i := 48) (by decide +kernel) (by decide +kernel)
theorem wd_49 : (Jvm.Cond.instanceMethod ({ cls := "java/lang/Object", name := "<init>", desc := "()V" } : Jvm.MethodName)) ∈ lw_g := gw_mem (i := 49) (by decide +kernel) (by decide +kernel)
theorem wd_50 : (Jvm.Cond.code ({ cls := "java/lang/Object", name := "<init>", desc := "()V" } : Jvm.MethodName) object_method_1_code (1 : Nat) (Option.none : Option Jvm.ClassFile.FieldType)) ∈ lw_g := gw_mem (i := 50) (by decide +kernel) (by decide +kernel)
theorem wd_51 : (Jvm.Cond.classLink "PaidToWhisper" (7 : Nat) "PaidToWhisper$Page") ∈ lw_g := gw_mem (i := 51) (by decide +kernel) (by decide +kernel)
theorem wd_52 : (Jvm.Cond.instantiable "PaidToWhisper$Page" (2 : Nat)) ∈ lw_g := gw_mem (i := 52) (by decide +kernel) (by decide +kernel)
theorem wd_53 : (Jvm.Cond.methodLink "PaidToWhisper" (9 : Nat) ({ cls := "PaidToWhisper$Page", name := "<init>", desc := "()V" } : Jvm.MethodName)) ∈ lw_g := gw_mem (i := 53) (by decide +kernel) (by decide +kernel)
theorem wd_54 : (Jvm.Cond.instanceMethod ({ cls := "PaidToWhisper$Page", name := "<init>", desc := "()V" } : Jvm.MethodName)) ∈ lw_g := gw_mem (i := 54) (by decide +kernel) (by decide +kernel)
theorem wd_55 : (Jvm.Cond.code ({ cls := "PaidToWhisper$Page", name := "<init>", desc := "()V" } : Jvm.MethodName) prog_3_method_1_code (1 : Nat) (Option.none : Option Jvm.ClassFile.FieldType)) ∈ lw_g := gw_mem (i := 55) (by decide +kernel) (by decide +kernel)
theorem wd_56 : (Jvm.Cond.methodLink "PaidToWhisper$Page" (3 : Nat) ({ cls := "java/lang/Object", name := "<init>", desc := "()V" } : Jvm.MethodName)) ∈ lw_g := gw_mem (i := 56) (by decide +kernel) (by decide +kernel)
theorem wd_57 : (Jvm.Cond.fieldLink "PaidToWhisper$Page" (11 : Nat) "PaidToWhisper$Page" "letters" "[I") ∈ lw_g := gw_mem (i := 57) (by decide +kernel) (by decide +kernel)
theorem wd_59 : (Jvm.Cond.fieldLink "PaidToWhisper$Page" (15 : Nat) "PaidToWhisper$Page" "length" "I") ∈ lw_g := gw_mem (i := 59) (by decide +kernel) (by decide +kernel)
theorem wd_66 : (Jvm.Cond.arrayClass Jvm.ClassFile.FieldType.int) ∈ lw_g := gw_mem (i := 66) (by decide +kernel) (by decide +kernel)
theorem wd_67 : (Jvm.Cond.classLink "PaidToWhisper" (16 : Nat) "PaidToWhisper$Town") ∈ lw_g := gw_mem (i := 67) (by decide +kernel) (by decide +kernel)
theorem wd_68 : (Jvm.Cond.instantiable "PaidToWhisper$Town" (17 : Nat)) ∈ lw_g := gw_mem (i := 68) (by decide +kernel) (by decide +kernel)
theorem wd_69 : (Jvm.Cond.methodLink "PaidToWhisper" (18 : Nat) ({ cls := "PaidToWhisper$Town", name := "<init>", desc := "()V" } : Jvm.MethodName)) ∈ lw_g := gw_mem (i := 69) (by decide +kernel) (by decide +kernel)
theorem wd_70 : (Jvm.Cond.instanceMethod ({ cls := "PaidToWhisper$Town", name := "<init>", desc := "()V" } : Jvm.MethodName)) ∈ lw_g := gw_mem (i := 70) (by decide +kernel) (by decide +kernel)
theorem wd_71 : (Jvm.Cond.code ({ cls := "PaidToWhisper$Town", name := "<init>", desc := "()V" } : Jvm.MethodName) prog_4_method_1_code (1 : Nat) (Option.none : Option Jvm.ClassFile.FieldType)) ∈ lw_g := gw_mem (i := 71) (by decide +kernel) (by decide +kernel)
theorem wd_72 : (Jvm.Cond.methodLink "PaidToWhisper$Town" (3 : Nat) ({ cls := "java/lang/Object", name := "<init>", desc := "()V" } : Jvm.MethodName)) ∈ lw_g := gw_mem (i := 72) (by decide +kernel) (by decide +kernel)
theorem wd_73 : (Jvm.Cond.fieldLink "PaidToWhisper$Town" (9 : Nat) "PaidToWhisper$Town" "noise" "[I") ∈ lw_g := gw_mem (i := 73) (by decide +kernel) (by decide +kernel)
theorem wd_75 : (Jvm.Cond.fieldLink "PaidToWhisper$Town" (15 : Nat) "PaidToWhisper$Town" "kinds" "[I") ∈ lw_g := gw_mem (i := 75) (by decide +kernel) (by decide +kernel)
theorem wd_77 : (Jvm.Cond.fieldLink "PaidToWhisper$Town" (18 : Nat) "PaidToWhisper$Town" "needs" "[I") ∈ lw_g := gw_mem (i := 77) (by decide +kernel) (by decide +kernel)
theorem wd_79 : (Jvm.Cond.fieldLink "PaidToWhisper$Town" (21 : Nat) "PaidToWhisper$Town" "repeats" "[I") ∈ lw_g := gw_mem (i := 79) (by decide +kernel) (by decide +kernel)
theorem wd_81 : (Jvm.Cond.fieldLink "PaidToWhisper$Town" (24 : Nat) "PaidToWhisper$Town" "places" "[I") ∈ lw_g := gw_mem (i := 81) (by decide +kernel) (by decide +kernel)
theorem wd_83 : (Jvm.Cond.fieldLink "PaidToWhisper$Town" (43 : Nat) "PaidToWhisper$Town" "listeners" "I") ∈ lw_g := gw_mem (i := 83) (by decide +kernel) (by decide +kernel)
theorem wd_85 : (Jvm.Cond.fieldLink "PaidToWhisper$Town" (46 : Nat) "PaidToWhisper$Town" "geese" "I") ∈ lw_g := gw_mem (i := 85) (by decide +kernel) (by decide +kernel)
theorem wd_87 : (Jvm.Cond.fieldLink "PaidToWhisper$Town" (49 : Nat) "PaidToWhisper$Town" "heard" "I") ∈ lw_g := gw_mem (i := 87) (by decide +kernel) (by decide +kernel)
theorem wd_89 : (Jvm.Cond.fieldLink "PaidToWhisper$Town" (33 : Nat) "PaidToWhisper$Town" "firstVoice" "I") ∈ lw_g := gw_mem (i := 89) (by decide +kernel) (by decide +kernel)
theorem wd_91 : (Jvm.Cond.fieldLink "PaidToWhisper$Town" (37 : Nat) "PaidToWhisper$Town" "voice" "I") ∈ lw_g := gw_mem (i := 91) (by decide +kernel) (by decide +kernel)
theorem wd_93 : (Jvm.Cond.fieldLink "PaidToWhisper$Town" (40 : Nat) "PaidToWhisper$Town" "law" "I") ∈ lw_g := gw_mem (i := 93) (by decide +kernel) (by decide +kernel)
theorem wd_95 : (Jvm.Cond.fieldLink "PaidToWhisper$Town" (52 : Nat) "PaidToWhisper$Town" "cries" "I") ∈ lw_g := gw_mem (i := 95) (by decide +kernel) (by decide +kernel)
theorem wd_97 : (Jvm.Cond.fieldLink "PaidToWhisper$Town" (55 : Nat) "PaidToWhisper$Town" "decrees" "I") ∈ lw_g := gw_mem (i := 97) (by decide +kernel) (by decide +kernel)
theorem wd_99 : (Jvm.Cond.fieldLink "PaidToWhisper$Town" (58 : Nat) "PaidToWhisper$Town" "days" "I") ∈ lw_g := gw_mem (i := 99) (by decide +kernel) (by decide +kernel)
theorem wd_101 : (Jvm.Cond.fieldLink "PaidToWhisper$Town" (71 : Nat) "PaidToWhisper$Town" "told" "I") ∈ lw_g := gw_mem (i := 101) (by decide +kernel) (by decide +kernel)
theorem wd_103 : (Jvm.Cond.fieldLink "PaidToWhisper$Town" (74 : Nat) "PaidToWhisper$Town" "toldKnowing" "I") ∈ lw_g := gw_mem (i := 103) (by decide +kernel) (by decide +kernel)
theorem wd_104 : (Jvm.Cond.fieldLink "PaidToWhisper$Town" (77 : Nat) "PaidToWhisper$Town" "toldIgnorant" "I") ∈ lw_g := gw_mem (i := 104) (by decide +kernel) (by decide +kernel)
theorem wd_140 : (Jvm.Cond.classLink "PaidToWhisper" (26 : Nat) "PaidToWhisper$Inquiry") ∈ lw_g := gw_mem (i := 140) (by decide +kernel) (by decide +kernel)
theorem wd_141 : (Jvm.Cond.instantiable "PaidToWhisper$Inquiry" (8 : Nat)) ∈ lw_g := gw_mem (i := 141) (by decide +kernel) (by decide +kernel)
theorem wd_142 : (Jvm.Cond.methodLink "PaidToWhisper" (28 : Nat) ({ cls := "PaidToWhisper$Inquiry", name := "<init>", desc := "()V" } : Jvm.MethodName)) ∈ lw_g := gw_mem (i := 142) (by decide +kernel) (by decide +kernel)
theorem wd_143 : (Jvm.Cond.instanceMethod ({ cls := "PaidToWhisper$Inquiry", name := "<init>", desc := "()V" } : Jvm.MethodName)) ∈ lw_g := gw_mem (i := 143) (by decide +kernel) (by decide +kernel)
theorem wd_144 : (Jvm.Cond.code ({ cls := "PaidToWhisper$Inquiry", name := "<init>", desc := "()V" } : Jvm.MethodName) prog_2_method_1_code (1 : Nat) (Option.none : Option Jvm.ClassFile.FieldType)) ∈ lw_g := gw_mem (i := 144) (by decide +kernel) (by decide +kernel)
theorem wd_145 : (Jvm.Cond.methodLink "PaidToWhisper$Inquiry" (3 : Nat) ({ cls := "java/lang/Object", name := "<init>", desc := "()V" } : Jvm.MethodName)) ∈ lw_g := gw_mem (i := 145) (by decide +kernel) (by decide +kernel)
theorem wd_146 : (Jvm.Cond.fieldLink "PaidToWhisper$Inquiry" (9 : Nat) "PaidToWhisper$Inquiry" "knowingAt" "[I") ∈ lw_g := gw_mem (i := 146) (by decide +kernel) (by decide +kernel)
theorem wd_147 : (Jvm.Cond.fieldLink "PaidToWhisper$Inquiry" (15 : Nat) "PaidToWhisper$Inquiry" "quietest" "I") ∈ lw_g := gw_mem (i := 147) (by decide +kernel) (by decide +kernel)
theorem wd_149 : (Jvm.Cond.fieldLink "PaidToWhisper$Inquiry" (19 : Nat) "PaidToWhisper$Inquiry" "fewest" "I") ∈ lw_g := gw_mem (i := 149) (by decide +kernel) (by decide +kernel)
theorem wd_151 : (Jvm.Cond.fieldLink "PaidToWhisper$Inquiry" (55 : Nat) "PaidToWhisper$Inquiry" "found" "I") ∈ lw_g := gw_mem (i := 151) (by decide +kernel) (by decide +kernel)
theorem wd_153 : (Jvm.Cond.fieldLink "PaidToWhisper$Inquiry" (58 : Nat) "PaidToWhisper$Inquiry" "first" "I") ∈ lw_g := gw_mem (i := 153) (by decide +kernel) (by decide +kernel)
theorem wd_155 : (Jvm.Cond.fieldLink "PaidToWhisper$Inquiry" (75 : Nat) "PaidToWhisper$Inquiry" "together" "I") ∈ lw_g := gw_mem (i := 155) (by decide +kernel) (by decide +kernel)
theorem wd_157 : (Jvm.Cond.fieldLink "PaidToWhisper$Inquiry" (78 : Nat) "PaidToWhisper$Inquiry" "last" "I") ∈ lw_g := gw_mem (i := 157) (by decide +kernel) (by decide +kernel)
theorem wd_159 : (Jvm.Cond.fieldLink "PaidToWhisper$Inquiry" (81 : Nat) "PaidToWhisper$Inquiry" "seed" "I") ∈ lw_g := gw_mem (i := 159) (by decide +kernel) (by decide +kernel)
theorem wd_178 : (Jvm.Cond.fieldLink "PaidToWhisper" (10 : Nat) "PaidToWhisper" "page" "LPaidToWhisper$Page;") ∈ lw_g := gw_mem (i := 178) (by decide +kernel) (by decide +kernel)
theorem wd_179 : (Jvm.Cond.fieldLink "PaidToWhisper" (19 : Nat) "PaidToWhisper" "here" "LPaidToWhisper$Town;") ∈ lw_g := gw_mem (i := 179) (by decide +kernel) (by decide +kernel)
theorem wd_180 : (Jvm.Cond.fieldLink "PaidToWhisper" (23 : Nat) "PaidToWhisper" "kept" "LPaidToWhisper$Town;") ∈ lw_g := gw_mem (i := 180) (by decide +kernel) (by decide +kernel)
theorem wd_181 : (Jvm.Cond.fieldLink "PaidToWhisper" (29 : Nat) "PaidToWhisper" "inquiry" "LPaidToWhisper$Inquiry;") ∈ lw_g := gw_mem (i := 181) (by decide +kernel) (by decide +kernel)
theorem wd_182 : (Jvm.Cond.fieldLink "PaidToWhisper" (33 : Nat) "PaidToWhisper" "imageKept" "Z") ∈ lw_g := gw_mem (i := 182) (by decide +kernel) (by decide +kernel)
theorem wd_183 : (Jvm.Cond.fieldLink "PaidToWhisper" (37 : Nat) "PaidToWhisper" "townsRead" "I") ∈ lw_g := gw_mem (i := 183) (by decide +kernel) (by decide +kernel)
theorem wd_197 : (Jvm.Cond.methodLink "PaidToWhisperLaw" (13 : Nat) ({ cls := "PaidToWhisper", name := "letter", desc := "(I)I" } : Jvm.MethodName)) ∈ lw_g := gw_mem (i := 197) (by decide +kernel) (by decide +kernel)
theorem wd_198 : (Jvm.Cond.instanceMethod ({ cls := "PaidToWhisper", name := "letter", desc := "(I)I" } : Jvm.MethodName)) ∈ lw_g := gw_mem (i := 198) (by decide +kernel) (by decide +kernel)
theorem wd_199 : (Jvm.Cond.selects "PaidToWhisper" ({ cls := "PaidToWhisper", name := "letter", desc := "(I)I" } : Jvm.MethodName) ({ cls := "PaidToWhisper", name := "letter", desc := "(I)I" } : Jvm.MethodName)) ∈ lw_g := gw_mem (i := 199) (by decide +kernel) (by decide +kernel)
theorem wd_200 : (Jvm.Cond.code ({ cls := "PaidToWhisper", name := "letter", desc := "(I)I" } : Jvm.MethodName) prog_1_method_2_code (2 : Nat) (Option.some Jvm.ClassFile.FieldType.int)) ∈ lw_g := gw_mem (i := 200) (by decide +kernel) (by decide +kernel)
theorem wd_201 : (Jvm.Cond.methodLink "PaidToWhisper" (41 : Nat) ({ cls := "PaidToWhisper$Page", name := "add", desc := "(I)I" } : Jvm.MethodName)) ∈ lw_g := gw_mem (i := 201) (by decide +kernel) (by decide +kernel)
theorem wd_202 : (Jvm.Cond.instanceMethod ({ cls := "PaidToWhisper$Page", name := "add", desc := "(I)I" } : Jvm.MethodName)) ∈ lw_g := gw_mem (i := 202) (by decide +kernel) (by decide +kernel)
theorem wd_203 : (Jvm.Cond.selects "PaidToWhisper$Page" ({ cls := "PaidToWhisper$Page", name := "add", desc := "(I)I" } : Jvm.MethodName) ({ cls := "PaidToWhisper$Page", name := "add", desc := "(I)I" } : Jvm.MethodName)) ∈ lw_g := gw_mem (i := 203) (by decide +kernel) (by decide +kernel)
theorem wd_204 : (Jvm.Cond.code ({ cls := "PaidToWhisper$Page", name := "add", desc := "(I)I" } : Jvm.MethodName) prog_3_method_2_code (2 : Nat) (Option.some Jvm.ClassFile.FieldType.int)) ∈ lw_g := gw_mem (i := 204) (by decide +kernel) (by decide +kernel)
theorem wd_205 : (Jvm.Cond.methodLink "PaidToWhisperLaw" (18 : Nat) ({ cls := "PaidToWhisper", name := "blank", desc := "()I" } : Jvm.MethodName)) ∈ lw_g := gw_mem (i := 205) (by decide +kernel) (by decide +kernel)
theorem wd_206 : (Jvm.Cond.instanceMethod ({ cls := "PaidToWhisper", name := "blank", desc := "()I" } : Jvm.MethodName)) ∈ lw_g := gw_mem (i := 206) (by decide +kernel) (by decide +kernel)
theorem wd_207 : (Jvm.Cond.selects "PaidToWhisper" ({ cls := "PaidToWhisper", name := "blank", desc := "()I" } : Jvm.MethodName) ({ cls := "PaidToWhisper", name := "blank", desc := "()I" } : Jvm.MethodName)) ∈ lw_g := gw_mem (i := 207) (by decide +kernel) (by decide +kernel)
theorem wd_208 : (Jvm.Cond.code ({ cls := "PaidToWhisper", name := "blank", desc := "()I" } : Jvm.MethodName) prog_1_method_3_code (1 : Nat) (Option.some Jvm.ClassFile.FieldType.int)) ∈ lw_g := gw_mem (i := 208) (by decide +kernel) (by decide +kernel)
theorem wd_209 : (Jvm.Cond.methodLink "PaidToWhisper" (45 : Nat) ({ cls := "PaidToWhisper$Page", name := "clear", desc := "()I" } : Jvm.MethodName)) ∈ lw_g := gw_mem (i := 209) (by decide +kernel) (by decide +kernel)
theorem wd_210 : (Jvm.Cond.instanceMethod ({ cls := "PaidToWhisper$Page", name := "clear", desc := "()I" } : Jvm.MethodName)) ∈ lw_g := gw_mem (i := 210) (by decide +kernel) (by decide +kernel)
theorem wd_211 : (Jvm.Cond.selects "PaidToWhisper$Page" ({ cls := "PaidToWhisper$Page", name := "clear", desc := "()I" } : Jvm.MethodName) ({ cls := "PaidToWhisper$Page", name := "clear", desc := "()I" } : Jvm.MethodName)) ∈ lw_g := gw_mem (i := 211) (by decide +kernel) (by decide +kernel)
theorem wd_212 : (Jvm.Cond.code ({ cls := "PaidToWhisper$Page", name := "clear", desc := "()I" } : Jvm.MethodName) prog_3_method_3_code (2 : Nat) (Option.some Jvm.ClassFile.FieldType.int)) ∈ lw_g := gw_mem (i := 212) (by decide +kernel) (by decide +kernel)
theorem wd_213 : (Jvm.Cond.methodLink "PaidToWhisperLaw" (23 : Nat) ({ cls := "PaidToWhisper", name := "fault", desc := "()I" } : Jvm.MethodName)) ∈ lw_g := gw_mem (i := 213) (by decide +kernel) (by decide +kernel)
theorem wd_214 : (Jvm.Cond.instanceMethod ({ cls := "PaidToWhisper", name := "fault", desc := "()I" } : Jvm.MethodName)) ∈ lw_g := gw_mem (i := 214) (by decide +kernel) (by decide +kernel)
theorem wd_215 : (Jvm.Cond.selects "PaidToWhisper" ({ cls := "PaidToWhisper", name := "fault", desc := "()I" } : Jvm.MethodName) ({ cls := "PaidToWhisper", name := "fault", desc := "()I" } : Jvm.MethodName)) ∈ lw_g := gw_mem (i := 215) (by decide +kernel) (by decide +kernel)
theorem wd_216 : (Jvm.Cond.code ({ cls := "PaidToWhisper", name := "fault", desc := "()I" } : Jvm.MethodName) prog_1_method_4_code (1 : Nat) (Option.some Jvm.ClassFile.FieldType.int)) ∈ lw_g := gw_mem (i := 216) (by decide +kernel) (by decide +kernel)
theorem wd_217 : (Jvm.Cond.methodLink "PaidToWhisper" (49 : Nat) ({ cls := "PaidToWhisper$Page", name := "firstWrong", desc := "()I" } : Jvm.MethodName)) ∈ lw_g := gw_mem (i := 217) (by decide +kernel) (by decide +kernel)
theorem wd_218 : (Jvm.Cond.instanceMethod ({ cls := "PaidToWhisper$Page", name := "firstWrong", desc := "()I" } : Jvm.MethodName)) ∈ lw_g := gw_mem (i := 218) (by decide +kernel) (by decide +kernel)
theorem wd_219 : (Jvm.Cond.selects "PaidToWhisper$Page" ({ cls := "PaidToWhisper$Page", name := "firstWrong", desc := "()I" } : Jvm.MethodName) ({ cls := "PaidToWhisper$Page", name := "firstWrong", desc := "()I" } : Jvm.MethodName)) ∈ lw_g := gw_mem (i := 219) (by decide +kernel) (by decide +kernel)
theorem wd_220 : (Jvm.Cond.code ({ cls := "PaidToWhisper$Page", name := "firstWrong", desc := "()I" } : Jvm.MethodName) prog_3_method_4_code (2 : Nat) (Option.some Jvm.ClassFile.FieldType.int)) ∈ lw_g := gw_mem (i := 220) (by decide +kernel) (by decide +kernel)
theorem wd_221 : (Jvm.Cond.methodLink "PaidToWhisper$Page" (19 : Nat) ({ cls := "PaidToWhisper$Page", name := "fits", desc := "(II)Z" } : Jvm.MethodName)) ∈ lw_g := gw_mem (i := 221) (by decide +kernel) (by decide +kernel)
theorem wd_222 : (Jvm.Cond.static ({ cls := "PaidToWhisper$Page", name := "fits", desc := "(II)Z" } : Jvm.MethodName)) ∈ lw_g := gw_mem (i := 222) (by decide +kernel) (by decide +kernel)
theorem wd_223 : (Jvm.Cond.code ({ cls := "PaidToWhisper$Page", name := "fits", desc := "(II)Z" } : Jvm.MethodName) prog_3_method_7_code (2 : Nat) (Option.some Jvm.ClassFile.FieldType.boolean)) ∈ lw_g := gw_mem (i := 223) (by decide +kernel) (by decide +kernel)
theorem wd_224 : (Jvm.Cond.methodLink "PaidToWhisperLaw" (27 : Nat) ({ cls := "PaidToWhisper", name := "town", desc := "()I" } : Jvm.MethodName)) ∈ lw_g := gw_mem (i := 224) (by decide +kernel) (by decide +kernel)
theorem wd_225 : (Jvm.Cond.instanceMethod ({ cls := "PaidToWhisper", name := "town", desc := "()I" } : Jvm.MethodName)) ∈ lw_g := gw_mem (i := 225) (by decide +kernel) (by decide +kernel)
theorem wd_226 : (Jvm.Cond.selects "PaidToWhisper" ({ cls := "PaidToWhisper", name := "town", desc := "()I" } : Jvm.MethodName) ({ cls := "PaidToWhisper", name := "town", desc := "()I" } : Jvm.MethodName)) ∈ lw_g := gw_mem (i := 226) (by decide +kernel) (by decide +kernel)
theorem wd_227 : (Jvm.Cond.code ({ cls := "PaidToWhisper", name := "town", desc := "()I" } : Jvm.MethodName) prog_1_method_5_code (1 : Nat) (Option.some Jvm.ClassFile.FieldType.int)) ∈ lw_g := gw_mem (i := 227) (by decide +kernel) (by decide +kernel)
theorem wd_228 : (Jvm.Cond.methodLink "PaidToWhisper" (52 : Nat) ({ cls := "PaidToWhisper$Page", name := "isTown", desc := "()Z" } : Jvm.MethodName)) ∈ lw_g := gw_mem (i := 228) (by decide +kernel) (by decide +kernel)
theorem wd_229 : (Jvm.Cond.instanceMethod ({ cls := "PaidToWhisper$Page", name := "isTown", desc := "()Z" } : Jvm.MethodName)) ∈ lw_g := gw_mem (i := 229) (by decide +kernel) (by decide +kernel)
theorem wd_230 : (Jvm.Cond.selects "PaidToWhisper$Page" ({ cls := "PaidToWhisper$Page", name := "isTown", desc := "()Z" } : Jvm.MethodName) ({ cls := "PaidToWhisper$Page", name := "isTown", desc := "()Z" } : Jvm.MethodName)) ∈ lw_g := gw_mem (i := 230) (by decide +kernel) (by decide +kernel)
theorem wd_231 : (Jvm.Cond.code ({ cls := "PaidToWhisper$Page", name := "isTown", desc := "()Z" } : Jvm.MethodName) prog_3_method_5_code (1 : Nat) (Option.some Jvm.ClassFile.FieldType.boolean)) ∈ lw_g := gw_mem (i := 231) (by decide +kernel) (by decide +kernel)
theorem wd_232 : (Jvm.Cond.methodLink "PaidToWhisper$Page" (23 : Nat) ({ cls := "PaidToWhisper$Page", name := "firstWrong", desc := "()I" } : Jvm.MethodName)) ∈ lw_g := gw_mem (i := 232) (by decide +kernel) (by decide +kernel)
theorem wd_233 : (Jvm.Cond.methodLink "PaidToWhisper" (56 : Nat) ({ cls := "PaidToWhisper$Town", name := "begin", desc := "(LPaidToWhisper$Page;)V" } : Jvm.MethodName)) ∈ lw_g := gw_mem (i := 233) (by decide +kernel) (by decide +kernel)
theorem wd_234 : (Jvm.Cond.instanceMethod ({ cls := "PaidToWhisper$Town", name := "begin", desc := "(LPaidToWhisper$Page;)V" } : Jvm.MethodName)) ∈ lw_g := gw_mem (i := 234) (by decide +kernel) (by decide +kernel)
theorem wd_235 : (Jvm.Cond.selects "PaidToWhisper$Town" ({ cls := "PaidToWhisper$Town", name := "begin", desc := "(LPaidToWhisper$Page;)V" } : Jvm.MethodName) ({ cls := "PaidToWhisper$Town", name := "begin", desc := "(LPaidToWhisper$Page;)V" } : Jvm.MethodName)) ∈ lw_g := gw_mem (i := 235) (by decide +kernel) (by decide +kernel)
theorem wd_236 : (Jvm.Cond.code ({ cls := "PaidToWhisper$Town", name := "begin", desc := "(LPaidToWhisper$Page;)V" } : Jvm.MethodName) prog_4_method_2_code (3 : Nat) (Option.none : Option Jvm.ClassFile.FieldType)) ∈ lw_g := gw_mem (i := 236) (by decide +kernel) (by decide +kernel)
theorem wd_237 : (Jvm.Cond.methodLink "PaidToWhisper$Town" (27 : Nat) ({ cls := "PaidToWhisper$Page", name := "digit", desc := "(I)I" } : Jvm.MethodName)) ∈ lw_g := gw_mem (i := 237) (by decide +kernel) (by decide +kernel)
theorem wd_238 : (Jvm.Cond.instanceMethod ({ cls := "PaidToWhisper$Page", name := "digit", desc := "(I)I" } : Jvm.MethodName)) ∈ lw_g := gw_mem (i := 238) (by decide +kernel) (by decide +kernel)
theorem wd_239 : (Jvm.Cond.selects "PaidToWhisper$Page" ({ cls := "PaidToWhisper$Page", name := "digit", desc := "(I)I" } : Jvm.MethodName) ({ cls := "PaidToWhisper$Page", name := "digit", desc := "(I)I" } : Jvm.MethodName)) ∈ lw_g := gw_mem (i := 239) (by decide +kernel) (by decide +kernel)
theorem wd_240 : (Jvm.Cond.code ({ cls := "PaidToWhisper$Page", name := "digit", desc := "(I)I" } : Jvm.MethodName) prog_3_method_6_code (2 : Nat) (Option.some Jvm.ClassFile.FieldType.int)) ∈ lw_g := gw_mem (i := 240) (by decide +kernel) (by decide +kernel)
theorem wd_241 : (Jvm.Cond.methodLink "PaidToWhisper$Town" (61 : Nat) ({ cls := "PaidToWhisper$Town", name := "dropTold", desc := "()I" } : Jvm.MethodName)) ∈ lw_g := gw_mem (i := 241) (by decide +kernel) (by decide +kernel)
theorem wd_242 : (Jvm.Cond.instanceMethod ({ cls := "PaidToWhisper$Town", name := "dropTold", desc := "()I" } : Jvm.MethodName)) ∈ lw_g := gw_mem (i := 242) (by decide +kernel) (by decide +kernel)
theorem wd_243 : (Jvm.Cond.selects "PaidToWhisper$Town" ({ cls := "PaidToWhisper$Town", name := "dropTold", desc := "()I" } : Jvm.MethodName) ({ cls := "PaidToWhisper$Town", name := "dropTold", desc := "()I" } : Jvm.MethodName)) ∈ lw_g := gw_mem (i := 243) (by decide +kernel) (by decide +kernel)
theorem wd_244 : (Jvm.Cond.code ({ cls := "PaidToWhisper$Town", name := "dropTold", desc := "()I" } : Jvm.MethodName) prog_4_method_12_code (2 : Nat) (Option.some Jvm.ClassFile.FieldType.int)) ∈ lw_g := gw_mem (i := 244) (by decide +kernel) (by decide +kernel)
theorem wd_245 : (Jvm.Cond.methodLink "PaidToWhisper" (60 : Nat) ({ cls := "PaidToWhisper$Town", name := "noiseInAll", desc := "()I" } : Jvm.MethodName)) ∈ lw_g := gw_mem (i := 245) (by decide +kernel) (by decide +kernel)
theorem wd_246 : (Jvm.Cond.instanceMethod ({ cls := "PaidToWhisper$Town", name := "noiseInAll", desc := "()I" } : Jvm.MethodName)) ∈ lw_g := gw_mem (i := 246) (by decide +kernel) (by decide +kernel)
theorem wd_247 : (Jvm.Cond.selects "PaidToWhisper$Town" ({ cls := "PaidToWhisper$Town", name := "noiseInAll", desc := "()I" } : Jvm.MethodName) ({ cls := "PaidToWhisper$Town", name := "noiseInAll", desc := "()I" } : Jvm.MethodName)) ∈ lw_g := gw_mem (i := 247) (by decide +kernel) (by decide +kernel)
theorem wd_248 : (Jvm.Cond.code ({ cls := "PaidToWhisper$Town", name := "noiseInAll", desc := "()I" } : Jvm.MethodName) prog_4_method_4_code (3 : Nat) (Option.some Jvm.ClassFile.FieldType.int)) ∈ lw_g := gw_mem (i := 248) (by decide +kernel) (by decide +kernel)
theorem wd_249 : (Jvm.Cond.methodLink "PaidToWhisperLaw" (31 : Nat) ({ cls := "PaidToWhisper", name := "noise", desc := "(I)I" } : Jvm.MethodName)) ∈ lw_g := gw_mem (i := 249) (by decide +kernel) (by decide +kernel)
theorem wd_250 : (Jvm.Cond.instanceMethod ({ cls := "PaidToWhisper", name := "noise", desc := "(I)I" } : Jvm.MethodName)) ∈ lw_g := gw_mem (i := 250) (by decide +kernel) (by decide +kernel)
theorem wd_251 : (Jvm.Cond.selects "PaidToWhisper" ({ cls := "PaidToWhisper", name := "noise", desc := "(I)I" } : Jvm.MethodName) ({ cls := "PaidToWhisper", name := "noise", desc := "(I)I" } : Jvm.MethodName)) ∈ lw_g := gw_mem (i := 251) (by decide +kernel) (by decide +kernel)
theorem wd_252 : (Jvm.Cond.code ({ cls := "PaidToWhisper", name := "noise", desc := "(I)I" } : Jvm.MethodName) prog_1_method_6_code (2 : Nat) (Option.some Jvm.ClassFile.FieldType.int)) ∈ lw_g := gw_mem (i := 252) (by decide +kernel) (by decide +kernel)
theorem wd_253 : (Jvm.Cond.methodLink "PaidToWhisper" (63 : Nat) ({ cls := "PaidToWhisper", name := "isPlace", desc := "(I)Z" } : Jvm.MethodName)) ∈ lw_g := gw_mem (i := 253) (by decide +kernel) (by decide +kernel)
theorem wd_255 : (Jvm.Cond.instanceMethod ({ cls := "PaidToWhisper", name := "isPlace", desc := "(I)Z" } : Jvm.MethodName)) ∈ lw_g := gw_mem (i := 255) (by decide +kernel) (by decide +kernel)
theorem wd_256 : (Jvm.Cond.code ({ cls := "PaidToWhisper", name := "isPlace", desc := "(I)Z" } : Jvm.MethodName) prog_1_method_34_code (2 : Nat) (Option.some Jvm.ClassFile.FieldType.boolean)) ∈ lw_g := gw_mem (i := 256) (by decide +kernel) (by decide +kernel)
theorem wd_257 : (Jvm.Cond.methodLink "PaidToWhisper" (119 : Nat) ({ cls := "PaidToWhisper", name := "hasTown", desc := "()Z" } : Jvm.MethodName)) ∈ lw_g := gw_mem (i := 257) (by decide +kernel) (by decide +kernel)
theorem wd_259 : (Jvm.Cond.instanceMethod ({ cls := "PaidToWhisper", name := "hasTown", desc := "()Z" } : Jvm.MethodName)) ∈ lw_g := gw_mem (i := 259) (by decide +kernel) (by decide +kernel)
theorem wd_260 : (Jvm.Cond.code ({ cls := "PaidToWhisper", name := "hasTown", desc := "()Z" } : Jvm.MethodName) prog_1_method_33_code (1 : Nat) (Option.some Jvm.ClassFile.FieldType.boolean)) ∈ lw_g := gw_mem (i := 260) (by decide +kernel) (by decide +kernel)
theorem wd_261 : (Jvm.Cond.methodLink "PaidToWhisperLaw" (35 : Nat) ({ cls := "PaidToWhisper", name := "hum", desc := "(II)I" } : Jvm.MethodName)) ∈ lw_g := gw_mem (i := 261) (by decide +kernel) (by decide +kernel)
theorem wd_262 : (Jvm.Cond.instanceMethod ({ cls := "PaidToWhisper", name := "hum", desc := "(II)I" } : Jvm.MethodName)) ∈ lw_g := gw_mem (i := 262) (by decide +kernel) (by decide +kernel)
theorem wd_263 : (Jvm.Cond.selects "PaidToWhisper" ({ cls := "PaidToWhisper", name := "hum", desc := "(II)I" } : Jvm.MethodName) ({ cls := "PaidToWhisper", name := "hum", desc := "(II)I" } : Jvm.MethodName)) ∈ lw_g := gw_mem (i := 263) (by decide +kernel) (by decide +kernel)
theorem wd_264 : (Jvm.Cond.code ({ cls := "PaidToWhisper", name := "hum", desc := "(II)I" } : Jvm.MethodName) prog_1_method_7_code (4 : Nat) (Option.some Jvm.ClassFile.FieldType.int)) ∈ lw_g := gw_mem (i := 264) (by decide +kernel) (by decide +kernel)
theorem wd_265 : (Jvm.Cond.methodLink "PaidToWhisperLaw" (40 : Nat) ({ cls := "PaidToWhisper", name := "listener", desc := "(II)I" } : Jvm.MethodName)) ∈ lw_g := gw_mem (i := 265) (by decide +kernel) (by decide +kernel)
theorem wd_266 : (Jvm.Cond.instanceMethod ({ cls := "PaidToWhisper", name := "listener", desc := "(II)I" } : Jvm.MethodName)) ∈ lw_g := gw_mem (i := 266) (by decide +kernel) (by decide +kernel)
theorem wd_267 : (Jvm.Cond.selects "PaidToWhisper" ({ cls := "PaidToWhisper", name := "listener", desc := "(II)I" } : Jvm.MethodName) ({ cls := "PaidToWhisper", name := "listener", desc := "(II)I" } : Jvm.MethodName)) ∈ lw_g := gw_mem (i := 267) (by decide +kernel) (by decide +kernel)
theorem wd_268 : (Jvm.Cond.code ({ cls := "PaidToWhisper", name := "listener", desc := "(II)I" } : Jvm.MethodName) prog_1_method_8_code (3 : Nat) (Option.some Jvm.ClassFile.FieldType.int)) ∈ lw_g := gw_mem (i := 268) (by decide +kernel) (by decide +kernel)
theorem wd_269 : (Jvm.Cond.methodLink "PaidToWhisper" (71 : Nat) ({ cls := "PaidToWhisper", name := "isKind", desc := "(I)Z" } : Jvm.MethodName)) ∈ lw_g := gw_mem (i := 269) (by decide +kernel) (by decide +kernel)
theorem wd_270 : (Jvm.Cond.static ({ cls := "PaidToWhisper", name := "isKind", desc := "(I)Z" } : Jvm.MethodName)) ∈ lw_g := gw_mem (i := 270) (by decide +kernel) (by decide +kernel)
theorem wd_271 : (Jvm.Cond.code ({ cls := "PaidToWhisper", name := "isKind", desc := "(I)Z" } : Jvm.MethodName) prog_1_method_36_code (1 : Nat) (Option.some Jvm.ClassFile.FieldType.boolean)) ∈ lw_g := gw_mem (i := 271) (by decide +kernel) (by decide +kernel)
theorem wd_272 : (Jvm.Cond.methodLink "PaidToWhisper" (74 : Nat) ({ cls := "PaidToWhisper$Town", name := "settle", desc := "(II)I" } : Jvm.MethodName)) ∈ lw_g := gw_mem (i := 272) (by decide +kernel) (by decide +kernel)
theorem wd_273 : (Jvm.Cond.instanceMethod ({ cls := "PaidToWhisper$Town", name := "settle", desc := "(II)I" } : Jvm.MethodName)) ∈ lw_g := gw_mem (i := 273) (by decide +kernel) (by decide +kernel)
theorem wd_274 : (Jvm.Cond.selects "PaidToWhisper$Town" ({ cls := "PaidToWhisper$Town", name := "settle", desc := "(II)I" } : Jvm.MethodName) ({ cls := "PaidToWhisper$Town", name := "settle", desc := "(II)I" } : Jvm.MethodName)) ∈ lw_g := gw_mem (i := 274) (by decide +kernel) (by decide +kernel)
theorem wd_275 : (Jvm.Cond.code ({ cls := "PaidToWhisper$Town", name := "settle", desc := "(II)I" } : Jvm.MethodName) prog_4_method_5_code (4 : Nat) (Option.some Jvm.ClassFile.FieldType.int)) ∈ lw_g := gw_mem (i := 275) (by decide +kernel) (by decide +kernel)
theorem wd_276 : (Jvm.Cond.methodLink "PaidToWhisper$Town" (80 : Nat) ({ cls := "PaidToWhisper$Town", name := "loudNeeded", desc := "(I)I" } : Jvm.MethodName)) ∈ lw_g := gw_mem (i := 276) (by decide +kernel) (by decide +kernel)
theorem wd_277 : (Jvm.Cond.static ({ cls := "PaidToWhisper$Town", name := "loudNeeded", desc := "(I)I" } : Jvm.MethodName)) ∈ lw_g := gw_mem (i := 277) (by decide +kernel) (by decide +kernel)
theorem wd_278 : (Jvm.Cond.code ({ cls := "PaidToWhisper$Town", name := "loudNeeded", desc := "(I)I" } : Jvm.MethodName) prog_4_method_18_code (1 : Nat) (Option.some Jvm.ClassFile.FieldType.int)) ∈ lw_g := gw_mem (i := 278) (by decide +kernel) (by decide +kernel)
theorem wd_279 : (Jvm.Cond.methodLink "PaidToWhisper$Town" (83 : Nat) ({ cls := "PaidToWhisper$Town", name := "loudRepeated", desc := "(I)I" } : Jvm.MethodName)) ∈ lw_g := gw_mem (i := 279) (by decide +kernel) (by decide +kernel)
theorem wd_280 : (Jvm.Cond.static ({ cls := "PaidToWhisper$Town", name := "loudRepeated", desc := "(I)I" } : Jvm.MethodName)) ∈ lw_g := gw_mem (i := 280) (by decide +kernel) (by decide +kernel)
theorem wd_281 : (Jvm.Cond.code ({ cls := "PaidToWhisper$Town", name := "loudRepeated", desc := "(I)I" } : Jvm.MethodName) prog_4_method_19_code (1 : Nat) (Option.some Jvm.ClassFile.FieldType.int)) ∈ lw_g := gw_mem (i := 281) (by decide +kernel) (by decide +kernel)
theorem wd_282 : (Jvm.Cond.methodLink "PaidToWhisperLaw" (44 : Nat) ({ cls := "PaidToWhisper", name := "about", desc := "(II)I" } : Jvm.MethodName)) ∈ lw_g := gw_mem (i := 282) (by decide +kernel) (by decide +kernel)
theorem wd_283 : (Jvm.Cond.instanceMethod ({ cls := "PaidToWhisper", name := "about", desc := "(II)I" } : Jvm.MethodName)) ∈ lw_g := gw_mem (i := 283) (by decide +kernel) (by decide +kernel)
theorem wd_284 : (Jvm.Cond.selects "PaidToWhisper" ({ cls := "PaidToWhisper", name := "about", desc := "(II)I" } : Jvm.MethodName) ({ cls := "PaidToWhisper", name := "about", desc := "(II)I" } : Jvm.MethodName)) ∈ lw_g := gw_mem (i := 284) (by decide +kernel) (by decide +kernel)
theorem wd_285 : (Jvm.Cond.code ({ cls := "PaidToWhisper", name := "about", desc := "(II)I" } : Jvm.MethodName) prog_1_method_9_code (3 : Nat) (Option.some Jvm.ClassFile.FieldType.int)) ∈ lw_g := gw_mem (i := 285) (by decide +kernel) (by decide +kernel)
theorem wd_286 : (Jvm.Cond.methodLink "PaidToWhisper" (78 : Nat) ({ cls := "PaidToWhisper", name := "isListener", desc := "(I)Z" } : Jvm.MethodName)) ∈ lw_g := gw_mem (i := 286) (by decide +kernel) (by decide +kernel)
theorem wd_288 : (Jvm.Cond.instanceMethod ({ cls := "PaidToWhisper", name := "isListener", desc := "(I)Z" } : Jvm.MethodName)) ∈ lw_g := gw_mem (i := 288) (by decide +kernel) (by decide +kernel)
theorem wd_289 : (Jvm.Cond.code ({ cls := "PaidToWhisper", name := "isListener", desc := "(I)Z" } : Jvm.MethodName) prog_1_method_35_code (2 : Nat) (Option.some Jvm.ClassFile.FieldType.boolean)) ∈ lw_g := gw_mem (i := 289) (by decide +kernel) (by decide +kernel)
theorem wd_290 : (Jvm.Cond.methodLink "PaidToWhisper" (90 : Nat) ({ cls := "PaidToWhisper$Town", name := "knowing", desc := "(I)I" } : Jvm.MethodName)) ∈ lw_g := gw_mem (i := 290) (by decide +kernel) (by decide +kernel)
theorem wd_291 : (Jvm.Cond.instanceMethod ({ cls := "PaidToWhisper$Town", name := "knowing", desc := "(I)I" } : Jvm.MethodName)) ∈ lw_g := gw_mem (i := 291) (by decide +kernel) (by decide +kernel)
theorem wd_292 : (Jvm.Cond.selects "PaidToWhisper$Town" ({ cls := "PaidToWhisper$Town", name := "knowing", desc := "(I)I" } : Jvm.MethodName) ({ cls := "PaidToWhisper$Town", name := "knowing", desc := "(I)I" } : Jvm.MethodName)) ∈ lw_g := gw_mem (i := 292) (by decide +kernel) (by decide +kernel)
theorem wd_293 : (Jvm.Cond.code ({ cls := "PaidToWhisper$Town", name := "knowing", desc := "(I)I" } : Jvm.MethodName) prog_4_method_14_code (2 : Nat) (Option.some Jvm.ClassFile.FieldType.int)) ∈ lw_g := gw_mem (i := 293) (by decide +kernel) (by decide +kernel)
theorem wd_294 : (Jvm.Cond.methodLink "PaidToWhisper" (93 : Nat) ({ cls := "PaidToWhisper", name := "bit", desc := "(II)I" } : Jvm.MethodName)) ∈ lw_g := gw_mem (i := 294) (by decide +kernel) (by decide +kernel)
theorem wd_295 : (Jvm.Cond.static ({ cls := "PaidToWhisper", name := "bit", desc := "(II)I" } : Jvm.MethodName)) ∈ lw_g := gw_mem (i := 295) (by decide +kernel) (by decide +kernel)
theorem wd_296 : (Jvm.Cond.code ({ cls := "PaidToWhisper", name := "bit", desc := "(II)I" } : Jvm.MethodName) prog_1_method_39_code (2 : Nat) (Option.some Jvm.ClassFile.FieldType.int)) ∈ lw_g := gw_mem (i := 296) (by decide +kernel) (by decide +kernel)
theorem wd_297 : (Jvm.Cond.methodLink "PaidToWhisperLaw" (48 : Nat) ({ cls := "PaidToWhisper", name := "as", desc := "(II)I" } : Jvm.MethodName)) ∈ lw_g := gw_mem (i := 297) (by decide +kernel) (by decide +kernel)
theorem wd_298 : (Jvm.Cond.instanceMethod ({ cls := "PaidToWhisper", name := "as", desc := "(II)I" } : Jvm.MethodName)) ∈ lw_g := gw_mem (i := 298) (by decide +kernel) (by decide +kernel)
theorem wd_299 : (Jvm.Cond.selects "PaidToWhisper" ({ cls := "PaidToWhisper", name := "as", desc := "(II)I" } : Jvm.MethodName) ({ cls := "PaidToWhisper", name := "as", desc := "(II)I" } : Jvm.MethodName)) ∈ lw_g := gw_mem (i := 299) (by decide +kernel) (by decide +kernel)
theorem wd_300 : (Jvm.Cond.code ({ cls := "PaidToWhisper", name := "as", desc := "(II)I" } : Jvm.MethodName) prog_1_method_10_code (3 : Nat) (Option.some Jvm.ClassFile.FieldType.int)) ∈ lw_g := gw_mem (i := 300) (by decide +kernel) (by decide +kernel)
theorem wd_301 : (Jvm.Cond.methodLink "PaidToWhisper" (102 : Nat) ({ cls := "PaidToWhisper", name := "isOfKind", desc := "(II)Z" } : Jvm.MethodName)) ∈ lw_g := gw_mem (i := 301) (by decide +kernel) (by decide +kernel)
theorem wd_302 : (Jvm.Cond.static ({ cls := "PaidToWhisper", name := "isOfKind", desc := "(II)Z" } : Jvm.MethodName)) ∈ lw_g := gw_mem (i := 302) (by decide +kernel) (by decide +kernel)
theorem wd_303 : (Jvm.Cond.code ({ cls := "PaidToWhisper", name := "isOfKind", desc := "(II)Z" } : Jvm.MethodName) prog_1_method_38_code (2 : Nat) (Option.some Jvm.ClassFile.FieldType.boolean)) ∈ lw_g := gw_mem (i := 303) (by decide +kernel) (by decide +kernel)
theorem wd_304 : (Jvm.Cond.methodLink "PaidToWhisperLaw" (52 : Nat) ({ cls := "PaidToWhisper", name := "move", desc := "(II)I" } : Jvm.MethodName)) ∈ lw_g := gw_mem (i := 304) (by decide +kernel) (by decide +kernel)
theorem wd_305 : (Jvm.Cond.instanceMethod ({ cls := "PaidToWhisper", name := "move", desc := "(II)I" } : Jvm.MethodName)) ∈ lw_g := gw_mem (i := 305) (by decide +kernel) (by decide +kernel)
theorem wd_306 : (Jvm.Cond.selects "PaidToWhisper" ({ cls := "PaidToWhisper", name := "move", desc := "(II)I" } : Jvm.MethodName) ({ cls := "PaidToWhisper", name := "move", desc := "(II)I" } : Jvm.MethodName)) ∈ lw_g := gw_mem (i := 306) (by decide +kernel) (by decide +kernel)
theorem wd_307 : (Jvm.Cond.code ({ cls := "PaidToWhisper", name := "move", desc := "(II)I" } : Jvm.MethodName) prog_1_method_11_code (4 : Nat) (Option.some Jvm.ClassFile.FieldType.int)) ∈ lw_g := gw_mem (i := 307) (by decide +kernel) (by decide +kernel)
theorem wd_308 : (Jvm.Cond.methodLink "PaidToWhisperLaw" (56 : Nat) ({ cls := "PaidToWhisper", name := "cry", desc := "(II)I" } : Jvm.MethodName)) ∈ lw_g := gw_mem (i := 308) (by decide +kernel) (by decide +kernel)
theorem wd_309 : (Jvm.Cond.instanceMethod ({ cls := "PaidToWhisper", name := "cry", desc := "(II)I" } : Jvm.MethodName)) ∈ lw_g := gw_mem (i := 309) (by decide +kernel) (by decide +kernel)
theorem wd_310 : (Jvm.Cond.selects "PaidToWhisper" ({ cls := "PaidToWhisper", name := "cry", desc := "(II)I" } : Jvm.MethodName) ({ cls := "PaidToWhisper", name := "cry", desc := "(II)I" } : Jvm.MethodName)) ∈ lw_g := gw_mem (i := 310) (by decide +kernel) (by decide +kernel)
theorem wd_311 : (Jvm.Cond.code ({ cls := "PaidToWhisper", name := "cry", desc := "(II)I" } : Jvm.MethodName) prog_1_method_12_code (3 : Nat) (Option.some Jvm.ClassFile.FieldType.int)) ∈ lw_g := gw_mem (i := 311) (by decide +kernel) (by decide +kernel)
theorem wd_312 : (Jvm.Cond.methodLink "PaidToWhisper" (106 : Nat) ({ cls := "PaidToWhisper", name := "isLoud", desc := "(I)Z" } : Jvm.MethodName)) ∈ lw_g := gw_mem (i := 312) (by decide +kernel) (by decide +kernel)
theorem wd_313 : (Jvm.Cond.static ({ cls := "PaidToWhisper", name := "isLoud", desc := "(I)Z" } : Jvm.MethodName)) ∈ lw_g := gw_mem (i := 313) (by decide +kernel) (by decide +kernel)
theorem wd_314 : (Jvm.Cond.code ({ cls := "PaidToWhisper", name := "isLoud", desc := "(I)Z" } : Jvm.MethodName) prog_1_method_37_code (1 : Nat) (Option.some Jvm.ClassFile.FieldType.boolean)) ∈ lw_g := gw_mem (i := 314) (by decide +kernel) (by decide +kernel)
theorem wd_315 : (Jvm.Cond.methodLink "PaidToWhisper" (112 : Nat) ({ cls := "PaidToWhisper$Town", name := "proclaim", desc := "(II)I" } : Jvm.MethodName)) ∈ lw_g := gw_mem (i := 315) (by decide +kernel) (by decide +kernel)
theorem wd_316 : (Jvm.Cond.instanceMethod ({ cls := "PaidToWhisper$Town", name := "proclaim", desc := "(II)I" } : Jvm.MethodName)) ∈ lw_g := gw_mem (i := 316) (by decide +kernel) (by decide +kernel)
theorem wd_317 : (Jvm.Cond.selects "PaidToWhisper$Town" ({ cls := "PaidToWhisper$Town", name := "proclaim", desc := "(II)I" } : Jvm.MethodName) ({ cls := "PaidToWhisper$Town", name := "proclaim", desc := "(II)I" } : Jvm.MethodName)) ∈ lw_g := gw_mem (i := 317) (by decide +kernel) (by decide +kernel)
theorem wd_318 : (Jvm.Cond.code ({ cls := "PaidToWhisper$Town", name := "proclaim", desc := "(II)I" } : Jvm.MethodName) prog_4_method_7_code (5 : Nat) (Option.some Jvm.ClassFile.FieldType.int)) ∈ lw_g := gw_mem (i := 318) (by decide +kernel) (by decide +kernel)
theorem wd_319 : (Jvm.Cond.methodLink "PaidToWhisper$Town" (86 : Nat) ({ cls := "PaidToWhisper$Town", name := "spread", desc := "(IIII)I" } : Jvm.MethodName)) ∈ lw_g := gw_mem (i := 319) (by decide +kernel) (by decide +kernel)
theorem wd_320 : (Jvm.Cond.instanceMethod ({ cls := "PaidToWhisper$Town", name := "spread", desc := "(IIII)I" } : Jvm.MethodName)) ∈ lw_g := gw_mem (i := 320) (by decide +kernel) (by decide +kernel)
theorem wd_321 : (Jvm.Cond.selects "PaidToWhisper$Town" ({ cls := "PaidToWhisper$Town", name := "spread", desc := "(IIII)I" } : Jvm.MethodName) ({ cls := "PaidToWhisper$Town", name := "spread", desc := "(IIII)I" } : Jvm.MethodName)) ∈ lw_g := gw_mem (i := 321) (by decide +kernel) (by decide +kernel)
theorem wd_322 : (Jvm.Cond.code ({ cls := "PaidToWhisper$Town", name := "spread", desc := "(IIII)I" } : Jvm.MethodName) prog_4_method_15_code (9 : Nat) (Option.some Jvm.ClassFile.FieldType.int)) ∈ lw_g := gw_mem (i := 322) (by decide +kernel) (by decide +kernel)
theorem wd_323 : (Jvm.Cond.methodLink "PaidToWhisper$Town" (104 : Nat) ({ cls := "PaidToWhisper$Town", name := "hearing", desc := "(II)I" } : Jvm.MethodName)) ∈ lw_g := gw_mem (i := 323) (by decide +kernel) (by decide +kernel)
theorem wd_325 : (Jvm.Cond.instanceMethod ({ cls := "PaidToWhisper$Town", name := "hearing", desc := "(II)I" } : Jvm.MethodName)) ∈ lw_g := gw_mem (i := 325) (by decide +kernel) (by decide +kernel)
theorem wd_326 : (Jvm.Cond.code ({ cls := "PaidToWhisper$Town", name := "hearing", desc := "(II)I" } : Jvm.MethodName) prog_4_method_17_code (7 : Nat) (Option.some Jvm.ClassFile.FieldType.int)) ∈ lw_g := gw_mem (i := 326) (by decide +kernel) (by decide +kernel)
theorem wd_327 : (Jvm.Cond.methodLink "PaidToWhisper$Town" (107 : Nat) ({ cls := "PaidToWhisper$Town", name := "repeatedBy", desc := "(I)I" } : Jvm.MethodName)) ∈ lw_g := gw_mem (i := 327) (by decide +kernel) (by decide +kernel)
theorem wd_329 : (Jvm.Cond.instanceMethod ({ cls := "PaidToWhisper$Town", name := "repeatedBy", desc := "(I)I" } : Jvm.MethodName)) ∈ lw_g := gw_mem (i := 329) (by decide +kernel) (by decide +kernel)
theorem wd_330 : (Jvm.Cond.code ({ cls := "PaidToWhisper$Town", name := "repeatedBy", desc := "(I)I" } : Jvm.MethodName) prog_4_method_16_code (4 : Nat) (Option.some Jvm.ClassFile.FieldType.int)) ∈ lw_g := gw_mem (i := 330) (by decide +kernel) (by decide +kernel)
theorem wd_331 : (Jvm.Cond.methodLink "PaidToWhisper$Town" (90 : Nat) ({ cls := "PaidToWhisper$Town", name := "knowing", desc := "(I)I" } : Jvm.MethodName)) ∈ lw_g := gw_mem (i := 331) (by decide +kernel) (by decide +kernel)
theorem wd_332 : (Jvm.Cond.methodLink "PaidToWhisper$Town" (93 : Nat) ({ cls := "java/lang/Integer", name := "bitCount", desc := "(I)I" } : Jvm.MethodName)) ∈ lw_g := gw_mem (i := 332) (by decide +kernel) (by decide +kernel)
theorem wd_333 : (Jvm.Cond.static ({ cls := "java/lang/Integer", name := "bitCount", desc := "(I)I" } : Jvm.MethodName)) ∈ lw_g := gw_mem (i := 333) (by decide +kernel) (by decide +kernel)
theorem wd_334 : (Jvm.Cond.code ({ cls := "java/lang/Integer", name := "bitCount", desc := "(I)I" } : Jvm.MethodName) prog_7_method_49_code (1 : Nat) (Option.some Jvm.ClassFile.FieldType.int)) ∈ lw_g := gw_mem (i := 334) (by decide +kernel) (by decide +kernel)
theorem wd_335 : (Jvm.Cond.constant "java/lang/Integer" (265 : Nat) (1431655765 : Int32)) ∈ lw_g := gw_mem (i := 335) (by decide +kernel) (by decide +kernel)
theorem wd_336 : (Jvm.Cond.constant "java/lang/Integer" (266 : Nat) (858993459 : Int32)) ∈ lw_g := gw_mem (i := 336) (by decide +kernel) (by decide +kernel)
theorem wd_337 : (Jvm.Cond.constant "java/lang/Integer" (267 : Nat) (252645135 : Int32)) ∈ lw_g := gw_mem (i := 337) (by decide +kernel) (by decide +kernel)
theorem wd_338 : (Jvm.Cond.methodLink "PaidToWhisperLaw" (60 : Nat) ({ cls := "PaidToWhisper", name := "would", desc := "(II)I" } : Jvm.MethodName)) ∈ lw_g := gw_mem (i := 338) (by decide +kernel) (by decide +kernel)
theorem wd_339 : (Jvm.Cond.instanceMethod ({ cls := "PaidToWhisper", name := "would", desc := "(II)I" } : Jvm.MethodName)) ∈ lw_g := gw_mem (i := 339) (by decide +kernel) (by decide +kernel)
theorem wd_340 : (Jvm.Cond.selects "PaidToWhisper" ({ cls := "PaidToWhisper", name := "would", desc := "(II)I" } : Jvm.MethodName) ({ cls := "PaidToWhisper", name := "would", desc := "(II)I" } : Jvm.MethodName)) ∈ lw_g := gw_mem (i := 340) (by decide +kernel) (by decide +kernel)
theorem wd_341 : (Jvm.Cond.code ({ cls := "PaidToWhisper", name := "would", desc := "(II)I" } : Jvm.MethodName) prog_1_method_13_code (3 : Nat) (Option.some Jvm.ClassFile.FieldType.int)) ∈ lw_g := gw_mem (i := 341) (by decide +kernel) (by decide +kernel)
theorem wd_342 : (Jvm.Cond.methodLink "PaidToWhisper" (115 : Nat) ({ cls := "PaidToWhisper$Town", name := "spread", desc := "(IIII)I" } : Jvm.MethodName)) ∈ lw_g := gw_mem (i := 342) (by decide +kernel) (by decide +kernel)
theorem wd_343 : (Jvm.Cond.methodLink "PaidToWhisperLaw" (64 : Nat) ({ cls := "PaidToWhisper", name := "honey", desc := "()I" } : Jvm.MethodName)) ∈ lw_g := gw_mem (i := 343) (by decide +kernel) (by decide +kernel)
theorem wd_344 : (Jvm.Cond.instanceMethod ({ cls := "PaidToWhisper", name := "honey", desc := "()I" } : Jvm.MethodName)) ∈ lw_g := gw_mem (i := 344) (by decide +kernel) (by decide +kernel)
theorem wd_345 : (Jvm.Cond.selects "PaidToWhisper" ({ cls := "PaidToWhisper", name := "honey", desc := "()I" } : Jvm.MethodName) ({ cls := "PaidToWhisper", name := "honey", desc := "()I" } : Jvm.MethodName)) ∈ lw_g := gw_mem (i := 345) (by decide +kernel) (by decide +kernel)
theorem wd_346 : (Jvm.Cond.code ({ cls := "PaidToWhisper", name := "honey", desc := "()I" } : Jvm.MethodName) prog_1_method_14_code (1 : Nat) (Option.some Jvm.ClassFile.FieldType.int)) ∈ lw_g := gw_mem (i := 346) (by decide +kernel) (by decide +kernel)
theorem wd_347 : (Jvm.Cond.methodLink "PaidToWhisper" (122 : Nat) ({ cls := "PaidToWhisper$Town", name := "sweeten", desc := "()I" } : Jvm.MethodName)) ∈ lw_g := gw_mem (i := 347) (by decide +kernel) (by decide +kernel)
theorem wd_348 : (Jvm.Cond.instanceMethod ({ cls := "PaidToWhisper$Town", name := "sweeten", desc := "()I" } : Jvm.MethodName)) ∈ lw_g := gw_mem (i := 348) (by decide +kernel) (by decide +kernel)
theorem wd_349 : (Jvm.Cond.selects "PaidToWhisper$Town" ({ cls := "PaidToWhisper$Town", name := "sweeten", desc := "()I" } : Jvm.MethodName) ({ cls := "PaidToWhisper$Town", name := "sweeten", desc := "()I" } : Jvm.MethodName)) ∈ lw_g := gw_mem (i := 349) (by decide +kernel) (by decide +kernel)
theorem wd_350 : (Jvm.Cond.code ({ cls := "PaidToWhisper$Town", name := "sweeten", desc := "()I" } : Jvm.MethodName) prog_4_method_8_code (1 : Nat) (Option.some Jvm.ClassFile.FieldType.int)) ∈ lw_g := gw_mem (i := 350) (by decide +kernel) (by decide +kernel)
theorem wd_351 : (Jvm.Cond.methodLink "PaidToWhisper$Town" (98 : Nat) ({ cls := "java/lang/Math", name := "min", desc := "(II)I" } : Jvm.MethodName)) ∈ lw_g := gw_mem (i := 351) (by decide +kernel) (by decide +kernel)
theorem wd_352 : (Jvm.Cond.static ({ cls := "java/lang/Math", name := "min", desc := "(II)I" } : Jvm.MethodName)) ∈ lw_g := gw_mem (i := 352) (by decide +kernel) (by decide +kernel)
theorem wd_353 : (Jvm.Cond.code ({ cls := "java/lang/Math", name := "min", desc := "(II)I" } : Jvm.MethodName) prog_8_method_69_code (2 : Nat) (Option.some Jvm.ClassFile.FieldType.int)) ∈ lw_g := gw_mem (i := 353) (by decide +kernel) (by decide +kernel)
theorem wd_354 : (Jvm.Cond.methodLink "PaidToWhisperLaw" (68 : Nat) ({ cls := "PaidToWhisper", name := "day", desc := "()I" } : Jvm.MethodName)) ∈ lw_g := gw_mem (i := 354) (by decide +kernel) (by decide +kernel)
theorem wd_355 : (Jvm.Cond.instanceMethod ({ cls := "PaidToWhisper", name := "day", desc := "()I" } : Jvm.MethodName)) ∈ lw_g := gw_mem (i := 355) (by decide +kernel) (by decide +kernel)
theorem wd_356 : (Jvm.Cond.selects "PaidToWhisper" ({ cls := "PaidToWhisper", name := "day", desc := "()I" } : Jvm.MethodName) ({ cls := "PaidToWhisper", name := "day", desc := "()I" } : Jvm.MethodName)) ∈ lw_g := gw_mem (i := 356) (by decide +kernel) (by decide +kernel)
theorem wd_357 : (Jvm.Cond.code ({ cls := "PaidToWhisper", name := "day", desc := "()I" } : Jvm.MethodName) prog_1_method_15_code (1 : Nat) (Option.some Jvm.ClassFile.FieldType.int)) ∈ lw_g := gw_mem (i := 357) (by decide +kernel) (by decide +kernel)
theorem wd_358 : (Jvm.Cond.methodLink "PaidToWhisper" (125 : Nat) ({ cls := "PaidToWhisper$Town", name := "sleep", desc := "()I" } : Jvm.MethodName)) ∈ lw_g := gw_mem (i := 358) (by decide +kernel) (by decide +kernel)
theorem wd_359 : (Jvm.Cond.instanceMethod ({ cls := "PaidToWhisper$Town", name := "sleep", desc := "()I" } : Jvm.MethodName)) ∈ lw_g := gw_mem (i := 359) (by decide +kernel) (by decide +kernel)
theorem wd_360 : (Jvm.Cond.selects "PaidToWhisper$Town" ({ cls := "PaidToWhisper$Town", name := "sleep", desc := "()I" } : Jvm.MethodName) ({ cls := "PaidToWhisper$Town", name := "sleep", desc := "()I" } : Jvm.MethodName)) ∈ lw_g := gw_mem (i := 360) (by decide +kernel) (by decide +kernel)
theorem wd_361 : (Jvm.Cond.code ({ cls := "PaidToWhisper$Town", name := "sleep", desc := "()I" } : Jvm.MethodName) prog_4_method_9_code (1 : Nat) (Option.some Jvm.ClassFile.FieldType.int)) ∈ lw_g := gw_mem (i := 361) (by decide +kernel) (by decide +kernel)
theorem wd_362 : (Jvm.Cond.methodLink "PaidToWhisperLaw" (72 : Nat) ({ cls := "PaidToWhisper", name := "decree", desc := "()I" } : Jvm.MethodName)) ∈ lw_g := gw_mem (i := 362) (by decide +kernel) (by decide +kernel)
theorem wd_363 : (Jvm.Cond.instanceMethod ({ cls := "PaidToWhisper", name := "decree", desc := "()I" } : Jvm.MethodName)) ∈ lw_g := gw_mem (i := 363) (by decide +kernel) (by decide +kernel)
theorem wd_364 : (Jvm.Cond.selects "PaidToWhisper" ({ cls := "PaidToWhisper", name := "decree", desc := "()I" } : Jvm.MethodName) ({ cls := "PaidToWhisper", name := "decree", desc := "()I" } : Jvm.MethodName)) ∈ lw_g := gw_mem (i := 364) (by decide +kernel) (by decide +kernel)
theorem wd_365 : (Jvm.Cond.code ({ cls := "PaidToWhisper", name := "decree", desc := "()I" } : Jvm.MethodName) prog_1_method_16_code (1 : Nat) (Option.some Jvm.ClassFile.FieldType.int)) ∈ lw_g := gw_mem (i := 365) (by decide +kernel) (by decide +kernel)
theorem wd_366 : (Jvm.Cond.methodLink "PaidToWhisper" (128 : Nat) ({ cls := "PaidToWhisper$Town", name := "renew", desc := "()I" } : Jvm.MethodName)) ∈ lw_g := gw_mem (i := 366) (by decide +kernel) (by decide +kernel)
theorem wd_367 : (Jvm.Cond.instanceMethod ({ cls := "PaidToWhisper$Town", name := "renew", desc := "()I" } : Jvm.MethodName)) ∈ lw_g := gw_mem (i := 367) (by decide +kernel) (by decide +kernel)
theorem wd_368 : (Jvm.Cond.selects "PaidToWhisper$Town" ({ cls := "PaidToWhisper$Town", name := "renew", desc := "()I" } : Jvm.MethodName) ({ cls := "PaidToWhisper$Town", name := "renew", desc := "()I" } : Jvm.MethodName)) ∈ lw_g := gw_mem (i := 368) (by decide +kernel) (by decide +kernel)
theorem wd_369 : (Jvm.Cond.code ({ cls := "PaidToWhisper$Town", name := "renew", desc := "()I" } : Jvm.MethodName) prog_4_method_10_code (2 : Nat) (Option.some Jvm.ClassFile.FieldType.int)) ∈ lw_g := gw_mem (i := 369) (by decide +kernel) (by decide +kernel)
theorem wd_370 : (Jvm.Cond.methodLink "PaidToWhisperLaw" (76 : Nat) ({ cls := "PaidToWhisper", name := "least", desc := "(I)I" } : Jvm.MethodName)) ∈ lw_g := gw_mem (i := 370) (by decide +kernel) (by decide +kernel)
theorem wd_371 : (Jvm.Cond.instanceMethod ({ cls := "PaidToWhisper", name := "least", desc := "(I)I" } : Jvm.MethodName)) ∈ lw_g := gw_mem (i := 371) (by decide +kernel) (by decide +kernel)
theorem wd_372 : (Jvm.Cond.selects "PaidToWhisper" ({ cls := "PaidToWhisper", name := "least", desc := "(I)I" } : Jvm.MethodName) ({ cls := "PaidToWhisper", name := "least", desc := "(I)I" } : Jvm.MethodName)) ∈ lw_g := gw_mem (i := 372) (by decide +kernel) (by decide +kernel)
theorem wd_373 : (Jvm.Cond.code ({ cls := "PaidToWhisper", name := "least", desc := "(I)I" } : Jvm.MethodName) prog_1_method_17_code (2 : Nat) (Option.some Jvm.ClassFile.FieldType.int)) ∈ lw_g := gw_mem (i := 373) (by decide +kernel) (by decide +kernel)
theorem wd_374 : (Jvm.Cond.methodLink "PaidToWhisper" (131 : Nat) ({ cls := "PaidToWhisper$Inquiry", name := "whisper", desc := "(LPaidToWhisper$Town;)V" } : Jvm.MethodName)) ∈ lw_g := gw_mem (i := 374) (by decide +kernel) (by decide +kernel)
theorem wd_375 : (Jvm.Cond.instanceMethod ({ cls := "PaidToWhisper$Inquiry", name := "whisper", desc := "(LPaidToWhisper$Town;)V" } : Jvm.MethodName)) ∈ lw_g := gw_mem (i := 375) (by decide +kernel) (by decide +kernel)
theorem wd_376 : (Jvm.Cond.selects "PaidToWhisper$Inquiry" ({ cls := "PaidToWhisper$Inquiry", name := "whisper", desc := "(LPaidToWhisper$Town;)V" } : Jvm.MethodName) ({ cls := "PaidToWhisper$Inquiry", name := "whisper", desc := "(LPaidToWhisper$Town;)V" } : Jvm.MethodName)) ∈ lw_g := gw_mem (i := 376) (by decide +kernel) (by decide +kernel)
theorem wd_377 : (Jvm.Cond.code ({ cls := "PaidToWhisper$Inquiry", name := "whisper", desc := "(LPaidToWhisper$Town;)V" } : Jvm.MethodName) prog_2_method_2_code (5 : Nat) (Option.none : Option Jvm.ClassFile.FieldType)) ∈ lw_g := gw_mem (i := 377) (by decide +kernel) (by decide +kernel)
theorem wd_378 : (Jvm.Cond.methodLink "PaidToWhisper$Inquiry" (30 : Nat) ({ cls := "PaidToWhisper$Town", name := "spread", desc := "(IIII)I" } : Jvm.MethodName)) ∈ lw_g := gw_mem (i := 378) (by decide +kernel) (by decide +kernel)
theorem wd_379 : (Jvm.Cond.methodLink "PaidToWhisper$Inquiry" (34 : Nat) ({ cls := "PaidToWhisper$Town", name := "knowing", desc := "(I)I" } : Jvm.MethodName)) ∈ lw_g := gw_mem (i := 379) (by decide +kernel) (by decide +kernel)
theorem wd_380 : (Jvm.Cond.methodLink "PaidToWhisper$Inquiry" (38 : Nat) ({ cls := "java/lang/Integer", name := "bitCount", desc := "(I)I" } : Jvm.MethodName)) ∈ lw_g := gw_mem (i := 380) (by decide +kernel) (by decide +kernel)
theorem wd_381 : (Jvm.Cond.methodLink "PaidToWhisperLaw" (80 : Nat) ({ cls := "PaidToWhisper", name := "cover", desc := "(II)I" } : Jvm.MethodName)) ∈ lw_g := gw_mem (i := 381) (by decide +kernel) (by decide +kernel)
theorem wd_382 : (Jvm.Cond.instanceMethod ({ cls := "PaidToWhisper", name := "cover", desc := "(II)I" } : Jvm.MethodName)) ∈ lw_g := gw_mem (i := 382) (by decide +kernel) (by decide +kernel)
theorem wd_383 : (Jvm.Cond.selects "PaidToWhisper" ({ cls := "PaidToWhisper", name := "cover", desc := "(II)I" } : Jvm.MethodName) ({ cls := "PaidToWhisper", name := "cover", desc := "(II)I" } : Jvm.MethodName)) ∈ lw_g := gw_mem (i := 383) (by decide +kernel) (by decide +kernel)
theorem wd_384 : (Jvm.Cond.code ({ cls := "PaidToWhisper", name := "cover", desc := "(II)I" } : Jvm.MethodName) prog_1_method_18_code (4 : Nat) (Option.some Jvm.ClassFile.FieldType.int)) ∈ lw_g := gw_mem (i := 384) (by decide +kernel) (by decide +kernel)
theorem wd_385 : (Jvm.Cond.methodLink "PaidToWhisper" (141 : Nat) ({ cls := "PaidToWhisper$Town", name := "everyone", desc := "()I" } : Jvm.MethodName)) ∈ lw_g := gw_mem (i := 385) (by decide +kernel) (by decide +kernel)
theorem wd_386 : (Jvm.Cond.instanceMethod ({ cls := "PaidToWhisper$Town", name := "everyone", desc := "()I" } : Jvm.MethodName)) ∈ lw_g := gw_mem (i := 386) (by decide +kernel) (by decide +kernel)
theorem wd_387 : (Jvm.Cond.selects "PaidToWhisper$Town" ({ cls := "PaidToWhisper$Town", name := "everyone", desc := "()I" } : Jvm.MethodName) ({ cls := "PaidToWhisper$Town", name := "everyone", desc := "()I" } : Jvm.MethodName)) ∈ lw_g := gw_mem (i := 387) (by decide +kernel) (by decide +kernel)
theorem wd_388 : (Jvm.Cond.code ({ cls := "PaidToWhisper$Town", name := "everyone", desc := "()I" } : Jvm.MethodName) prog_4_method_6_code (1 : Nat) (Option.some Jvm.ClassFile.FieldType.int)) ∈ lw_g := gw_mem (i := 388) (by decide +kernel) (by decide +kernel)
theorem wd_389 : (Jvm.Cond.methodLink "PaidToWhisper" (144 : Nat) ({ cls := "PaidToWhisper$Inquiry", name := "coverPlan", desc := "(LPaidToWhisper$Town;I)I" } : Jvm.MethodName)) ∈ lw_g := gw_mem (i := 389) (by decide +kernel) (by decide +kernel)
theorem wd_390 : (Jvm.Cond.static ({ cls := "PaidToWhisper$Inquiry", name := "coverPlan", desc := "(LPaidToWhisper$Town;I)I" } : Jvm.MethodName)) ∈ lw_g := gw_mem (i := 390) (by decide +kernel) (by decide +kernel)
theorem wd_391 : (Jvm.Cond.code ({ cls := "PaidToWhisper$Inquiry", name := "coverPlan", desc := "(LPaidToWhisper$Town;I)I" } : Jvm.MethodName) prog_2_method_3_code (4 : Nat) (Option.some Jvm.ClassFile.FieldType.int)) ∈ lw_g := gw_mem (i := 391) (by decide +kernel) (by decide +kernel)
theorem wd_392 : (Jvm.Cond.methodLink "PaidToWhisper$Inquiry" (43 : Nat) ({ cls := "PaidToWhisper$Inquiry", name := "planFrom", desc := "(LPaidToWhisper$Town;IIII)I" } : Jvm.MethodName)) ∈ lw_g := gw_mem (i := 392) (by decide +kernel) (by decide +kernel)
theorem wd_393 : (Jvm.Cond.static ({ cls := "PaidToWhisper$Inquiry", name := "planFrom", desc := "(LPaidToWhisper$Town;IIII)I" } : Jvm.MethodName)) ∈ lw_g := gw_mem (i := 393) (by decide +kernel) (by decide +kernel)
theorem wd_394 : (Jvm.Cond.code ({ cls := "PaidToWhisper$Inquiry", name := "planFrom", desc := "(LPaidToWhisper$Town;IIII)I" } : Jvm.MethodName) prog_2_method_4_code (9 : Nat) (Option.some Jvm.ClassFile.FieldType.int)) ∈ lw_g := gw_mem (i := 394) (by decide +kernel) (by decide +kernel)
theorem wd_395 : (Jvm.Cond.methodLink "PaidToWhisper" (148 : Nat) ({ cls := "PaidToWhisper$Inquiry", name := "partOfPlan", desc := "(II)I" } : Jvm.MethodName)) ∈ lw_g := gw_mem (i := 395) (by decide +kernel) (by decide +kernel)
theorem wd_396 : (Jvm.Cond.static ({ cls := "PaidToWhisper$Inquiry", name := "partOfPlan", desc := "(II)I" } : Jvm.MethodName)) ∈ lw_g := gw_mem (i := 396) (by decide +kernel) (by decide +kernel)
theorem wd_397 : (Jvm.Cond.code ({ cls := "PaidToWhisper$Inquiry", name := "partOfPlan", desc := "(II)I" } : Jvm.MethodName) prog_2_method_5_code (4 : Nat) (Option.some Jvm.ClassFile.FieldType.int)) ∈ lw_g := gw_mem (i := 397) (by decide +kernel) (by decide +kernel)
theorem wd_398 : (Jvm.Cond.methodLink "PaidToWhisperLaw" (84 : Nat) ({ cls := "PaidToWhisper", name := "hush", desc := "(IIII)I" } : Jvm.MethodName)) ∈ lw_g := gw_mem (i := 398) (by decide +kernel) (by decide +kernel)
theorem wd_399 : (Jvm.Cond.instanceMethod ({ cls := "PaidToWhisper", name := "hush", desc := "(IIII)I" } : Jvm.MethodName)) ∈ lw_g := gw_mem (i := 399) (by decide +kernel) (by decide +kernel)
theorem wd_400 : (Jvm.Cond.selects "PaidToWhisper" ({ cls := "PaidToWhisper", name := "hush", desc := "(IIII)I" } : Jvm.MethodName) ({ cls := "PaidToWhisper", name := "hush", desc := "(IIII)I" } : Jvm.MethodName)) ∈ lw_g := gw_mem (i := 400) (by decide +kernel) (by decide +kernel)
theorem wd_401 : (Jvm.Cond.code ({ cls := "PaidToWhisper", name := "hush", desc := "(IIII)I" } : Jvm.MethodName) prog_1_method_19_code (6 : Nat) (Option.some Jvm.ClassFile.FieldType.int)) ∈ lw_g := gw_mem (i := 401) (by decide +kernel) (by decide +kernel)
theorem wd_402 : (Jvm.Cond.methodLink "PaidToWhisper" (151 : Nat) ({ cls := "PaidToWhisper$Inquiry", name := "sentAway", desc := "(LPaidToWhisper$Town;III)I" } : Jvm.MethodName)) ∈ lw_g := gw_mem (i := 402) (by decide +kernel) (by decide +kernel)
theorem wd_403 : (Jvm.Cond.static ({ cls := "PaidToWhisper$Inquiry", name := "sentAway", desc := "(LPaidToWhisper$Town;III)I" } : Jvm.MethodName)) ∈ lw_g := gw_mem (i := 403) (by decide +kernel) (by decide +kernel)
theorem wd_404 : (Jvm.Cond.code ({ cls := "PaidToWhisper$Inquiry", name := "sentAway", desc := "(LPaidToWhisper$Town;III)I" } : Jvm.MethodName) prog_2_method_6_code (9 : Nat) (Option.some Jvm.ClassFile.FieldType.int)) ∈ lw_g := gw_mem (i := 404) (by decide +kernel) (by decide +kernel)
theorem wd_405 : (Jvm.Cond.methodLink "PaidToWhisper$Inquiry" (47 : Nat) ({ cls := "PaidToWhisper$Town", name := "everyone", desc := "()I" } : Jvm.MethodName)) ∈ lw_g := gw_mem (i := 405) (by decide +kernel) (by decide +kernel)
theorem wd_406 : (Jvm.Cond.methodLink "PaidToWhisper$Inquiry" (51 : Nat) ({ cls := "PaidToWhisper$Inquiry", name := "learns", desc := "(LPaidToWhisper$Town;IIII)Z" } : Jvm.MethodName)) ∈ lw_g := gw_mem (i := 406) (by decide +kernel) (by decide +kernel)
theorem wd_407 : (Jvm.Cond.static ({ cls := "PaidToWhisper$Inquiry", name := "learns", desc := "(LPaidToWhisper$Town;IIII)Z" } : Jvm.MethodName)) ∈ lw_g := gw_mem (i := 407) (by decide +kernel) (by decide +kernel)
theorem wd_408 : (Jvm.Cond.code ({ cls := "PaidToWhisper$Inquiry", name := "learns", desc := "(LPaidToWhisper$Town;IIII)Z" } : Jvm.MethodName) prog_2_method_7_code (5 : Nat) (Option.some Jvm.ClassFile.FieldType.boolean)) ∈ lw_g := gw_mem (i := 408) (by decide +kernel) (by decide +kernel)
theorem wd_409 : (Jvm.Cond.methodLink "PaidToWhisper" (155 : Nat) ({ cls := "PaidToWhisper", name := "howMany", desc := "(I)I" } : Jvm.MethodName)) ∈ lw_g := gw_mem (i := 409) (by decide +kernel) (by decide +kernel)
theorem wd_410 : (Jvm.Cond.static ({ cls := "PaidToWhisper", name := "howMany", desc := "(I)I" } : Jvm.MethodName)) ∈ lw_g := gw_mem (i := 410) (by decide +kernel) (by decide +kernel)
theorem wd_411 : (Jvm.Cond.code ({ cls := "PaidToWhisper", name := "howMany", desc := "(I)I" } : Jvm.MethodName) prog_1_method_40_code (1 : Nat) (Option.some Jvm.ClassFile.FieldType.int)) ∈ lw_g := gw_mem (i := 411) (by decide +kernel) (by decide +kernel)
theorem wd_412 : (Jvm.Cond.methodLink "PaidToWhisper" (208 : Nat) ({ cls := "java/lang/Integer", name := "bitCount", desc := "(I)I" } : Jvm.MethodName)) ∈ lw_g := gw_mem (i := 412) (by decide +kernel) (by decide +kernel)
theorem wd_413 : (Jvm.Cond.methodLink "PaidToWhisperLaw" (89 : Nat) ({ cls := "PaidToWhisper", name := "tell", desc := "(IZ)I" } : Jvm.MethodName)) ∈ lw_g := gw_mem (i := 413) (by decide +kernel) (by decide +kernel)
theorem wd_414 : (Jvm.Cond.instanceMethod ({ cls := "PaidToWhisper", name := "tell", desc := "(IZ)I" } : Jvm.MethodName)) ∈ lw_g := gw_mem (i := 414) (by decide +kernel) (by decide +kernel)
theorem wd_415 : (Jvm.Cond.selects "PaidToWhisper" ({ cls := "PaidToWhisper", name := "tell", desc := "(IZ)I" } : Jvm.MethodName) ({ cls := "PaidToWhisper", name := "tell", desc := "(IZ)I" } : Jvm.MethodName)) ∈ lw_g := gw_mem (i := 415) (by decide +kernel) (by decide +kernel)
theorem wd_416 : (Jvm.Cond.code ({ cls := "PaidToWhisper", name := "tell", desc := "(IZ)I" } : Jvm.MethodName) prog_1_method_20_code (3 : Nat) (Option.some Jvm.ClassFile.FieldType.int)) ∈ lw_g := gw_mem (i := 416) (by decide +kernel) (by decide +kernel)
theorem wd_417 : (Jvm.Cond.methodLink "PaidToWhisper" (161 : Nat) ({ cls := "PaidToWhisper$Town", name := "note", desc := "(IZ)I" } : Jvm.MethodName)) ∈ lw_g := gw_mem (i := 417) (by decide +kernel) (by decide +kernel)
theorem wd_418 : (Jvm.Cond.instanceMethod ({ cls := "PaidToWhisper$Town", name := "note", desc := "(IZ)I" } : Jvm.MethodName)) ∈ lw_g := gw_mem (i := 418) (by decide +kernel) (by decide +kernel)
theorem wd_419 : (Jvm.Cond.selects "PaidToWhisper$Town" ({ cls := "PaidToWhisper$Town", name := "note", desc := "(IZ)I" } : Jvm.MethodName) ({ cls := "PaidToWhisper$Town", name := "note", desc := "(IZ)I" } : Jvm.MethodName)) ∈ lw_g := gw_mem (i := 419) (by decide +kernel) (by decide +kernel)
theorem wd_420 : (Jvm.Cond.code ({ cls := "PaidToWhisper$Town", name := "note", desc := "(IZ)I" } : Jvm.MethodName) prog_4_method_11_code (3 : Nat) (Option.some Jvm.ClassFile.FieldType.int)) ∈ lw_g := gw_mem (i := 420) (by decide +kernel) (by decide +kernel)
theorem wd_421 : (Jvm.Cond.methodLink "PaidToWhisperLaw" (94 : Nat) ({ cls := "PaidToWhisper", name := "forget", desc := "()I" } : Jvm.MethodName)) ∈ lw_g := gw_mem (i := 421) (by decide +kernel) (by decide +kernel)
theorem wd_422 : (Jvm.Cond.instanceMethod ({ cls := "PaidToWhisper", name := "forget", desc := "()I" } : Jvm.MethodName)) ∈ lw_g := gw_mem (i := 422) (by decide +kernel) (by decide +kernel)
theorem wd_423 : (Jvm.Cond.selects "PaidToWhisper" ({ cls := "PaidToWhisper", name := "forget", desc := "()I" } : Jvm.MethodName) ({ cls := "PaidToWhisper", name := "forget", desc := "()I" } : Jvm.MethodName)) ∈ lw_g := gw_mem (i := 423) (by decide +kernel) (by decide +kernel)
theorem wd_424 : (Jvm.Cond.code ({ cls := "PaidToWhisper", name := "forget", desc := "()I" } : Jvm.MethodName) prog_1_method_21_code (1 : Nat) (Option.some Jvm.ClassFile.FieldType.int)) ∈ lw_g := gw_mem (i := 424) (by decide +kernel) (by decide +kernel)
theorem wd_425 : (Jvm.Cond.methodLink "PaidToWhisper" (165 : Nat) ({ cls := "PaidToWhisper$Town", name := "dropTold", desc := "()I" } : Jvm.MethodName)) ∈ lw_g := gw_mem (i := 425) (by decide +kernel) (by decide +kernel)
theorem wd_426 : (Jvm.Cond.methodLink "PaidToWhisperLaw" (98 : Nat) ({ cls := "PaidToWhisper", name := "where", desc := "(I)I" } : Jvm.MethodName)) ∈ lw_g := gw_mem (i := 426) (by decide +kernel) (by decide +kernel)
theorem wd_427 : (Jvm.Cond.instanceMethod ({ cls := "PaidToWhisper", name := "where", desc := "(I)I" } : Jvm.MethodName)) ∈ lw_g := gw_mem (i := 427) (by decide +kernel) (by decide +kernel)
theorem wd_428 : (Jvm.Cond.selects "PaidToWhisper" ({ cls := "PaidToWhisper", name := "where", desc := "(I)I" } : Jvm.MethodName) ({ cls := "PaidToWhisper", name := "where", desc := "(I)I" } : Jvm.MethodName)) ∈ lw_g := gw_mem (i := 428) (by decide +kernel) (by decide +kernel)
theorem wd_429 : (Jvm.Cond.code ({ cls := "PaidToWhisper", name := "where", desc := "(I)I" } : Jvm.MethodName) prog_1_method_22_code (2 : Nat) (Option.some Jvm.ClassFile.FieldType.int)) ∈ lw_g := gw_mem (i := 429) (by decide +kernel) (by decide +kernel)
theorem wd_430 : (Jvm.Cond.methodLink "PaidToWhisper" (168 : Nat) ({ cls := "PaidToWhisper$Inquiry", name := "seek", desc := "(LPaidToWhisper$Town;)V" } : Jvm.MethodName)) ∈ lw_g := gw_mem (i := 430) (by decide +kernel) (by decide +kernel)
theorem wd_431 : (Jvm.Cond.instanceMethod ({ cls := "PaidToWhisper$Inquiry", name := "seek", desc := "(LPaidToWhisper$Town;)V" } : Jvm.MethodName)) ∈ lw_g := gw_mem (i := 431) (by decide +kernel) (by decide +kernel)
theorem wd_432 : (Jvm.Cond.selects "PaidToWhisper$Inquiry" ({ cls := "PaidToWhisper$Inquiry", name := "seek", desc := "(LPaidToWhisper$Town;)V" } : Jvm.MethodName) ({ cls := "PaidToWhisper$Inquiry", name := "seek", desc := "(LPaidToWhisper$Town;)V" } : Jvm.MethodName)) ∈ lw_g := gw_mem (i := 432) (by decide +kernel) (by decide +kernel)
theorem wd_433 : (Jvm.Cond.code ({ cls := "PaidToWhisper$Inquiry", name := "seek", desc := "(LPaidToWhisper$Town;)V" } : Jvm.MethodName) prog_2_method_8_code (5 : Nat) (Option.none : Option Jvm.ClassFile.FieldType)) ∈ lw_g := gw_mem (i := 433) (by decide +kernel) (by decide +kernel)
theorem wd_434 : (Jvm.Cond.methodLink "PaidToWhisper$Inquiry" (61 : Nat) ({ cls := "PaidToWhisper$Town", name := "isAsTold", desc := "(I)Z" } : Jvm.MethodName)) ∈ lw_g := gw_mem (i := 434) (by decide +kernel) (by decide +kernel)
theorem wd_435 : (Jvm.Cond.instanceMethod ({ cls := "PaidToWhisper$Town", name := "isAsTold", desc := "(I)Z" } : Jvm.MethodName)) ∈ lw_g := gw_mem (i := 435) (by decide +kernel) (by decide +kernel)
theorem wd_436 : (Jvm.Cond.selects "PaidToWhisper$Town" ({ cls := "PaidToWhisper$Town", name := "isAsTold", desc := "(I)Z" } : Jvm.MethodName) ({ cls := "PaidToWhisper$Town", name := "isAsTold", desc := "(I)Z" } : Jvm.MethodName)) ∈ lw_g := gw_mem (i := 436) (by decide +kernel) (by decide +kernel)
theorem wd_437 : (Jvm.Cond.code ({ cls := "PaidToWhisper$Town", name := "isAsTold", desc := "(I)Z" } : Jvm.MethodName) prog_4_method_13_code (2 : Nat) (Option.some Jvm.ClassFile.FieldType.boolean)) ∈ lw_g := gw_mem (i := 437) (by decide +kernel) (by decide +kernel)
theorem wd_438 : (Jvm.Cond.methodLink "PaidToWhisper$Inquiry" (65 : Nat) ({ cls := "PaidToWhisper$Inquiry", name := "tally", desc := "(I)V" } : Jvm.MethodName)) ∈ lw_g := gw_mem (i := 438) (by decide +kernel) (by decide +kernel)
theorem wd_440 : (Jvm.Cond.instanceMethod ({ cls := "PaidToWhisper$Inquiry", name := "tally", desc := "(I)V" } : Jvm.MethodName)) ∈ lw_g := gw_mem (i := 440) (by decide +kernel) (by decide +kernel)
theorem wd_441 : (Jvm.Cond.code ({ cls := "PaidToWhisper$Inquiry", name := "tally", desc := "(I)V" } : Jvm.MethodName) prog_2_method_9_code (3 : Nat) (Option.none : Option Jvm.ClassFile.FieldType)) ∈ lw_g := gw_mem (i := 441) (by decide +kernel) (by decide +kernel)
theorem wd_442 : (Jvm.Cond.methodLink "PaidToWhisperLaw" (102 : Nat) ({ cls := "PaidToWhisper", name := "ask", desc := "()I" } : Jvm.MethodName)) ∈ lw_g := gw_mem (i := 442) (by decide +kernel) (by decide +kernel)
theorem wd_443 : (Jvm.Cond.instanceMethod ({ cls := "PaidToWhisper", name := "ask", desc := "()I" } : Jvm.MethodName)) ∈ lw_g := gw_mem (i := 443) (by decide +kernel) (by decide +kernel)
theorem wd_444 : (Jvm.Cond.selects "PaidToWhisper" ({ cls := "PaidToWhisper", name := "ask", desc := "()I" } : Jvm.MethodName) ({ cls := "PaidToWhisper", name := "ask", desc := "()I" } : Jvm.MethodName)) ∈ lw_g := gw_mem (i := 444) (by decide +kernel) (by decide +kernel)
theorem wd_445 : (Jvm.Cond.code ({ cls := "PaidToWhisper", name := "ask", desc := "()I" } : Jvm.MethodName) prog_1_method_23_code (1 : Nat) (Option.some Jvm.ClassFile.FieldType.int)) ∈ lw_g := gw_mem (i := 445) (by decide +kernel) (by decide +kernel)
theorem wd_446 : (Jvm.Cond.methodLink "PaidToWhisper" (180 : Nat) ({ cls := "PaidToWhisper$Inquiry", name := "bestAsked", desc := "(I)I" } : Jvm.MethodName)) ∈ lw_g := gw_mem (i := 446) (by decide +kernel) (by decide +kernel)
theorem wd_447 : (Jvm.Cond.instanceMethod ({ cls := "PaidToWhisper$Inquiry", name := "bestAsked", desc := "(I)I" } : Jvm.MethodName)) ∈ lw_g := gw_mem (i := 447) (by decide +kernel) (by decide +kernel)
theorem wd_448 : (Jvm.Cond.selects "PaidToWhisper$Inquiry" ({ cls := "PaidToWhisper$Inquiry", name := "bestAsked", desc := "(I)I" } : Jvm.MethodName) ({ cls := "PaidToWhisper$Inquiry", name := "bestAsked", desc := "(I)I" } : Jvm.MethodName)) ∈ lw_g := gw_mem (i := 448) (by decide +kernel) (by decide +kernel)
theorem wd_449 : (Jvm.Cond.code ({ cls := "PaidToWhisper$Inquiry", name := "bestAsked", desc := "(I)I" } : Jvm.MethodName) prog_2_method_10_code (6 : Nat) (Option.some Jvm.ClassFile.FieldType.int)) ∈ lw_g := gw_mem (i := 449) (by decide +kernel) (by decide +kernel)
theorem wd_450 : (Jvm.Cond.methodLink "PaidToWhisper$Inquiry" (69 : Nat) ({ cls := "java/lang/Math", name := "max", desc := "(II)I" } : Jvm.MethodName)) ∈ lw_g := gw_mem (i := 450) (by decide +kernel) (by decide +kernel)
theorem wd_451 : (Jvm.Cond.static ({ cls := "java/lang/Math", name := "max", desc := "(II)I" } : Jvm.MethodName)) ∈ lw_g := gw_mem (i := 451) (by decide +kernel) (by decide +kernel)
theorem wd_452 : (Jvm.Cond.code ({ cls := "java/lang/Math", name := "max", desc := "(II)I" } : Jvm.MethodName) prog_8_method_65_code (2 : Nat) (Option.some Jvm.ClassFile.FieldType.int)) ∈ lw_g := gw_mem (i := 452) (by decide +kernel) (by decide +kernel)
theorem wd_453 : (Jvm.Cond.methodLink "PaidToWhisperLaw" (106 : Nat) ({ cls := "PaidToWhisper", name := "days", desc := "(III)I" } : Jvm.MethodName)) ∈ lw_g := gw_mem (i := 453) (by decide +kernel) (by decide +kernel)
theorem wd_454 : (Jvm.Cond.instanceMethod ({ cls := "PaidToWhisper", name := "days", desc := "(III)I" } : Jvm.MethodName)) ∈ lw_g := gw_mem (i := 454) (by decide +kernel) (by decide +kernel)
theorem wd_455 : (Jvm.Cond.selects "PaidToWhisper" ({ cls := "PaidToWhisper", name := "days", desc := "(III)I" } : Jvm.MethodName) ({ cls := "PaidToWhisper", name := "days", desc := "(III)I" } : Jvm.MethodName)) ∈ lw_g := gw_mem (i := 455) (by decide +kernel) (by decide +kernel)
theorem wd_456 : (Jvm.Cond.code ({ cls := "PaidToWhisper", name := "days", desc := "(III)I" } : Jvm.MethodName) prog_1_method_24_code (4 : Nat) (Option.some Jvm.ClassFile.FieldType.int)) ∈ lw_g := gw_mem (i := 456) (by decide +kernel) (by decide +kernel)
theorem wd_457 : (Jvm.Cond.methodLink "PaidToWhisper" (183 : Nat) ({ cls := "PaidToWhisper$Inquiry", name := "live", desc := "(LPaidToWhisper$Town;II)V" } : Jvm.MethodName)) ∈ lw_g := gw_mem (i := 457) (by decide +kernel) (by decide +kernel)
theorem wd_458 : (Jvm.Cond.instanceMethod ({ cls := "PaidToWhisper$Inquiry", name := "live", desc := "(LPaidToWhisper$Town;II)V" } : Jvm.MethodName)) ∈ lw_g := gw_mem (i := 458) (by decide +kernel) (by decide +kernel)
theorem wd_459 : (Jvm.Cond.selects "PaidToWhisper$Inquiry" ({ cls := "PaidToWhisper$Inquiry", name := "live", desc := "(LPaidToWhisper$Town;II)V" } : Jvm.MethodName) ({ cls := "PaidToWhisper$Inquiry", name := "live", desc := "(LPaidToWhisper$Town;II)V" } : Jvm.MethodName)) ∈ lw_g := gw_mem (i := 459) (by decide +kernel) (by decide +kernel)
theorem wd_460 : (Jvm.Cond.code ({ cls := "PaidToWhisper$Inquiry", name := "live", desc := "(LPaidToWhisper$Town;II)V" } : Jvm.MethodName) prog_2_method_11_code (7 : Nat) (Option.none : Option Jvm.ClassFile.FieldType)) ∈ lw_g := gw_mem (i := 460) (by decide +kernel) (by decide +kernel)
theorem wd_461 : (Jvm.Cond.methodLink "PaidToWhisper$Inquiry" (84 : Nat) ({ cls := "PaidToWhisper$Inquiry", name := "draw", desc := "(I)I" } : Jvm.MethodName)) ∈ lw_g := gw_mem (i := 461) (by decide +kernel) (by decide +kernel)
theorem wd_463 : (Jvm.Cond.instanceMethod ({ cls := "PaidToWhisper$Inquiry", name := "draw", desc := "(I)I" } : Jvm.MethodName)) ∈ lw_g := gw_mem (i := 463) (by decide +kernel) (by decide +kernel)
theorem wd_464 : (Jvm.Cond.code ({ cls := "PaidToWhisper$Inquiry", name := "draw", desc := "(I)I" } : Jvm.MethodName) prog_2_method_12_code (2 : Nat) (Option.some Jvm.ClassFile.FieldType.int)) ∈ lw_g := gw_mem (i := 464) (by decide +kernel) (by decide +kernel)
theorem wd_465 : (Jvm.Cond.constantLong "PaidToWhisper$Inquiry" (87 : Nat) (1103515245 : Int64)) ∈ lw_g := gw_mem (i := 465) (by decide +kernel) (by decide +kernel)
theorem wd_466 : (Jvm.Cond.constantLong "PaidToWhisper$Inquiry" (89 : Nat) (12345 : Int64)) ∈ lw_g := gw_mem (i := 466) (by decide +kernel) (by decide +kernel)
theorem wd_467 : (Jvm.Cond.constantLong "PaidToWhisper$Inquiry" (91 : Nat) (2147483647 : Int64)) ∈ lw_g := gw_mem (i := 467) (by decide +kernel) (by decide +kernel)
theorem wd_468 : (Jvm.Cond.constant "PaidToWhisper$Inquiry" (93 : Nat) (65536 : Int32)) ∈ lw_g := gw_mem (i := 468) (by decide +kernel) (by decide +kernel)
theorem wd_469 : (Jvm.Cond.methodLink "PaidToWhisperLaw" (111 : Nat) ({ cls := "PaidToWhisper", name := "image", desc := "()I" } : Jvm.MethodName)) ∈ lw_g := gw_mem (i := 469) (by decide +kernel) (by decide +kernel)
theorem wd_470 : (Jvm.Cond.instanceMethod ({ cls := "PaidToWhisper", name := "image", desc := "()I" } : Jvm.MethodName)) ∈ lw_g := gw_mem (i := 470) (by decide +kernel) (by decide +kernel)
theorem wd_471 : (Jvm.Cond.selects "PaidToWhisper" ({ cls := "PaidToWhisper", name := "image", desc := "()I" } : Jvm.MethodName) ({ cls := "PaidToWhisper", name := "image", desc := "()I" } : Jvm.MethodName)) ∈ lw_g := gw_mem (i := 471) (by decide +kernel) (by decide +kernel)
theorem wd_472 : (Jvm.Cond.code ({ cls := "PaidToWhisper", name := "image", desc := "()I" } : Jvm.MethodName) prog_1_method_25_code (1 : Nat) (Option.some Jvm.ClassFile.FieldType.int)) ∈ lw_g := gw_mem (i := 472) (by decide +kernel) (by decide +kernel)
theorem wd_473 : (Jvm.Cond.methodLink "PaidToWhisper" (196 : Nat) ({ cls := "PaidToWhisper$Town", name := "copy", desc := "(LPaidToWhisper$Town;)V" } : Jvm.MethodName)) ∈ lw_g := gw_mem (i := 473) (by decide +kernel) (by decide +kernel)
theorem wd_474 : (Jvm.Cond.instanceMethod ({ cls := "PaidToWhisper$Town", name := "copy", desc := "(LPaidToWhisper$Town;)V" } : Jvm.MethodName)) ∈ lw_g := gw_mem (i := 474) (by decide +kernel) (by decide +kernel)
theorem wd_475 : (Jvm.Cond.selects "PaidToWhisper$Town" ({ cls := "PaidToWhisper$Town", name := "copy", desc := "(LPaidToWhisper$Town;)V" } : Jvm.MethodName) ({ cls := "PaidToWhisper$Town", name := "copy", desc := "(LPaidToWhisper$Town;)V" } : Jvm.MethodName)) ∈ lw_g := gw_mem (i := 475) (by decide +kernel) (by decide +kernel)
theorem wd_476 : (Jvm.Cond.code ({ cls := "PaidToWhisper$Town", name := "copy", desc := "(LPaidToWhisper$Town;)V" } : Jvm.MethodName) prog_4_method_3_code (2 : Nat) (Option.none : Option Jvm.ClassFile.FieldType)) ∈ lw_g := gw_mem (i := 476) (by decide +kernel) (by decide +kernel)
theorem wd_477 : (Jvm.Cond.methodLink "PaidToWhisper$Town" (65 : Nat) ({ cls := "java/lang/System", name := "arraycopy", desc := "(Ljava/lang/Object;ILjava/lang/Object;II)V" } : Jvm.MethodName)) ∈ lw_g := gw_mem (i := 477) (by decide +kernel) (by decide +kernel)
theorem wd_478 : (Jvm.Cond.static ({ cls := "java/lang/System", name := "arraycopy", desc := "(Ljava/lang/Object;ILjava/lang/Object;II)V" } : Jvm.MethodName)) ∈ lw_g := gw_mem (i := 478) (by decide +kernel) (by decide +kernel)
theorem wd_479 : (Jvm.Cond.native ({ cls := "java/lang/System", name := "arraycopy", desc := "(Ljava/lang/Object;ILjava/lang/Object;II)V" } : Jvm.MethodName)) ∈ lw_g := gw_mem (i := 479) (by decide +kernel) (by decide +kernel)
theorem wd_480 : (Jvm.Cond.methodLink "PaidToWhisperLaw" (115 : Nat) ({ cls := "PaidToWhisper", name := "restore", desc := "()I" } : Jvm.MethodName)) ∈ lw_g := gw_mem (i := 480) (by decide +kernel) (by decide +kernel)
theorem wd_481 : (Jvm.Cond.instanceMethod ({ cls := "PaidToWhisper", name := "restore", desc := "()I" } : Jvm.MethodName)) ∈ lw_g := gw_mem (i := 481) (by decide +kernel) (by decide +kernel)
theorem wd_482 : (Jvm.Cond.selects "PaidToWhisper" ({ cls := "PaidToWhisper", name := "restore", desc := "()I" } : Jvm.MethodName) ({ cls := "PaidToWhisper", name := "restore", desc := "()I" } : Jvm.MethodName)) ∈ lw_g := gw_mem (i := 482) (by decide +kernel) (by decide +kernel)
theorem wd_483 : (Jvm.Cond.code ({ cls := "PaidToWhisper", name := "restore", desc := "()I" } : Jvm.MethodName) prog_1_method_26_code (1 : Nat) (Option.some Jvm.ClassFile.FieldType.int)) ∈ lw_g := gw_mem (i := 483) (by decide +kernel) (by decide +kernel)
theorem wd_484 : (Jvm.Cond.methodLink "PaidToWhisperLaw" (119 : Nat) ({ cls := "PaidToWhisper", name := "count", desc := "(I)I" } : Jvm.MethodName)) ∈ lw_g := gw_mem (i := 484) (by decide +kernel) (by decide +kernel)
theorem wd_485 : (Jvm.Cond.instanceMethod ({ cls := "PaidToWhisper", name := "count", desc := "(I)I" } : Jvm.MethodName)) ∈ lw_g := gw_mem (i := 485) (by decide +kernel) (by decide +kernel)
theorem wd_486 : (Jvm.Cond.selects "PaidToWhisper" ({ cls := "PaidToWhisper", name := "count", desc := "(I)I" } : Jvm.MethodName) ({ cls := "PaidToWhisper", name := "count", desc := "(I)I" } : Jvm.MethodName)) ∈ lw_g := gw_mem (i := 486) (by decide +kernel) (by decide +kernel)
theorem wd_487 : (Jvm.Cond.code ({ cls := "PaidToWhisper", name := "count", desc := "(I)I" } : Jvm.MethodName) prog_1_method_27_code (2 : Nat) (Option.some Jvm.ClassFile.FieldType.int)) ∈ lw_g := gw_mem (i := 487) (by decide +kernel) (by decide +kernel)
theorem wd_488 : (Jvm.Cond.methodLink "PaidToWhisperLaw" (123 : Nat) ({ cls := "PaidToWhisper", name := "digest", desc := "()J" } : Jvm.MethodName)) ∈ lw_g := gw_mem (i := 488) (by decide +kernel) (by decide +kernel)
theorem wd_489 : (Jvm.Cond.instanceMethod ({ cls := "PaidToWhisper", name := "digest", desc := "()J" } : Jvm.MethodName)) ∈ lw_g := gw_mem (i := 489) (by decide +kernel) (by decide +kernel)
theorem wd_490 : (Jvm.Cond.selects "PaidToWhisper" ({ cls := "PaidToWhisper", name := "digest", desc := "()J" } : Jvm.MethodName) ({ cls := "PaidToWhisper", name := "digest", desc := "()J" } : Jvm.MethodName)) ∈ lw_g := gw_mem (i := 490) (by decide +kernel) (by decide +kernel)
theorem wd_491 : (Jvm.Cond.code ({ cls := "PaidToWhisper", name := "digest", desc := "()J" } : Jvm.MethodName) prog_1_method_28_code (4 : Nat) (Option.some Jvm.ClassFile.FieldType.long)) ∈ lw_g := gw_mem (i := 491) (by decide +kernel) (by decide +kernel)
theorem wd_492 : (Jvm.Cond.constantLong "PaidToWhisper" (219 : Nat) (1009 : Int64)) ∈ lw_g := gw_mem (i := 492) (by decide +kernel) (by decide +kernel)
theorem wd_493 : (Jvm.Cond.methodLink "PaidToWhisper" (221 : Nat) ({ cls := "PaidToWhisper", name := "foldListeners", desc := "(J)J" } : Jvm.MethodName)) ∈ lw_g := gw_mem (i := 493) (by decide +kernel) (by decide +kernel)
theorem wd_495 : (Jvm.Cond.instanceMethod ({ cls := "PaidToWhisper", name := "foldListeners", desc := "(J)J" } : Jvm.MethodName)) ∈ lw_g := gw_mem (i := 495) (by decide +kernel) (by decide +kernel)
theorem wd_496 : (Jvm.Cond.code ({ cls := "PaidToWhisper", name := "foldListeners", desc := "(J)J" } : Jvm.MethodName) prog_1_method_29_code (7 : Nat) (Option.some Jvm.ClassFile.FieldType.long)) ∈ lw_g := gw_mem (i := 496) (by decide +kernel) (by decide +kernel)
theorem wd_497 : (Jvm.Cond.methodLink "PaidToWhisper" (241 : Nat) ({ cls := "PaidToWhisper", name := "about", desc := "(II)I" } : Jvm.MethodName)) ∈ lw_g := gw_mem (i := 497) (by decide +kernel) (by decide +kernel)
theorem wd_498 : (Jvm.Cond.methodLink "PaidToWhisper" (234 : Nat) ({ cls := "PaidToWhisper", name := "fold", desc := "(JJ)J" } : Jvm.MethodName)) ∈ lw_g := gw_mem (i := 498) (by decide +kernel) (by decide +kernel)
theorem wd_499 : (Jvm.Cond.static ({ cls := "PaidToWhisper", name := "fold", desc := "(JJ)J" } : Jvm.MethodName)) ∈ lw_g := gw_mem (i := 499) (by decide +kernel) (by decide +kernel)
theorem wd_500 : (Jvm.Cond.code ({ cls := "PaidToWhisper", name := "fold", desc := "(JJ)J" } : Jvm.MethodName) prog_1_method_32_code (4 : Nat) (Option.some Jvm.ClassFile.FieldType.long)) ∈ lw_g := gw_mem (i := 500) (by decide +kernel) (by decide +kernel)
theorem wd_501 : (Jvm.Cond.constantLong "PaidToWhisper" (258 : Nat) (31 : Int64)) ∈ lw_g := gw_mem (i := 501) (by decide +kernel) (by decide +kernel)
theorem wd_502 : (Jvm.Cond.methodLink "PaidToWhisper" (225 : Nat) ({ cls := "PaidToWhisper", name := "foldPlaces", desc := "(J)J" } : Jvm.MethodName)) ∈ lw_g := gw_mem (i := 502) (by decide +kernel) (by decide +kernel)
theorem wd_504 : (Jvm.Cond.instanceMethod ({ cls := "PaidToWhisper", name := "foldPlaces", desc := "(J)J" } : Jvm.MethodName)) ∈ lw_g := gw_mem (i := 504) (by decide +kernel) (by decide +kernel)
theorem wd_505 : (Jvm.Cond.code ({ cls := "PaidToWhisper", name := "foldPlaces", desc := "(J)J" } : Jvm.MethodName) prog_1_method_30_code (6 : Nat) (Option.some Jvm.ClassFile.FieldType.long)) ∈ lw_g := gw_mem (i := 505) (by decide +kernel) (by decide +kernel)
theorem wd_506 : (Jvm.Cond.methodLink "PaidToWhisper" (244 : Nat) ({ cls := "PaidToWhisper", name := "noise", desc := "(I)I" } : Jvm.MethodName)) ∈ lw_g := gw_mem (i := 506) (by decide +kernel) (by decide +kernel)
theorem wd_507 : (Jvm.Cond.methodLink "PaidToWhisper" (246 : Nat) ({ cls := "PaidToWhisper", name := "would", desc := "(II)I" } : Jvm.MethodName)) ∈ lw_g := gw_mem (i := 507) (by decide +kernel) (by decide +kernel)
theorem wd_508 : (Jvm.Cond.methodLink "PaidToWhisper" (228 : Nat) ({ cls := "PaidToWhisper", name := "foldQuestions", desc := "(J)J" } : Jvm.MethodName)) ∈ lw_g := gw_mem (i := 508) (by decide +kernel) (by decide +kernel)
theorem wd_510 : (Jvm.Cond.instanceMethod ({ cls := "PaidToWhisper", name := "foldQuestions", desc := "(J)J" } : Jvm.MethodName)) ∈ lw_g := gw_mem (i := 510) (by decide +kernel) (by decide +kernel)
theorem wd_511 : (Jvm.Cond.code ({ cls := "PaidToWhisper", name := "foldQuestions", desc := "(J)J" } : Jvm.MethodName) prog_1_method_31_code (7 : Nat) (Option.some Jvm.ClassFile.FieldType.long)) ∈ lw_g := gw_mem (i := 511) (by decide +kernel) (by decide +kernel)
theorem wd_512 : (Jvm.Cond.methodLink "PaidToWhisper" (249 : Nat) ({ cls := "PaidToWhisper", name := "least", desc := "(I)I" } : Jvm.MethodName)) ∈ lw_g := gw_mem (i := 512) (by decide +kernel) (by decide +kernel)
theorem wd_513 : (Jvm.Cond.methodLink "PaidToWhisper" (252 : Nat) ({ cls := "PaidToWhisper", name := "where", desc := "(I)I" } : Jvm.MethodName)) ∈ lw_g := gw_mem (i := 513) (by decide +kernel) (by decide +kernel)
theorem wd_514 : (Jvm.Cond.methodLink "PaidToWhisper" (255 : Nat) ({ cls := "PaidToWhisper", name := "ask", desc := "()I" } : Jvm.MethodName)) ∈ lw_g := gw_mem (i := 514) (by decide +kernel) (by decide +kernel)
theorem wd_515 : (Jvm.Cond.methodLink "PaidToWhisper" (238 : Nat) ({ cls := "PaidToWhisper", name := "count", desc := "(I)I" } : Jvm.MethodName)) ∈ lw_g := gw_mem (i := 515) (by decide +kernel) (by decide +kernel)
theorem wd_516 : (Jvm.Cond.classLink "PaidToWhisperLaw" (10 : Nat) "PaidToWhisperModel") ∈ lw_g := gw_mem (i := 516) (by decide +kernel) (by decide +kernel)
theorem wd_517 : (Jvm.Cond.instantiable "PaidToWhisperModel" (29 : Nat)) ∈ lw_g := gw_mem (i := 517) (by decide +kernel) (by decide +kernel)
theorem wd_518 : (Jvm.Cond.methodLink "PaidToWhisperLaw" (12 : Nat) ({ cls := "PaidToWhisperModel", name := "<init>", desc := "()V" } : Jvm.MethodName)) ∈ lw_g := gw_mem (i := 518) (by decide +kernel) (by decide +kernel)
theorem wd_519 : (Jvm.Cond.instanceMethod ({ cls := "PaidToWhisperModel", name := "<init>", desc := "()V" } : Jvm.MethodName)) ∈ lw_g := gw_mem (i := 519) (by decide +kernel) (by decide +kernel)
theorem wd_520 : (Jvm.Cond.code ({ cls := "PaidToWhisperModel", name := "<init>", desc := "()V" } : Jvm.MethodName) prog_6_method_1_code (1 : Nat) (Option.none : Option Jvm.ClassFile.FieldType)) ∈ lw_g := gw_mem (i := 520) (by decide +kernel) (by decide +kernel)
theorem wd_521 : (Jvm.Cond.methodLink "PaidToWhisperModel" (1 : Nat) ({ cls := "java/lang/Object", name := "<init>", desc := "()V" } : Jvm.MethodName)) ∈ lw_g := gw_mem (i := 521) (by decide +kernel) (by decide +kernel)
theorem wd_522 : (Jvm.Cond.fieldLink "PaidToWhisperModel" (7 : Nat) "PaidToWhisperModel" "page" "[I") ∈ lw_g := gw_mem (i := 522) (by decide +kernel) (by decide +kernel)
theorem wd_523 : (Jvm.Cond.fieldLink "PaidToWhisperModel" (44 : Nat) "PaidToWhisperModel" "pageMany" "I") ∈ lw_g := gw_mem (i := 523) (by decide +kernel) (by decide +kernel)
theorem wd_524 : (Jvm.Cond.fieldLink "PaidToWhisperModel" (59 : Nat) "PaidToWhisperModel" "voiceFirst" "I") ∈ lw_g := gw_mem (i := 524) (by decide +kernel) (by decide +kernel)
theorem wd_525 : (Jvm.Cond.fieldLink "PaidToWhisperModel" (62 : Nat) "PaidToWhisperModel" "voice" "I") ∈ lw_g := gw_mem (i := 525) (by decide +kernel) (by decide +kernel)
theorem wd_526 : (Jvm.Cond.fieldLink "PaidToWhisperModel" (65 : Nat) "PaidToWhisperModel" "lawMany" "I") ∈ lw_g := gw_mem (i := 526) (by decide +kernel) (by decide +kernel)
theorem wd_527 : (Jvm.Cond.fieldLink "PaidToWhisperModel" (68 : Nat) "PaidToWhisperModel" "cries" "I") ∈ lw_g := gw_mem (i := 527) (by decide +kernel) (by decide +kernel)
theorem wd_528 : (Jvm.Cond.fieldLink "PaidToWhisperModel" (71 : Nat) "PaidToWhisperModel" "heardBits" "I") ∈ lw_g := gw_mem (i := 528) (by decide +kernel) (by decide +kernel)
theorem wd_529 : (Jvm.Cond.fieldLink "PaidToWhisperModel" (74 : Nat) "PaidToWhisperModel" "decrees" "I") ∈ lw_g := gw_mem (i := 529) (by decide +kernel) (by decide +kernel)
theorem wd_530 : (Jvm.Cond.fieldLink "PaidToWhisperModel" (77 : Nat) "PaidToWhisperModel" "daysNow" "I") ∈ lw_g := gw_mem (i := 530) (by decide +kernel) (by decide +kernel)
theorem wd_531 : (Jvm.Cond.fieldLink "PaidToWhisperModel" (86 : Nat) "PaidToWhisperModel" "townsRead" "I") ∈ lw_g := gw_mem (i := 531) (by decide +kernel) (by decide +kernel)
theorem wd_532 : (Jvm.Cond.fieldLink "PaidToWhisperModel" (13 : Nat) "PaidToWhisperModel" "noises" "[I") ∈ lw_g := gw_mem (i := 532) (by decide +kernel) (by decide +kernel)
theorem wd_533 : (Jvm.Cond.fieldLink "PaidToWhisperModel" (80 : Nat) "PaidToWhisperModel" "listeners" "I") ∈ lw_g := gw_mem (i := 533) (by decide +kernel) (by decide +kernel)
theorem wd_534 : (Jvm.Cond.fieldLink "PaidToWhisperModel" (16 : Nat) "PaidToWhisperModel" "rows" "[I") ∈ lw_g := gw_mem (i := 534) (by decide +kernel) (by decide +kernel)
theorem wd_535 : (Jvm.Cond.fieldLink "PaidToWhisperModel" (19 : Nat) "PaidToWhisperModel" "row" "[I") ∈ lw_g := gw_mem (i := 535) (by decide +kernel) (by decide +kernel)
theorem wd_536 : (Jvm.Cond.fieldLink "PaidToWhisperModel" (83 : Nat) "PaidToWhisperModel" "toldMany" "I") ∈ lw_g := gw_mem (i := 536) (by decide +kernel) (by decide +kernel)
theorem wd_537 : (Jvm.Cond.fieldLink "PaidToWhisperModel" (22 : Nat) "PaidToWhisperModel" "told" "[I") ∈ lw_g := gw_mem (i := 537) (by decide +kernel) (by decide +kernel)
theorem wd_538 : (Jvm.Cond.fieldLink "PaidToWhisperModel" (164 : Nat) "PaidToWhisperModel" "seedNow" "I") ∈ lw_g := gw_mem (i := 538) (by decide +kernel) (by decide +kernel)
theorem wd_539 : (Jvm.Cond.fieldLink "PaidToWhisperModel" (34 : Nat) "PaidToWhisperModel" "keptTown" "I") ∈ lw_g := gw_mem (i := 539) (by decide +kernel) (by decide +kernel)
theorem wd_540 : (Jvm.Cond.fieldLink "PaidToWhisperModel" (183 : Nat) "PaidToWhisperModel" "keptListeners" "I") ∈ lw_g := gw_mem (i := 540) (by decide +kernel) (by decide +kernel)
theorem wd_541 : (Jvm.Cond.fieldLink "PaidToWhisperModel" (186 : Nat) "PaidToWhisperModel" "keptVoice" "I") ∈ lw_g := gw_mem (i := 541) (by decide +kernel) (by decide +kernel)
theorem wd_542 : (Jvm.Cond.fieldLink "PaidToWhisperModel" (189 : Nat) "PaidToWhisperModel" "keptCries" "I") ∈ lw_g := gw_mem (i := 542) (by decide +kernel) (by decide +kernel)
theorem wd_543 : (Jvm.Cond.fieldLink "PaidToWhisperModel" (192 : Nat) "PaidToWhisperModel" "keptHeard" "I") ∈ lw_g := gw_mem (i := 543) (by decide +kernel) (by decide +kernel)
theorem wd_544 : (Jvm.Cond.fieldLink "PaidToWhisperModel" (195 : Nat) "PaidToWhisperModel" "keptDecrees" "I") ∈ lw_g := gw_mem (i := 544) (by decide +kernel) (by decide +kernel)
theorem wd_545 : (Jvm.Cond.fieldLink "PaidToWhisperModel" (198 : Nat) "PaidToWhisperModel" "keptDays" "I") ∈ lw_g := gw_mem (i := 545) (by decide +kernel) (by decide +kernel)
theorem wd_546 : (Jvm.Cond.fieldLink "PaidToWhisperModel" (201 : Nat) "PaidToWhisperModel" "keptTold" "I") ∈ lw_g := gw_mem (i := 546) (by decide +kernel) (by decide +kernel)
theorem wd_547 : (Jvm.Cond.fieldLink "PaidToWhisperModel" (25 : Nat) "PaidToWhisperModel" "keptRows" "[I") ∈ lw_g := gw_mem (i := 547) (by decide +kernel) (by decide +kernel)
theorem wd_548 : (Jvm.Cond.fieldLink "PaidToWhisperModel" (28 : Nat) "PaidToWhisperModel" "keptTolds" "[I") ∈ lw_g := gw_mem (i := 548) (by decide +kernel) (by decide +kernel)
theorem wd_549 : (Jvm.Cond.fieldLink "PaidToWhisperModel" (31 : Nat) "PaidToWhisperModel" "keptNoises" "[I") ∈ lw_g := gw_mem (i := 549) (by decide +kernel) (by decide +kernel)
theorem wd_550 : (Jvm.Cond.fieldLink "PaidToWhisperModel" (209 : Nat) "PaidToWhisperModel" "hash" "J") ∈ lw_g := gw_mem (i := 550) (by decide +kernel) (by decide +kernel)
theorem wd_610 : (Jvm.Cond.methodLink "PaidToWhisperLaw" (17 : Nat) ({ cls := "PaidToWhisperModel", name := "letter", desc := "(I)I" } : Jvm.MethodName)) ∈ lw_g := gw_mem (i := 610) (by decide +kernel) (by decide +kernel)
theorem wd_611 : (Jvm.Cond.instanceMethod ({ cls := "PaidToWhisperModel", name := "letter", desc := "(I)I" } : Jvm.MethodName)) ∈ lw_g := gw_mem (i := 611) (by decide +kernel) (by decide +kernel)
theorem wd_612 : (Jvm.Cond.selects "PaidToWhisperModel" ({ cls := "PaidToWhisperModel", name := "letter", desc := "(I)I" } : Jvm.MethodName) ({ cls := "PaidToWhisperModel", name := "letter", desc := "(I)I" } : Jvm.MethodName)) ∈ lw_g := gw_mem (i := 612) (by decide +kernel) (by decide +kernel)
theorem wd_613 : (Jvm.Cond.code ({ cls := "PaidToWhisperModel", name := "letter", desc := "(I)I" } : Jvm.MethodName) prog_6_method_5_code (2 : Nat) (Option.some Jvm.ClassFile.FieldType.int)) ∈ lw_g := gw_mem (i := 613) (by decide +kernel) (by decide +kernel)
theorem wd_614 : (Jvm.Cond.constantLong "PaidToWhisperModel" (38 : Nat) (126 : Int64)) ∈ lw_g := gw_mem (i := 614) (by decide +kernel) (by decide +kernel)
theorem wd_615 : (Jvm.Cond.methodLink "PaidToWhisperModel" (40 : Nat) ({ cls := "PaidToWhisperModel", name := "in", desc := "(JJJ)Z" } : Jvm.MethodName)) ∈ lw_g := gw_mem (i := 615) (by decide +kernel) (by decide +kernel)
theorem wd_616 : (Jvm.Cond.static ({ cls := "PaidToWhisperModel", name := "in", desc := "(JJJ)Z" } : Jvm.MethodName)) ∈ lw_g := gw_mem (i := 616) (by decide +kernel) (by decide +kernel)
theorem wd_617 : (Jvm.Cond.code ({ cls := "PaidToWhisperModel", name := "in", desc := "(JJJ)Z" } : Jvm.MethodName) prog_6_method_2_code (6 : Nat) (Option.some Jvm.ClassFile.FieldType.boolean)) ∈ lw_g := gw_mem (i := 617) (by decide +kernel) (by decide +kernel)
theorem wd_618 : (Jvm.Cond.methodLink "PaidToWhisperLaw" (22 : Nat) ({ cls := "PaidToWhisperModel", name := "blank", desc := "()I" } : Jvm.MethodName)) ∈ lw_g := gw_mem (i := 618) (by decide +kernel) (by decide +kernel)
theorem wd_619 : (Jvm.Cond.instanceMethod ({ cls := "PaidToWhisperModel", name := "blank", desc := "()I" } : Jvm.MethodName)) ∈ lw_g := gw_mem (i := 619) (by decide +kernel) (by decide +kernel)
theorem wd_620 : (Jvm.Cond.selects "PaidToWhisperModel" ({ cls := "PaidToWhisperModel", name := "blank", desc := "()I" } : Jvm.MethodName) ({ cls := "PaidToWhisperModel", name := "blank", desc := "()I" } : Jvm.MethodName)) ∈ lw_g := gw_mem (i := 620) (by decide +kernel) (by decide +kernel)
theorem wd_621 : (Jvm.Cond.code ({ cls := "PaidToWhisperModel", name := "blank", desc := "()I" } : Jvm.MethodName) prog_6_method_6_code (2 : Nat) (Option.some Jvm.ClassFile.FieldType.int)) ∈ lw_g := gw_mem (i := 621) (by decide +kernel) (by decide +kernel)
theorem wd_622 : (Jvm.Cond.methodLink "PaidToWhisperLaw" (26 : Nat) ({ cls := "PaidToWhisperModel", name := "fault", desc := "()I" } : Jvm.MethodName)) ∈ lw_g := gw_mem (i := 622) (by decide +kernel) (by decide +kernel)
theorem wd_623 : (Jvm.Cond.instanceMethod ({ cls := "PaidToWhisperModel", name := "fault", desc := "()I" } : Jvm.MethodName)) ∈ lw_g := gw_mem (i := 623) (by decide +kernel) (by decide +kernel)
theorem wd_624 : (Jvm.Cond.selects "PaidToWhisperModel" ({ cls := "PaidToWhisperModel", name := "fault", desc := "()I" } : Jvm.MethodName) ({ cls := "PaidToWhisperModel", name := "fault", desc := "()I" } : Jvm.MethodName)) ∈ lw_g := gw_mem (i := 624) (by decide +kernel) (by decide +kernel)
theorem wd_625 : (Jvm.Cond.code ({ cls := "PaidToWhisperModel", name := "fault", desc := "()I" } : Jvm.MethodName) prog_6_method_9_code (1 : Nat) (Option.some Jvm.ClassFile.FieldType.int)) ∈ lw_g := gw_mem (i := 625) (by decide +kernel) (by decide +kernel)
theorem wd_626 : (Jvm.Cond.methodLink "PaidToWhisperModel" (55 : Nat) ({ cls := "PaidToWhisperModel", name := "faultOf", desc := "()I" } : Jvm.MethodName)) ∈ lw_g := gw_mem (i := 626) (by decide +kernel) (by decide +kernel)
theorem wd_628 : (Jvm.Cond.instanceMethod ({ cls := "PaidToWhisperModel", name := "faultOf", desc := "()I" } : Jvm.MethodName)) ∈ lw_g := gw_mem (i := 628) (by decide +kernel) (by decide +kernel)
theorem wd_629 : (Jvm.Cond.code ({ cls := "PaidToWhisperModel", name := "faultOf", desc := "()I" } : Jvm.MethodName) prog_6_method_8_code (2 : Nat) (Option.some Jvm.ClassFile.FieldType.int)) ∈ lw_g := gw_mem (i := 629) (by decide +kernel) (by decide +kernel)
theorem wd_630 : (Jvm.Cond.methodLink "PaidToWhisperModel" (51 : Nat) ({ cls := "PaidToWhisperModel", name := "isGood", desc := "(II)Z" } : Jvm.MethodName)) ∈ lw_g := gw_mem (i := 630) (by decide +kernel) (by decide +kernel)
theorem wd_631 : (Jvm.Cond.static ({ cls := "PaidToWhisperModel", name := "isGood", desc := "(II)Z" } : Jvm.MethodName)) ∈ lw_g := gw_mem (i := 631) (by decide +kernel) (by decide +kernel)
theorem wd_632 : (Jvm.Cond.code ({ cls := "PaidToWhisperModel", name := "isGood", desc := "(II)Z" } : Jvm.MethodName) prog_6_method_7_code (3 : Nat) (Option.some Jvm.ClassFile.FieldType.boolean)) ∈ lw_g := gw_mem (i := 632) (by decide +kernel) (by decide +kernel)
theorem wd_633 : (Jvm.Cond.constantLong "PaidToWhisperModel" (47 : Nat) (9 : Int64)) ∈ lw_g := gw_mem (i := 633) (by decide +kernel) (by decide +kernel)
theorem wd_634 : (Jvm.Cond.constantLong "PaidToWhisperModel" (49 : Nat) (5 : Int64)) ∈ lw_g := gw_mem (i := 634) (by decide +kernel) (by decide +kernel)
theorem wd_635 : (Jvm.Cond.methodLink "PaidToWhisperLaw" (30 : Nat) ({ cls := "PaidToWhisperModel", name := "town", desc := "()I" } : Jvm.MethodName)) ∈ lw_g := gw_mem (i := 635) (by decide +kernel) (by decide +kernel)
theorem wd_636 : (Jvm.Cond.instanceMethod ({ cls := "PaidToWhisperModel", name := "town", desc := "()I" } : Jvm.MethodName)) ∈ lw_g := gw_mem (i := 636) (by decide +kernel) (by decide +kernel)
theorem wd_637 : (Jvm.Cond.selects "PaidToWhisperModel" ({ cls := "PaidToWhisperModel", name := "town", desc := "()I" } : Jvm.MethodName) ({ cls := "PaidToWhisperModel", name := "town", desc := "()I" } : Jvm.MethodName)) ∈ lw_g := gw_mem (i := 637) (by decide +kernel) (by decide +kernel)
theorem wd_638 : (Jvm.Cond.code ({ cls := "PaidToWhisperModel", name := "town", desc := "()I" } : Jvm.MethodName) prog_6_method_10_code (3 : Nat) (Option.some Jvm.ClassFile.FieldType.int)) ∈ lw_g := gw_mem (i := 638) (by decide +kernel) (by decide +kernel)
theorem wd_639 : (Jvm.Cond.methodLink "PaidToWhisperLaw" (34 : Nat) ({ cls := "PaidToWhisperModel", name := "noise", desc := "(I)I" } : Jvm.MethodName)) ∈ lw_g := gw_mem (i := 639) (by decide +kernel) (by decide +kernel)
theorem wd_640 : (Jvm.Cond.instanceMethod ({ cls := "PaidToWhisperModel", name := "noise", desc := "(I)I" } : Jvm.MethodName)) ∈ lw_g := gw_mem (i := 640) (by decide +kernel) (by decide +kernel)
theorem wd_641 : (Jvm.Cond.selects "PaidToWhisperModel" ({ cls := "PaidToWhisperModel", name := "noise", desc := "(I)I" } : Jvm.MethodName) ({ cls := "PaidToWhisperModel", name := "noise", desc := "(I)I" } : Jvm.MethodName)) ∈ lw_g := gw_mem (i := 641) (by decide +kernel) (by decide +kernel)
theorem wd_642 : (Jvm.Cond.code ({ cls := "PaidToWhisperModel", name := "noise", desc := "(I)I" } : Jvm.MethodName) prog_6_method_13_code (2 : Nat) (Option.some Jvm.ClassFile.FieldType.int)) ∈ lw_g := gw_mem (i := 642) (by decide +kernel) (by decide +kernel)
theorem wd_643 : (Jvm.Cond.methodLink "PaidToWhisperModel" (93 : Nat) ({ cls := "PaidToWhisperModel", name := "isPlace", desc := "(I)Z" } : Jvm.MethodName)) ∈ lw_g := gw_mem (i := 643) (by decide +kernel) (by decide +kernel)
theorem wd_645 : (Jvm.Cond.instanceMethod ({ cls := "PaidToWhisperModel", name := "isPlace", desc := "(I)Z" } : Jvm.MethodName)) ∈ lw_g := gw_mem (i := 645) (by decide +kernel) (by decide +kernel)
theorem wd_646 : (Jvm.Cond.code ({ cls := "PaidToWhisperModel", name := "isPlace", desc := "(I)Z" } : Jvm.MethodName) prog_6_method_12_code (2 : Nat) (Option.some Jvm.ClassFile.FieldType.boolean)) ∈ lw_g := gw_mem (i := 646) (by decide +kernel) (by decide +kernel)
theorem wd_647 : (Jvm.Cond.methodLink "PaidToWhisperModel" (89 : Nat) ({ cls := "PaidToWhisperModel", name := "lacks", desc := "()Z" } : Jvm.MethodName)) ∈ lw_g := gw_mem (i := 647) (by decide +kernel) (by decide +kernel)
theorem wd_649 : (Jvm.Cond.instanceMethod ({ cls := "PaidToWhisperModel", name := "lacks", desc := "()Z" } : Jvm.MethodName)) ∈ lw_g := gw_mem (i := 649) (by decide +kernel) (by decide +kernel)
theorem wd_650 : (Jvm.Cond.code ({ cls := "PaidToWhisperModel", name := "lacks", desc := "()Z" } : Jvm.MethodName) prog_6_method_11_code (1 : Nat) (Option.some Jvm.ClassFile.FieldType.boolean)) ∈ lw_g := gw_mem (i := 650) (by decide +kernel) (by decide +kernel)
theorem wd_651 : (Jvm.Cond.methodLink "PaidToWhisperLaw" (39 : Nat) ({ cls := "PaidToWhisperModel", name := "hum", desc := "(II)I" } : Jvm.MethodName)) ∈ lw_g := gw_mem (i := 651) (by decide +kernel) (by decide +kernel)
theorem wd_652 : (Jvm.Cond.instanceMethod ({ cls := "PaidToWhisperModel", name := "hum", desc := "(II)I" } : Jvm.MethodName)) ∈ lw_g := gw_mem (i := 652) (by decide +kernel) (by decide +kernel)
theorem wd_653 : (Jvm.Cond.selects "PaidToWhisperModel" ({ cls := "PaidToWhisperModel", name := "hum", desc := "(II)I" } : Jvm.MethodName) ({ cls := "PaidToWhisperModel", name := "hum", desc := "(II)I" } : Jvm.MethodName)) ∈ lw_g := gw_mem (i := 653) (by decide +kernel) (by decide +kernel)
theorem wd_654 : (Jvm.Cond.code ({ cls := "PaidToWhisperModel", name := "hum", desc := "(II)I" } : Jvm.MethodName) prog_6_method_14_code (4 : Nat) (Option.some Jvm.ClassFile.FieldType.int)) ∈ lw_g := gw_mem (i := 654) (by decide +kernel) (by decide +kernel)
theorem wd_655 : (Jvm.Cond.methodLink "PaidToWhisperLaw" (43 : Nat) ({ cls := "PaidToWhisperModel", name := "listener", desc := "(II)I" } : Jvm.MethodName)) ∈ lw_g := gw_mem (i := 655) (by decide +kernel) (by decide +kernel)
theorem wd_656 : (Jvm.Cond.instanceMethod ({ cls := "PaidToWhisperModel", name := "listener", desc := "(II)I" } : Jvm.MethodName)) ∈ lw_g := gw_mem (i := 656) (by decide +kernel) (by decide +kernel)
theorem wd_657 : (Jvm.Cond.selects "PaidToWhisperModel" ({ cls := "PaidToWhisperModel", name := "listener", desc := "(II)I" } : Jvm.MethodName) ({ cls := "PaidToWhisperModel", name := "listener", desc := "(II)I" } : Jvm.MethodName)) ∈ lw_g := gw_mem (i := 657) (by decide +kernel) (by decide +kernel)
theorem wd_658 : (Jvm.Cond.code ({ cls := "PaidToWhisperModel", name := "listener", desc := "(II)I" } : Jvm.MethodName) prog_6_method_17_code (3 : Nat) (Option.some Jvm.ClassFile.FieldType.int)) ∈ lw_g := gw_mem (i := 658) (by decide +kernel) (by decide +kernel)
theorem wd_659 : (Jvm.Cond.constantLong "PaidToWhisperModel" (97 : Nat) (4 : Int64)) ∈ lw_g := gw_mem (i := 659) (by decide +kernel) (by decide +kernel)
theorem wd_660 : (Jvm.Cond.methodLink "PaidToWhisperLaw" (47 : Nat) ({ cls := "PaidToWhisperModel", name := "about", desc := "(II)I" } : Jvm.MethodName)) ∈ lw_g := gw_mem (i := 660) (by decide +kernel) (by decide +kernel)
theorem wd_661 : (Jvm.Cond.instanceMethod ({ cls := "PaidToWhisperModel", name := "about", desc := "(II)I" } : Jvm.MethodName)) ∈ lw_g := gw_mem (i := 661) (by decide +kernel) (by decide +kernel)
theorem wd_662 : (Jvm.Cond.selects "PaidToWhisperModel" ({ cls := "PaidToWhisperModel", name := "about", desc := "(II)I" } : Jvm.MethodName) ({ cls := "PaidToWhisperModel", name := "about", desc := "(II)I" } : Jvm.MethodName)) ∈ lw_g := gw_mem (i := 662) (by decide +kernel) (by decide +kernel)
theorem wd_663 : (Jvm.Cond.code ({ cls := "PaidToWhisperModel", name := "about", desc := "(II)I" } : Jvm.MethodName) prog_6_method_24_code (3 : Nat) (Option.some Jvm.ClassFile.FieldType.int)) ∈ lw_g := gw_mem (i := 663) (by decide +kernel) (by decide +kernel)
theorem wd_664 : (Jvm.Cond.methodLink "PaidToWhisperModel" (113 : Nat) ({ cls := "PaidToWhisperModel", name := "isListener", desc := "(I)Z" } : Jvm.MethodName)) ∈ lw_g := gw_mem (i := 664) (by decide +kernel) (by decide +kernel)
theorem wd_666 : (Jvm.Cond.instanceMethod ({ cls := "PaidToWhisperModel", name := "isListener", desc := "(I)Z" } : Jvm.MethodName)) ∈ lw_g := gw_mem (i := 666) (by decide +kernel) (by decide +kernel)
theorem wd_667 : (Jvm.Cond.code ({ cls := "PaidToWhisperModel", name := "isListener", desc := "(I)Z" } : Jvm.MethodName) prog_6_method_15_code (2 : Nat) (Option.some Jvm.ClassFile.FieldType.boolean)) ∈ lw_g := gw_mem (i := 667) (by decide +kernel) (by decide +kernel)
theorem wd_668 : (Jvm.Cond.methodLink "PaidToWhisperModel" (116 : Nat) ({ cls := "PaidToWhisperModel", name := "listenerOf", desc := "(II)I" } : Jvm.MethodName)) ∈ lw_g := gw_mem (i := 668) (by decide +kernel) (by decide +kernel)
theorem wd_670 : (Jvm.Cond.instanceMethod ({ cls := "PaidToWhisperModel", name := "listenerOf", desc := "(II)I" } : Jvm.MethodName)) ∈ lw_g := gw_mem (i := 670) (by decide +kernel) (by decide +kernel)
theorem wd_671 : (Jvm.Cond.code ({ cls := "PaidToWhisperModel", name := "listenerOf", desc := "(II)I" } : Jvm.MethodName) prog_6_method_23_code (3 : Nat) (Option.some Jvm.ClassFile.FieldType.int)) ∈ lw_g := gw_mem (i := 671) (by decide +kernel) (by decide +kernel)
theorem wd_672 : (Jvm.Cond.methodLink "PaidToWhisperModel" (110 : Nat) ({ cls := "PaidToWhisperModel", name := "knowing", desc := "(I)I" } : Jvm.MethodName)) ∈ lw_g := gw_mem (i := 672) (by decide +kernel) (by decide +kernel)
theorem wd_674 : (Jvm.Cond.instanceMethod ({ cls := "PaidToWhisperModel", name := "knowing", desc := "(I)I" } : Jvm.MethodName)) ∈ lw_g := gw_mem (i := 674) (by decide +kernel) (by decide +kernel)
theorem wd_675 : (Jvm.Cond.code ({ cls := "PaidToWhisperModel", name := "knowing", desc := "(I)I" } : Jvm.MethodName) prog_6_method_22_code (4 : Nat) (Option.some Jvm.ClassFile.FieldType.int)) ∈ lw_g := gw_mem (i := 675) (by decide +kernel) (by decide +kernel)
theorem wd_676 : (Jvm.Cond.methodLink "PaidToWhisperModel" (99 : Nat) ({ cls := "PaidToWhisperModel", name := "needsOf", desc := "(I)I" } : Jvm.MethodName)) ∈ lw_g := gw_mem (i := 676) (by decide +kernel) (by decide +kernel)
theorem wd_678 : (Jvm.Cond.instanceMethod ({ cls := "PaidToWhisperModel", name := "needsOf", desc := "(I)I" } : Jvm.MethodName)) ∈ lw_g := gw_mem (i := 678) (by decide +kernel) (by decide +kernel)
theorem wd_679 : (Jvm.Cond.code ({ cls := "PaidToWhisperModel", name := "needsOf", desc := "(I)I" } : Jvm.MethodName) prog_6_method_18_code (2 : Nat) (Option.some Jvm.ClassFile.FieldType.int)) ∈ lw_g := gw_mem (i := 679) (by decide +kernel) (by decide +kernel)
theorem wd_680 : (Jvm.Cond.methodLink "PaidToWhisperModel" (107 : Nat) ({ cls := "PaidToWhisperModel", name := "criesOf", desc := "(I)I" } : Jvm.MethodName)) ∈ lw_g := gw_mem (i := 680) (by decide +kernel) (by decide +kernel)
theorem wd_682 : (Jvm.Cond.instanceMethod ({ cls := "PaidToWhisperModel", name := "criesOf", desc := "(I)I" } : Jvm.MethodName)) ∈ lw_g := gw_mem (i := 682) (by decide +kernel) (by decide +kernel)
theorem wd_683 : (Jvm.Cond.code ({ cls := "PaidToWhisperModel", name := "criesOf", desc := "(I)I" } : Jvm.MethodName) prog_6_method_19_code (2 : Nat) (Option.some Jvm.ClassFile.FieldType.int)) ∈ lw_g := gw_mem (i := 683) (by decide +kernel) (by decide +kernel)
theorem wd_684 : (Jvm.Cond.methodLink "PaidToWhisperLaw" (51 : Nat) ({ cls := "PaidToWhisperModel", name := "as", desc := "(II)I" } : Jvm.MethodName)) ∈ lw_g := gw_mem (i := 684) (by decide +kernel) (by decide +kernel)
theorem wd_685 : (Jvm.Cond.instanceMethod ({ cls := "PaidToWhisperModel", name := "as", desc := "(II)I" } : Jvm.MethodName)) ∈ lw_g := gw_mem (i := 685) (by decide +kernel) (by decide +kernel)
theorem wd_686 : (Jvm.Cond.selects "PaidToWhisperModel" ({ cls := "PaidToWhisperModel", name := "as", desc := "(II)I" } : Jvm.MethodName) ({ cls := "PaidToWhisperModel", name := "as", desc := "(II)I" } : Jvm.MethodName)) ∈ lw_g := gw_mem (i := 686) (by decide +kernel) (by decide +kernel)
theorem wd_687 : (Jvm.Cond.code ({ cls := "PaidToWhisperModel", name := "as", desc := "(II)I" } : Jvm.MethodName) prog_6_method_25_code (5 : Nat) (Option.some Jvm.ClassFile.FieldType.int)) ∈ lw_g := gw_mem (i := 687) (by decide +kernel) (by decide +kernel)
theorem wd_688 : (Jvm.Cond.methodLink "PaidToWhisperLaw" (55 : Nat) ({ cls := "PaidToWhisperModel", name := "move", desc := "(II)I" } : Jvm.MethodName)) ∈ lw_g := gw_mem (i := 688) (by decide +kernel) (by decide +kernel)
theorem wd_689 : (Jvm.Cond.instanceMethod ({ cls := "PaidToWhisperModel", name := "move", desc := "(II)I" } : Jvm.MethodName)) ∈ lw_g := gw_mem (i := 689) (by decide +kernel) (by decide +kernel)
theorem wd_690 : (Jvm.Cond.selects "PaidToWhisperModel" ({ cls := "PaidToWhisperModel", name := "move", desc := "(II)I" } : Jvm.MethodName) ({ cls := "PaidToWhisperModel", name := "move", desc := "(II)I" } : Jvm.MethodName)) ∈ lw_g := gw_mem (i := 690) (by decide +kernel) (by decide +kernel)
theorem wd_691 : (Jvm.Cond.code ({ cls := "PaidToWhisperModel", name := "move", desc := "(II)I" } : Jvm.MethodName) prog_6_method_26_code (4 : Nat) (Option.some Jvm.ClassFile.FieldType.int)) ∈ lw_g := gw_mem (i := 691) (by decide +kernel) (by decide +kernel)
theorem wd_692 : (Jvm.Cond.methodLink "PaidToWhisperLaw" (59 : Nat) ({ cls := "PaidToWhisperModel", name := "cry", desc := "(II)I" } : Jvm.MethodName)) ∈ lw_g := gw_mem (i := 692) (by decide +kernel) (by decide +kernel)
theorem wd_693 : (Jvm.Cond.instanceMethod ({ cls := "PaidToWhisperModel", name := "cry", desc := "(II)I" } : Jvm.MethodName)) ∈ lw_g := gw_mem (i := 693) (by decide +kernel) (by decide +kernel)
theorem wd_694 : (Jvm.Cond.selects "PaidToWhisperModel" ({ cls := "PaidToWhisperModel", name := "cry", desc := "(II)I" } : Jvm.MethodName) ({ cls := "PaidToWhisperModel", name := "cry", desc := "(II)I" } : Jvm.MethodName)) ∈ lw_g := gw_mem (i := 694) (by decide +kernel) (by decide +kernel)
theorem wd_695 : (Jvm.Cond.code ({ cls := "PaidToWhisperModel", name := "cry", desc := "(II)I" } : Jvm.MethodName) prog_6_method_28_code (4 : Nat) (Option.some Jvm.ClassFile.FieldType.int)) ∈ lw_g := gw_mem (i := 695) (by decide +kernel) (by decide +kernel)
theorem wd_696 : (Jvm.Cond.methodLink "PaidToWhisperModel" (127 : Nat) ({ cls := "PaidToWhisperModel", name := "ones", desc := "(I)I" } : Jvm.MethodName)) ∈ lw_g := gw_mem (i := 696) (by decide +kernel) (by decide +kernel)
theorem wd_697 : (Jvm.Cond.static ({ cls := "PaidToWhisperModel", name := "ones", desc := "(I)I" } : Jvm.MethodName)) ∈ lw_g := gw_mem (i := 697) (by decide +kernel) (by decide +kernel)
theorem wd_698 : (Jvm.Cond.code ({ cls := "PaidToWhisperModel", name := "ones", desc := "(I)I" } : Jvm.MethodName) prog_6_method_4_code (3 : Nat) (Option.some Jvm.ClassFile.FieldType.int)) ∈ lw_g := gw_mem (i := 698) (by decide +kernel) (by decide +kernel)
theorem wd_699 : (Jvm.Cond.methodLink "PaidToWhisperModel" (120 : Nat) ({ cls := "PaidToWhisperModel", name := "allListeners", desc := "()I" } : Jvm.MethodName)) ∈ lw_g := gw_mem (i := 699) (by decide +kernel) (by decide +kernel)
theorem wd_701 : (Jvm.Cond.instanceMethod ({ cls := "PaidToWhisperModel", name := "allListeners", desc := "()I" } : Jvm.MethodName)) ∈ lw_g := gw_mem (i := 701) (by decide +kernel) (by decide +kernel)
theorem wd_702 : (Jvm.Cond.code ({ cls := "PaidToWhisperModel", name := "allListeners", desc := "()I" } : Jvm.MethodName) prog_6_method_16_code (1 : Nat) (Option.some Jvm.ClassFile.FieldType.int)) ∈ lw_g := gw_mem (i := 702) (by decide +kernel) (by decide +kernel)
theorem wd_703 : (Jvm.Cond.methodLink "PaidToWhisperModel" (123 : Nat) ({ cls := "PaidToWhisperModel", name := "heardBy", desc := "(IIII)I" } : Jvm.MethodName)) ∈ lw_g := gw_mem (i := 703) (by decide +kernel) (by decide +kernel)
theorem wd_705 : (Jvm.Cond.instanceMethod ({ cls := "PaidToWhisperModel", name := "heardBy", desc := "(IIII)I" } : Jvm.MethodName)) ∈ lw_g := gw_mem (i := 705) (by decide +kernel) (by decide +kernel)
theorem wd_706 : (Jvm.Cond.code ({ cls := "PaidToWhisperModel", name := "heardBy", desc := "(IIII)I" } : Jvm.MethodName) prog_6_method_21_code (10 : Nat) (Option.some Jvm.ClassFile.FieldType.int)) ∈ lw_g := gw_mem (i := 706) (by decide +kernel) (by decide +kernel)
theorem wd_707 : (Jvm.Cond.methodLink "PaidToWhisperModel" (103 : Nat) ({ cls := "PaidToWhisperModel", name := "hearing", desc := "(III)I" } : Jvm.MethodName)) ∈ lw_g := gw_mem (i := 707) (by decide +kernel) (by decide +kernel)
theorem wd_709 : (Jvm.Cond.instanceMethod ({ cls := "PaidToWhisperModel", name := "hearing", desc := "(III)I" } : Jvm.MethodName)) ∈ lw_g := gw_mem (i := 709) (by decide +kernel) (by decide +kernel)
theorem wd_710 : (Jvm.Cond.code ({ cls := "PaidToWhisperModel", name := "hearing", desc := "(III)I" } : Jvm.MethodName) prog_6_method_20_code (9 : Nat) (Option.some Jvm.ClassFile.FieldType.int)) ∈ lw_g := gw_mem (i := 710) (by decide +kernel) (by decide +kernel)
theorem wd_711 : (Jvm.Cond.methodLink "PaidToWhisperLaw" (63 : Nat) ({ cls := "PaidToWhisperModel", name := "would", desc := "(II)I" } : Jvm.MethodName)) ∈ lw_g := gw_mem (i := 711) (by decide +kernel) (by decide +kernel)
theorem wd_712 : (Jvm.Cond.instanceMethod ({ cls := "PaidToWhisperModel", name := "would", desc := "(II)I" } : Jvm.MethodName)) ∈ lw_g := gw_mem (i := 712) (by decide +kernel) (by decide +kernel)
theorem wd_713 : (Jvm.Cond.selects "PaidToWhisperModel" ({ cls := "PaidToWhisperModel", name := "would", desc := "(II)I" } : Jvm.MethodName) ({ cls := "PaidToWhisperModel", name := "would", desc := "(II)I" } : Jvm.MethodName)) ∈ lw_g := gw_mem (i := 713) (by decide +kernel) (by decide +kernel)
theorem wd_714 : (Jvm.Cond.code ({ cls := "PaidToWhisperModel", name := "would", desc := "(II)I" } : Jvm.MethodName) prog_6_method_29_code (3 : Nat) (Option.some Jvm.ClassFile.FieldType.int)) ∈ lw_g := gw_mem (i := 714) (by decide +kernel) (by decide +kernel)
theorem wd_715 : (Jvm.Cond.methodLink "PaidToWhisperModel" (130 : Nat) ({ cls := "PaidToWhisperModel", name := "knowThen", desc := "(III)I" } : Jvm.MethodName)) ∈ lw_g := gw_mem (i := 715) (by decide +kernel) (by decide +kernel)
theorem wd_717 : (Jvm.Cond.instanceMethod ({ cls := "PaidToWhisperModel", name := "knowThen", desc := "(III)I" } : Jvm.MethodName)) ∈ lw_g := gw_mem (i := 717) (by decide +kernel) (by decide +kernel)
theorem wd_718 : (Jvm.Cond.code ({ cls := "PaidToWhisperModel", name := "knowThen", desc := "(III)I" } : Jvm.MethodName) prog_6_method_27_code (4 : Nat) (Option.some Jvm.ClassFile.FieldType.int)) ∈ lw_g := gw_mem (i := 718) (by decide +kernel) (by decide +kernel)
theorem wd_719 : (Jvm.Cond.methodLink "PaidToWhisperLaw" (67 : Nat) ({ cls := "PaidToWhisperModel", name := "honey", desc := "()I" } : Jvm.MethodName)) ∈ lw_g := gw_mem (i := 719) (by decide +kernel) (by decide +kernel)
theorem wd_720 : (Jvm.Cond.instanceMethod ({ cls := "PaidToWhisperModel", name := "honey", desc := "()I" } : Jvm.MethodName)) ∈ lw_g := gw_mem (i := 720) (by decide +kernel) (by decide +kernel)
theorem wd_721 : (Jvm.Cond.selects "PaidToWhisperModel" ({ cls := "PaidToWhisperModel", name := "honey", desc := "()I" } : Jvm.MethodName) ({ cls := "PaidToWhisperModel", name := "honey", desc := "()I" } : Jvm.MethodName)) ∈ lw_g := gw_mem (i := 721) (by decide +kernel) (by decide +kernel)
theorem wd_722 : (Jvm.Cond.code ({ cls := "PaidToWhisperModel", name := "honey", desc := "()I" } : Jvm.MethodName) prog_6_method_30_code (1 : Nat) (Option.some Jvm.ClassFile.FieldType.int)) ∈ lw_g := gw_mem (i := 722) (by decide +kernel) (by decide +kernel)
theorem wd_723 : (Jvm.Cond.methodLink "PaidToWhisperLaw" (71 : Nat) ({ cls := "PaidToWhisperModel", name := "day", desc := "()I" } : Jvm.MethodName)) ∈ lw_g := gw_mem (i := 723) (by decide +kernel) (by decide +kernel)
theorem wd_724 : (Jvm.Cond.instanceMethod ({ cls := "PaidToWhisperModel", name := "day", desc := "()I" } : Jvm.MethodName)) ∈ lw_g := gw_mem (i := 724) (by decide +kernel) (by decide +kernel)
theorem wd_725 : (Jvm.Cond.selects "PaidToWhisperModel" ({ cls := "PaidToWhisperModel", name := "day", desc := "()I" } : Jvm.MethodName) ({ cls := "PaidToWhisperModel", name := "day", desc := "()I" } : Jvm.MethodName)) ∈ lw_g := gw_mem (i := 725) (by decide +kernel) (by decide +kernel)
theorem wd_726 : (Jvm.Cond.code ({ cls := "PaidToWhisperModel", name := "day", desc := "()I" } : Jvm.MethodName) prog_6_method_31_code (1 : Nat) (Option.some Jvm.ClassFile.FieldType.int)) ∈ lw_g := gw_mem (i := 726) (by decide +kernel) (by decide +kernel)
theorem wd_727 : (Jvm.Cond.methodLink "PaidToWhisperLaw" (75 : Nat) ({ cls := "PaidToWhisperModel", name := "decree", desc := "()I" } : Jvm.MethodName)) ∈ lw_g := gw_mem (i := 727) (by decide +kernel) (by decide +kernel)
theorem wd_728 : (Jvm.Cond.instanceMethod ({ cls := "PaidToWhisperModel", name := "decree", desc := "()I" } : Jvm.MethodName)) ∈ lw_g := gw_mem (i := 728) (by decide +kernel) (by decide +kernel)
theorem wd_729 : (Jvm.Cond.selects "PaidToWhisperModel" ({ cls := "PaidToWhisperModel", name := "decree", desc := "()I" } : Jvm.MethodName) ({ cls := "PaidToWhisperModel", name := "decree", desc := "()I" } : Jvm.MethodName)) ∈ lw_g := gw_mem (i := 729) (by decide +kernel) (by decide +kernel)
theorem wd_730 : (Jvm.Cond.code ({ cls := "PaidToWhisperModel", name := "decree", desc := "()I" } : Jvm.MethodName) prog_6_method_32_code (2 : Nat) (Option.some Jvm.ClassFile.FieldType.int)) ∈ lw_g := gw_mem (i := 730) (by decide +kernel) (by decide +kernel)
theorem wd_731 : (Jvm.Cond.methodLink "PaidToWhisperLaw" (79 : Nat) ({ cls := "PaidToWhisperModel", name := "least", desc := "(I)I" } : Jvm.MethodName)) ∈ lw_g := gw_mem (i := 731) (by decide +kernel) (by decide +kernel)
theorem wd_732 : (Jvm.Cond.instanceMethod ({ cls := "PaidToWhisperModel", name := "least", desc := "(I)I" } : Jvm.MethodName)) ∈ lw_g := gw_mem (i := 732) (by decide +kernel) (by decide +kernel)
theorem wd_733 : (Jvm.Cond.selects "PaidToWhisperModel" ({ cls := "PaidToWhisperModel", name := "least", desc := "(I)I" } : Jvm.MethodName) ({ cls := "PaidToWhisperModel", name := "least", desc := "(I)I" } : Jvm.MethodName)) ∈ lw_g := gw_mem (i := 733) (by decide +kernel) (by decide +kernel)
theorem wd_734 : (Jvm.Cond.code ({ cls := "PaidToWhisperModel", name := "least", desc := "(I)I" } : Jvm.MethodName) prog_6_method_34_code (2 : Nat) (Option.some Jvm.ClassFile.FieldType.int)) ∈ lw_g := gw_mem (i := 734) (by decide +kernel) (by decide +kernel)
theorem wd_735 : (Jvm.Cond.methodLink "PaidToWhisperModel" (133 : Nat) ({ cls := "PaidToWhisperModel", name := "leastOf", desc := "(I)I" } : Jvm.MethodName)) ∈ lw_g := gw_mem (i := 735) (by decide +kernel) (by decide +kernel)
theorem wd_737 : (Jvm.Cond.instanceMethod ({ cls := "PaidToWhisperModel", name := "leastOf", desc := "(I)I" } : Jvm.MethodName)) ∈ lw_g := gw_mem (i := 737) (by decide +kernel) (by decide +kernel)
theorem wd_738 : (Jvm.Cond.code ({ cls := "PaidToWhisperModel", name := "leastOf", desc := "(I)I" } : Jvm.MethodName) prog_6_method_33_code (6 : Nat) (Option.some Jvm.ClassFile.FieldType.int)) ∈ lw_g := gw_mem (i := 738) (by decide +kernel) (by decide +kernel)
theorem wd_739 : (Jvm.Cond.methodLink "PaidToWhisperLaw" (83 : Nat) ({ cls := "PaidToWhisperModel", name := "cover", desc := "(II)I" } : Jvm.MethodName)) ∈ lw_g := gw_mem (i := 739) (by decide +kernel) (by decide +kernel)
theorem wd_740 : (Jvm.Cond.instanceMethod ({ cls := "PaidToWhisperModel", name := "cover", desc := "(II)I" } : Jvm.MethodName)) ∈ lw_g := gw_mem (i := 740) (by decide +kernel) (by decide +kernel)
theorem wd_741 : (Jvm.Cond.selects "PaidToWhisperModel" ({ cls := "PaidToWhisperModel", name := "cover", desc := "(II)I" } : Jvm.MethodName) ({ cls := "PaidToWhisperModel", name := "cover", desc := "(II)I" } : Jvm.MethodName)) ∈ lw_g := gw_mem (i := 741) (by decide +kernel) (by decide +kernel)
theorem wd_742 : (Jvm.Cond.code ({ cls := "PaidToWhisperModel", name := "cover", desc := "(II)I" } : Jvm.MethodName) prog_6_method_37_code (3 : Nat) (Option.some Jvm.ClassFile.FieldType.int)) ∈ lw_g := gw_mem (i := 742) (by decide +kernel) (by decide +kernel)
theorem wd_743 : (Jvm.Cond.constantLong "PaidToWhisperModel" (140 : Nat) (10 : Int64)) ∈ lw_g := gw_mem (i := 743) (by decide +kernel) (by decide +kernel)
theorem wd_744 : (Jvm.Cond.constantLong "PaidToWhisperModel" (142 : Nat) (12 : Int64)) ∈ lw_g := gw_mem (i := 744) (by decide +kernel) (by decide +kernel)
theorem wd_745 : (Jvm.Cond.methodLink "PaidToWhisperModel" (144 : Nat) ({ cls := "PaidToWhisperModel", name := "coverOf", desc := "(II)I" } : Jvm.MethodName)) ∈ lw_g := gw_mem (i := 745) (by decide +kernel) (by decide +kernel)
theorem wd_747 : (Jvm.Cond.instanceMethod ({ cls := "PaidToWhisperModel", name := "coverOf", desc := "(II)I" } : Jvm.MethodName)) ∈ lw_g := gw_mem (i := 747) (by decide +kernel) (by decide +kernel)
theorem wd_748 : (Jvm.Cond.code ({ cls := "PaidToWhisperModel", name := "coverOf", desc := "(II)I" } : Jvm.MethodName) prog_6_method_36_code (6 : Nat) (Option.some Jvm.ClassFile.FieldType.int)) ∈ lw_g := gw_mem (i := 748) (by decide +kernel) (by decide +kernel)
theorem wd_749 : (Jvm.Cond.methodLink "PaidToWhisperModel" (136 : Nat) ({ cls := "PaidToWhisperModel", name := "isCovered", desc := "(III)Z" } : Jvm.MethodName)) ∈ lw_g := gw_mem (i := 749) (by decide +kernel) (by decide +kernel)
theorem wd_751 : (Jvm.Cond.instanceMethod ({ cls := "PaidToWhisperModel", name := "isCovered", desc := "(III)Z" } : Jvm.MethodName)) ∈ lw_g := gw_mem (i := 751) (by decide +kernel) (by decide +kernel)
theorem wd_752 : (Jvm.Cond.code ({ cls := "PaidToWhisperModel", name := "isCovered", desc := "(III)Z" } : Jvm.MethodName) prog_6_method_35_code (7 : Nat) (Option.some Jvm.ClassFile.FieldType.boolean)) ∈ lw_g := gw_mem (i := 752) (by decide +kernel) (by decide +kernel)
theorem wd_753 : (Jvm.Cond.methodLink "PaidToWhisperLaw" (88 : Nat) ({ cls := "PaidToWhisperModel", name := "hush", desc := "(IIII)I" } : Jvm.MethodName)) ∈ lw_g := gw_mem (i := 753) (by decide +kernel) (by decide +kernel)
theorem wd_754 : (Jvm.Cond.instanceMethod ({ cls := "PaidToWhisperModel", name := "hush", desc := "(IIII)I" } : Jvm.MethodName)) ∈ lw_g := gw_mem (i := 754) (by decide +kernel) (by decide +kernel)
theorem wd_755 : (Jvm.Cond.selects "PaidToWhisperModel" ({ cls := "PaidToWhisperModel", name := "hush", desc := "(IIII)I" } : Jvm.MethodName) ({ cls := "PaidToWhisperModel", name := "hush", desc := "(IIII)I" } : Jvm.MethodName)) ∈ lw_g := gw_mem (i := 755) (by decide +kernel) (by decide +kernel)
theorem wd_756 : (Jvm.Cond.code ({ cls := "PaidToWhisperModel", name := "hush", desc := "(IIII)I" } : Jvm.MethodName) prog_6_method_40_code (5 : Nat) (Option.some Jvm.ClassFile.FieldType.int)) ∈ lw_g := gw_mem (i := 756) (by decide +kernel) (by decide +kernel)
theorem wd_757 : (Jvm.Cond.methodLink "PaidToWhisperModel" (150 : Nat) ({ cls := "PaidToWhisperModel", name := "tellHush", desc := "(IIII)I" } : Jvm.MethodName)) ∈ lw_g := gw_mem (i := 757) (by decide +kernel) (by decide +kernel)
theorem wd_759 : (Jvm.Cond.instanceMethod ({ cls := "PaidToWhisperModel", name := "tellHush", desc := "(IIII)I" } : Jvm.MethodName)) ∈ lw_g := gw_mem (i := 759) (by decide +kernel) (by decide +kernel)
theorem wd_760 : (Jvm.Cond.code ({ cls := "PaidToWhisperModel", name := "tellHush", desc := "(IIII)I" } : Jvm.MethodName) prog_6_method_39_code (6 : Nat) (Option.some Jvm.ClassFile.FieldType.int)) ∈ lw_g := gw_mem (i := 760) (by decide +kernel) (by decide +kernel)
theorem wd_761 : (Jvm.Cond.methodLink "PaidToWhisperModel" (147 : Nat) ({ cls := "PaidToWhisperModel", name := "hushOf", desc := "(III)I" } : Jvm.MethodName)) ∈ lw_g := gw_mem (i := 761) (by decide +kernel) (by decide +kernel)
theorem wd_763 : (Jvm.Cond.instanceMethod ({ cls := "PaidToWhisperModel", name := "hushOf", desc := "(III)I" } : Jvm.MethodName)) ∈ lw_g := gw_mem (i := 763) (by decide +kernel) (by decide +kernel)
theorem wd_764 : (Jvm.Cond.code ({ cls := "PaidToWhisperModel", name := "hushOf", desc := "(III)I" } : Jvm.MethodName) prog_6_method_38_code (8 : Nat) (Option.some Jvm.ClassFile.FieldType.int)) ∈ lw_g := gw_mem (i := 764) (by decide +kernel) (by decide +kernel)
theorem wd_765 : (Jvm.Cond.methodLink "PaidToWhisperLaw" (93 : Nat) ({ cls := "PaidToWhisperModel", name := "tell", desc := "(IZ)I" } : Jvm.MethodName)) ∈ lw_g := gw_mem (i := 765) (by decide +kernel) (by decide +kernel)
theorem wd_766 : (Jvm.Cond.instanceMethod ({ cls := "PaidToWhisperModel", name := "tell", desc := "(IZ)I" } : Jvm.MethodName)) ∈ lw_g := gw_mem (i := 766) (by decide +kernel) (by decide +kernel)
theorem wd_767 : (Jvm.Cond.selects "PaidToWhisperModel" ({ cls := "PaidToWhisperModel", name := "tell", desc := "(IZ)I" } : Jvm.MethodName) ({ cls := "PaidToWhisperModel", name := "tell", desc := "(IZ)I" } : Jvm.MethodName)) ∈ lw_g := gw_mem (i := 767) (by decide +kernel) (by decide +kernel)
theorem wd_768 : (Jvm.Cond.code ({ cls := "PaidToWhisperModel", name := "tell", desc := "(IZ)I" } : Jvm.MethodName) prog_6_method_41_code (3 : Nat) (Option.some Jvm.ClassFile.FieldType.int)) ∈ lw_g := gw_mem (i := 768) (by decide +kernel) (by decide +kernel)
theorem wd_769 : (Jvm.Cond.methodLink "PaidToWhisperLaw" (97 : Nat) ({ cls := "PaidToWhisperModel", name := "forget", desc := "()I" } : Jvm.MethodName)) ∈ lw_g := gw_mem (i := 769) (by decide +kernel) (by decide +kernel)
theorem wd_770 : (Jvm.Cond.instanceMethod ({ cls := "PaidToWhisperModel", name := "forget", desc := "()I" } : Jvm.MethodName)) ∈ lw_g := gw_mem (i := 770) (by decide +kernel) (by decide +kernel)
theorem wd_771 : (Jvm.Cond.selects "PaidToWhisperModel" ({ cls := "PaidToWhisperModel", name := "forget", desc := "()I" } : Jvm.MethodName) ({ cls := "PaidToWhisperModel", name := "forget", desc := "()I" } : Jvm.MethodName)) ∈ lw_g := gw_mem (i := 771) (by decide +kernel) (by decide +kernel)
theorem wd_772 : (Jvm.Cond.code ({ cls := "PaidToWhisperModel", name := "forget", desc := "()I" } : Jvm.MethodName) prog_6_method_42_code (2 : Nat) (Option.some Jvm.ClassFile.FieldType.int)) ∈ lw_g := gw_mem (i := 772) (by decide +kernel) (by decide +kernel)
theorem wd_773 : (Jvm.Cond.methodLink "PaidToWhisperLaw" (101 : Nat) ({ cls := "PaidToWhisperModel", name := "where", desc := "(I)I" } : Jvm.MethodName)) ∈ lw_g := gw_mem (i := 773) (by decide +kernel) (by decide +kernel)
theorem wd_774 : (Jvm.Cond.instanceMethod ({ cls := "PaidToWhisperModel", name := "where", desc := "(I)I" } : Jvm.MethodName)) ∈ lw_g := gw_mem (i := 774) (by decide +kernel) (by decide +kernel)
theorem wd_775 : (Jvm.Cond.selects "PaidToWhisperModel" ({ cls := "PaidToWhisperModel", name := "where", desc := "(I)I" } : Jvm.MethodName) ({ cls := "PaidToWhisperModel", name := "where", desc := "(I)I" } : Jvm.MethodName)) ∈ lw_g := gw_mem (i := 775) (by decide +kernel) (by decide +kernel)
theorem wd_776 : (Jvm.Cond.code ({ cls := "PaidToWhisperModel", name := "where", desc := "(I)I" } : Jvm.MethodName) prog_6_method_45_code (2 : Nat) (Option.some Jvm.ClassFile.FieldType.int)) ∈ lw_g := gw_mem (i := 776) (by decide +kernel) (by decide +kernel)
theorem wd_777 : (Jvm.Cond.methodLink "PaidToWhisperModel" (156 : Nat) ({ cls := "PaidToWhisperModel", name := "whereOf", desc := "(I)I" } : Jvm.MethodName)) ∈ lw_g := gw_mem (i := 777) (by decide +kernel) (by decide +kernel)
theorem wd_779 : (Jvm.Cond.instanceMethod ({ cls := "PaidToWhisperModel", name := "whereOf", desc := "(I)I" } : Jvm.MethodName)) ∈ lw_g := gw_mem (i := 779) (by decide +kernel) (by decide +kernel)
theorem wd_780 : (Jvm.Cond.code ({ cls := "PaidToWhisperModel", name := "whereOf", desc := "(I)I" } : Jvm.MethodName) prog_6_method_44_code (5 : Nat) (Option.some Jvm.ClassFile.FieldType.int)) ∈ lw_g := gw_mem (i := 780) (by decide +kernel) (by decide +kernel)
theorem wd_781 : (Jvm.Cond.methodLink "PaidToWhisperModel" (153 : Nat) ({ cls := "PaidToWhisperModel", name := "isTold", desc := "(I)Z" } : Jvm.MethodName)) ∈ lw_g := gw_mem (i := 781) (by decide +kernel) (by decide +kernel)
theorem wd_783 : (Jvm.Cond.instanceMethod ({ cls := "PaidToWhisperModel", name := "isTold", desc := "(I)Z" } : Jvm.MethodName)) ∈ lw_g := gw_mem (i := 783) (by decide +kernel) (by decide +kernel)
theorem wd_784 : (Jvm.Cond.code ({ cls := "PaidToWhisperModel", name := "isTold", desc := "(I)Z" } : Jvm.MethodName) prog_6_method_43_code (5 : Nat) (Option.some Jvm.ClassFile.FieldType.boolean)) ∈ lw_g := gw_mem (i := 784) (by decide +kernel) (by decide +kernel)
theorem wd_785 : (Jvm.Cond.methodLink "PaidToWhisperLaw" (105 : Nat) ({ cls := "PaidToWhisperModel", name := "ask", desc := "()I" } : Jvm.MethodName)) ∈ lw_g := gw_mem (i := 785) (by decide +kernel) (by decide +kernel)
theorem wd_786 : (Jvm.Cond.instanceMethod ({ cls := "PaidToWhisperModel", name := "ask", desc := "()I" } : Jvm.MethodName)) ∈ lw_g := gw_mem (i := 786) (by decide +kernel) (by decide +kernel)
theorem wd_787 : (Jvm.Cond.selects "PaidToWhisperModel" ({ cls := "PaidToWhisperModel", name := "ask", desc := "()I" } : Jvm.MethodName) ({ cls := "PaidToWhisperModel", name := "ask", desc := "()I" } : Jvm.MethodName)) ∈ lw_g := gw_mem (i := 787) (by decide +kernel) (by decide +kernel)
theorem wd_788 : (Jvm.Cond.code ({ cls := "PaidToWhisperModel", name := "ask", desc := "()I" } : Jvm.MethodName) prog_6_method_47_code (1 : Nat) (Option.some Jvm.ClassFile.FieldType.int)) ∈ lw_g := gw_mem (i := 788) (by decide +kernel) (by decide +kernel)
theorem wd_789 : (Jvm.Cond.methodLink "PaidToWhisperModel" (159 : Nat) ({ cls := "PaidToWhisperModel", name := "askOf", desc := "()I" } : Jvm.MethodName)) ∈ lw_g := gw_mem (i := 789) (by decide +kernel) (by decide +kernel)
theorem wd_791 : (Jvm.Cond.instanceMethod ({ cls := "PaidToWhisperModel", name := "askOf", desc := "()I" } : Jvm.MethodName)) ∈ lw_g := gw_mem (i := 791) (by decide +kernel) (by decide +kernel)
theorem wd_792 : (Jvm.Cond.code ({ cls := "PaidToWhisperModel", name := "askOf", desc := "()I" } : Jvm.MethodName) prog_6_method_46_code (8 : Nat) (Option.some Jvm.ClassFile.FieldType.int)) ∈ lw_g := gw_mem (i := 792) (by decide +kernel) (by decide +kernel)
theorem wd_793 : (Jvm.Cond.methodLink "PaidToWhisperLaw" (110 : Nat) ({ cls := "PaidToWhisperModel", name := "days", desc := "(III)I" } : Jvm.MethodName)) ∈ lw_g := gw_mem (i := 793) (by decide +kernel) (by decide +kernel)
theorem wd_794 : (Jvm.Cond.instanceMethod ({ cls := "PaidToWhisperModel", name := "days", desc := "(III)I" } : Jvm.MethodName)) ∈ lw_g := gw_mem (i := 794) (by decide +kernel) (by decide +kernel)
theorem wd_795 : (Jvm.Cond.selects "PaidToWhisperModel" ({ cls := "PaidToWhisperModel", name := "days", desc := "(III)I" } : Jvm.MethodName) ({ cls := "PaidToWhisperModel", name := "days", desc := "(III)I" } : Jvm.MethodName)) ∈ lw_g := gw_mem (i := 795) (by decide +kernel) (by decide +kernel)
theorem wd_796 : (Jvm.Cond.code ({ cls := "PaidToWhisperModel", name := "days", desc := "(III)I" } : Jvm.MethodName) prog_6_method_49_code (8 : Nat) (Option.some Jvm.ClassFile.FieldType.int)) ∈ lw_g := gw_mem (i := 796) (by decide +kernel) (by decide +kernel)
theorem wd_797 : (Jvm.Cond.constantLong "PaidToWhisperModel" (172 : Nat) (60 : Int64)) ∈ lw_g := gw_mem (i := 797) (by decide +kernel) (by decide +kernel)
theorem wd_798 : (Jvm.Cond.constantLong "PaidToWhisperModel" (174 : Nat) (2 : Int64)) ∈ lw_g := gw_mem (i := 798) (by decide +kernel) (by decide +kernel)
theorem wd_799 : (Jvm.Cond.methodLink "PaidToWhisperModel" (176 : Nat) ({ cls := "PaidToWhisperModel", name := "draw", desc := "(I)I" } : Jvm.MethodName)) ∈ lw_g := gw_mem (i := 799) (by decide +kernel) (by decide +kernel)
theorem wd_801 : (Jvm.Cond.instanceMethod ({ cls := "PaidToWhisperModel", name := "draw", desc := "(I)I" } : Jvm.MethodName)) ∈ lw_g := gw_mem (i := 801) (by decide +kernel) (by decide +kernel)
theorem wd_802 : (Jvm.Cond.code ({ cls := "PaidToWhisperModel", name := "draw", desc := "(I)I" } : Jvm.MethodName) prog_6_method_48_code (2 : Nat) (Option.some Jvm.ClassFile.FieldType.int)) ∈ lw_g := gw_mem (i := 802) (by decide +kernel) (by decide +kernel)
theorem wd_803 : (Jvm.Cond.constantLong "PaidToWhisperModel" (162 : Nat) (1103515245 : Int64)) ∈ lw_g := gw_mem (i := 803) (by decide +kernel) (by decide +kernel)
theorem wd_804 : (Jvm.Cond.constantLong "PaidToWhisperModel" (167 : Nat) (12345 : Int64)) ∈ lw_g := gw_mem (i := 804) (by decide +kernel) (by decide +kernel)
theorem wd_805 : (Jvm.Cond.constantLong "PaidToWhisperModel" (169 : Nat) (2147483647 : Int64)) ∈ lw_g := gw_mem (i := 805) (by decide +kernel) (by decide +kernel)
theorem wd_806 : (Jvm.Cond.constant "PaidToWhisperModel" (171 : Nat) (65536 : Int32)) ∈ lw_g := gw_mem (i := 806) (by decide +kernel) (by decide +kernel)
theorem wd_807 : (Jvm.Cond.methodLink "PaidToWhisperLaw" (114 : Nat) ({ cls := "PaidToWhisperModel", name := "image", desc := "()I" } : Jvm.MethodName)) ∈ lw_g := gw_mem (i := 807) (by decide +kernel) (by decide +kernel)
theorem wd_808 : (Jvm.Cond.instanceMethod ({ cls := "PaidToWhisperModel", name := "image", desc := "()I" } : Jvm.MethodName)) ∈ lw_g := gw_mem (i := 808) (by decide +kernel) (by decide +kernel)
theorem wd_809 : (Jvm.Cond.selects "PaidToWhisperModel" ({ cls := "PaidToWhisperModel", name := "image", desc := "()I" } : Jvm.MethodName) ({ cls := "PaidToWhisperModel", name := "image", desc := "()I" } : Jvm.MethodName)) ∈ lw_g := gw_mem (i := 809) (by decide +kernel) (by decide +kernel)
theorem wd_810 : (Jvm.Cond.code ({ cls := "PaidToWhisperModel", name := "image", desc := "()I" } : Jvm.MethodName) prog_6_method_50_code (1 : Nat) (Option.some Jvm.ClassFile.FieldType.int)) ∈ lw_g := gw_mem (i := 810) (by decide +kernel) (by decide +kernel)
theorem wd_811 : (Jvm.Cond.methodLink "PaidToWhisperModel" (179 : Nat) ({ cls := "PaidToWhisperModel", name := "copy", desc := "([I[I)V" } : Jvm.MethodName)) ∈ lw_g := gw_mem (i := 811) (by decide +kernel) (by decide +kernel)
theorem wd_812 : (Jvm.Cond.static ({ cls := "PaidToWhisperModel", name := "copy", desc := "([I[I)V" } : Jvm.MethodName)) ∈ lw_g := gw_mem (i := 812) (by decide +kernel) (by decide +kernel)
theorem wd_813 : (Jvm.Cond.code ({ cls := "PaidToWhisperModel", name := "copy", desc := "([I[I)V" } : Jvm.MethodName) prog_6_method_3_code (3 : Nat) (Option.none : Option Jvm.ClassFile.FieldType)) ∈ lw_g := gw_mem (i := 813) (by decide +kernel) (by decide +kernel)
theorem wd_814 : (Jvm.Cond.methodLink "PaidToWhisperLaw" (118 : Nat) ({ cls := "PaidToWhisperModel", name := "restore", desc := "()I" } : Jvm.MethodName)) ∈ lw_g := gw_mem (i := 814) (by decide +kernel) (by decide +kernel)
theorem wd_815 : (Jvm.Cond.instanceMethod ({ cls := "PaidToWhisperModel", name := "restore", desc := "()I" } : Jvm.MethodName)) ∈ lw_g := gw_mem (i := 815) (by decide +kernel) (by decide +kernel)
theorem wd_816 : (Jvm.Cond.selects "PaidToWhisperModel" ({ cls := "PaidToWhisperModel", name := "restore", desc := "()I" } : Jvm.MethodName) ({ cls := "PaidToWhisperModel", name := "restore", desc := "()I" } : Jvm.MethodName)) ∈ lw_g := gw_mem (i := 816) (by decide +kernel) (by decide +kernel)
theorem wd_817 : (Jvm.Cond.code ({ cls := "PaidToWhisperModel", name := "restore", desc := "()I" } : Jvm.MethodName) prog_6_method_51_code (1 : Nat) (Option.some Jvm.ClassFile.FieldType.int)) ∈ lw_g := gw_mem (i := 817) (by decide +kernel) (by decide +kernel)
theorem wd_818 : (Jvm.Cond.methodLink "PaidToWhisperLaw" (122 : Nat) ({ cls := "PaidToWhisperModel", name := "count", desc := "(I)I" } : Jvm.MethodName)) ∈ lw_g := gw_mem (i := 818) (by decide +kernel) (by decide +kernel)
theorem wd_819 : (Jvm.Cond.instanceMethod ({ cls := "PaidToWhisperModel", name := "count", desc := "(I)I" } : Jvm.MethodName)) ∈ lw_g := gw_mem (i := 819) (by decide +kernel) (by decide +kernel)
theorem wd_820 : (Jvm.Cond.selects "PaidToWhisperModel" ({ cls := "PaidToWhisperModel", name := "count", desc := "(I)I" } : Jvm.MethodName) ({ cls := "PaidToWhisperModel", name := "count", desc := "(I)I" } : Jvm.MethodName)) ∈ lw_g := gw_mem (i := 820) (by decide +kernel) (by decide +kernel)
theorem wd_821 : (Jvm.Cond.code ({ cls := "PaidToWhisperModel", name := "count", desc := "(I)I" } : Jvm.MethodName) prog_6_method_53_code (2 : Nat) (Option.some Jvm.ClassFile.FieldType.int)) ∈ lw_g := gw_mem (i := 821) (by decide +kernel) (by decide +kernel)
theorem wd_822 : (Jvm.Cond.methodLink "PaidToWhisperModel" (204 : Nat) ({ cls := "PaidToWhisperModel", name := "countOf", desc := "(I)I" } : Jvm.MethodName)) ∈ lw_g := gw_mem (i := 822) (by decide +kernel) (by decide +kernel)
theorem wd_824 : (Jvm.Cond.instanceMethod ({ cls := "PaidToWhisperModel", name := "countOf", desc := "(I)I" } : Jvm.MethodName)) ∈ lw_g := gw_mem (i := 824) (by decide +kernel) (by decide +kernel)
theorem wd_825 : (Jvm.Cond.code ({ cls := "PaidToWhisperModel", name := "countOf", desc := "(I)I" } : Jvm.MethodName) prog_6_method_52_code (2 : Nat) (Option.some Jvm.ClassFile.FieldType.int)) ∈ lw_g := gw_mem (i := 825) (by decide +kernel) (by decide +kernel)
theorem wd_826 : (Jvm.Cond.methodLink "PaidToWhisperLaw" (127 : Nat) ({ cls := "PaidToWhisperModel", name := "digest", desc := "()J" } : Jvm.MethodName)) ∈ lw_g := gw_mem (i := 826) (by decide +kernel) (by decide +kernel)
theorem wd_827 : (Jvm.Cond.instanceMethod ({ cls := "PaidToWhisperModel", name := "digest", desc := "()J" } : Jvm.MethodName)) ∈ lw_g := gw_mem (i := 827) (by decide +kernel) (by decide +kernel)
theorem wd_828 : (Jvm.Cond.selects "PaidToWhisperModel" ({ cls := "PaidToWhisperModel", name := "digest", desc := "()J" } : Jvm.MethodName) ({ cls := "PaidToWhisperModel", name := "digest", desc := "()J" } : Jvm.MethodName)) ∈ lw_g := gw_mem (i := 828) (by decide +kernel) (by decide +kernel)
theorem wd_829 : (Jvm.Cond.code ({ cls := "PaidToWhisperModel", name := "digest", desc := "()J" } : Jvm.MethodName) prog_6_method_56_code (3 : Nat) (Option.some Jvm.ClassFile.FieldType.long)) ∈ lw_g := gw_mem (i := 829) (by decide +kernel) (by decide +kernel)
theorem wd_830 : (Jvm.Cond.constantLong "PaidToWhisperModel" (217 : Nat) (1009 : Int64)) ∈ lw_g := gw_mem (i := 830) (by decide +kernel) (by decide +kernel)
theorem wd_831 : (Jvm.Cond.methodLink "PaidToWhisperModel" (213 : Nat) ({ cls := "PaidToWhisperModel", name := "say", desc := "(J)V" } : Jvm.MethodName)) ∈ lw_g := gw_mem (i := 831) (by decide +kernel) (by decide +kernel)
theorem wd_833 : (Jvm.Cond.instanceMethod ({ cls := "PaidToWhisperModel", name := "say", desc := "(J)V" } : Jvm.MethodName)) ∈ lw_g := gw_mem (i := 833) (by decide +kernel) (by decide +kernel)
theorem wd_834 : (Jvm.Cond.code ({ cls := "PaidToWhisperModel", name := "say", desc := "(J)V" } : Jvm.MethodName) prog_6_method_54_code (3 : Nat) (Option.none : Option Jvm.ClassFile.FieldType)) ∈ lw_g := gw_mem (i := 834) (by decide +kernel) (by decide +kernel)
theorem wd_835 : (Jvm.Cond.constantLong "PaidToWhisperModel" (207 : Nat) (31 : Int64)) ∈ lw_g := gw_mem (i := 835) (by decide +kernel) (by decide +kernel)
theorem wd_836 : (Jvm.Cond.methodLink "PaidToWhisperModel" (219 : Nat) ({ cls := "PaidToWhisperModel", name := "sayTown", desc := "()V" } : Jvm.MethodName)) ∈ lw_g := gw_mem (i := 836) (by decide +kernel) (by decide +kernel)
theorem wd_838 : (Jvm.Cond.instanceMethod ({ cls := "PaidToWhisperModel", name := "sayTown", desc := "()V" } : Jvm.MethodName)) ∈ lw_g := gw_mem (i := 838) (by decide +kernel) (by decide +kernel)
theorem wd_839 : (Jvm.Cond.code ({ cls := "PaidToWhisperModel", name := "sayTown", desc := "()V" } : Jvm.MethodName) prog_6_method_55_code (2 : Nat) (Option.none : Option Jvm.ClassFile.FieldType)) ∈ lw_g := gw_mem (i := 839) (by decide +kernel) (by decide +kernel)
theorem wd_0 : (Cond.selects "PaidToWhisper" ⟨"PaidToWhisper", "isPlace", "(I)Z"⟩ ⟨"PaidToWhisper", "isPlace", "(I)Z"⟩) ∈ lw_g := gw_mem (i := 0) (by decide +kernel) (by decide +kernel)
theorem wd_1 : (Cond.selects "PaidToWhisper" ⟨"PaidToWhisper", "hasTown", "()Z"⟩ ⟨"PaidToWhisper", "hasTown", "()Z"⟩) ∈ lw_g := gw_mem (i := 1) (by decide +kernel) (by decide +kernel)
theorem wd_2 : (Cond.selects "PaidToWhisper" ⟨"PaidToWhisper", "isListener", "(I)Z"⟩ ⟨"PaidToWhisper", "isListener", "(I)Z"⟩) ∈ lw_g := gw_mem (i := 2) (by decide +kernel) (by decide +kernel)
theorem wd_3 : (Cond.selects "PaidToWhisper$Town" ⟨"PaidToWhisper$Town", "hearing", "(II)I"⟩ ⟨"PaidToWhisper$Town", "hearing", "(II)I"⟩) ∈ lw_g := gw_mem (i := 3) (by decide +kernel) (by decide +kernel)
theorem wd_4 : (Cond.selects "PaidToWhisper$Town" ⟨"PaidToWhisper$Town", "repeatedBy", "(I)I"⟩ ⟨"PaidToWhisper$Town", "repeatedBy", "(I)I"⟩) ∈ lw_g := gw_mem (i := 4) (by decide +kernel) (by decide +kernel)
theorem wd_5 : (Cond.selects "PaidToWhisper$Inquiry" ⟨"PaidToWhisper$Inquiry", "tally", "(I)V"⟩ ⟨"PaidToWhisper$Inquiry", "tally", "(I)V"⟩) ∈ lw_g := gw_mem (i := 5) (by decide +kernel) (by decide +kernel)
theorem wd_6 : (Cond.selects "PaidToWhisper$Inquiry" ⟨"PaidToWhisper$Inquiry", "draw", "(I)I"⟩ ⟨"PaidToWhisper$Inquiry", "draw", "(I)I"⟩) ∈ lw_g := gw_mem (i := 6) (by decide +kernel) (by decide +kernel)
theorem wd_7 : (Cond.selects "PaidToWhisper" ⟨"PaidToWhisper", "foldListeners", "(J)J"⟩ ⟨"PaidToWhisper", "foldListeners", "(J)J"⟩) ∈ lw_g := gw_mem (i := 7) (by decide +kernel) (by decide +kernel)
theorem wd_8 : (Cond.selects "PaidToWhisper" ⟨"PaidToWhisper", "foldPlaces", "(J)J"⟩ ⟨"PaidToWhisper", "foldPlaces", "(J)J"⟩) ∈ lw_g := gw_mem (i := 8) (by decide +kernel) (by decide +kernel)
theorem wd_9 : (Cond.selects "PaidToWhisper" ⟨"PaidToWhisper", "foldQuestions", "(J)J"⟩ ⟨"PaidToWhisper", "foldQuestions", "(J)J"⟩) ∈ lw_g := gw_mem (i := 9) (by decide +kernel) (by decide +kernel)
theorem wd_10 : (Cond.selects "PaidToWhisperModel" ⟨"PaidToWhisperModel", "faultOf", "()I"⟩ ⟨"PaidToWhisperModel", "faultOf", "()I"⟩) ∈ lw_g := gw_mem (i := 10) (by decide +kernel) (by decide +kernel)
theorem wd_11 : (Cond.selects "PaidToWhisperModel" ⟨"PaidToWhisperModel", "isPlace", "(I)Z"⟩ ⟨"PaidToWhisperModel", "isPlace", "(I)Z"⟩) ∈ lw_g := gw_mem (i := 11) (by decide +kernel) (by decide +kernel)
theorem wd_12 : (Cond.selects "PaidToWhisperModel" ⟨"PaidToWhisperModel", "lacks", "()Z"⟩ ⟨"PaidToWhisperModel", "lacks", "()Z"⟩) ∈ lw_g := gw_mem (i := 12) (by decide +kernel) (by decide +kernel)
theorem wd_13 : (Cond.selects "PaidToWhisperModel" ⟨"PaidToWhisperModel", "isListener", "(I)Z"⟩ ⟨"PaidToWhisperModel", "isListener", "(I)Z"⟩) ∈ lw_g := gw_mem (i := 13) (by decide +kernel) (by decide +kernel)
theorem wd_14 : (Cond.selects "PaidToWhisperModel" ⟨"PaidToWhisperModel", "listenerOf", "(II)I"⟩ ⟨"PaidToWhisperModel", "listenerOf", "(II)I"⟩) ∈ lw_g := gw_mem (i := 14) (by decide +kernel) (by decide +kernel)
theorem wd_15 : (Cond.selects "PaidToWhisperModel" ⟨"PaidToWhisperModel", "knowing", "(I)I"⟩ ⟨"PaidToWhisperModel", "knowing", "(I)I"⟩) ∈ lw_g := gw_mem (i := 15) (by decide +kernel) (by decide +kernel)
theorem wd_16 : (Cond.selects "PaidToWhisperModel" ⟨"PaidToWhisperModel", "needsOf", "(I)I"⟩ ⟨"PaidToWhisperModel", "needsOf", "(I)I"⟩) ∈ lw_g := gw_mem (i := 16) (by decide +kernel) (by decide +kernel)
theorem wd_17 : (Cond.selects "PaidToWhisperModel" ⟨"PaidToWhisperModel", "criesOf", "(I)I"⟩ ⟨"PaidToWhisperModel", "criesOf", "(I)I"⟩) ∈ lw_g := gw_mem (i := 17) (by decide +kernel) (by decide +kernel)
theorem wd_18 : (Cond.selects "PaidToWhisperModel" ⟨"PaidToWhisperModel", "allListeners", "()I"⟩ ⟨"PaidToWhisperModel", "allListeners", "()I"⟩) ∈ lw_g := gw_mem (i := 18) (by decide +kernel) (by decide +kernel)
theorem wd_19 : (Cond.selects "PaidToWhisperModel" ⟨"PaidToWhisperModel", "heardBy", "(IIII)I"⟩ ⟨"PaidToWhisperModel", "heardBy", "(IIII)I"⟩) ∈ lw_g := gw_mem (i := 19) (by decide +kernel) (by decide +kernel)
theorem wd_20 : (Cond.selects "PaidToWhisperModel" ⟨"PaidToWhisperModel", "hearing", "(III)I"⟩ ⟨"PaidToWhisperModel", "hearing", "(III)I"⟩) ∈ lw_g := gw_mem (i := 20) (by decide +kernel) (by decide +kernel)
theorem wd_21 : (Cond.selects "PaidToWhisperModel" ⟨"PaidToWhisperModel", "knowThen", "(III)I"⟩ ⟨"PaidToWhisperModel", "knowThen", "(III)I"⟩) ∈ lw_g := gw_mem (i := 21) (by decide +kernel) (by decide +kernel)
theorem wd_22 : (Cond.selects "PaidToWhisperModel" ⟨"PaidToWhisperModel", "leastOf", "(I)I"⟩ ⟨"PaidToWhisperModel", "leastOf", "(I)I"⟩) ∈ lw_g := gw_mem (i := 22) (by decide +kernel) (by decide +kernel)
theorem wd_23 : (Cond.selects "PaidToWhisperModel" ⟨"PaidToWhisperModel", "coverOf", "(II)I"⟩ ⟨"PaidToWhisperModel", "coverOf", "(II)I"⟩) ∈ lw_g := gw_mem (i := 23) (by decide +kernel) (by decide +kernel)
theorem wd_24 : (Cond.selects "PaidToWhisperModel" ⟨"PaidToWhisperModel", "isCovered", "(III)Z"⟩ ⟨"PaidToWhisperModel", "isCovered", "(III)Z"⟩) ∈ lw_g := gw_mem (i := 24) (by decide +kernel) (by decide +kernel)
theorem wd_25 : (Cond.selects "PaidToWhisperModel" ⟨"PaidToWhisperModel", "tellHush", "(IIII)I"⟩ ⟨"PaidToWhisperModel", "tellHush", "(IIII)I"⟩) ∈ lw_g := gw_mem (i := 25) (by decide +kernel) (by decide +kernel)
theorem wd_26 : (Cond.selects "PaidToWhisperModel" ⟨"PaidToWhisperModel", "hushOf", "(III)I"⟩ ⟨"PaidToWhisperModel", "hushOf", "(III)I"⟩) ∈ lw_g := gw_mem (i := 26) (by decide +kernel) (by decide +kernel)
theorem wd_27 : (Cond.selects "PaidToWhisperModel" ⟨"PaidToWhisperModel", "whereOf", "(I)I"⟩ ⟨"PaidToWhisperModel", "whereOf", "(I)I"⟩) ∈ lw_g := gw_mem (i := 27) (by decide +kernel) (by decide +kernel)
theorem wd_28 : (Cond.selects "PaidToWhisperModel" ⟨"PaidToWhisperModel", "isTold", "(I)Z"⟩ ⟨"PaidToWhisperModel", "isTold", "(I)Z"⟩) ∈ lw_g := gw_mem (i := 28) (by decide +kernel) (by decide +kernel)
theorem wd_29 : (Cond.selects "PaidToWhisperModel" ⟨"PaidToWhisperModel", "askOf", "()I"⟩ ⟨"PaidToWhisperModel", "askOf", "()I"⟩) ∈ lw_g := gw_mem (i := 29) (by decide +kernel) (by decide +kernel)
theorem wd_30 : (Cond.selects "PaidToWhisperModel" ⟨"PaidToWhisperModel", "draw", "(I)I"⟩ ⟨"PaidToWhisperModel", "draw", "(I)I"⟩) ∈ lw_g := gw_mem (i := 30) (by decide +kernel) (by decide +kernel)
theorem wd_31 : (Cond.selects "PaidToWhisperModel" ⟨"PaidToWhisperModel", "countOf", "(I)I"⟩ ⟨"PaidToWhisperModel", "countOf", "(I)I"⟩) ∈ lw_g := gw_mem (i := 31) (by decide +kernel) (by decide +kernel)
theorem wd_32 : (Cond.selects "PaidToWhisperModel" ⟨"PaidToWhisperModel", "say", "(J)V"⟩ ⟨"PaidToWhisperModel", "say", "(J)V"⟩) ∈ lw_g := gw_mem (i := 32) (by decide +kernel) (by decide +kernel)
theorem wd_33 : (Cond.selects "PaidToWhisperModel" ⟨"PaidToWhisperModel", "sayTown", "()V"⟩ ⟨"PaidToWhisperModel", "sayTown", "()V"⟩) ∈ lw_g := gw_mem (i := 33) (by decide +kernel) (by decide +kernel)
theorem gd_X3_init : GoodIn lw_g (Cond.code yX3_init cX3_init 1 none :: lw_g) := gw_in wd_47
theorem hd_X3_init : yX3_init.cls ≠ "java/lang/invoke/MethodHandle" ∧ yX3_init.cls ≠ "java/lang/invoke/VarHandle" ∧ (parseMethodDescriptor yX3_init.desc).map (fun d => d.parameters.length) = some 0 := by decide +kernel
theorem gd_X1_init : GoodIn lw_g (Cond.code yX1_init cX1_init 1 none :: lw_g) := gw_in wd_55
theorem hd_X1_init : yX1_init.cls ≠ "java/lang/invoke/MethodHandle" ∧ yX1_init.cls ≠ "java/lang/invoke/VarHandle" ∧ (parseMethodDescriptor yX1_init.desc).map (fun d => d.parameters.length) = some 0 := by decide +kernel
theorem gd_X2_init : GoodIn lw_g (Cond.code yX2_init cX2_init 1 none :: lw_g) := gw_in wd_71
theorem hd_X2_init : yX2_init.cls ≠ "java/lang/invoke/MethodHandle" ∧ yX2_init.cls ≠ "java/lang/invoke/VarHandle" ∧ (parseMethodDescriptor yX2_init.desc).map (fun d => d.parameters.length) = some 0 := by decide +kernel
theorem gd_X0_init : GoodIn lw_g (Cond.code yX0_init cX0_init 1 none :: lw_g) := gw_in wd_144
theorem hd_X0_init : yX0_init.cls ≠ "java/lang/invoke/MethodHandle" ∧ yX0_init.cls ≠ "java/lang/invoke/VarHandle" ∧ (parseMethodDescriptor yX0_init.desc).map (fun d => d.parameters.length) = some 0 := by decide +kernel
theorem gd_X3_letter : GoodIn lw_g (Cond.code yX3_letter cX3_letter 2 (some .int) :: lw_g) := gw_in wd_200
theorem hd_X3_letter : yX3_letter.cls ≠ "java/lang/invoke/MethodHandle" ∧ yX3_letter.cls ≠ "java/lang/invoke/VarHandle" ∧ (parseMethodDescriptor yX3_letter.desc).map (fun d => d.parameters.length) = some 1 := by decide +kernel
theorem gd_X1_add : GoodIn lw_g (Cond.code yX1_add cX1_add 2 (some .int) :: lw_g) := gw_in wd_204
theorem hd_X1_add : yX1_add.cls ≠ "java/lang/invoke/MethodHandle" ∧ yX1_add.cls ≠ "java/lang/invoke/VarHandle" ∧ (parseMethodDescriptor yX1_add.desc).map (fun d => d.parameters.length) = some 1 := by decide +kernel
theorem gd_X3_blank : GoodIn lw_g (Cond.code yX3_blank cX3_blank 1 (some .int) :: lw_g) := gw_in wd_208
theorem hd_X3_blank : yX3_blank.cls ≠ "java/lang/invoke/MethodHandle" ∧ yX3_blank.cls ≠ "java/lang/invoke/VarHandle" ∧ (parseMethodDescriptor yX3_blank.desc).map (fun d => d.parameters.length) = some 0 := by decide +kernel
theorem gd_X1_clear : GoodIn lw_g (Cond.code yX1_clear cX1_clear 2 (some .int) :: lw_g) := gw_in wd_212
theorem hd_X1_clear : yX1_clear.cls ≠ "java/lang/invoke/MethodHandle" ∧ yX1_clear.cls ≠ "java/lang/invoke/VarHandle" ∧ (parseMethodDescriptor yX1_clear.desc).map (fun d => d.parameters.length) = some 0 := by decide +kernel
theorem gd_X3_fault : GoodIn lw_g (Cond.code yX3_fault cX3_fault 1 (some .int) :: lw_g) := gw_in wd_216
theorem hd_X3_fault : yX3_fault.cls ≠ "java/lang/invoke/MethodHandle" ∧ yX3_fault.cls ≠ "java/lang/invoke/VarHandle" ∧ (parseMethodDescriptor yX3_fault.desc).map (fun d => d.parameters.length) = some 0 := by decide +kernel
theorem gd_X1_firstWrong : GoodIn lw_g (Cond.code yX1_firstWrong cX1_firstWrong 2 (some .int) :: lw_g) := gw_in wd_220
theorem hd_X1_firstWrong : yX1_firstWrong.cls ≠ "java/lang/invoke/MethodHandle" ∧ yX1_firstWrong.cls ≠ "java/lang/invoke/VarHandle" ∧ (parseMethodDescriptor yX1_firstWrong.desc).map (fun d => d.parameters.length) = some 0 := by decide +kernel
theorem gd_X1_fits : GoodIn lw_g (Cond.code yX1_fits cX1_fits 2 (some .boolean) :: lw_g) := gw_in wd_223
theorem hd_X1_fits : yX1_fits.cls ≠ "java/lang/invoke/MethodHandle" ∧ yX1_fits.cls ≠ "java/lang/invoke/VarHandle" ∧ (parseMethodDescriptor yX1_fits.desc).map (fun d => d.parameters.length) = some 2 := by decide +kernel
theorem gd_X3_town : GoodIn lw_g (Cond.code yX3_town cX3_town 1 (some .int) :: lw_g) := gw_in wd_227
theorem hd_X3_town : yX3_town.cls ≠ "java/lang/invoke/MethodHandle" ∧ yX3_town.cls ≠ "java/lang/invoke/VarHandle" ∧ (parseMethodDescriptor yX3_town.desc).map (fun d => d.parameters.length) = some 0 := by decide +kernel
theorem gd_X1_isTown : GoodIn lw_g (Cond.code yX1_isTown cX1_isTown 1 (some .boolean) :: lw_g) := gw_in wd_231
theorem hd_X1_isTown : yX1_isTown.cls ≠ "java/lang/invoke/MethodHandle" ∧ yX1_isTown.cls ≠ "java/lang/invoke/VarHandle" ∧ (parseMethodDescriptor yX1_isTown.desc).map (fun d => d.parameters.length) = some 0 := by decide +kernel
theorem gd_X2_begin : GoodIn lw_g (Cond.code yX2_begin cX2_begin 3 none :: lw_g) := gw_in wd_236
theorem hd_X2_begin : yX2_begin.cls ≠ "java/lang/invoke/MethodHandle" ∧ yX2_begin.cls ≠ "java/lang/invoke/VarHandle" ∧ (parseMethodDescriptor yX2_begin.desc).map (fun d => d.parameters.length) = some 1 := by decide +kernel
theorem gd_X1_digit : GoodIn lw_g (Cond.code yX1_digit cX1_digit 2 (some .int) :: lw_g) := gw_in wd_240
theorem hd_X1_digit : yX1_digit.cls ≠ "java/lang/invoke/MethodHandle" ∧ yX1_digit.cls ≠ "java/lang/invoke/VarHandle" ∧ (parseMethodDescriptor yX1_digit.desc).map (fun d => d.parameters.length) = some 1 := by decide +kernel
theorem gd_X2_dropTold : GoodIn lw_g (Cond.code yX2_dropTold cX2_dropTold 2 (some .int) :: lw_g) := gw_in wd_244
theorem hd_X2_dropTold : yX2_dropTold.cls ≠ "java/lang/invoke/MethodHandle" ∧ yX2_dropTold.cls ≠ "java/lang/invoke/VarHandle" ∧ (parseMethodDescriptor yX2_dropTold.desc).map (fun d => d.parameters.length) = some 0 := by decide +kernel
theorem gd_X2_noiseInAll : GoodIn lw_g (Cond.code yX2_noiseInAll cX2_noiseInAll 3 (some .int) :: lw_g) := gw_in wd_248
theorem hd_X2_noiseInAll : yX2_noiseInAll.cls ≠ "java/lang/invoke/MethodHandle" ∧ yX2_noiseInAll.cls ≠ "java/lang/invoke/VarHandle" ∧ (parseMethodDescriptor yX2_noiseInAll.desc).map (fun d => d.parameters.length) = some 0 := by decide +kernel
theorem gd_X3_noise : GoodIn lw_g (Cond.code yX3_noise cX3_noise 2 (some .int) :: lw_g) := gw_in wd_252
theorem hd_X3_noise : yX3_noise.cls ≠ "java/lang/invoke/MethodHandle" ∧ yX3_noise.cls ≠ "java/lang/invoke/VarHandle" ∧ (parseMethodDescriptor yX3_noise.desc).map (fun d => d.parameters.length) = some 1 := by decide +kernel
theorem gd_X3_isPlace : GoodIn lw_g (Cond.code yX3_isPlace cX3_isPlace 2 (some .boolean) :: lw_g) := gw_in wd_256
theorem hd_X3_isPlace : yX3_isPlace.cls ≠ "java/lang/invoke/MethodHandle" ∧ yX3_isPlace.cls ≠ "java/lang/invoke/VarHandle" ∧ (parseMethodDescriptor yX3_isPlace.desc).map (fun d => d.parameters.length) = some 1 := by decide +kernel
theorem gd_X3_hasTown : GoodIn lw_g (Cond.code yX3_hasTown cX3_hasTown 1 (some .boolean) :: lw_g) := gw_in wd_260
theorem hd_X3_hasTown : yX3_hasTown.cls ≠ "java/lang/invoke/MethodHandle" ∧ yX3_hasTown.cls ≠ "java/lang/invoke/VarHandle" ∧ (parseMethodDescriptor yX3_hasTown.desc).map (fun d => d.parameters.length) = some 0 := by decide +kernel
theorem gd_X3_hum : GoodIn lw_g (Cond.code yX3_hum cX3_hum 4 (some .int) :: lw_g) := gw_in wd_264
theorem hd_X3_hum : yX3_hum.cls ≠ "java/lang/invoke/MethodHandle" ∧ yX3_hum.cls ≠ "java/lang/invoke/VarHandle" ∧ (parseMethodDescriptor yX3_hum.desc).map (fun d => d.parameters.length) = some 2 := by decide +kernel
theorem gd_X3_listener : GoodIn lw_g (Cond.code yX3_listener cX3_listener 3 (some .int) :: lw_g) := gw_in wd_268
theorem hd_X3_listener : yX3_listener.cls ≠ "java/lang/invoke/MethodHandle" ∧ yX3_listener.cls ≠ "java/lang/invoke/VarHandle" ∧ (parseMethodDescriptor yX3_listener.desc).map (fun d => d.parameters.length) = some 2 := by decide +kernel
theorem gd_X3_isKind : GoodIn lw_g (Cond.code yX3_isKind cX3_isKind 1 (some .boolean) :: lw_g) := gw_in wd_271
theorem hd_X3_isKind : yX3_isKind.cls ≠ "java/lang/invoke/MethodHandle" ∧ yX3_isKind.cls ≠ "java/lang/invoke/VarHandle" ∧ (parseMethodDescriptor yX3_isKind.desc).map (fun d => d.parameters.length) = some 1 := by decide +kernel
theorem gd_X2_settle : GoodIn lw_g (Cond.code yX2_settle cX2_settle 4 (some .int) :: lw_g) := gw_in wd_275
theorem hd_X2_settle : yX2_settle.cls ≠ "java/lang/invoke/MethodHandle" ∧ yX2_settle.cls ≠ "java/lang/invoke/VarHandle" ∧ (parseMethodDescriptor yX2_settle.desc).map (fun d => d.parameters.length) = some 2 := by decide +kernel
theorem gd_X2_loudNeeded : GoodIn lw_g (Cond.code yX2_loudNeeded cX2_loudNeeded 1 (some .int) :: lw_g) := gw_in wd_278
theorem hd_X2_loudNeeded : yX2_loudNeeded.cls ≠ "java/lang/invoke/MethodHandle" ∧ yX2_loudNeeded.cls ≠ "java/lang/invoke/VarHandle" ∧ (parseMethodDescriptor yX2_loudNeeded.desc).map (fun d => d.parameters.length) = some 1 := by decide +kernel
theorem gd_X2_loudRepeated : GoodIn lw_g (Cond.code yX2_loudRepeated cX2_loudRepeated 1 (some .int) :: lw_g) := gw_in wd_281
theorem hd_X2_loudRepeated : yX2_loudRepeated.cls ≠ "java/lang/invoke/MethodHandle" ∧ yX2_loudRepeated.cls ≠ "java/lang/invoke/VarHandle" ∧ (parseMethodDescriptor yX2_loudRepeated.desc).map (fun d => d.parameters.length) = some 1 := by decide +kernel
theorem gd_X3_about : GoodIn lw_g (Cond.code yX3_about cX3_about 3 (some .int) :: lw_g) := gw_in wd_285
theorem hd_X3_about : yX3_about.cls ≠ "java/lang/invoke/MethodHandle" ∧ yX3_about.cls ≠ "java/lang/invoke/VarHandle" ∧ (parseMethodDescriptor yX3_about.desc).map (fun d => d.parameters.length) = some 2 := by decide +kernel
theorem gd_X3_isListener : GoodIn lw_g (Cond.code yX3_isListener cX3_isListener 2 (some .boolean) :: lw_g) := gw_in wd_289
theorem hd_X3_isListener : yX3_isListener.cls ≠ "java/lang/invoke/MethodHandle" ∧ yX3_isListener.cls ≠ "java/lang/invoke/VarHandle" ∧ (parseMethodDescriptor yX3_isListener.desc).map (fun d => d.parameters.length) = some 1 := by decide +kernel
theorem gd_X2_knowing : GoodIn lw_g (Cond.code yX2_knowing cX2_knowing 2 (some .int) :: lw_g) := gw_in wd_293
theorem hd_X2_knowing : yX2_knowing.cls ≠ "java/lang/invoke/MethodHandle" ∧ yX2_knowing.cls ≠ "java/lang/invoke/VarHandle" ∧ (parseMethodDescriptor yX2_knowing.desc).map (fun d => d.parameters.length) = some 1 := by decide +kernel
theorem gd_X3_bit : GoodIn lw_g (Cond.code yX3_bit cX3_bit 2 (some .int) :: lw_g) := gw_in wd_296
theorem hd_X3_bit : yX3_bit.cls ≠ "java/lang/invoke/MethodHandle" ∧ yX3_bit.cls ≠ "java/lang/invoke/VarHandle" ∧ (parseMethodDescriptor yX3_bit.desc).map (fun d => d.parameters.length) = some 2 := by decide +kernel
theorem gd_X3_as : GoodIn lw_g (Cond.code yX3_as cX3_as 3 (some .int) :: lw_g) := gw_in wd_300
theorem hd_X3_as : yX3_as.cls ≠ "java/lang/invoke/MethodHandle" ∧ yX3_as.cls ≠ "java/lang/invoke/VarHandle" ∧ (parseMethodDescriptor yX3_as.desc).map (fun d => d.parameters.length) = some 2 := by decide +kernel
theorem gd_X3_isOfKind : GoodIn lw_g (Cond.code yX3_isOfKind cX3_isOfKind 2 (some .boolean) :: lw_g) := gw_in wd_303
theorem hd_X3_isOfKind : yX3_isOfKind.cls ≠ "java/lang/invoke/MethodHandle" ∧ yX3_isOfKind.cls ≠ "java/lang/invoke/VarHandle" ∧ (parseMethodDescriptor yX3_isOfKind.desc).map (fun d => d.parameters.length) = some 2 := by decide +kernel
theorem gd_X3_move : GoodIn lw_g (Cond.code yX3_move cX3_move 4 (some .int) :: lw_g) := gw_in wd_307
theorem hd_X3_move : yX3_move.cls ≠ "java/lang/invoke/MethodHandle" ∧ yX3_move.cls ≠ "java/lang/invoke/VarHandle" ∧ (parseMethodDescriptor yX3_move.desc).map (fun d => d.parameters.length) = some 2 := by decide +kernel
theorem gd_X3_cry : GoodIn lw_g (Cond.code yX3_cry cX3_cry 3 (some .int) :: lw_g) := gw_in wd_311
theorem hd_X3_cry : yX3_cry.cls ≠ "java/lang/invoke/MethodHandle" ∧ yX3_cry.cls ≠ "java/lang/invoke/VarHandle" ∧ (parseMethodDescriptor yX3_cry.desc).map (fun d => d.parameters.length) = some 2 := by decide +kernel
theorem gd_X3_isLoud : GoodIn lw_g (Cond.code yX3_isLoud cX3_isLoud 1 (some .boolean) :: lw_g) := gw_in wd_314
theorem hd_X3_isLoud : yX3_isLoud.cls ≠ "java/lang/invoke/MethodHandle" ∧ yX3_isLoud.cls ≠ "java/lang/invoke/VarHandle" ∧ (parseMethodDescriptor yX3_isLoud.desc).map (fun d => d.parameters.length) = some 1 := by decide +kernel
theorem gd_X2_proclaim : GoodIn lw_g (Cond.code yX2_proclaim cX2_proclaim 5 (some .int) :: lw_g) := gw_in wd_318
theorem hd_X2_proclaim : yX2_proclaim.cls ≠ "java/lang/invoke/MethodHandle" ∧ yX2_proclaim.cls ≠ "java/lang/invoke/VarHandle" ∧ (parseMethodDescriptor yX2_proclaim.desc).map (fun d => d.parameters.length) = some 2 := by decide +kernel
theorem gd_X2_spread : GoodIn lw_g (Cond.code yX2_spread cX2_spread 9 (some .int) :: lw_g) := gw_in wd_322
theorem hd_X2_spread : yX2_spread.cls ≠ "java/lang/invoke/MethodHandle" ∧ yX2_spread.cls ≠ "java/lang/invoke/VarHandle" ∧ (parseMethodDescriptor yX2_spread.desc).map (fun d => d.parameters.length) = some 4 := by decide +kernel
theorem gd_X2_hearing : GoodIn lw_g (Cond.code yX2_hearing cX2_hearing 7 (some .int) :: lw_g) := gw_in wd_326
theorem hd_X2_hearing : yX2_hearing.cls ≠ "java/lang/invoke/MethodHandle" ∧ yX2_hearing.cls ≠ "java/lang/invoke/VarHandle" ∧ (parseMethodDescriptor yX2_hearing.desc).map (fun d => d.parameters.length) = some 2 := by decide +kernel
theorem gd_X2_repeatedBy : GoodIn lw_g (Cond.code yX2_repeatedBy cX2_repeatedBy 4 (some .int) :: lw_g) := gw_in wd_330
theorem hd_X2_repeatedBy : yX2_repeatedBy.cls ≠ "java/lang/invoke/MethodHandle" ∧ yX2_repeatedBy.cls ≠ "java/lang/invoke/VarHandle" ∧ (parseMethodDescriptor yX2_repeatedBy.desc).map (fun d => d.parameters.length) = some 1 := by decide +kernel
theorem gd_J6_bitCount_0f7a4 : GoodIn lw_g (Cond.code yJ6_bitCount_0f7a4 cJ6_bitCount_0f7a4 1 (some .int) :: lw_g) := gw_in wd_334
theorem hd_J6_bitCount_0f7a4 : yJ6_bitCount_0f7a4.cls ≠ "java/lang/invoke/MethodHandle" ∧ yJ6_bitCount_0f7a4.cls ≠ "java/lang/invoke/VarHandle" ∧ (parseMethodDescriptor yJ6_bitCount_0f7a4.desc).map (fun d => d.parameters.length) = some 1 := by decide +kernel
theorem gd_X3_would : GoodIn lw_g (Cond.code yX3_would cX3_would 3 (some .int) :: lw_g) := gw_in wd_341
theorem hd_X3_would : yX3_would.cls ≠ "java/lang/invoke/MethodHandle" ∧ yX3_would.cls ≠ "java/lang/invoke/VarHandle" ∧ (parseMethodDescriptor yX3_would.desc).map (fun d => d.parameters.length) = some 2 := by decide +kernel
theorem gd_X3_honey : GoodIn lw_g (Cond.code yX3_honey cX3_honey 1 (some .int) :: lw_g) := gw_in wd_346
theorem hd_X3_honey : yX3_honey.cls ≠ "java/lang/invoke/MethodHandle" ∧ yX3_honey.cls ≠ "java/lang/invoke/VarHandle" ∧ (parseMethodDescriptor yX3_honey.desc).map (fun d => d.parameters.length) = some 0 := by decide +kernel
theorem gd_X2_sweeten : GoodIn lw_g (Cond.code yX2_sweeten cX2_sweeten 1 (some .int) :: lw_g) := gw_in wd_350
theorem hd_X2_sweeten : yX2_sweeten.cls ≠ "java/lang/invoke/MethodHandle" ∧ yX2_sweeten.cls ≠ "java/lang/invoke/VarHandle" ∧ (parseMethodDescriptor yX2_sweeten.desc).map (fun d => d.parameters.length) = some 0 := by decide +kernel
theorem gd_J9_min_7cf53 : GoodIn lw_g (Cond.code yJ9_min_7cf53 cJ9_min_7cf53 2 (some .int) :: lw_g) := gw_in wd_353
theorem hd_J9_min_7cf53 : yJ9_min_7cf53.cls ≠ "java/lang/invoke/MethodHandle" ∧ yJ9_min_7cf53.cls ≠ "java/lang/invoke/VarHandle" ∧ (parseMethodDescriptor yJ9_min_7cf53.desc).map (fun d => d.parameters.length) = some 2 := by decide +kernel
theorem gd_X3_day : GoodIn lw_g (Cond.code yX3_day cX3_day 1 (some .int) :: lw_g) := gw_in wd_357
theorem hd_X3_day : yX3_day.cls ≠ "java/lang/invoke/MethodHandle" ∧ yX3_day.cls ≠ "java/lang/invoke/VarHandle" ∧ (parseMethodDescriptor yX3_day.desc).map (fun d => d.parameters.length) = some 0 := by decide +kernel
theorem gd_X2_sleep : GoodIn lw_g (Cond.code yX2_sleep cX2_sleep 1 (some .int) :: lw_g) := gw_in wd_361
theorem hd_X2_sleep : yX2_sleep.cls ≠ "java/lang/invoke/MethodHandle" ∧ yX2_sleep.cls ≠ "java/lang/invoke/VarHandle" ∧ (parseMethodDescriptor yX2_sleep.desc).map (fun d => d.parameters.length) = some 0 := by decide +kernel
theorem gd_X3_decree : GoodIn lw_g (Cond.code yX3_decree cX3_decree 1 (some .int) :: lw_g) := gw_in wd_365
theorem hd_X3_decree : yX3_decree.cls ≠ "java/lang/invoke/MethodHandle" ∧ yX3_decree.cls ≠ "java/lang/invoke/VarHandle" ∧ (parseMethodDescriptor yX3_decree.desc).map (fun d => d.parameters.length) = some 0 := by decide +kernel
theorem gd_X2_renew : GoodIn lw_g (Cond.code yX2_renew cX2_renew 2 (some .int) :: lw_g) := gw_in wd_369
theorem hd_X2_renew : yX2_renew.cls ≠ "java/lang/invoke/MethodHandle" ∧ yX2_renew.cls ≠ "java/lang/invoke/VarHandle" ∧ (parseMethodDescriptor yX2_renew.desc).map (fun d => d.parameters.length) = some 0 := by decide +kernel
theorem gd_X3_least : GoodIn lw_g (Cond.code yX3_least cX3_least 2 (some .int) :: lw_g) := gw_in wd_373
theorem hd_X3_least : yX3_least.cls ≠ "java/lang/invoke/MethodHandle" ∧ yX3_least.cls ≠ "java/lang/invoke/VarHandle" ∧ (parseMethodDescriptor yX3_least.desc).map (fun d => d.parameters.length) = some 1 := by decide +kernel
theorem gd_X0_whisper : GoodIn lw_g (Cond.code yX0_whisper cX0_whisper 5 none :: lw_g) := gw_in wd_377
theorem hd_X0_whisper : yX0_whisper.cls ≠ "java/lang/invoke/MethodHandle" ∧ yX0_whisper.cls ≠ "java/lang/invoke/VarHandle" ∧ (parseMethodDescriptor yX0_whisper.desc).map (fun d => d.parameters.length) = some 1 := by decide +kernel
theorem gd_X3_cover : GoodIn lw_g (Cond.code yX3_cover cX3_cover 4 (some .int) :: lw_g) := gw_in wd_384
theorem hd_X3_cover : yX3_cover.cls ≠ "java/lang/invoke/MethodHandle" ∧ yX3_cover.cls ≠ "java/lang/invoke/VarHandle" ∧ (parseMethodDescriptor yX3_cover.desc).map (fun d => d.parameters.length) = some 2 := by decide +kernel
theorem gd_X2_everyone : GoodIn lw_g (Cond.code yX2_everyone cX2_everyone 1 (some .int) :: lw_g) := gw_in wd_388
theorem hd_X2_everyone : yX2_everyone.cls ≠ "java/lang/invoke/MethodHandle" ∧ yX2_everyone.cls ≠ "java/lang/invoke/VarHandle" ∧ (parseMethodDescriptor yX2_everyone.desc).map (fun d => d.parameters.length) = some 0 := by decide +kernel
theorem gd_X0_coverPlan : GoodIn lw_g (Cond.code yX0_coverPlan cX0_coverPlan 4 (some .int) :: lw_g) := gw_in wd_391
theorem hd_X0_coverPlan : yX0_coverPlan.cls ≠ "java/lang/invoke/MethodHandle" ∧ yX0_coverPlan.cls ≠ "java/lang/invoke/VarHandle" ∧ (parseMethodDescriptor yX0_coverPlan.desc).map (fun d => d.parameters.length) = some 2 := by decide +kernel
theorem gd_X0_planFrom : GoodIn lw_g (Cond.code yX0_planFrom cX0_planFrom 9 (some .int) :: lw_g) := gw_in wd_394
theorem hd_X0_planFrom : yX0_planFrom.cls ≠ "java/lang/invoke/MethodHandle" ∧ yX0_planFrom.cls ≠ "java/lang/invoke/VarHandle" ∧ (parseMethodDescriptor yX0_planFrom.desc).map (fun d => d.parameters.length) = some 5 := by decide +kernel
theorem gd_X0_partOfPlan : GoodIn lw_g (Cond.code yX0_partOfPlan cX0_partOfPlan 4 (some .int) :: lw_g) := gw_in wd_397
theorem hd_X0_partOfPlan : yX0_partOfPlan.cls ≠ "java/lang/invoke/MethodHandle" ∧ yX0_partOfPlan.cls ≠ "java/lang/invoke/VarHandle" ∧ (parseMethodDescriptor yX0_partOfPlan.desc).map (fun d => d.parameters.length) = some 2 := by decide +kernel
theorem gd_X3_hush : GoodIn lw_g (Cond.code yX3_hush cX3_hush 6 (some .int) :: lw_g) := gw_in wd_401
theorem hd_X3_hush : yX3_hush.cls ≠ "java/lang/invoke/MethodHandle" ∧ yX3_hush.cls ≠ "java/lang/invoke/VarHandle" ∧ (parseMethodDescriptor yX3_hush.desc).map (fun d => d.parameters.length) = some 4 := by decide +kernel
theorem gd_X0_sentAway : GoodIn lw_g (Cond.code yX0_sentAway cX0_sentAway 9 (some .int) :: lw_g) := gw_in wd_404
theorem hd_X0_sentAway : yX0_sentAway.cls ≠ "java/lang/invoke/MethodHandle" ∧ yX0_sentAway.cls ≠ "java/lang/invoke/VarHandle" ∧ (parseMethodDescriptor yX0_sentAway.desc).map (fun d => d.parameters.length) = some 4 := by decide +kernel
theorem gd_X0_learns : GoodIn lw_g (Cond.code yX0_learns cX0_learns 5 (some .boolean) :: lw_g) := gw_in wd_408
theorem hd_X0_learns : yX0_learns.cls ≠ "java/lang/invoke/MethodHandle" ∧ yX0_learns.cls ≠ "java/lang/invoke/VarHandle" ∧ (parseMethodDescriptor yX0_learns.desc).map (fun d => d.parameters.length) = some 5 := by decide +kernel
theorem gd_X3_howMany : GoodIn lw_g (Cond.code yX3_howMany cX3_howMany 1 (some .int) :: lw_g) := gw_in wd_411
theorem hd_X3_howMany : yX3_howMany.cls ≠ "java/lang/invoke/MethodHandle" ∧ yX3_howMany.cls ≠ "java/lang/invoke/VarHandle" ∧ (parseMethodDescriptor yX3_howMany.desc).map (fun d => d.parameters.length) = some 1 := by decide +kernel
theorem gd_X3_tell : GoodIn lw_g (Cond.code yX3_tell cX3_tell 3 (some .int) :: lw_g) := gw_in wd_416
theorem hd_X3_tell : yX3_tell.cls ≠ "java/lang/invoke/MethodHandle" ∧ yX3_tell.cls ≠ "java/lang/invoke/VarHandle" ∧ (parseMethodDescriptor yX3_tell.desc).map (fun d => d.parameters.length) = some 2 := by decide +kernel
theorem gd_X2_note : GoodIn lw_g (Cond.code yX2_note cX2_note 3 (some .int) :: lw_g) := gw_in wd_420
theorem hd_X2_note : yX2_note.cls ≠ "java/lang/invoke/MethodHandle" ∧ yX2_note.cls ≠ "java/lang/invoke/VarHandle" ∧ (parseMethodDescriptor yX2_note.desc).map (fun d => d.parameters.length) = some 2 := by decide +kernel
theorem gd_X3_forget : GoodIn lw_g (Cond.code yX3_forget cX3_forget 1 (some .int) :: lw_g) := gw_in wd_424
theorem hd_X3_forget : yX3_forget.cls ≠ "java/lang/invoke/MethodHandle" ∧ yX3_forget.cls ≠ "java/lang/invoke/VarHandle" ∧ (parseMethodDescriptor yX3_forget.desc).map (fun d => d.parameters.length) = some 0 := by decide +kernel
theorem gd_X3_where : GoodIn lw_g (Cond.code yX3_where cX3_where 2 (some .int) :: lw_g) := gw_in wd_429
theorem hd_X3_where : yX3_where.cls ≠ "java/lang/invoke/MethodHandle" ∧ yX3_where.cls ≠ "java/lang/invoke/VarHandle" ∧ (parseMethodDescriptor yX3_where.desc).map (fun d => d.parameters.length) = some 1 := by decide +kernel
theorem gd_X0_seek : GoodIn lw_g (Cond.code yX0_seek cX0_seek 5 none :: lw_g) := gw_in wd_433
theorem hd_X0_seek : yX0_seek.cls ≠ "java/lang/invoke/MethodHandle" ∧ yX0_seek.cls ≠ "java/lang/invoke/VarHandle" ∧ (parseMethodDescriptor yX0_seek.desc).map (fun d => d.parameters.length) = some 1 := by decide +kernel
theorem gd_X2_isAsTold : GoodIn lw_g (Cond.code yX2_isAsTold cX2_isAsTold 2 (some .boolean) :: lw_g) := gw_in wd_437
theorem hd_X2_isAsTold : yX2_isAsTold.cls ≠ "java/lang/invoke/MethodHandle" ∧ yX2_isAsTold.cls ≠ "java/lang/invoke/VarHandle" ∧ (parseMethodDescriptor yX2_isAsTold.desc).map (fun d => d.parameters.length) = some 1 := by decide +kernel
theorem gd_X0_tally : GoodIn lw_g (Cond.code yX0_tally cX0_tally 3 none :: lw_g) := gw_in wd_441
theorem hd_X0_tally : yX0_tally.cls ≠ "java/lang/invoke/MethodHandle" ∧ yX0_tally.cls ≠ "java/lang/invoke/VarHandle" ∧ (parseMethodDescriptor yX0_tally.desc).map (fun d => d.parameters.length) = some 1 := by decide +kernel
theorem gd_X3_ask : GoodIn lw_g (Cond.code yX3_ask cX3_ask 1 (some .int) :: lw_g) := gw_in wd_445
theorem hd_X3_ask : yX3_ask.cls ≠ "java/lang/invoke/MethodHandle" ∧ yX3_ask.cls ≠ "java/lang/invoke/VarHandle" ∧ (parseMethodDescriptor yX3_ask.desc).map (fun d => d.parameters.length) = some 0 := by decide +kernel
theorem gd_X0_bestAsked : GoodIn lw_g (Cond.code yX0_bestAsked cX0_bestAsked 6 (some .int) :: lw_g) := gw_in wd_449
theorem hd_X0_bestAsked : yX0_bestAsked.cls ≠ "java/lang/invoke/MethodHandle" ∧ yX0_bestAsked.cls ≠ "java/lang/invoke/VarHandle" ∧ (parseMethodDescriptor yX0_bestAsked.desc).map (fun d => d.parameters.length) = some 1 := by decide +kernel
theorem gd_J9_max_7cf53 : GoodIn lw_g (Cond.code yJ9_max_7cf53 cJ9_max_7cf53 2 (some .int) :: lw_g) := gw_in wd_452
theorem hd_J9_max_7cf53 : yJ9_max_7cf53.cls ≠ "java/lang/invoke/MethodHandle" ∧ yJ9_max_7cf53.cls ≠ "java/lang/invoke/VarHandle" ∧ (parseMethodDescriptor yJ9_max_7cf53.desc).map (fun d => d.parameters.length) = some 2 := by decide +kernel
theorem gd_X3_days : GoodIn lw_g (Cond.code yX3_days cX3_days 4 (some .int) :: lw_g) := gw_in wd_456
theorem hd_X3_days : yX3_days.cls ≠ "java/lang/invoke/MethodHandle" ∧ yX3_days.cls ≠ "java/lang/invoke/VarHandle" ∧ (parseMethodDescriptor yX3_days.desc).map (fun d => d.parameters.length) = some 3 := by decide +kernel
theorem gd_X0_live : GoodIn lw_g (Cond.code yX0_live cX0_live 7 none :: lw_g) := gw_in wd_460
theorem hd_X0_live : yX0_live.cls ≠ "java/lang/invoke/MethodHandle" ∧ yX0_live.cls ≠ "java/lang/invoke/VarHandle" ∧ (parseMethodDescriptor yX0_live.desc).map (fun d => d.parameters.length) = some 3 := by decide +kernel
theorem gd_X0_draw : GoodIn lw_g (Cond.code yX0_draw cX0_draw 2 (some .int) :: lw_g) := gw_in wd_464
theorem hd_X0_draw : yX0_draw.cls ≠ "java/lang/invoke/MethodHandle" ∧ yX0_draw.cls ≠ "java/lang/invoke/VarHandle" ∧ (parseMethodDescriptor yX0_draw.desc).map (fun d => d.parameters.length) = some 1 := by decide +kernel
theorem gd_X3_image : GoodIn lw_g (Cond.code yX3_image cX3_image 1 (some .int) :: lw_g) := gw_in wd_472
theorem hd_X3_image : yX3_image.cls ≠ "java/lang/invoke/MethodHandle" ∧ yX3_image.cls ≠ "java/lang/invoke/VarHandle" ∧ (parseMethodDescriptor yX3_image.desc).map (fun d => d.parameters.length) = some 0 := by decide +kernel
theorem gd_X2_copy : GoodIn lw_g (Cond.code yX2_copy cX2_copy 2 none :: lw_g) := gw_in wd_476
theorem hd_X2_copy : yX2_copy.cls ≠ "java/lang/invoke/MethodHandle" ∧ yX2_copy.cls ≠ "java/lang/invoke/VarHandle" ∧ (parseMethodDescriptor yX2_copy.desc).map (fun d => d.parameters.length) = some 1 := by decide +kernel
theorem gd_X3_restore : GoodIn lw_g (Cond.code yX3_restore cX3_restore 1 (some .int) :: lw_g) := gw_in wd_483
theorem hd_X3_restore : yX3_restore.cls ≠ "java/lang/invoke/MethodHandle" ∧ yX3_restore.cls ≠ "java/lang/invoke/VarHandle" ∧ (parseMethodDescriptor yX3_restore.desc).map (fun d => d.parameters.length) = some 0 := by decide +kernel
theorem gd_X3_count : GoodIn lw_g (Cond.code yX3_count cX3_count 2 (some .int) :: lw_g) := gw_in wd_487
theorem hd_X3_count : yX3_count.cls ≠ "java/lang/invoke/MethodHandle" ∧ yX3_count.cls ≠ "java/lang/invoke/VarHandle" ∧ (parseMethodDescriptor yX3_count.desc).map (fun d => d.parameters.length) = some 1 := by decide +kernel
theorem gd_X3_digest : GoodIn lw_g (Cond.code yX3_digest cX3_digest 4 (some .long) :: lw_g) := gw_in wd_491
theorem hd_X3_digest : yX3_digest.cls ≠ "java/lang/invoke/MethodHandle" ∧ yX3_digest.cls ≠ "java/lang/invoke/VarHandle" ∧ (parseMethodDescriptor yX3_digest.desc).map (fun d => d.parameters.length) = some 0 := by decide +kernel
theorem gd_X3_foldListeners : GoodIn lw_g (Cond.code yX3_foldListeners cX3_foldListeners 7 (some .long) :: lw_g) := gw_in wd_496
theorem hd_X3_foldListeners : yX3_foldListeners.cls ≠ "java/lang/invoke/MethodHandle" ∧ yX3_foldListeners.cls ≠ "java/lang/invoke/VarHandle" ∧ (parseMethodDescriptor yX3_foldListeners.desc).map (fun d => d.parameters.length) = some 1 := by decide +kernel
theorem gd_X3_fold : GoodIn lw_g (Cond.code yX3_fold cX3_fold 4 (some .long) :: lw_g) := gw_in wd_500
theorem hd_X3_fold : yX3_fold.cls ≠ "java/lang/invoke/MethodHandle" ∧ yX3_fold.cls ≠ "java/lang/invoke/VarHandle" ∧ (parseMethodDescriptor yX3_fold.desc).map (fun d => d.parameters.length) = some 2 := by decide +kernel
theorem gd_X3_foldPlaces : GoodIn lw_g (Cond.code yX3_foldPlaces cX3_foldPlaces 6 (some .long) :: lw_g) := gw_in wd_505
theorem hd_X3_foldPlaces : yX3_foldPlaces.cls ≠ "java/lang/invoke/MethodHandle" ∧ yX3_foldPlaces.cls ≠ "java/lang/invoke/VarHandle" ∧ (parseMethodDescriptor yX3_foldPlaces.desc).map (fun d => d.parameters.length) = some 1 := by decide +kernel
theorem gd_X3_foldQuestions : GoodIn lw_g (Cond.code yX3_foldQuestions cX3_foldQuestions 7 (some .long) :: lw_g) := gw_in wd_511
theorem hd_X3_foldQuestions : yX3_foldQuestions.cls ≠ "java/lang/invoke/MethodHandle" ∧ yX3_foldQuestions.cls ≠ "java/lang/invoke/VarHandle" ∧ (parseMethodDescriptor yX3_foldQuestions.desc).map (fun d => d.parameters.length) = some 1 := by decide +kernel
theorem gd_X4_init : GoodIn lw_g (Cond.code yX4_init cX4_init 1 none :: lw_g) := gw_in wd_520
theorem hd_X4_init : yX4_init.cls ≠ "java/lang/invoke/MethodHandle" ∧ yX4_init.cls ≠ "java/lang/invoke/VarHandle" ∧ (parseMethodDescriptor yX4_init.desc).map (fun d => d.parameters.length) = some 0 := by decide +kernel
theorem gd_X4_letter : GoodIn lw_g (Cond.code yX4_letter cX4_letter 2 (some .int) :: lw_g) := gw_in wd_613
theorem hd_X4_letter : yX4_letter.cls ≠ "java/lang/invoke/MethodHandle" ∧ yX4_letter.cls ≠ "java/lang/invoke/VarHandle" ∧ (parseMethodDescriptor yX4_letter.desc).map (fun d => d.parameters.length) = some 1 := by decide +kernel
theorem gd_X4_in : GoodIn lw_g (Cond.code yX4_in cX4_in 6 (some .boolean) :: lw_g) := gw_in wd_617
theorem hd_X4_in : yX4_in.cls ≠ "java/lang/invoke/MethodHandle" ∧ yX4_in.cls ≠ "java/lang/invoke/VarHandle" ∧ (parseMethodDescriptor yX4_in.desc).map (fun d => d.parameters.length) = some 3 := by decide +kernel
theorem gd_X4_blank : GoodIn lw_g (Cond.code yX4_blank cX4_blank 2 (some .int) :: lw_g) := gw_in wd_621
theorem hd_X4_blank : yX4_blank.cls ≠ "java/lang/invoke/MethodHandle" ∧ yX4_blank.cls ≠ "java/lang/invoke/VarHandle" ∧ (parseMethodDescriptor yX4_blank.desc).map (fun d => d.parameters.length) = some 0 := by decide +kernel
theorem gd_X4_fault : GoodIn lw_g (Cond.code yX4_fault cX4_fault 1 (some .int) :: lw_g) := gw_in wd_625
theorem hd_X4_fault : yX4_fault.cls ≠ "java/lang/invoke/MethodHandle" ∧ yX4_fault.cls ≠ "java/lang/invoke/VarHandle" ∧ (parseMethodDescriptor yX4_fault.desc).map (fun d => d.parameters.length) = some 0 := by decide +kernel
theorem gd_X4_faultOf : GoodIn lw_g (Cond.code yX4_faultOf cX4_faultOf 2 (some .int) :: lw_g) := gw_in wd_629
theorem hd_X4_faultOf : yX4_faultOf.cls ≠ "java/lang/invoke/MethodHandle" ∧ yX4_faultOf.cls ≠ "java/lang/invoke/VarHandle" ∧ (parseMethodDescriptor yX4_faultOf.desc).map (fun d => d.parameters.length) = some 0 := by decide +kernel
theorem gd_X4_isGood : GoodIn lw_g (Cond.code yX4_isGood cX4_isGood 3 (some .boolean) :: lw_g) := gw_in wd_632
theorem hd_X4_isGood : yX4_isGood.cls ≠ "java/lang/invoke/MethodHandle" ∧ yX4_isGood.cls ≠ "java/lang/invoke/VarHandle" ∧ (parseMethodDescriptor yX4_isGood.desc).map (fun d => d.parameters.length) = some 2 := by decide +kernel
theorem gd_X4_town : GoodIn lw_g (Cond.code yX4_town cX4_town 3 (some .int) :: lw_g) := gw_in wd_638
theorem hd_X4_town : yX4_town.cls ≠ "java/lang/invoke/MethodHandle" ∧ yX4_town.cls ≠ "java/lang/invoke/VarHandle" ∧ (parseMethodDescriptor yX4_town.desc).map (fun d => d.parameters.length) = some 0 := by decide +kernel
theorem gd_X4_noise : GoodIn lw_g (Cond.code yX4_noise cX4_noise 2 (some .int) :: lw_g) := gw_in wd_642
theorem hd_X4_noise : yX4_noise.cls ≠ "java/lang/invoke/MethodHandle" ∧ yX4_noise.cls ≠ "java/lang/invoke/VarHandle" ∧ (parseMethodDescriptor yX4_noise.desc).map (fun d => d.parameters.length) = some 1 := by decide +kernel
theorem gd_X4_isPlace : GoodIn lw_g (Cond.code yX4_isPlace cX4_isPlace 2 (some .boolean) :: lw_g) := gw_in wd_646
theorem hd_X4_isPlace : yX4_isPlace.cls ≠ "java/lang/invoke/MethodHandle" ∧ yX4_isPlace.cls ≠ "java/lang/invoke/VarHandle" ∧ (parseMethodDescriptor yX4_isPlace.desc).map (fun d => d.parameters.length) = some 1 := by decide +kernel
theorem gd_X4_lacks : GoodIn lw_g (Cond.code yX4_lacks cX4_lacks 1 (some .boolean) :: lw_g) := gw_in wd_650
theorem hd_X4_lacks : yX4_lacks.cls ≠ "java/lang/invoke/MethodHandle" ∧ yX4_lacks.cls ≠ "java/lang/invoke/VarHandle" ∧ (parseMethodDescriptor yX4_lacks.desc).map (fun d => d.parameters.length) = some 0 := by decide +kernel
theorem gd_X4_hum : GoodIn lw_g (Cond.code yX4_hum cX4_hum 4 (some .int) :: lw_g) := gw_in wd_654
theorem hd_X4_hum : yX4_hum.cls ≠ "java/lang/invoke/MethodHandle" ∧ yX4_hum.cls ≠ "java/lang/invoke/VarHandle" ∧ (parseMethodDescriptor yX4_hum.desc).map (fun d => d.parameters.length) = some 2 := by decide +kernel
theorem gd_X4_listener : GoodIn lw_g (Cond.code yX4_listener cX4_listener 3 (some .int) :: lw_g) := gw_in wd_658
theorem hd_X4_listener : yX4_listener.cls ≠ "java/lang/invoke/MethodHandle" ∧ yX4_listener.cls ≠ "java/lang/invoke/VarHandle" ∧ (parseMethodDescriptor yX4_listener.desc).map (fun d => d.parameters.length) = some 2 := by decide +kernel
theorem gd_X4_about : GoodIn lw_g (Cond.code yX4_about cX4_about 3 (some .int) :: lw_g) := gw_in wd_663
theorem hd_X4_about : yX4_about.cls ≠ "java/lang/invoke/MethodHandle" ∧ yX4_about.cls ≠ "java/lang/invoke/VarHandle" ∧ (parseMethodDescriptor yX4_about.desc).map (fun d => d.parameters.length) = some 2 := by decide +kernel
theorem gd_X4_isListener : GoodIn lw_g (Cond.code yX4_isListener cX4_isListener 2 (some .boolean) :: lw_g) := gw_in wd_667
theorem hd_X4_isListener : yX4_isListener.cls ≠ "java/lang/invoke/MethodHandle" ∧ yX4_isListener.cls ≠ "java/lang/invoke/VarHandle" ∧ (parseMethodDescriptor yX4_isListener.desc).map (fun d => d.parameters.length) = some 1 := by decide +kernel
theorem gd_X4_listenerOf : GoodIn lw_g (Cond.code yX4_listenerOf cX4_listenerOf 3 (some .int) :: lw_g) := gw_in wd_671
theorem hd_X4_listenerOf : yX4_listenerOf.cls ≠ "java/lang/invoke/MethodHandle" ∧ yX4_listenerOf.cls ≠ "java/lang/invoke/VarHandle" ∧ (parseMethodDescriptor yX4_listenerOf.desc).map (fun d => d.parameters.length) = some 2 := by decide +kernel
theorem gd_X4_knowing : GoodIn lw_g (Cond.code yX4_knowing cX4_knowing 4 (some .int) :: lw_g) := gw_in wd_675
theorem hd_X4_knowing : yX4_knowing.cls ≠ "java/lang/invoke/MethodHandle" ∧ yX4_knowing.cls ≠ "java/lang/invoke/VarHandle" ∧ (parseMethodDescriptor yX4_knowing.desc).map (fun d => d.parameters.length) = some 1 := by decide +kernel
theorem gd_X4_needsOf : GoodIn lw_g (Cond.code yX4_needsOf cX4_needsOf 2 (some .int) :: lw_g) := gw_in wd_679
theorem hd_X4_needsOf : yX4_needsOf.cls ≠ "java/lang/invoke/MethodHandle" ∧ yX4_needsOf.cls ≠ "java/lang/invoke/VarHandle" ∧ (parseMethodDescriptor yX4_needsOf.desc).map (fun d => d.parameters.length) = some 1 := by decide +kernel
theorem gd_X4_criesOf : GoodIn lw_g (Cond.code yX4_criesOf cX4_criesOf 2 (some .int) :: lw_g) := gw_in wd_683
theorem hd_X4_criesOf : yX4_criesOf.cls ≠ "java/lang/invoke/MethodHandle" ∧ yX4_criesOf.cls ≠ "java/lang/invoke/VarHandle" ∧ (parseMethodDescriptor yX4_criesOf.desc).map (fun d => d.parameters.length) = some 1 := by decide +kernel
theorem gd_X4_as : GoodIn lw_g (Cond.code yX4_as cX4_as 5 (some .int) :: lw_g) := gw_in wd_687
theorem hd_X4_as : yX4_as.cls ≠ "java/lang/invoke/MethodHandle" ∧ yX4_as.cls ≠ "java/lang/invoke/VarHandle" ∧ (parseMethodDescriptor yX4_as.desc).map (fun d => d.parameters.length) = some 2 := by decide +kernel
theorem gd_X4_move : GoodIn lw_g (Cond.code yX4_move cX4_move 4 (some .int) :: lw_g) := gw_in wd_691
theorem hd_X4_move : yX4_move.cls ≠ "java/lang/invoke/MethodHandle" ∧ yX4_move.cls ≠ "java/lang/invoke/VarHandle" ∧ (parseMethodDescriptor yX4_move.desc).map (fun d => d.parameters.length) = some 2 := by decide +kernel
theorem gd_X4_cry : GoodIn lw_g (Cond.code yX4_cry cX4_cry 4 (some .int) :: lw_g) := gw_in wd_695
theorem hd_X4_cry : yX4_cry.cls ≠ "java/lang/invoke/MethodHandle" ∧ yX4_cry.cls ≠ "java/lang/invoke/VarHandle" ∧ (parseMethodDescriptor yX4_cry.desc).map (fun d => d.parameters.length) = some 2 := by decide +kernel
theorem gd_X4_ones : GoodIn lw_g (Cond.code yX4_ones cX4_ones 3 (some .int) :: lw_g) := gw_in wd_698
theorem hd_X4_ones : yX4_ones.cls ≠ "java/lang/invoke/MethodHandle" ∧ yX4_ones.cls ≠ "java/lang/invoke/VarHandle" ∧ (parseMethodDescriptor yX4_ones.desc).map (fun d => d.parameters.length) = some 1 := by decide +kernel
theorem gd_X4_allListeners : GoodIn lw_g (Cond.code yX4_allListeners cX4_allListeners 1 (some .int) :: lw_g) := gw_in wd_702
theorem hd_X4_allListeners : yX4_allListeners.cls ≠ "java/lang/invoke/MethodHandle" ∧ yX4_allListeners.cls ≠ "java/lang/invoke/VarHandle" ∧ (parseMethodDescriptor yX4_allListeners.desc).map (fun d => d.parameters.length) = some 0 := by decide +kernel
theorem gd_X4_heardBy : GoodIn lw_g (Cond.code yX4_heardBy cX4_heardBy 10 (some .int) :: lw_g) := gw_in wd_706
theorem hd_X4_heardBy : yX4_heardBy.cls ≠ "java/lang/invoke/MethodHandle" ∧ yX4_heardBy.cls ≠ "java/lang/invoke/VarHandle" ∧ (parseMethodDescriptor yX4_heardBy.desc).map (fun d => d.parameters.length) = some 4 := by decide +kernel
theorem gd_X4_hearing : GoodIn lw_g (Cond.code yX4_hearing cX4_hearing 9 (some .int) :: lw_g) := gw_in wd_710
theorem hd_X4_hearing : yX4_hearing.cls ≠ "java/lang/invoke/MethodHandle" ∧ yX4_hearing.cls ≠ "java/lang/invoke/VarHandle" ∧ (parseMethodDescriptor yX4_hearing.desc).map (fun d => d.parameters.length) = some 3 := by decide +kernel
theorem gd_X4_would : GoodIn lw_g (Cond.code yX4_would cX4_would 3 (some .int) :: lw_g) := gw_in wd_714
theorem hd_X4_would : yX4_would.cls ≠ "java/lang/invoke/MethodHandle" ∧ yX4_would.cls ≠ "java/lang/invoke/VarHandle" ∧ (parseMethodDescriptor yX4_would.desc).map (fun d => d.parameters.length) = some 2 := by decide +kernel
theorem gd_X4_knowThen : GoodIn lw_g (Cond.code yX4_knowThen cX4_knowThen 4 (some .int) :: lw_g) := gw_in wd_718
theorem hd_X4_knowThen : yX4_knowThen.cls ≠ "java/lang/invoke/MethodHandle" ∧ yX4_knowThen.cls ≠ "java/lang/invoke/VarHandle" ∧ (parseMethodDescriptor yX4_knowThen.desc).map (fun d => d.parameters.length) = some 3 := by decide +kernel
theorem gd_X4_honey : GoodIn lw_g (Cond.code yX4_honey cX4_honey 1 (some .int) :: lw_g) := gw_in wd_722
theorem hd_X4_honey : yX4_honey.cls ≠ "java/lang/invoke/MethodHandle" ∧ yX4_honey.cls ≠ "java/lang/invoke/VarHandle" ∧ (parseMethodDescriptor yX4_honey.desc).map (fun d => d.parameters.length) = some 0 := by decide +kernel
theorem gd_X4_day : GoodIn lw_g (Cond.code yX4_day cX4_day 1 (some .int) :: lw_g) := gw_in wd_726
theorem hd_X4_day : yX4_day.cls ≠ "java/lang/invoke/MethodHandle" ∧ yX4_day.cls ≠ "java/lang/invoke/VarHandle" ∧ (parseMethodDescriptor yX4_day.desc).map (fun d => d.parameters.length) = some 0 := by decide +kernel
theorem gd_X4_decree : GoodIn lw_g (Cond.code yX4_decree cX4_decree 2 (some .int) :: lw_g) := gw_in wd_730
theorem hd_X4_decree : yX4_decree.cls ≠ "java/lang/invoke/MethodHandle" ∧ yX4_decree.cls ≠ "java/lang/invoke/VarHandle" ∧ (parseMethodDescriptor yX4_decree.desc).map (fun d => d.parameters.length) = some 0 := by decide +kernel
theorem gd_X4_least : GoodIn lw_g (Cond.code yX4_least cX4_least 2 (some .int) :: lw_g) := gw_in wd_734
theorem hd_X4_least : yX4_least.cls ≠ "java/lang/invoke/MethodHandle" ∧ yX4_least.cls ≠ "java/lang/invoke/VarHandle" ∧ (parseMethodDescriptor yX4_least.desc).map (fun d => d.parameters.length) = some 1 := by decide +kernel
theorem gd_X4_leastOf : GoodIn lw_g (Cond.code yX4_leastOf cX4_leastOf 6 (some .int) :: lw_g) := gw_in wd_738
theorem hd_X4_leastOf : yX4_leastOf.cls ≠ "java/lang/invoke/MethodHandle" ∧ yX4_leastOf.cls ≠ "java/lang/invoke/VarHandle" ∧ (parseMethodDescriptor yX4_leastOf.desc).map (fun d => d.parameters.length) = some 1 := by decide +kernel
theorem gd_X4_cover : GoodIn lw_g (Cond.code yX4_cover cX4_cover 3 (some .int) :: lw_g) := gw_in wd_742
theorem hd_X4_cover : yX4_cover.cls ≠ "java/lang/invoke/MethodHandle" ∧ yX4_cover.cls ≠ "java/lang/invoke/VarHandle" ∧ (parseMethodDescriptor yX4_cover.desc).map (fun d => d.parameters.length) = some 2 := by decide +kernel
theorem gd_X4_coverOf : GoodIn lw_g (Cond.code yX4_coverOf cX4_coverOf 6 (some .int) :: lw_g) := gw_in wd_748
theorem hd_X4_coverOf : yX4_coverOf.cls ≠ "java/lang/invoke/MethodHandle" ∧ yX4_coverOf.cls ≠ "java/lang/invoke/VarHandle" ∧ (parseMethodDescriptor yX4_coverOf.desc).map (fun d => d.parameters.length) = some 2 := by decide +kernel
theorem gd_X4_isCovered : GoodIn lw_g (Cond.code yX4_isCovered cX4_isCovered 7 (some .boolean) :: lw_g) := gw_in wd_752
theorem hd_X4_isCovered : yX4_isCovered.cls ≠ "java/lang/invoke/MethodHandle" ∧ yX4_isCovered.cls ≠ "java/lang/invoke/VarHandle" ∧ (parseMethodDescriptor yX4_isCovered.desc).map (fun d => d.parameters.length) = some 3 := by decide +kernel
theorem gd_X4_hush : GoodIn lw_g (Cond.code yX4_hush cX4_hush 5 (some .int) :: lw_g) := gw_in wd_756
theorem hd_X4_hush : yX4_hush.cls ≠ "java/lang/invoke/MethodHandle" ∧ yX4_hush.cls ≠ "java/lang/invoke/VarHandle" ∧ (parseMethodDescriptor yX4_hush.desc).map (fun d => d.parameters.length) = some 4 := by decide +kernel
theorem gd_X4_tellHush : GoodIn lw_g (Cond.code yX4_tellHush cX4_tellHush 6 (some .int) :: lw_g) := gw_in wd_760
theorem hd_X4_tellHush : yX4_tellHush.cls ≠ "java/lang/invoke/MethodHandle" ∧ yX4_tellHush.cls ≠ "java/lang/invoke/VarHandle" ∧ (parseMethodDescriptor yX4_tellHush.desc).map (fun d => d.parameters.length) = some 4 := by decide +kernel
theorem gd_X4_hushOf : GoodIn lw_g (Cond.code yX4_hushOf cX4_hushOf 8 (some .int) :: lw_g) := gw_in wd_764
theorem hd_X4_hushOf : yX4_hushOf.cls ≠ "java/lang/invoke/MethodHandle" ∧ yX4_hushOf.cls ≠ "java/lang/invoke/VarHandle" ∧ (parseMethodDescriptor yX4_hushOf.desc).map (fun d => d.parameters.length) = some 3 := by decide +kernel
theorem gd_X4_tell : GoodIn lw_g (Cond.code yX4_tell cX4_tell 3 (some .int) :: lw_g) := gw_in wd_768
theorem hd_X4_tell : yX4_tell.cls ≠ "java/lang/invoke/MethodHandle" ∧ yX4_tell.cls ≠ "java/lang/invoke/VarHandle" ∧ (parseMethodDescriptor yX4_tell.desc).map (fun d => d.parameters.length) = some 2 := by decide +kernel
theorem gd_X4_forget : GoodIn lw_g (Cond.code yX4_forget cX4_forget 2 (some .int) :: lw_g) := gw_in wd_772
theorem hd_X4_forget : yX4_forget.cls ≠ "java/lang/invoke/MethodHandle" ∧ yX4_forget.cls ≠ "java/lang/invoke/VarHandle" ∧ (parseMethodDescriptor yX4_forget.desc).map (fun d => d.parameters.length) = some 0 := by decide +kernel
theorem gd_X4_where : GoodIn lw_g (Cond.code yX4_where cX4_where 2 (some .int) :: lw_g) := gw_in wd_776
theorem hd_X4_where : yX4_where.cls ≠ "java/lang/invoke/MethodHandle" ∧ yX4_where.cls ≠ "java/lang/invoke/VarHandle" ∧ (parseMethodDescriptor yX4_where.desc).map (fun d => d.parameters.length) = some 1 := by decide +kernel
theorem gd_X4_whereOf : GoodIn lw_g (Cond.code yX4_whereOf cX4_whereOf 5 (some .int) :: lw_g) := gw_in wd_780
theorem hd_X4_whereOf : yX4_whereOf.cls ≠ "java/lang/invoke/MethodHandle" ∧ yX4_whereOf.cls ≠ "java/lang/invoke/VarHandle" ∧ (parseMethodDescriptor yX4_whereOf.desc).map (fun d => d.parameters.length) = some 1 := by decide +kernel
theorem gd_X4_isTold : GoodIn lw_g (Cond.code yX4_isTold cX4_isTold 5 (some .boolean) :: lw_g) := gw_in wd_784
theorem hd_X4_isTold : yX4_isTold.cls ≠ "java/lang/invoke/MethodHandle" ∧ yX4_isTold.cls ≠ "java/lang/invoke/VarHandle" ∧ (parseMethodDescriptor yX4_isTold.desc).map (fun d => d.parameters.length) = some 1 := by decide +kernel
theorem gd_X4_ask : GoodIn lw_g (Cond.code yX4_ask cX4_ask 1 (some .int) :: lw_g) := gw_in wd_788
theorem hd_X4_ask : yX4_ask.cls ≠ "java/lang/invoke/MethodHandle" ∧ yX4_ask.cls ≠ "java/lang/invoke/VarHandle" ∧ (parseMethodDescriptor yX4_ask.desc).map (fun d => d.parameters.length) = some 0 := by decide +kernel
theorem gd_X4_askOf : GoodIn lw_g (Cond.code yX4_askOf cX4_askOf 8 (some .int) :: lw_g) := gw_in wd_792
theorem hd_X4_askOf : yX4_askOf.cls ≠ "java/lang/invoke/MethodHandle" ∧ yX4_askOf.cls ≠ "java/lang/invoke/VarHandle" ∧ (parseMethodDescriptor yX4_askOf.desc).map (fun d => d.parameters.length) = some 0 := by decide +kernel
theorem gd_X4_days : GoodIn lw_g (Cond.code yX4_days cX4_days 8 (some .int) :: lw_g) := gw_in wd_796
theorem hd_X4_days : yX4_days.cls ≠ "java/lang/invoke/MethodHandle" ∧ yX4_days.cls ≠ "java/lang/invoke/VarHandle" ∧ (parseMethodDescriptor yX4_days.desc).map (fun d => d.parameters.length) = some 3 := by decide +kernel
theorem gd_X4_draw : GoodIn lw_g (Cond.code yX4_draw cX4_draw 2 (some .int) :: lw_g) := gw_in wd_802
theorem hd_X4_draw : yX4_draw.cls ≠ "java/lang/invoke/MethodHandle" ∧ yX4_draw.cls ≠ "java/lang/invoke/VarHandle" ∧ (parseMethodDescriptor yX4_draw.desc).map (fun d => d.parameters.length) = some 1 := by decide +kernel
theorem gd_X4_image : GoodIn lw_g (Cond.code yX4_image cX4_image 1 (some .int) :: lw_g) := gw_in wd_810
theorem hd_X4_image : yX4_image.cls ≠ "java/lang/invoke/MethodHandle" ∧ yX4_image.cls ≠ "java/lang/invoke/VarHandle" ∧ (parseMethodDescriptor yX4_image.desc).map (fun d => d.parameters.length) = some 0 := by decide +kernel
theorem gd_X4_copy : GoodIn lw_g (Cond.code yX4_copy cX4_copy 3 none :: lw_g) := gw_in wd_813
theorem hd_X4_copy : yX4_copy.cls ≠ "java/lang/invoke/MethodHandle" ∧ yX4_copy.cls ≠ "java/lang/invoke/VarHandle" ∧ (parseMethodDescriptor yX4_copy.desc).map (fun d => d.parameters.length) = some 2 := by decide +kernel
theorem gd_X4_restore : GoodIn lw_g (Cond.code yX4_restore cX4_restore 1 (some .int) :: lw_g) := gw_in wd_817
theorem hd_X4_restore : yX4_restore.cls ≠ "java/lang/invoke/MethodHandle" ∧ yX4_restore.cls ≠ "java/lang/invoke/VarHandle" ∧ (parseMethodDescriptor yX4_restore.desc).map (fun d => d.parameters.length) = some 0 := by decide +kernel
theorem gd_X4_count : GoodIn lw_g (Cond.code yX4_count cX4_count 2 (some .int) :: lw_g) := gw_in wd_821
theorem hd_X4_count : yX4_count.cls ≠ "java/lang/invoke/MethodHandle" ∧ yX4_count.cls ≠ "java/lang/invoke/VarHandle" ∧ (parseMethodDescriptor yX4_count.desc).map (fun d => d.parameters.length) = some 1 := by decide +kernel
theorem gd_X4_countOf : GoodIn lw_g (Cond.code yX4_countOf cX4_countOf 2 (some .int) :: lw_g) := gw_in wd_825
theorem hd_X4_countOf : yX4_countOf.cls ≠ "java/lang/invoke/MethodHandle" ∧ yX4_countOf.cls ≠ "java/lang/invoke/VarHandle" ∧ (parseMethodDescriptor yX4_countOf.desc).map (fun d => d.parameters.length) = some 1 := by decide +kernel
theorem gd_X4_digest : GoodIn lw_g (Cond.code yX4_digest cX4_digest 3 (some .long) :: lw_g) := gw_in wd_829
theorem hd_X4_digest : yX4_digest.cls ≠ "java/lang/invoke/MethodHandle" ∧ yX4_digest.cls ≠ "java/lang/invoke/VarHandle" ∧ (parseMethodDescriptor yX4_digest.desc).map (fun d => d.parameters.length) = some 0 := by decide +kernel
theorem gd_X4_say : GoodIn lw_g (Cond.code yX4_say cX4_say 3 none :: lw_g) := gw_in wd_834
theorem hd_X4_say : yX4_say.cls ≠ "java/lang/invoke/MethodHandle" ∧ yX4_say.cls ≠ "java/lang/invoke/VarHandle" ∧ (parseMethodDescriptor yX4_say.desc).map (fun d => d.parameters.length) = some 1 := by decide +kernel
theorem gd_X4_sayTown : GoodIn lw_g (Cond.code yX4_sayTown cX4_sayTown 2 none :: lw_g) := gw_in wd_839
theorem hd_X4_sayTown : yX4_sayTown.cls ≠ "java/lang/invoke/MethodHandle" ∧ yX4_sayTown.cls ≠ "java/lang/invoke/VarHandle" ∧ (parseMethodDescriptor yX4_sayTown.desc).map (fun d => d.parameters.length) = some 0 := by decide +kernel
end
section
theorem dX0_init_0 : decode cX0_init 0 = .ok (.aload_n 0, 1) := by decide +kernel
theorem dX0_init_1 : decode cX0_init 1 = .ok (.invokespecial 3, 3) := by decide +kernel
theorem dX0_init_4 : decode cX0_init 4 = .ok (.aload_n 0, 1) := by decide +kernel
theorem dX0_init_5 : decode cX0_init 5 = .ok (.bipush 6, 2) := by decide +kernel
theorem dX0_init_7 : decode cX0_init 7 = .ok (.newarray .int, 2) := by decide +kernel
theorem dX0_init_9 : decode cX0_init 9 = .ok (.putfield 9, 3) := by decide +kernel
theorem dX0_init_12 : decode cX0_init 12 = .ok (.return_, 1) := by decide +kernel
theorem dX0_whisper_0 : decode cX0_whisper 0 = .ok (.aload_n 0, 1) := by decide +kernel
theorem dX0_whisper_1 : decode cX0_whisper 1 = .ok (.iconst (-1), 1) := by decide +kernel
theorem dX0_whisper_2 : decode cX0_whisper 2 = .ok (.putfield 15, 3) := by decide +kernel
theorem dX0_whisper_5 : decode cX0_whisper 5 = .ok (.aload_n 0, 1) := by decide +kernel
theorem dX0_whisper_6 : decode cX0_whisper 6 = .ok (.iconst (-1), 1) := by decide +kernel
theorem dX0_whisper_7 : decode cX0_whisper 7 = .ok (.putfield 19, 3) := by decide +kernel
theorem dX0_whisper_10 : decode cX0_whisper 10 = .ok (.iconst 0, 1) := by decide +kernel
theorem dX0_whisper_11 : decode cX0_whisper 11 = .ok (.istore_n 2, 1) := by decide +kernel
theorem dX0_whisper_12 : decode cX0_whisper 12 = .ok (.iload_n 2, 1) := by decide +kernel
theorem dX0_whisper_13 : decode cX0_whisper 13 = .ok (.bipush 6, 2) := by decide +kernel
theorem dX0_whisper_15 : decode cX0_whisper 15 = .ok (.if_icmp .ge 67, 3) := by decide +kernel
theorem dX0_whisper_18 : decode cX0_whisper 18 = .ok (.aload_n 1, 1) := by decide +kernel
theorem dX0_whisper_19 : decode cX0_whisper 19 = .ok (.getfield 22, 3) := by decide +kernel
theorem dX0_whisper_22 : decode cX0_whisper 22 = .ok (.iconst 1, 1) := by decide +kernel
theorem dX0_whisper_23 : decode cX0_whisper 23 = .ok (.if_icmp .lt 59, 3) := by decide +kernel
theorem dX0_whisper_26 : decode cX0_whisper 26 = .ok (.aload_n 1, 1) := by decide +kernel
theorem dX0_whisper_27 : decode cX0_whisper 27 = .ok (.aload_n 1, 1) := by decide +kernel
theorem dX0_whisper_28 : decode cX0_whisper 28 = .ok (.getfield 27, 3) := by decide +kernel
theorem dX0_whisper_31 : decode cX0_whisper 31 = .ok (.iload_n 2, 1) := by decide +kernel
theorem dX0_whisper_32 : decode cX0_whisper 32 = .ok (.iconst 1, 1) := by decide +kernel
theorem dX0_whisper_33 : decode cX0_whisper 33 = .ok (.iconst 0, 1) := by decide +kernel
theorem dX0_whisper_34 : decode cX0_whisper 34 = .ok (.invokevirtual 30, 3) := by decide +kernel
theorem dX0_whisper_37 : decode cX0_whisper 37 = .ok (.istore_n 3, 1) := by decide +kernel
theorem dX0_whisper_38 : decode cX0_whisper 38 = .ok (.aload_n 1, 1) := by decide +kernel
theorem dX0_whisper_39 : decode cX0_whisper 39 = .ok (.iload_n 3, 1) := by decide +kernel
theorem dX0_whisper_40 : decode cX0_whisper 40 = .ok (.invokevirtual 34, 3) := by decide +kernel
theorem dX0_whisper_43 : decode cX0_whisper 43 = .ok (.invokestatic 38, 3) := by decide +kernel
theorem dX0_whisper_46 : decode cX0_whisper 46 = .ok (.istore 4, 2) := by decide +kernel
theorem dX0_whisper_48 : decode cX0_whisper 48 = .ok (.aload_n 0, 1) := by decide +kernel
theorem dX0_whisper_49 : decode cX0_whisper 49 = .ok (.getfield 15, 3) := by decide +kernel
theorem dX0_whisper_52 : decode cX0_whisper 52 = .ok (.iconst (-1), 1) := by decide +kernel
theorem dX0_whisper_53 : decode cX0_whisper 53 = .ok (.if_icmp .eq 12, 3) := by decide +kernel
theorem dX0_whisper_56 : decode cX0_whisper 56 = .ok (.iload 4, 2) := by decide +kernel
theorem dX0_whisper_58 : decode cX0_whisper 58 = .ok (.aload_n 0, 1) := by decide +kernel
theorem dX0_whisper_59 : decode cX0_whisper 59 = .ok (.getfield 19, 3) := by decide +kernel
theorem dX0_whisper_62 : decode cX0_whisper 62 = .ok (.if_icmp .ge 14, 3) := by decide +kernel
theorem dX0_whisper_65 : decode cX0_whisper 65 = .ok (.aload_n 0, 1) := by decide +kernel
theorem dX0_whisper_66 : decode cX0_whisper 66 = .ok (.iload_n 2, 1) := by decide +kernel
theorem dX0_whisper_67 : decode cX0_whisper 67 = .ok (.putfield 15, 3) := by decide +kernel
theorem dX0_whisper_70 : decode cX0_whisper 70 = .ok (.aload_n 0, 1) := by decide +kernel
theorem dX0_whisper_71 : decode cX0_whisper 71 = .ok (.iload 4, 2) := by decide +kernel
theorem dX0_whisper_73 : decode cX0_whisper 73 = .ok (.putfield 19, 3) := by decide +kernel
theorem dX0_whisper_76 : decode cX0_whisper 76 = .ok (.iinc 2 1, 3) := by decide +kernel
theorem dX0_whisper_79 : decode cX0_whisper 79 = .ok (.goto (-67), 3) := by decide +kernel
theorem dX0_whisper_82 : decode cX0_whisper 82 = .ok (.return_, 1) := by decide +kernel
theorem dX0_coverPlan_0 : decode cX0_coverPlan 0 = .ok (.iconst 0, 1) := by decide +kernel
theorem dX0_coverPlan_1 : decode cX0_coverPlan 1 = .ok (.istore_n 2, 1) := by decide +kernel
theorem dX0_coverPlan_2 : decode cX0_coverPlan 2 = .ok (.iload_n 2, 1) := by decide +kernel
theorem dX0_coverPlan_3 : decode cX0_coverPlan 3 = .ok (.iconst 3, 1) := by decide +kernel
theorem dX0_coverPlan_4 : decode cX0_coverPlan 4 = .ok (.if_icmp .gt 32, 3) := by decide +kernel
theorem dX0_coverPlan_7 : decode cX0_coverPlan 7 = .ok (.aload_n 0, 1) := by decide +kernel
theorem dX0_coverPlan_8 : decode cX0_coverPlan 8 = .ok (.iload_n 1, 1) := by decide +kernel
theorem dX0_coverPlan_9 : decode cX0_coverPlan 9 = .ok (.aload_n 0, 1) := by decide +kernel
theorem dX0_coverPlan_10 : decode cX0_coverPlan 10 = .ok (.getfield 27, 3) := by decide +kernel
theorem dX0_coverPlan_13 : decode cX0_coverPlan 13 = .ok (.iconst 0, 1) := by decide +kernel
theorem dX0_coverPlan_14 : decode cX0_coverPlan 14 = .ok (.iload_n 2, 1) := by decide +kernel
theorem dX0_coverPlan_15 : decode cX0_coverPlan 15 = .ok (.invokestatic 43, 3) := by decide +kernel
theorem dX0_coverPlan_18 : decode cX0_coverPlan 18 = .ok (.istore_n 3, 1) := by decide +kernel
theorem dX0_coverPlan_19 : decode cX0_coverPlan 19 = .ok (.iload_n 3, 1) := by decide +kernel
theorem dX0_coverPlan_20 : decode cX0_coverPlan 20 = .ok (.iconst (-1), 1) := by decide +kernel
theorem dX0_coverPlan_21 : decode cX0_coverPlan 21 = .ok (.if_icmp .eq 9, 3) := by decide +kernel
theorem dX0_coverPlan_24 : decode cX0_coverPlan 24 = .ok (.iload_n 3, 1) := by decide +kernel
theorem dX0_coverPlan_25 : decode cX0_coverPlan 25 = .ok (.iconst 2, 1) := by decide +kernel
theorem dX0_coverPlan_26 : decode cX0_coverPlan 26 = .ok (.ishl, 1) := by decide +kernel
theorem dX0_coverPlan_27 : decode cX0_coverPlan 27 = .ok (.iload_n 2, 1) := by decide +kernel
theorem dX0_coverPlan_28 : decode cX0_coverPlan 28 = .ok (.ior, 1) := by decide +kernel
theorem dX0_coverPlan_29 : decode cX0_coverPlan 29 = .ok (.ireturn, 1) := by decide +kernel
theorem dX0_coverPlan_30 : decode cX0_coverPlan 30 = .ok (.iinc 2 1, 3) := by decide +kernel
theorem dX0_coverPlan_33 : decode cX0_coverPlan 33 = .ok (.goto (-31), 3) := by decide +kernel
theorem dX0_coverPlan_36 : decode cX0_coverPlan 36 = .ok (.iconst (-1), 1) := by decide +kernel
theorem dX0_coverPlan_37 : decode cX0_coverPlan 37 = .ok (.ireturn, 1) := by decide +kernel
theorem dX0_planFrom_0 : decode cX0_planFrom 0 = .ok (.iload_n 3, 1) := by decide +kernel
theorem dX0_planFrom_1 : decode cX0_planFrom 1 = .ok (.iload 4, 2) := by decide +kernel
theorem dX0_planFrom_3 : decode cX0_planFrom 3 = .ok (.if_icmp .ge 8, 3) := by decide +kernel
theorem dX0_planFrom_6 : decode cX0_planFrom 6 = .ok (.iload_n 3, 1) := by decide +kernel
theorem dX0_planFrom_7 : decode cX0_planFrom 7 = .ok (.iconst 3, 1) := by decide +kernel
theorem dX0_planFrom_8 : decode cX0_planFrom 8 = .ok (.if_icmp .lt 21, 3) := by decide +kernel
theorem dX0_planFrom_11 : decode cX0_planFrom 11 = .ok (.iload_n 1, 1) := by decide +kernel
theorem dX0_planFrom_12 : decode cX0_planFrom 12 = .ok (.aload_n 0, 1) := by decide +kernel
theorem dX0_planFrom_13 : decode cX0_planFrom 13 = .ok (.iload_n 2, 1) := by decide +kernel
theorem dX0_planFrom_14 : decode cX0_planFrom 14 = .ok (.invokevirtual 34, 3) := by decide +kernel
theorem dX0_planFrom_17 : decode cX0_planFrom 17 = .ok (.iconst (-1), 1) := by decide +kernel
theorem dX0_planFrom_18 : decode cX0_planFrom 18 = .ok (.ixor, 1) := by decide +kernel
theorem dX0_planFrom_19 : decode cX0_planFrom 19 = .ok (.iand, 1) := by decide +kernel
theorem dX0_planFrom_20 : decode cX0_planFrom 20 = .ok (.ifCond .ne 7, 3) := by decide +kernel
theorem dX0_planFrom_23 : decode cX0_planFrom 23 = .ok (.iconst 0, 1) := by decide +kernel
theorem dX0_planFrom_24 : decode cX0_planFrom 24 = .ok (.goto 4, 3) := by decide +kernel
theorem dX0_planFrom_27 : decode cX0_planFrom 27 = .ok (.iconst (-1), 1) := by decide +kernel
theorem dX0_planFrom_28 : decode cX0_planFrom 28 = .ok (.ireturn, 1) := by decide +kernel
theorem dX0_planFrom_29 : decode cX0_planFrom 29 = .ok (.aload_n 0, 1) := by decide +kernel
theorem dX0_planFrom_30 : decode cX0_planFrom 30 = .ok (.getfield 22, 3) := by decide +kernel
theorem dX0_planFrom_33 : decode cX0_planFrom 33 = .ok (.iload_n 3, 1) := by decide +kernel
theorem dX0_planFrom_34 : decode cX0_planFrom 34 = .ok (.isub, 1) := by decide +kernel
theorem dX0_planFrom_35 : decode cX0_planFrom 35 = .ok (.istore 5, 2) := by decide +kernel
theorem dX0_planFrom_37 : decode cX0_planFrom 37 = .ok (.iload 5, 2) := by decide +kernel
theorem dX0_planFrom_39 : decode cX0_planFrom 39 = .ok (.iconst 1, 1) := by decide +kernel
theorem dX0_planFrom_40 : decode cX0_planFrom 40 = .ok (.if_icmp .ge 5, 3) := by decide +kernel
theorem dX0_planFrom_43 : decode cX0_planFrom 43 = .ok (.iconst (-1), 1) := by decide +kernel
theorem dX0_planFrom_44 : decode cX0_planFrom 44 = .ok (.ireturn, 1) := by decide +kernel
theorem dX0_planFrom_45 : decode cX0_planFrom 45 = .ok (.iconst 0, 1) := by decide +kernel
theorem dX0_planFrom_46 : decode cX0_planFrom 46 = .ok (.istore 6, 2) := by decide +kernel
theorem dX0_planFrom_48 : decode cX0_planFrom 48 = .ok (.iload 6, 2) := by decide +kernel
theorem dX0_planFrom_50 : decode cX0_planFrom 50 = .ok (.bipush 6, 2) := by decide +kernel
theorem dX0_planFrom_52 : decode cX0_planFrom 52 = .ok (.if_icmp .ge 49, 3) := by decide +kernel
theorem dX0_planFrom_55 : decode cX0_planFrom 55 = .ok (.aload_n 0, 1) := by decide +kernel
theorem dX0_planFrom_56 : decode cX0_planFrom 56 = .ok (.iload_n 2, 1) := by decide +kernel
theorem dX0_planFrom_57 : decode cX0_planFrom 57 = .ok (.iload 6, 2) := by decide +kernel
theorem dX0_planFrom_59 : decode cX0_planFrom 59 = .ok (.iload 5, 2) := by decide +kernel
theorem dX0_planFrom_61 : decode cX0_planFrom 61 = .ok (.iconst 0, 1) := by decide +kernel
theorem dX0_planFrom_62 : decode cX0_planFrom 62 = .ok (.invokevirtual 30, 3) := by decide +kernel
theorem dX0_planFrom_65 : decode cX0_planFrom 65 = .ok (.istore 7, 2) := by decide +kernel
theorem dX0_planFrom_67 : decode cX0_planFrom 67 = .ok (.aload_n 0, 1) := by decide +kernel
theorem dX0_planFrom_68 : decode cX0_planFrom 68 = .ok (.iload_n 1, 1) := by decide +kernel
theorem dX0_planFrom_69 : decode cX0_planFrom 69 = .ok (.iload 7, 2) := by decide +kernel
theorem dX0_planFrom_71 : decode cX0_planFrom 71 = .ok (.iload_n 3, 1) := by decide +kernel
theorem dX0_planFrom_72 : decode cX0_planFrom 72 = .ok (.iconst 1, 1) := by decide +kernel
theorem dX0_planFrom_73 : decode cX0_planFrom 73 = .ok (.iadd, 1) := by decide +kernel
theorem dX0_planFrom_74 : decode cX0_planFrom 74 = .ok (.iload 4, 2) := by decide +kernel
theorem dX0_planFrom_76 : decode cX0_planFrom 76 = .ok (.invokestatic 43, 3) := by decide +kernel
theorem dX0_planFrom_79 : decode cX0_planFrom 79 = .ok (.istore 8, 2) := by decide +kernel
theorem dX0_planFrom_81 : decode cX0_planFrom 81 = .ok (.iload 8, 2) := by decide +kernel
theorem dX0_planFrom_83 : decode cX0_planFrom 83 = .ok (.iconst (-1), 1) := by decide +kernel
theorem dX0_planFrom_84 : decode cX0_planFrom 84 = .ok (.if_icmp .eq 11, 3) := by decide +kernel
theorem dX0_planFrom_87 : decode cX0_planFrom 87 = .ok (.iload 8, 2) := by decide +kernel
theorem dX0_planFrom_89 : decode cX0_planFrom 89 = .ok (.iconst 3, 1) := by decide +kernel
theorem dX0_planFrom_90 : decode cX0_planFrom 90 = .ok (.ishl, 1) := by decide +kernel
theorem dX0_planFrom_91 : decode cX0_planFrom 91 = .ok (.iload 6, 2) := by decide +kernel
theorem dX0_planFrom_93 : decode cX0_planFrom 93 = .ok (.ior, 1) := by decide +kernel
theorem dX0_planFrom_94 : decode cX0_planFrom 94 = .ok (.ireturn, 1) := by decide +kernel
theorem dX0_planFrom_95 : decode cX0_planFrom 95 = .ok (.iinc 6 1, 3) := by decide +kernel
theorem dX0_planFrom_98 : decode cX0_planFrom 98 = .ok (.goto (-50), 3) := by decide +kernel
theorem dX0_planFrom_101 : decode cX0_planFrom 101 = .ok (.iconst (-1), 1) := by decide +kernel
theorem dX0_planFrom_102 : decode cX0_planFrom 102 = .ok (.ireturn, 1) := by decide +kernel
theorem dX0_partOfPlan_0 : decode cX0_partOfPlan 0 = .ok (.iload_n 0, 1) := by decide +kernel
theorem dX0_partOfPlan_1 : decode cX0_partOfPlan 1 = .ok (.ifCond .ge 5, 3) := by decide +kernel
theorem dX0_partOfPlan_4 : decode cX0_partOfPlan 4 = .ok (.iload_n 0, 1) := by decide +kernel
theorem dX0_partOfPlan_5 : decode cX0_partOfPlan 5 = .ok (.ireturn, 1) := by decide +kernel
theorem dX0_partOfPlan_6 : decode cX0_partOfPlan 6 = .ok (.iload_n 0, 1) := by decide +kernel
theorem dX0_partOfPlan_7 : decode cX0_partOfPlan 7 = .ok (.iconst 3, 1) := by decide +kernel
theorem dX0_partOfPlan_8 : decode cX0_partOfPlan 8 = .ok (.iand, 1) := by decide +kernel
theorem dX0_partOfPlan_9 : decode cX0_partOfPlan 9 = .ok (.istore_n 2, 1) := by decide +kernel
theorem dX0_partOfPlan_10 : decode cX0_partOfPlan 10 = .ok (.iload_n 1, 1) := by decide +kernel
theorem dX0_partOfPlan_11 : decode cX0_partOfPlan 11 = .ok (.ifCond .ne 5, 3) := by decide +kernel
theorem dX0_partOfPlan_14 : decode cX0_partOfPlan 14 = .ok (.iload_n 2, 1) := by decide +kernel
theorem dX0_partOfPlan_15 : decode cX0_partOfPlan 15 = .ok (.ireturn, 1) := by decide +kernel
theorem dX0_partOfPlan_16 : decode cX0_partOfPlan 16 = .ok (.iload_n 1, 1) := by decide +kernel
theorem dX0_partOfPlan_17 : decode cX0_partOfPlan 17 = .ok (.bipush 10, 2) := by decide +kernel
theorem dX0_partOfPlan_19 : decode cX0_partOfPlan 19 = .ok (.isub, 1) := by decide +kernel
theorem dX0_partOfPlan_20 : decode cX0_partOfPlan 20 = .ok (.istore_n 3, 1) := by decide +kernel
theorem dX0_partOfPlan_21 : decode cX0_partOfPlan 21 = .ok (.iload_n 3, 1) := by decide +kernel
theorem dX0_partOfPlan_22 : decode cX0_partOfPlan 22 = .ok (.ifCond .lt 8, 3) := by decide +kernel
theorem dX0_partOfPlan_25 : decode cX0_partOfPlan 25 = .ok (.iload_n 3, 1) := by decide +kernel
theorem dX0_partOfPlan_26 : decode cX0_partOfPlan 26 = .ok (.iload_n 2, 1) := by decide +kernel
theorem dX0_partOfPlan_27 : decode cX0_partOfPlan 27 = .ok (.if_icmp .lt 5, 3) := by decide +kernel
theorem dX0_partOfPlan_30 : decode cX0_partOfPlan 30 = .ok (.iconst (-1), 1) := by decide +kernel
theorem dX0_partOfPlan_31 : decode cX0_partOfPlan 31 = .ok (.ireturn, 1) := by decide +kernel
theorem dX0_partOfPlan_32 : decode cX0_partOfPlan 32 = .ok (.iload_n 0, 1) := by decide +kernel
theorem dX0_partOfPlan_33 : decode cX0_partOfPlan 33 = .ok (.iconst 2, 1) := by decide +kernel
theorem dX0_partOfPlan_34 : decode cX0_partOfPlan 34 = .ok (.iconst 3, 1) := by decide +kernel
theorem dX0_partOfPlan_35 : decode cX0_partOfPlan 35 = .ok (.iload_n 3, 1) := by decide +kernel
theorem dX0_partOfPlan_36 : decode cX0_partOfPlan 36 = .ok (.imul, 1) := by decide +kernel
theorem dX0_partOfPlan_37 : decode cX0_partOfPlan 37 = .ok (.iadd, 1) := by decide +kernel
theorem dX0_partOfPlan_38 : decode cX0_partOfPlan 38 = .ok (.ishr, 1) := by decide +kernel
theorem dX0_partOfPlan_39 : decode cX0_partOfPlan 39 = .ok (.bipush 7, 2) := by decide +kernel
theorem dX0_partOfPlan_41 : decode cX0_partOfPlan 41 = .ok (.iand, 1) := by decide +kernel
theorem dX0_partOfPlan_42 : decode cX0_partOfPlan 42 = .ok (.ireturn, 1) := by decide +kernel
theorem dX0_sentAway_0 : decode cX0_sentAway 0 = .ok (.iconst (-1), 1) := by decide +kernel
theorem dX0_sentAway_1 : decode cX0_sentAway 1 = .ok (.istore 4, 2) := by decide +kernel
theorem dX0_sentAway_3 : decode cX0_sentAway 3 = .ok (.aload_n 0, 1) := by decide +kernel
theorem dX0_sentAway_4 : decode cX0_sentAway 4 = .ok (.invokevirtual 47, 3) := by decide +kernel
theorem dX0_sentAway_7 : decode cX0_sentAway 7 = .ok (.istore 5, 2) := by decide +kernel
theorem dX0_sentAway_9 : decode cX0_sentAway 9 = .ok (.iconst 0, 1) := by decide +kernel
theorem dX0_sentAway_10 : decode cX0_sentAway 10 = .ok (.istore 6, 2) := by decide +kernel
theorem dX0_sentAway_12 : decode cX0_sentAway 12 = .ok (.iload 6, 2) := by decide +kernel
theorem dX0_sentAway_14 : decode cX0_sentAway 14 = .ok (.iload 5, 2) := by decide +kernel
theorem dX0_sentAway_16 : decode cX0_sentAway 16 = .ok (.if_icmp .gt 77, 3) := by decide +kernel
theorem dX0_sentAway_19 : decode cX0_sentAway 19 = .ok (.iload 6, 2) := by decide +kernel
theorem dX0_sentAway_21 : decode cX0_sentAway 21 = .ok (.iload_n 1, 1) := by decide +kernel
theorem dX0_sentAway_22 : decode cX0_sentAway 22 = .ok (.ishr, 1) := by decide +kernel
theorem dX0_sentAway_23 : decode cX0_sentAway 23 = .ok (.iconst 1, 1) := by decide +kernel
theorem dX0_sentAway_24 : decode cX0_sentAway 24 = .ok (.iand, 1) := by decide +kernel
theorem dX0_sentAway_25 : decode cX0_sentAway 25 = .ok (.ifCond .ne 7, 3) := by decide +kernel
theorem dX0_sentAway_28 : decode cX0_sentAway 28 = .ok (.iconst 1, 1) := by decide +kernel
theorem dX0_sentAway_29 : decode cX0_sentAway 29 = .ok (.goto 4, 3) := by decide +kernel
theorem dX0_sentAway_32 : decode cX0_sentAway 32 = .ok (.iconst 0, 1) := by decide +kernel
theorem dX0_sentAway_33 : decode cX0_sentAway 33 = .ok (.istore 7, 2) := by decide +kernel
theorem dX0_sentAway_35 : decode cX0_sentAway 35 = .ok (.iload 4, 2) := by decide +kernel
theorem dX0_sentAway_37 : decode cX0_sentAway 37 = .ok (.iconst (-1), 1) := by decide +kernel
theorem dX0_sentAway_38 : decode cX0_sentAway 38 = .ok (.if_icmp .eq 16, 3) := by decide +kernel
theorem dX0_sentAway_41 : decode cX0_sentAway 41 = .ok (.iload 6, 2) := by decide +kernel
theorem dX0_sentAway_43 : decode cX0_sentAway 43 = .ok (.invokestatic 38, 3) := by decide +kernel
theorem dX0_sentAway_46 : decode cX0_sentAway 46 = .ok (.iload 4, 2) := by decide +kernel
theorem dX0_sentAway_48 : decode cX0_sentAway 48 = .ok (.invokestatic 38, 3) := by decide +kernel
theorem dX0_sentAway_51 : decode cX0_sentAway 51 = .ok (.if_icmp .ge 7, 3) := by decide +kernel
theorem dX0_sentAway_54 : decode cX0_sentAway 54 = .ok (.iconst 1, 1) := by decide +kernel
theorem dX0_sentAway_55 : decode cX0_sentAway 55 = .ok (.goto 4, 3) := by decide +kernel
theorem dX0_sentAway_58 : decode cX0_sentAway 58 = .ok (.iconst 0, 1) := by decide +kernel
theorem dX0_sentAway_59 : decode cX0_sentAway 59 = .ok (.istore 8, 2) := by decide +kernel
theorem dX0_sentAway_61 : decode cX0_sentAway 61 = .ok (.iload 7, 2) := by decide +kernel
theorem dX0_sentAway_63 : decode cX0_sentAway 63 = .ok (.ifCond .eq 24, 3) := by decide +kernel
theorem dX0_sentAway_66 : decode cX0_sentAway 66 = .ok (.iload 8, 2) := by decide +kernel
theorem dX0_sentAway_68 : decode cX0_sentAway 68 = .ok (.ifCond .eq 19, 3) := by decide +kernel
theorem dX0_sentAway_71 : decode cX0_sentAway 71 = .ok (.aload_n 0, 1) := by decide +kernel
theorem dX0_sentAway_72 : decode cX0_sentAway 72 = .ok (.iload_n 1, 1) := by decide +kernel
theorem dX0_sentAway_73 : decode cX0_sentAway 73 = .ok (.iload_n 2, 1) := by decide +kernel
theorem dX0_sentAway_74 : decode cX0_sentAway 74 = .ok (.iload_n 3, 1) := by decide +kernel
theorem dX0_sentAway_75 : decode cX0_sentAway 75 = .ok (.iload 6, 2) := by decide +kernel
theorem dX0_sentAway_77 : decode cX0_sentAway 77 = .ok (.invokestatic 51, 3) := by decide +kernel
theorem dX0_sentAway_80 : decode cX0_sentAway 80 = .ok (.ifCond .ne 7, 3) := by decide +kernel
theorem dX0_sentAway_83 : decode cX0_sentAway 83 = .ok (.iload 6, 2) := by decide +kernel
theorem dX0_sentAway_85 : decode cX0_sentAway 85 = .ok (.istore 4, 2) := by decide +kernel
theorem dX0_sentAway_87 : decode cX0_sentAway 87 = .ok (.iinc 6 1, 3) := by decide +kernel
theorem dX0_sentAway_90 : decode cX0_sentAway 90 = .ok (.goto (-78), 3) := by decide +kernel
theorem dX0_sentAway_93 : decode cX0_sentAway 93 = .ok (.iload 4, 2) := by decide +kernel
theorem dX0_sentAway_95 : decode cX0_sentAway 95 = .ok (.ireturn, 1) := by decide +kernel
theorem dX0_learns_0 : decode cX0_learns 0 = .ok (.aload_n 0, 1) := by decide +kernel
theorem dX0_learns_1 : decode cX0_learns 1 = .ok (.aload_n 0, 1) := by decide +kernel
theorem dX0_learns_2 : decode cX0_learns 2 = .ok (.iconst 0, 1) := by decide +kernel
theorem dX0_learns_3 : decode cX0_learns 3 = .ok (.iload_n 2, 1) := by decide +kernel
theorem dX0_learns_4 : decode cX0_learns 4 = .ok (.iload_n 3, 1) := by decide +kernel
theorem dX0_learns_5 : decode cX0_learns 5 = .ok (.iload 4, 2) := by decide +kernel
theorem dX0_learns_7 : decode cX0_learns 7 = .ok (.invokevirtual 30, 3) := by decide +kernel
theorem dX0_learns_10 : decode cX0_learns 10 = .ok (.invokevirtual 34, 3) := by decide +kernel
theorem dX0_learns_13 : decode cX0_learns 13 = .ok (.iload_n 1, 1) := by decide +kernel
theorem dX0_learns_14 : decode cX0_learns 14 = .ok (.ishr, 1) := by decide +kernel
theorem dX0_learns_15 : decode cX0_learns 15 = .ok (.iconst 1, 1) := by decide +kernel
theorem dX0_learns_16 : decode cX0_learns 16 = .ok (.iand, 1) := by decide +kernel
theorem dX0_learns_17 : decode cX0_learns 17 = .ok (.iconst 1, 1) := by decide +kernel
theorem dX0_learns_18 : decode cX0_learns 18 = .ok (.if_icmp .ne 7, 3) := by decide +kernel
theorem dX0_learns_21 : decode cX0_learns 21 = .ok (.iconst 1, 1) := by decide +kernel
theorem dX0_learns_22 : decode cX0_learns 22 = .ok (.goto 4, 3) := by decide +kernel
theorem dX0_learns_25 : decode cX0_learns 25 = .ok (.iconst 0, 1) := by decide +kernel
theorem dX0_learns_26 : decode cX0_learns 26 = .ok (.ireturn, 1) := by decide +kernel
theorem dX0_seek_0 : decode cX0_seek 0 = .ok (.aload_n 0, 1) := by decide +kernel
theorem dX0_seek_1 : decode cX0_seek 1 = .ok (.iconst 0, 1) := by decide +kernel
theorem dX0_seek_2 : decode cX0_seek 2 = .ok (.putfield 55, 3) := by decide +kernel
theorem dX0_seek_5 : decode cX0_seek 5 = .ok (.aload_n 0, 1) := by decide +kernel
theorem dX0_seek_6 : decode cX0_seek 6 = .ok (.iconst (-1), 1) := by decide +kernel
theorem dX0_seek_7 : decode cX0_seek 7 = .ok (.putfield 58, 3) := by decide +kernel
theorem dX0_seek_10 : decode cX0_seek 10 = .ok (.iconst 0, 1) := by decide +kernel
theorem dX0_seek_11 : decode cX0_seek 11 = .ok (.istore_n 2, 1) := by decide +kernel
theorem dX0_seek_12 : decode cX0_seek 12 = .ok (.iload_n 2, 1) := by decide +kernel
theorem dX0_seek_13 : decode cX0_seek 13 = .ok (.bipush 6, 2) := by decide +kernel
theorem dX0_seek_15 : decode cX0_seek 15 = .ok (.if_icmp .ge 16, 3) := by decide +kernel
theorem dX0_seek_18 : decode cX0_seek 18 = .ok (.aload_n 0, 1) := by decide +kernel
theorem dX0_seek_19 : decode cX0_seek 19 = .ok (.getfield 9, 3) := by decide +kernel
theorem dX0_seek_22 : decode cX0_seek 22 = .ok (.iload_n 2, 1) := by decide +kernel
theorem dX0_seek_23 : decode cX0_seek 23 = .ok (.iconst 0, 1) := by decide +kernel
theorem dX0_seek_24 : decode cX0_seek 24 = .ok (.iastore, 1) := by decide +kernel
theorem dX0_seek_25 : decode cX0_seek 25 = .ok (.iinc 2 1, 3) := by decide +kernel
theorem dX0_seek_28 : decode cX0_seek 28 = .ok (.goto (-16), 3) := by decide +kernel
theorem dX0_seek_31 : decode cX0_seek 31 = .ok (.iconst 0, 1) := by decide +kernel
theorem dX0_seek_32 : decode cX0_seek 32 = .ok (.istore_n 2, 1) := by decide +kernel
theorem dX0_seek_33 : decode cX0_seek 33 = .ok (.iload_n 2, 1) := by decide +kernel
theorem dX0_seek_34 : decode cX0_seek 34 = .ok (.bipush 6, 2) := by decide +kernel
theorem dX0_seek_36 : decode cX0_seek 36 = .ok (.if_icmp .ge 86, 3) := by decide +kernel
theorem dX0_seek_39 : decode cX0_seek 39 = .ok (.iconst 1, 1) := by decide +kernel
theorem dX0_seek_40 : decode cX0_seek 40 = .ok (.istore_n 3, 1) := by decide +kernel
theorem dX0_seek_41 : decode cX0_seek 41 = .ok (.iload_n 3, 1) := by decide +kernel
theorem dX0_seek_42 : decode cX0_seek 42 = .ok (.bipush 9, 2) := by decide +kernel
theorem dX0_seek_44 : decode cX0_seek 44 = .ok (.if_icmp .gt 72, 3) := by decide +kernel
theorem dX0_seek_47 : decode cX0_seek 47 = .ok (.aload_n 1, 1) := by decide +kernel
theorem dX0_seek_48 : decode cX0_seek 48 = .ok (.aload_n 1, 1) := by decide +kernel
theorem dX0_seek_49 : decode cX0_seek 49 = .ok (.iconst 0, 1) := by decide +kernel
theorem dX0_seek_50 : decode cX0_seek 50 = .ok (.iload_n 2, 1) := by decide +kernel
theorem dX0_seek_51 : decode cX0_seek 51 = .ok (.iload_n 3, 1) := by decide +kernel
theorem dX0_seek_52 : decode cX0_seek 52 = .ok (.iconst 0, 1) := by decide +kernel
theorem dX0_seek_53 : decode cX0_seek 53 = .ok (.invokevirtual 30, 3) := by decide +kernel
theorem dX0_seek_56 : decode cX0_seek 56 = .ok (.invokevirtual 34, 3) := by decide +kernel
theorem dX0_seek_59 : decode cX0_seek 59 = .ok (.istore 4, 2) := by decide +kernel
theorem dX0_seek_61 : decode cX0_seek 61 = .ok (.aload_n 1, 1) := by decide +kernel
theorem dX0_seek_62 : decode cX0_seek 62 = .ok (.iload 4, 2) := by decide +kernel
theorem dX0_seek_64 : decode cX0_seek 64 = .ok (.invokevirtual 61, 3) := by decide +kernel
theorem dX0_seek_67 : decode cX0_seek 67 = .ok (.ifCond .eq 43, 3) := by decide +kernel
theorem dX0_seek_70 : decode cX0_seek 70 = .ok (.aload_n 0, 1) := by decide +kernel
theorem dX0_seek_71 : decode cX0_seek 71 = .ok (.aload_n 0, 1) := by decide +kernel
theorem dX0_seek_72 : decode cX0_seek 72 = .ok (.getfield 55, 3) := by decide +kernel
theorem dX0_seek_75 : decode cX0_seek 75 = .ok (.ifCond .ne 12, 3) := by decide +kernel
theorem dX0_seek_78 : decode cX0_seek 78 = .ok (.bipush 10, 2) := by decide +kernel
theorem dX0_seek_80 : decode cX0_seek 80 = .ok (.iload_n 2, 1) := by decide +kernel
theorem dX0_seek_81 : decode cX0_seek 81 = .ok (.imul, 1) := by decide +kernel
theorem dX0_seek_82 : decode cX0_seek 82 = .ok (.iload_n 3, 1) := by decide +kernel
theorem dX0_seek_83 : decode cX0_seek 83 = .ok (.iadd, 1) := by decide +kernel
theorem dX0_seek_84 : decode cX0_seek 84 = .ok (.goto 7, 3) := by decide +kernel
theorem dX0_seek_87 : decode cX0_seek 87 = .ok (.aload_n 0, 1) := by decide +kernel
theorem dX0_seek_88 : decode cX0_seek 88 = .ok (.getfield 58, 3) := by decide +kernel
theorem dX0_seek_91 : decode cX0_seek 91 = .ok (.putfield 58, 3) := by decide +kernel
theorem dX0_seek_94 : decode cX0_seek 94 = .ok (.aload_n 0, 1) := by decide +kernel
theorem dX0_seek_95 : decode cX0_seek 95 = .ok (.dup, 1) := by decide +kernel
theorem dX0_seek_96 : decode cX0_seek 96 = .ok (.getfield 55, 3) := by decide +kernel
theorem dX0_seek_99 : decode cX0_seek 99 = .ok (.iconst 1, 1) := by decide +kernel
theorem dX0_seek_100 : decode cX0_seek 100 = .ok (.iadd, 1) := by decide +kernel
theorem dX0_seek_101 : decode cX0_seek 101 = .ok (.putfield 55, 3) := by decide +kernel
theorem dX0_seek_104 : decode cX0_seek 104 = .ok (.aload_n 0, 1) := by decide +kernel
theorem dX0_seek_105 : decode cX0_seek 105 = .ok (.iload 4, 2) := by decide +kernel
theorem dX0_seek_107 : decode cX0_seek 107 = .ok (.invokevirtual 65, 3) := by decide +kernel
theorem dX0_seek_110 : decode cX0_seek 110 = .ok (.iinc 3 1, 3) := by decide +kernel
theorem dX0_seek_113 : decode cX0_seek 113 = .ok (.goto (-72), 3) := by decide +kernel
theorem dX0_seek_116 : decode cX0_seek 116 = .ok (.iinc 2 1, 3) := by decide +kernel
theorem dX0_seek_119 : decode cX0_seek 119 = .ok (.goto (-86), 3) := by decide +kernel
theorem dX0_seek_122 : decode cX0_seek 122 = .ok (.return_, 1) := by decide +kernel
theorem dX0_tally_0 : decode cX0_tally 0 = .ok (.iconst 0, 1) := by decide +kernel
theorem dX0_tally_1 : decode cX0_tally 1 = .ok (.istore_n 2, 1) := by decide +kernel
theorem dX0_tally_2 : decode cX0_tally 2 = .ok (.iload_n 2, 1) := by decide +kernel
theorem dX0_tally_3 : decode cX0_tally 3 = .ok (.bipush 6, 2) := by decide +kernel
theorem dX0_tally_5 : decode cX0_tally 5 = .ok (.if_icmp .ge 23, 3) := by decide +kernel
theorem dX0_tally_8 : decode cX0_tally 8 = .ok (.aload_n 0, 1) := by decide +kernel
theorem dX0_tally_9 : decode cX0_tally 9 = .ok (.getfield 9, 3) := by decide +kernel
theorem dX0_tally_12 : decode cX0_tally 12 = .ok (.iload_n 2, 1) := by decide +kernel
theorem dX0_tally_13 : decode cX0_tally 13 = .ok (.dup2, 1) := by decide +kernel
theorem dX0_tally_14 : decode cX0_tally 14 = .ok (.iaload, 1) := by decide +kernel
theorem dX0_tally_15 : decode cX0_tally 15 = .ok (.iload_n 1, 1) := by decide +kernel
theorem dX0_tally_16 : decode cX0_tally 16 = .ok (.iload_n 2, 1) := by decide +kernel
theorem dX0_tally_17 : decode cX0_tally 17 = .ok (.ishr, 1) := by decide +kernel
theorem dX0_tally_18 : decode cX0_tally 18 = .ok (.iconst 1, 1) := by decide +kernel
theorem dX0_tally_19 : decode cX0_tally 19 = .ok (.iand, 1) := by decide +kernel
theorem dX0_tally_20 : decode cX0_tally 20 = .ok (.iadd, 1) := by decide +kernel
theorem dX0_tally_21 : decode cX0_tally 21 = .ok (.iastore, 1) := by decide +kernel
theorem dX0_tally_22 : decode cX0_tally 22 = .ok (.iinc 2 1, 3) := by decide +kernel
theorem dX0_tally_25 : decode cX0_tally 25 = .ok (.goto (-23), 3) := by decide +kernel
theorem dX0_tally_28 : decode cX0_tally 28 = .ok (.return_, 1) := by decide +kernel
theorem dX0_bestAsked_0 : decode cX0_bestAsked 0 = .ok (.iconst (-1), 1) := by decide +kernel
theorem dX0_bestAsked_1 : decode cX0_bestAsked 1 = .ok (.istore_n 2, 1) := by decide +kernel
theorem dX0_bestAsked_2 : decode cX0_bestAsked 2 = .ok (.aload_n 0, 1) := by decide +kernel
theorem dX0_bestAsked_3 : decode cX0_bestAsked 3 = .ok (.getfield 55, 3) := by decide +kernel
theorem dX0_bestAsked_6 : decode cX0_bestAsked 6 = .ok (.istore_n 3, 1) := by decide +kernel
theorem dX0_bestAsked_7 : decode cX0_bestAsked 7 = .ok (.iconst 0, 1) := by decide +kernel
theorem dX0_bestAsked_8 : decode cX0_bestAsked 8 = .ok (.istore 4, 2) := by decide +kernel
theorem dX0_bestAsked_10 : decode cX0_bestAsked 10 = .ok (.iload 4, 2) := by decide +kernel
theorem dX0_bestAsked_12 : decode cX0_bestAsked 12 = .ok (.iload_n 1, 1) := by decide +kernel
theorem dX0_bestAsked_13 : decode cX0_bestAsked 13 = .ok (.if_icmp .ge 64, 3) := by decide +kernel
theorem dX0_bestAsked_16 : decode cX0_bestAsked 16 = .ok (.iload 4, 2) := by decide +kernel
theorem dX0_bestAsked_18 : decode cX0_bestAsked 18 = .ok (.bipush 6, 2) := by decide +kernel
theorem dX0_bestAsked_20 : decode cX0_bestAsked 20 = .ok (.if_icmp .ge 57, 3) := by decide +kernel
theorem dX0_bestAsked_23 : decode cX0_bestAsked 23 = .ok (.aload_n 0, 1) := by decide +kernel
theorem dX0_bestAsked_24 : decode cX0_bestAsked 24 = .ok (.getfield 55, 3) := by decide +kernel
theorem dX0_bestAsked_27 : decode cX0_bestAsked 27 = .ok (.ifCond .le 50, 3) := by decide +kernel
theorem dX0_bestAsked_30 : decode cX0_bestAsked 30 = .ok (.aload_n 0, 1) := by decide +kernel
theorem dX0_bestAsked_31 : decode cX0_bestAsked 31 = .ok (.getfield 9, 3) := by decide +kernel
theorem dX0_bestAsked_34 : decode cX0_bestAsked 34 = .ok (.iload 4, 2) := by decide +kernel
theorem dX0_bestAsked_36 : decode cX0_bestAsked 36 = .ok (.iaload, 1) := by decide +kernel
theorem dX0_bestAsked_37 : decode cX0_bestAsked 37 = .ok (.aload_n 0, 1) := by decide +kernel
theorem dX0_bestAsked_38 : decode cX0_bestAsked 38 = .ok (.getfield 55, 3) := by decide +kernel
theorem dX0_bestAsked_41 : decode cX0_bestAsked 41 = .ok (.aload_n 0, 1) := by decide +kernel
theorem dX0_bestAsked_42 : decode cX0_bestAsked 42 = .ok (.getfield 9, 3) := by decide +kernel
theorem dX0_bestAsked_45 : decode cX0_bestAsked 45 = .ok (.iload 4, 2) := by decide +kernel
theorem dX0_bestAsked_47 : decode cX0_bestAsked 47 = .ok (.iaload, 1) := by decide +kernel
theorem dX0_bestAsked_48 : decode cX0_bestAsked 48 = .ok (.isub, 1) := by decide +kernel
theorem dX0_bestAsked_49 : decode cX0_bestAsked 49 = .ok (.invokestatic 69, 3) := by decide +kernel
theorem dX0_bestAsked_52 : decode cX0_bestAsked 52 = .ok (.istore 5, 2) := by decide +kernel
theorem dX0_bestAsked_54 : decode cX0_bestAsked 54 = .ok (.iload_n 2, 1) := by decide +kernel
theorem dX0_bestAsked_55 : decode cX0_bestAsked 55 = .ok (.iconst (-1), 1) := by decide +kernel
theorem dX0_bestAsked_56 : decode cX0_bestAsked 56 = .ok (.if_icmp .eq 9, 3) := by decide +kernel
theorem dX0_bestAsked_59 : decode cX0_bestAsked 59 = .ok (.iload 5, 2) := by decide +kernel
theorem dX0_bestAsked_61 : decode cX0_bestAsked 61 = .ok (.iload_n 3, 1) := by decide +kernel
theorem dX0_bestAsked_62 : decode cX0_bestAsked 62 = .ok (.if_icmp .ge 9, 3) := by decide +kernel
theorem dX0_bestAsked_65 : decode cX0_bestAsked 65 = .ok (.iload 4, 2) := by decide +kernel
theorem dX0_bestAsked_67 : decode cX0_bestAsked 67 = .ok (.istore_n 2, 1) := by decide +kernel
theorem dX0_bestAsked_68 : decode cX0_bestAsked 68 = .ok (.iload 5, 2) := by decide +kernel
theorem dX0_bestAsked_70 : decode cX0_bestAsked 70 = .ok (.istore_n 3, 1) := by decide +kernel
theorem dX0_bestAsked_71 : decode cX0_bestAsked 71 = .ok (.iinc 4 1, 3) := by decide +kernel
theorem dX0_bestAsked_74 : decode cX0_bestAsked 74 = .ok (.goto (-64), 3) := by decide +kernel
theorem dX0_bestAsked_77 : decode cX0_bestAsked 77 = .ok (.iload_n 2, 1) := by decide +kernel
theorem dX0_bestAsked_78 : decode cX0_bestAsked 78 = .ok (.ireturn, 1) := by decide +kernel
theorem dX0_live_0 : decode cX0_live 0 = .ok (.aload_n 0, 1) := by decide +kernel
theorem dX0_live_1 : decode cX0_live 1 = .ok (.iconst 0, 1) := by decide +kernel
theorem dX0_live_2 : decode cX0_live 2 = .ok (.putfield 75, 3) := by decide +kernel
theorem dX0_live_5 : decode cX0_live 5 = .ok (.aload_n 0, 1) := by decide +kernel
theorem dX0_live_6 : decode cX0_live 6 = .ok (.iconst 0, 1) := by decide +kernel
theorem dX0_live_7 : decode cX0_live 7 = .ok (.putfield 78, 3) := by decide +kernel
theorem dX0_live_10 : decode cX0_live 10 = .ok (.aload_n 0, 1) := by decide +kernel
theorem dX0_live_11 : decode cX0_live 11 = .ok (.iload_n 3, 1) := by decide +kernel
theorem dX0_live_12 : decode cX0_live 12 = .ok (.putfield 81, 3) := by decide +kernel
theorem dX0_live_15 : decode cX0_live 15 = .ok (.iconst 0, 1) := by decide +kernel
theorem dX0_live_16 : decode cX0_live 16 = .ok (.istore 4, 2) := by decide +kernel
theorem dX0_live_18 : decode cX0_live 18 = .ok (.iload 4, 2) := by decide +kernel
theorem dX0_live_20 : decode cX0_live 20 = .ok (.iload_n 2, 1) := by decide +kernel
theorem dX0_live_21 : decode cX0_live 21 = .ok (.if_icmp .ge 61, 3) := by decide +kernel
theorem dX0_live_24 : decode cX0_live 24 = .ok (.aload_n 0, 1) := by decide +kernel
theorem dX0_live_25 : decode cX0_live 25 = .ok (.bipush 6, 2) := by decide +kernel
theorem dX0_live_27 : decode cX0_live 27 = .ok (.invokevirtual 84, 3) := by decide +kernel
theorem dX0_live_30 : decode cX0_live 30 = .ok (.istore 5, 2) := by decide +kernel
theorem dX0_live_32 : decode cX0_live 32 = .ok (.iconst 1, 1) := by decide +kernel
theorem dX0_live_33 : decode cX0_live 33 = .ok (.aload_n 0, 1) := by decide +kernel
theorem dX0_live_34 : decode cX0_live 34 = .ok (.bipush 9, 2) := by decide +kernel
theorem dX0_live_36 : decode cX0_live 36 = .ok (.invokevirtual 84, 3) := by decide +kernel
theorem dX0_live_39 : decode cX0_live 39 = .ok (.iadd, 1) := by decide +kernel
theorem dX0_live_40 : decode cX0_live 40 = .ok (.istore 6, 2) := by decide +kernel
theorem dX0_live_42 : decode cX0_live 42 = .ok (.aload_n 0, 1) := by decide +kernel
theorem dX0_live_43 : decode cX0_live 43 = .ok (.aload_n 1, 1) := by decide +kernel
theorem dX0_live_44 : decode cX0_live 44 = .ok (.aload_n 1, 1) := by decide +kernel
theorem dX0_live_45 : decode cX0_live 45 = .ok (.iconst 0, 1) := by decide +kernel
theorem dX0_live_46 : decode cX0_live 46 = .ok (.iload 5, 2) := by decide +kernel
theorem dX0_live_48 : decode cX0_live 48 = .ok (.iload 6, 2) := by decide +kernel
theorem dX0_live_50 : decode cX0_live 50 = .ok (.iconst 0, 1) := by decide +kernel
theorem dX0_live_51 : decode cX0_live 51 = .ok (.invokevirtual 30, 3) := by decide +kernel
theorem dX0_live_54 : decode cX0_live 54 = .ok (.invokevirtual 34, 3) := by decide +kernel
theorem dX0_live_57 : decode cX0_live 57 = .ok (.invokestatic 38, 3) := by decide +kernel
theorem dX0_live_60 : decode cX0_live 60 = .ok (.putfield 78, 3) := by decide +kernel
theorem dX0_live_63 : decode cX0_live 63 = .ok (.aload_n 0, 1) := by decide +kernel
theorem dX0_live_64 : decode cX0_live 64 = .ok (.dup, 1) := by decide +kernel
theorem dX0_live_65 : decode cX0_live 65 = .ok (.getfield 75, 3) := by decide +kernel
theorem dX0_live_68 : decode cX0_live 68 = .ok (.aload_n 0, 1) := by decide +kernel
theorem dX0_live_69 : decode cX0_live 69 = .ok (.getfield 78, 3) := by decide +kernel
theorem dX0_live_72 : decode cX0_live 72 = .ok (.iadd, 1) := by decide +kernel
theorem dX0_live_73 : decode cX0_live 73 = .ok (.putfield 75, 3) := by decide +kernel
theorem dX0_live_76 : decode cX0_live 76 = .ok (.iinc 4 1, 3) := by decide +kernel
theorem dX0_live_79 : decode cX0_live 79 = .ok (.goto (-61), 3) := by decide +kernel
theorem dX0_live_82 : decode cX0_live 82 = .ok (.return_, 1) := by decide +kernel
theorem dX0_draw_0 : decode cX0_draw 0 = .ok (.aload_n 0, 1) := by decide +kernel
theorem dX0_draw_1 : decode cX0_draw 1 = .ok (.ldc2_w 87, 3) := by decide +kernel
theorem dX0_draw_4 : decode cX0_draw 4 = .ok (.aload_n 0, 1) := by decide +kernel
theorem dX0_draw_5 : decode cX0_draw 5 = .ok (.getfield 81, 3) := by decide +kernel
theorem dX0_draw_8 : decode cX0_draw 8 = .ok (.i2l, 1) := by decide +kernel
theorem dX0_draw_9 : decode cX0_draw 9 = .ok (.lmul, 1) := by decide +kernel
theorem dX0_draw_10 : decode cX0_draw 10 = .ok (.ldc2_w 89, 3) := by decide +kernel
theorem dX0_draw_13 : decode cX0_draw 13 = .ok (.ladd, 1) := by decide +kernel
theorem dX0_draw_14 : decode cX0_draw 14 = .ok (.ldc2_w 91, 3) := by decide +kernel
theorem dX0_draw_17 : decode cX0_draw 17 = .ok (.land, 1) := by decide +kernel
theorem dX0_draw_18 : decode cX0_draw 18 = .ok (.l2i, 1) := by decide +kernel
theorem dX0_draw_19 : decode cX0_draw 19 = .ok (.putfield 81, 3) := by decide +kernel
theorem dX0_draw_22 : decode cX0_draw 22 = .ok (.iload_n 1, 1) := by decide +kernel
theorem dX0_draw_23 : decode cX0_draw 23 = .ok (.ifCond .le 15, 3) := by decide +kernel
theorem dX0_draw_26 : decode cX0_draw 26 = .ok (.aload_n 0, 1) := by decide +kernel
theorem dX0_draw_27 : decode cX0_draw 27 = .ok (.getfield 81, 3) := by decide +kernel
theorem dX0_draw_30 : decode cX0_draw 30 = .ok (.ldc 93, 2) := by decide +kernel
theorem dX0_draw_32 : decode cX0_draw 32 = .ok (.idiv, 1) := by decide +kernel
theorem dX0_draw_33 : decode cX0_draw 33 = .ok (.iload_n 1, 1) := by decide +kernel
theorem dX0_draw_34 : decode cX0_draw 34 = .ok (.irem, 1) := by decide +kernel
theorem dX0_draw_35 : decode cX0_draw 35 = .ok (.goto 4, 3) := by decide +kernel
theorem dX0_draw_38 : decode cX0_draw 38 = .ok (.iconst 0, 1) := by decide +kernel
theorem dX0_draw_39 : decode cX0_draw 39 = .ok (.ireturn, 1) := by decide +kernel
theorem dX1_init_0 : decode cX1_init 0 = .ok (.aload_n 0, 1) := by decide +kernel
theorem dX1_init_1 : decode cX1_init 1 = .ok (.invokespecial 3, 3) := by decide +kernel
theorem dX1_init_4 : decode cX1_init 4 = .ok (.aload_n 0, 1) := by decide +kernel
theorem dX1_init_5 : decode cX1_init 5 = .ok (.bipush 12, 2) := by decide +kernel
theorem dX1_init_7 : decode cX1_init 7 = .ok (.newarray .int, 2) := by decide +kernel
theorem dX1_init_9 : decode cX1_init 9 = .ok (.putfield 11, 3) := by decide +kernel
theorem dX1_init_12 : decode cX1_init 12 = .ok (.aload_n 0, 1) := by decide +kernel
theorem dX1_init_13 : decode cX1_init 13 = .ok (.iconst 0, 1) := by decide +kernel
theorem dX1_init_14 : decode cX1_init 14 = .ok (.putfield 15, 3) := by decide +kernel
theorem dX1_init_17 : decode cX1_init 17 = .ok (.return_, 1) := by decide +kernel
theorem dX1_add_0 : decode cX1_add 0 = .ok (.aload_n 0, 1) := by decide +kernel
theorem dX1_add_1 : decode cX1_add 1 = .ok (.getfield 15, 3) := by decide +kernel
theorem dX1_add_4 : decode cX1_add 4 = .ok (.bipush 12, 2) := by decide +kernel
theorem dX1_add_6 : decode cX1_add 6 = .ok (.if_icmp .lt 6, 3) := by decide +kernel
theorem dX1_add_9 : decode cX1_add 9 = .ok (.bipush (-104), 2) := by decide +kernel
theorem dX1_add_11 : decode cX1_add 11 = .ok (.ireturn, 1) := by decide +kernel
theorem dX1_add_12 : decode cX1_add 12 = .ok (.aload_n 0, 1) := by decide +kernel
theorem dX1_add_13 : decode cX1_add 13 = .ok (.getfield 11, 3) := by decide +kernel
theorem dX1_add_16 : decode cX1_add 16 = .ok (.aload_n 0, 1) := by decide +kernel
theorem dX1_add_17 : decode cX1_add 17 = .ok (.getfield 15, 3) := by decide +kernel
theorem dX1_add_20 : decode cX1_add 20 = .ok (.iload_n 1, 1) := by decide +kernel
theorem dX1_add_21 : decode cX1_add 21 = .ok (.iastore, 1) := by decide +kernel
theorem dX1_add_22 : decode cX1_add 22 = .ok (.aload_n 0, 1) := by decide +kernel
theorem dX1_add_23 : decode cX1_add 23 = .ok (.dup, 1) := by decide +kernel
theorem dX1_add_24 : decode cX1_add 24 = .ok (.getfield 15, 3) := by decide +kernel
theorem dX1_add_27 : decode cX1_add 27 = .ok (.iconst 1, 1) := by decide +kernel
theorem dX1_add_28 : decode cX1_add 28 = .ok (.iadd, 1) := by decide +kernel
theorem dX1_add_29 : decode cX1_add 29 = .ok (.putfield 15, 3) := by decide +kernel
theorem dX1_add_32 : decode cX1_add 32 = .ok (.aload_n 0, 1) := by decide +kernel
theorem dX1_add_33 : decode cX1_add 33 = .ok (.getfield 15, 3) := by decide +kernel
theorem dX1_add_36 : decode cX1_add 36 = .ok (.ireturn, 1) := by decide +kernel
theorem dX1_clear_0 : decode cX1_clear 0 = .ok (.aload_n 0, 1) := by decide +kernel
theorem dX1_clear_1 : decode cX1_clear 1 = .ok (.getfield 15, 3) := by decide +kernel
theorem dX1_clear_4 : decode cX1_clear 4 = .ok (.istore_n 1, 1) := by decide +kernel
theorem dX1_clear_5 : decode cX1_clear 5 = .ok (.aload_n 0, 1) := by decide +kernel
theorem dX1_clear_6 : decode cX1_clear 6 = .ok (.iconst 0, 1) := by decide +kernel
theorem dX1_clear_7 : decode cX1_clear 7 = .ok (.putfield 15, 3) := by decide +kernel
theorem dX1_clear_10 : decode cX1_clear 10 = .ok (.iload_n 1, 1) := by decide +kernel
theorem dX1_clear_11 : decode cX1_clear 11 = .ok (.ireturn, 1) := by decide +kernel
theorem dX1_firstWrong_0 : decode cX1_firstWrong 0 = .ok (.iconst 0, 1) := by decide +kernel
theorem dX1_firstWrong_1 : decode cX1_firstWrong 1 = .ok (.istore_n 1, 1) := by decide +kernel
theorem dX1_firstWrong_2 : decode cX1_firstWrong 2 = .ok (.iload_n 1, 1) := by decide +kernel
theorem dX1_firstWrong_3 : decode cX1_firstWrong 3 = .ok (.aload_n 0, 1) := by decide +kernel
theorem dX1_firstWrong_4 : decode cX1_firstWrong 4 = .ok (.getfield 15, 3) := by decide +kernel
theorem dX1_firstWrong_7 : decode cX1_firstWrong 7 = .ok (.if_icmp .ge 22, 3) := by decide +kernel
theorem dX1_firstWrong_10 : decode cX1_firstWrong 10 = .ok (.iload_n 1, 1) := by decide +kernel
theorem dX1_firstWrong_11 : decode cX1_firstWrong 11 = .ok (.aload_n 0, 1) := by decide +kernel
theorem dX1_firstWrong_12 : decode cX1_firstWrong 12 = .ok (.getfield 11, 3) := by decide +kernel
theorem dX1_firstWrong_15 : decode cX1_firstWrong 15 = .ok (.iload_n 1, 1) := by decide +kernel
theorem dX1_firstWrong_16 : decode cX1_firstWrong 16 = .ok (.iaload, 1) := by decide +kernel
theorem dX1_firstWrong_17 : decode cX1_firstWrong 17 = .ok (.invokestatic 19, 3) := by decide +kernel
theorem dX1_firstWrong_20 : decode cX1_firstWrong 20 = .ok (.ifCond .eq 9, 3) := by decide +kernel
theorem dX1_firstWrong_23 : decode cX1_firstWrong 23 = .ok (.iinc 1 1, 3) := by decide +kernel
theorem dX1_firstWrong_26 : decode cX1_firstWrong 26 = .ok (.goto (-24), 3) := by decide +kernel
theorem dX1_firstWrong_29 : decode cX1_firstWrong 29 = .ok (.iload_n 1, 1) := by decide +kernel
theorem dX1_firstWrong_30 : decode cX1_firstWrong 30 = .ok (.ireturn, 1) := by decide +kernel
theorem dX1_isTown_0 : decode cX1_isTown 0 = .ok (.aload_n 0, 1) := by decide +kernel
theorem dX1_isTown_1 : decode cX1_isTown 1 = .ok (.getfield 15, 3) := by decide +kernel
theorem dX1_isTown_4 : decode cX1_isTown 4 = .ok (.bipush 9, 2) := by decide +kernel
theorem dX1_isTown_6 : decode cX1_isTown 6 = .ok (.if_icmp .ne 16, 3) := by decide +kernel
theorem dX1_isTown_9 : decode cX1_isTown 9 = .ok (.aload_n 0, 1) := by decide +kernel
theorem dX1_isTown_10 : decode cX1_isTown 10 = .ok (.invokevirtual 23, 3) := by decide +kernel
theorem dX1_isTown_13 : decode cX1_isTown 13 = .ok (.bipush 9, 2) := by decide +kernel
theorem dX1_isTown_15 : decode cX1_isTown 15 = .ok (.if_icmp .ne 7, 3) := by decide +kernel
theorem dX1_isTown_18 : decode cX1_isTown 18 = .ok (.iconst 1, 1) := by decide +kernel
theorem dX1_isTown_19 : decode cX1_isTown 19 = .ok (.goto 4, 3) := by decide +kernel
theorem dX1_isTown_22 : decode cX1_isTown 22 = .ok (.iconst 0, 1) := by decide +kernel
theorem dX1_isTown_23 : decode cX1_isTown 23 = .ok (.ireturn, 1) := by decide +kernel
theorem dX1_digit_0 : decode cX1_digit 0 = .ok (.iload_n 1, 1) := by decide +kernel
theorem dX1_digit_1 : decode cX1_digit 1 = .ok (.ifCond .lt 21, 3) := by decide +kernel
theorem dX1_digit_4 : decode cX1_digit 4 = .ok (.iload_n 1, 1) := by decide +kernel
theorem dX1_digit_5 : decode cX1_digit 5 = .ok (.bipush 12, 2) := by decide +kernel
theorem dX1_digit_7 : decode cX1_digit 7 = .ok (.if_icmp .ge 15, 3) := by decide +kernel
theorem dX1_digit_10 : decode cX1_digit 10 = .ok (.aload_n 0, 1) := by decide +kernel
theorem dX1_digit_11 : decode cX1_digit 11 = .ok (.getfield 11, 3) := by decide +kernel
theorem dX1_digit_14 : decode cX1_digit 14 = .ok (.iload_n 1, 1) := by decide +kernel
theorem dX1_digit_15 : decode cX1_digit 15 = .ok (.iaload, 1) := by decide +kernel
theorem dX1_digit_16 : decode cX1_digit 16 = .ok (.bipush 48, 2) := by decide +kernel
theorem dX1_digit_18 : decode cX1_digit 18 = .ok (.isub, 1) := by decide +kernel
theorem dX1_digit_19 : decode cX1_digit 19 = .ok (.goto 4, 3) := by decide +kernel
theorem dX1_digit_22 : decode cX1_digit 22 = .ok (.iconst 0, 1) := by decide +kernel
theorem dX1_digit_23 : decode cX1_digit 23 = .ok (.ireturn, 1) := by decide +kernel
theorem dX1_fits_0 : decode cX1_fits 0 = .ok (.iload_n 0, 1) := by decide +kernel
theorem dX1_fits_1 : decode cX1_fits 1 = .ok (.bipush 6, 2) := by decide +kernel
theorem dX1_fits_3 : decode cX1_fits 3 = .ok (.if_icmp .ge 21, 3) := by decide +kernel
theorem dX1_fits_6 : decode cX1_fits 6 = .ok (.iload_n 1, 1) := by decide +kernel
theorem dX1_fits_7 : decode cX1_fits 7 = .ok (.bipush 48, 2) := by decide +kernel
theorem dX1_fits_9 : decode cX1_fits 9 = .ok (.if_icmp .lt 13, 3) := by decide +kernel
theorem dX1_fits_12 : decode cX1_fits 12 = .ok (.iload_n 1, 1) := by decide +kernel
theorem dX1_fits_13 : decode cX1_fits 13 = .ok (.bipush 57, 2) := by decide +kernel
theorem dX1_fits_15 : decode cX1_fits 15 = .ok (.if_icmp .gt 7, 3) := by decide +kernel
theorem dX1_fits_18 : decode cX1_fits 18 = .ok (.iconst 1, 1) := by decide +kernel
theorem dX1_fits_19 : decode cX1_fits 19 = .ok (.goto 4, 3) := by decide +kernel
theorem dX1_fits_22 : decode cX1_fits 22 = .ok (.iconst 0, 1) := by decide +kernel
theorem dX1_fits_23 : decode cX1_fits 23 = .ok (.ireturn, 1) := by decide +kernel
theorem dX1_fits_24 : decode cX1_fits 24 = .ok (.iload_n 0, 1) := by decide +kernel
theorem dX1_fits_25 : decode cX1_fits 25 = .ok (.tableswitch 75 6 8 #[27, 39, 57], 27) := by decide +kernel
theorem dX1_fits_52 : decode cX1_fits 52 = .ok (.iload_n 1, 1) := by decide +kernel
theorem dX1_fits_53 : decode cX1_fits 53 = .ok (.bipush 59, 2) := by decide +kernel
theorem dX1_fits_55 : decode cX1_fits 55 = .ok (.if_icmp .ne 7, 3) := by decide +kernel
theorem dX1_fits_58 : decode cX1_fits 58 = .ok (.iconst 1, 1) := by decide +kernel
theorem dX1_fits_59 : decode cX1_fits 59 = .ok (.goto 4, 3) := by decide +kernel
theorem dX1_fits_62 : decode cX1_fits 62 = .ok (.iconst 0, 1) := by decide +kernel
theorem dX1_fits_63 : decode cX1_fits 63 = .ok (.ireturn, 1) := by decide +kernel
theorem dX1_fits_64 : decode cX1_fits 64 = .ok (.iload_n 1, 1) := by decide +kernel
theorem dX1_fits_65 : decode cX1_fits 65 = .ok (.bipush 49, 2) := by decide +kernel
theorem dX1_fits_67 : decode cX1_fits 67 = .ok (.if_icmp .lt 13, 3) := by decide +kernel
theorem dX1_fits_70 : decode cX1_fits 70 = .ok (.iload_n 1, 1) := by decide +kernel
theorem dX1_fits_71 : decode cX1_fits 71 = .ok (.bipush 57, 2) := by decide +kernel
theorem dX1_fits_73 : decode cX1_fits 73 = .ok (.if_icmp .gt 7, 3) := by decide +kernel
theorem dX1_fits_76 : decode cX1_fits 76 = .ok (.iconst 1, 1) := by decide +kernel
theorem dX1_fits_77 : decode cX1_fits 77 = .ok (.goto 4, 3) := by decide +kernel
theorem dX1_fits_80 : decode cX1_fits 80 = .ok (.iconst 0, 1) := by decide +kernel
theorem dX1_fits_81 : decode cX1_fits 81 = .ok (.ireturn, 1) := by decide +kernel
theorem dX1_fits_82 : decode cX1_fits 82 = .ok (.iload_n 1, 1) := by decide +kernel
theorem dX1_fits_83 : decode cX1_fits 83 = .ok (.bipush 49, 2) := by decide +kernel
theorem dX1_fits_85 : decode cX1_fits 85 = .ok (.if_icmp .lt 13, 3) := by decide +kernel
theorem dX1_fits_88 : decode cX1_fits 88 = .ok (.iload_n 1, 1) := by decide +kernel
theorem dX1_fits_89 : decode cX1_fits 89 = .ok (.bipush 53, 2) := by decide +kernel
theorem dX1_fits_91 : decode cX1_fits 91 = .ok (.if_icmp .gt 7, 3) := by decide +kernel
theorem dX1_fits_94 : decode cX1_fits 94 = .ok (.iconst 1, 1) := by decide +kernel
theorem dX1_fits_95 : decode cX1_fits 95 = .ok (.goto 4, 3) := by decide +kernel
theorem dX1_fits_98 : decode cX1_fits 98 = .ok (.iconst 0, 1) := by decide +kernel
theorem dX1_fits_99 : decode cX1_fits 99 = .ok (.ireturn, 1) := by decide +kernel
theorem dX1_fits_100 : decode cX1_fits 100 = .ok (.iconst 0, 1) := by decide +kernel
theorem dX1_fits_101 : decode cX1_fits 101 = .ok (.ireturn, 1) := by decide +kernel
theorem dX2_init_0 : decode cX2_init 0 = .ok (.aload_n 0, 1) := by decide +kernel
theorem dX2_init_1 : decode cX2_init 1 = .ok (.invokespecial 3, 3) := by decide +kernel
theorem dX2_init_4 : decode cX2_init 4 = .ok (.aload_n 0, 1) := by decide +kernel
theorem dX2_init_5 : decode cX2_init 5 = .ok (.bipush 6, 2) := by decide +kernel
theorem dX2_init_7 : decode cX2_init 7 = .ok (.newarray .int, 2) := by decide +kernel
theorem dX2_init_9 : decode cX2_init 9 = .ok (.putfield 9, 3) := by decide +kernel
theorem dX2_init_12 : decode cX2_init 12 = .ok (.aload_n 0, 1) := by decide +kernel
theorem dX2_init_13 : decode cX2_init 13 = .ok (.bipush 6, 2) := by decide +kernel
theorem dX2_init_15 : decode cX2_init 15 = .ok (.newarray .int, 2) := by decide +kernel
theorem dX2_init_17 : decode cX2_init 17 = .ok (.putfield 15, 3) := by decide +kernel
theorem dX2_init_20 : decode cX2_init 20 = .ok (.aload_n 0, 1) := by decide +kernel
theorem dX2_init_21 : decode cX2_init 21 = .ok (.bipush 6, 2) := by decide +kernel
theorem dX2_init_23 : decode cX2_init 23 = .ok (.newarray .int, 2) := by decide +kernel
theorem dX2_init_25 : decode cX2_init 25 = .ok (.putfield 18, 3) := by decide +kernel
theorem dX2_init_28 : decode cX2_init 28 = .ok (.aload_n 0, 1) := by decide +kernel
theorem dX2_init_29 : decode cX2_init 29 = .ok (.bipush 6, 2) := by decide +kernel
theorem dX2_init_31 : decode cX2_init 31 = .ok (.newarray .int, 2) := by decide +kernel
theorem dX2_init_33 : decode cX2_init 33 = .ok (.putfield 21, 3) := by decide +kernel
theorem dX2_init_36 : decode cX2_init 36 = .ok (.aload_n 0, 1) := by decide +kernel
theorem dX2_init_37 : decode cX2_init 37 = .ok (.bipush 6, 2) := by decide +kernel
theorem dX2_init_39 : decode cX2_init 39 = .ok (.newarray .int, 2) := by decide +kernel
theorem dX2_init_41 : decode cX2_init 41 = .ok (.putfield 24, 3) := by decide +kernel
theorem dX2_init_44 : decode cX2_init 44 = .ok (.return_, 1) := by decide +kernel
theorem dX2_begin_0 : decode cX2_begin 0 = .ok (.iconst 0, 1) := by decide +kernel
theorem dX2_begin_1 : decode cX2_begin 1 = .ok (.istore_n 2, 1) := by decide +kernel
theorem dX2_begin_2 : decode cX2_begin 2 = .ok (.iload_n 2, 1) := by decide +kernel
theorem dX2_begin_3 : decode cX2_begin 3 = .ok (.bipush 6, 2) := by decide +kernel
theorem dX2_begin_5 : decode cX2_begin 5 = .ok (.if_icmp .ge 20, 3) := by decide +kernel
theorem dX2_begin_8 : decode cX2_begin 8 = .ok (.aload_n 0, 1) := by decide +kernel
theorem dX2_begin_9 : decode cX2_begin 9 = .ok (.getfield 9, 3) := by decide +kernel
theorem dX2_begin_12 : decode cX2_begin 12 = .ok (.iload_n 2, 1) := by decide +kernel
theorem dX2_begin_13 : decode cX2_begin 13 = .ok (.aload_n 1, 1) := by decide +kernel
theorem dX2_begin_14 : decode cX2_begin 14 = .ok (.iload_n 2, 1) := by decide +kernel
theorem dX2_begin_15 : decode cX2_begin 15 = .ok (.invokevirtual 27, 3) := by decide +kernel
theorem dX2_begin_18 : decode cX2_begin 18 = .ok (.iastore, 1) := by decide +kernel
theorem dX2_begin_19 : decode cX2_begin 19 = .ok (.iinc 2 1, 3) := by decide +kernel
theorem dX2_begin_22 : decode cX2_begin 22 = .ok (.goto (-20), 3) := by decide +kernel
theorem dX2_begin_25 : decode cX2_begin 25 = .ok (.aload_n 0, 1) := by decide +kernel
theorem dX2_begin_26 : decode cX2_begin 26 = .ok (.aload_n 1, 1) := by decide +kernel
theorem dX2_begin_27 : decode cX2_begin 27 = .ok (.bipush 7, 2) := by decide +kernel
theorem dX2_begin_29 : decode cX2_begin 29 = .ok (.invokevirtual 27, 3) := by decide +kernel
theorem dX2_begin_32 : decode cX2_begin 32 = .ok (.putfield 33, 3) := by decide +kernel
theorem dX2_begin_35 : decode cX2_begin 35 = .ok (.aload_n 0, 1) := by decide +kernel
theorem dX2_begin_36 : decode cX2_begin 36 = .ok (.aload_n 0, 1) := by decide +kernel
theorem dX2_begin_37 : decode cX2_begin 37 = .ok (.getfield 33, 3) := by decide +kernel
theorem dX2_begin_40 : decode cX2_begin 40 = .ok (.putfield 37, 3) := by decide +kernel
theorem dX2_begin_43 : decode cX2_begin 43 = .ok (.aload_n 0, 1) := by decide +kernel
theorem dX2_begin_44 : decode cX2_begin 44 = .ok (.aload_n 1, 1) := by decide +kernel
theorem dX2_begin_45 : decode cX2_begin 45 = .ok (.bipush 8, 2) := by decide +kernel
theorem dX2_begin_47 : decode cX2_begin 47 = .ok (.invokevirtual 27, 3) := by decide +kernel
theorem dX2_begin_50 : decode cX2_begin 50 = .ok (.putfield 40, 3) := by decide +kernel
theorem dX2_begin_53 : decode cX2_begin 53 = .ok (.aload_n 0, 1) := by decide +kernel
theorem dX2_begin_54 : decode cX2_begin 54 = .ok (.iconst 0, 1) := by decide +kernel
theorem dX2_begin_55 : decode cX2_begin 55 = .ok (.putfield 43, 3) := by decide +kernel
theorem dX2_begin_58 : decode cX2_begin 58 = .ok (.aload_n 0, 1) := by decide +kernel
theorem dX2_begin_59 : decode cX2_begin 59 = .ok (.iconst 0, 1) := by decide +kernel
theorem dX2_begin_60 : decode cX2_begin 60 = .ok (.putfield 46, 3) := by decide +kernel
theorem dX2_begin_63 : decode cX2_begin 63 = .ok (.aload_n 0, 1) := by decide +kernel
theorem dX2_begin_64 : decode cX2_begin 64 = .ok (.iconst 0, 1) := by decide +kernel
theorem dX2_begin_65 : decode cX2_begin 65 = .ok (.putfield 49, 3) := by decide +kernel
theorem dX2_begin_68 : decode cX2_begin 68 = .ok (.aload_n 0, 1) := by decide +kernel
theorem dX2_begin_69 : decode cX2_begin 69 = .ok (.iconst 0, 1) := by decide +kernel
theorem dX2_begin_70 : decode cX2_begin 70 = .ok (.putfield 52, 3) := by decide +kernel
theorem dX2_begin_73 : decode cX2_begin 73 = .ok (.aload_n 0, 1) := by decide +kernel
theorem dX2_begin_74 : decode cX2_begin 74 = .ok (.iconst 1, 1) := by decide +kernel
theorem dX2_begin_75 : decode cX2_begin 75 = .ok (.putfield 55, 3) := by decide +kernel
theorem dX2_begin_78 : decode cX2_begin 78 = .ok (.aload_n 0, 1) := by decide +kernel
theorem dX2_begin_79 : decode cX2_begin 79 = .ok (.iconst 1, 1) := by decide +kernel
theorem dX2_begin_80 : decode cX2_begin 80 = .ok (.putfield 58, 3) := by decide +kernel
theorem dX2_begin_83 : decode cX2_begin 83 = .ok (.aload_n 0, 1) := by decide +kernel
theorem dX2_begin_84 : decode cX2_begin 84 = .ok (.invokevirtual 61, 3) := by decide +kernel
theorem dX2_begin_87 : decode cX2_begin 87 = .ok (.pop, 1) := by decide +kernel
theorem dX2_begin_88 : decode cX2_begin 88 = .ok (.return_, 1) := by decide +kernel
theorem dX2_copy_0 : decode cX2_copy 0 = .ok (.aload_n 1, 1) := by decide +kernel
theorem dX2_copy_1 : decode cX2_copy 1 = .ok (.getfield 9, 3) := by decide +kernel
theorem dX2_copy_4 : decode cX2_copy 4 = .ok (.iconst 0, 1) := by decide +kernel
theorem dX2_copy_5 : decode cX2_copy 5 = .ok (.aload_n 0, 1) := by decide +kernel
theorem dX2_copy_6 : decode cX2_copy 6 = .ok (.getfield 9, 3) := by decide +kernel
theorem dX2_copy_9 : decode cX2_copy 9 = .ok (.iconst 0, 1) := by decide +kernel
theorem dX2_copy_10 : decode cX2_copy 10 = .ok (.bipush 6, 2) := by decide +kernel
theorem dX2_copy_12 : decode cX2_copy 12 = .ok (.invokestatic 65, 3) := by decide +kernel
theorem dX2_copy_15 : decode cX2_copy 15 = .ok (.aload_n 1, 1) := by decide +kernel
theorem dX2_copy_16 : decode cX2_copy 16 = .ok (.getfield 15, 3) := by decide +kernel
theorem dX2_copy_19 : decode cX2_copy 19 = .ok (.iconst 0, 1) := by decide +kernel
theorem dX2_copy_20 : decode cX2_copy 20 = .ok (.aload_n 0, 1) := by decide +kernel
theorem dX2_copy_21 : decode cX2_copy 21 = .ok (.getfield 15, 3) := by decide +kernel
theorem dX2_copy_24 : decode cX2_copy 24 = .ok (.iconst 0, 1) := by decide +kernel
theorem dX2_copy_25 : decode cX2_copy 25 = .ok (.bipush 6, 2) := by decide +kernel
theorem dX2_copy_27 : decode cX2_copy 27 = .ok (.invokestatic 65, 3) := by decide +kernel
theorem dX2_copy_30 : decode cX2_copy 30 = .ok (.aload_n 1, 1) := by decide +kernel
theorem dX2_copy_31 : decode cX2_copy 31 = .ok (.getfield 18, 3) := by decide +kernel
theorem dX2_copy_34 : decode cX2_copy 34 = .ok (.iconst 0, 1) := by decide +kernel
theorem dX2_copy_35 : decode cX2_copy 35 = .ok (.aload_n 0, 1) := by decide +kernel
theorem dX2_copy_36 : decode cX2_copy 36 = .ok (.getfield 18, 3) := by decide +kernel
theorem dX2_copy_39 : decode cX2_copy 39 = .ok (.iconst 0, 1) := by decide +kernel
theorem dX2_copy_40 : decode cX2_copy 40 = .ok (.bipush 6, 2) := by decide +kernel
theorem dX2_copy_42 : decode cX2_copy 42 = .ok (.invokestatic 65, 3) := by decide +kernel
theorem dX2_copy_45 : decode cX2_copy 45 = .ok (.aload_n 1, 1) := by decide +kernel
theorem dX2_copy_46 : decode cX2_copy 46 = .ok (.getfield 21, 3) := by decide +kernel
theorem dX2_copy_49 : decode cX2_copy 49 = .ok (.iconst 0, 1) := by decide +kernel
theorem dX2_copy_50 : decode cX2_copy 50 = .ok (.aload_n 0, 1) := by decide +kernel
theorem dX2_copy_51 : decode cX2_copy 51 = .ok (.getfield 21, 3) := by decide +kernel
theorem dX2_copy_54 : decode cX2_copy 54 = .ok (.iconst 0, 1) := by decide +kernel
theorem dX2_copy_55 : decode cX2_copy 55 = .ok (.bipush 6, 2) := by decide +kernel
theorem dX2_copy_57 : decode cX2_copy 57 = .ok (.invokestatic 65, 3) := by decide +kernel
theorem dX2_copy_60 : decode cX2_copy 60 = .ok (.aload_n 1, 1) := by decide +kernel
theorem dX2_copy_61 : decode cX2_copy 61 = .ok (.getfield 24, 3) := by decide +kernel
theorem dX2_copy_64 : decode cX2_copy 64 = .ok (.iconst 0, 1) := by decide +kernel
theorem dX2_copy_65 : decode cX2_copy 65 = .ok (.aload_n 0, 1) := by decide +kernel
theorem dX2_copy_66 : decode cX2_copy 66 = .ok (.getfield 24, 3) := by decide +kernel
theorem dX2_copy_69 : decode cX2_copy 69 = .ok (.iconst 0, 1) := by decide +kernel
theorem dX2_copy_70 : decode cX2_copy 70 = .ok (.bipush 6, 2) := by decide +kernel
theorem dX2_copy_72 : decode cX2_copy 72 = .ok (.invokestatic 65, 3) := by decide +kernel
theorem dX2_copy_75 : decode cX2_copy 75 = .ok (.aload_n 0, 1) := by decide +kernel
theorem dX2_copy_76 : decode cX2_copy 76 = .ok (.aload_n 1, 1) := by decide +kernel
theorem dX2_copy_77 : decode cX2_copy 77 = .ok (.getfield 43, 3) := by decide +kernel
theorem dX2_copy_80 : decode cX2_copy 80 = .ok (.putfield 43, 3) := by decide +kernel
theorem dX2_copy_83 : decode cX2_copy 83 = .ok (.aload_n 0, 1) := by decide +kernel
theorem dX2_copy_84 : decode cX2_copy 84 = .ok (.aload_n 1, 1) := by decide +kernel
theorem dX2_copy_85 : decode cX2_copy 85 = .ok (.getfield 46, 3) := by decide +kernel
theorem dX2_copy_88 : decode cX2_copy 88 = .ok (.putfield 46, 3) := by decide +kernel
theorem dX2_copy_91 : decode cX2_copy 91 = .ok (.aload_n 0, 1) := by decide +kernel
theorem dX2_copy_92 : decode cX2_copy 92 = .ok (.aload_n 1, 1) := by decide +kernel
theorem dX2_copy_93 : decode cX2_copy 93 = .ok (.getfield 49, 3) := by decide +kernel
theorem dX2_copy_96 : decode cX2_copy 96 = .ok (.putfield 49, 3) := by decide +kernel
theorem dX2_copy_99 : decode cX2_copy 99 = .ok (.aload_n 0, 1) := by decide +kernel
theorem dX2_copy_100 : decode cX2_copy 100 = .ok (.aload_n 1, 1) := by decide +kernel
theorem dX2_copy_101 : decode cX2_copy 101 = .ok (.getfield 33, 3) := by decide +kernel
theorem dX2_copy_104 : decode cX2_copy 104 = .ok (.putfield 33, 3) := by decide +kernel
theorem dX2_copy_107 : decode cX2_copy 107 = .ok (.aload_n 0, 1) := by decide +kernel
theorem dX2_copy_108 : decode cX2_copy 108 = .ok (.aload_n 1, 1) := by decide +kernel
theorem dX2_copy_109 : decode cX2_copy 109 = .ok (.getfield 37, 3) := by decide +kernel
theorem dX2_copy_112 : decode cX2_copy 112 = .ok (.putfield 37, 3) := by decide +kernel
theorem dX2_copy_115 : decode cX2_copy 115 = .ok (.aload_n 0, 1) := by decide +kernel
theorem dX2_copy_116 : decode cX2_copy 116 = .ok (.aload_n 1, 1) := by decide +kernel
theorem dX2_copy_117 : decode cX2_copy 117 = .ok (.getfield 40, 3) := by decide +kernel
theorem dX2_copy_120 : decode cX2_copy 120 = .ok (.putfield 40, 3) := by decide +kernel
theorem dX2_copy_123 : decode cX2_copy 123 = .ok (.aload_n 0, 1) := by decide +kernel
theorem dX2_copy_124 : decode cX2_copy 124 = .ok (.aload_n 1, 1) := by decide +kernel
theorem dX2_copy_125 : decode cX2_copy 125 = .ok (.getfield 52, 3) := by decide +kernel
theorem dX2_copy_128 : decode cX2_copy 128 = .ok (.putfield 52, 3) := by decide +kernel
theorem dX2_copy_131 : decode cX2_copy 131 = .ok (.aload_n 0, 1) := by decide +kernel
theorem dX2_copy_132 : decode cX2_copy 132 = .ok (.aload_n 1, 1) := by decide +kernel
theorem dX2_copy_133 : decode cX2_copy 133 = .ok (.getfield 55, 3) := by decide +kernel
theorem dX2_copy_136 : decode cX2_copy 136 = .ok (.putfield 55, 3) := by decide +kernel
theorem dX2_copy_139 : decode cX2_copy 139 = .ok (.aload_n 0, 1) := by decide +kernel
theorem dX2_copy_140 : decode cX2_copy 140 = .ok (.aload_n 1, 1) := by decide +kernel
theorem dX2_copy_141 : decode cX2_copy 141 = .ok (.getfield 58, 3) := by decide +kernel
theorem dX2_copy_144 : decode cX2_copy 144 = .ok (.putfield 58, 3) := by decide +kernel
theorem dX2_copy_147 : decode cX2_copy 147 = .ok (.aload_n 0, 1) := by decide +kernel
theorem dX2_copy_148 : decode cX2_copy 148 = .ok (.aload_n 1, 1) := by decide +kernel
theorem dX2_copy_149 : decode cX2_copy 149 = .ok (.getfield 71, 3) := by decide +kernel
theorem dX2_copy_152 : decode cX2_copy 152 = .ok (.putfield 71, 3) := by decide +kernel
theorem dX2_copy_155 : decode cX2_copy 155 = .ok (.aload_n 0, 1) := by decide +kernel
theorem dX2_copy_156 : decode cX2_copy 156 = .ok (.aload_n 1, 1) := by decide +kernel
theorem dX2_copy_157 : decode cX2_copy 157 = .ok (.getfield 74, 3) := by decide +kernel
theorem dX2_copy_160 : decode cX2_copy 160 = .ok (.putfield 74, 3) := by decide +kernel
theorem dX2_copy_163 : decode cX2_copy 163 = .ok (.aload_n 0, 1) := by decide +kernel
theorem dX2_copy_164 : decode cX2_copy 164 = .ok (.aload_n 1, 1) := by decide +kernel
theorem dX2_copy_165 : decode cX2_copy 165 = .ok (.getfield 77, 3) := by decide +kernel
theorem dX2_copy_168 : decode cX2_copy 168 = .ok (.putfield 77, 3) := by decide +kernel
theorem dX2_copy_171 : decode cX2_copy 171 = .ok (.return_, 1) := by decide +kernel
theorem dX2_noiseInAll_0 : decode cX2_noiseInAll 0 = .ok (.iconst 0, 1) := by decide +kernel
theorem dX2_noiseInAll_1 : decode cX2_noiseInAll 1 = .ok (.istore_n 1, 1) := by decide +kernel
theorem dX2_noiseInAll_2 : decode cX2_noiseInAll 2 = .ok (.iconst 0, 1) := by decide +kernel
theorem dX2_noiseInAll_3 : decode cX2_noiseInAll 3 = .ok (.istore_n 2, 1) := by decide +kernel
theorem dX2_noiseInAll_4 : decode cX2_noiseInAll 4 = .ok (.iload_n 2, 1) := by decide +kernel
theorem dX2_noiseInAll_5 : decode cX2_noiseInAll 5 = .ok (.bipush 6, 2) := by decide +kernel
theorem dX2_noiseInAll_7 : decode cX2_noiseInAll 7 = .ok (.if_icmp .ge 18, 3) := by decide +kernel
theorem dX2_noiseInAll_10 : decode cX2_noiseInAll 10 = .ok (.iload_n 1, 1) := by decide +kernel
theorem dX2_noiseInAll_11 : decode cX2_noiseInAll 11 = .ok (.aload_n 0, 1) := by decide +kernel
theorem dX2_noiseInAll_12 : decode cX2_noiseInAll 12 = .ok (.getfield 9, 3) := by decide +kernel
theorem dX2_noiseInAll_15 : decode cX2_noiseInAll 15 = .ok (.iload_n 2, 1) := by decide +kernel
theorem dX2_noiseInAll_16 : decode cX2_noiseInAll 16 = .ok (.iaload, 1) := by decide +kernel
theorem dX2_noiseInAll_17 : decode cX2_noiseInAll 17 = .ok (.iadd, 1) := by decide +kernel
theorem dX2_noiseInAll_18 : decode cX2_noiseInAll 18 = .ok (.istore_n 1, 1) := by decide +kernel
theorem dX2_noiseInAll_19 : decode cX2_noiseInAll 19 = .ok (.iinc 2 1, 3) := by decide +kernel
theorem dX2_noiseInAll_22 : decode cX2_noiseInAll 22 = .ok (.goto (-18), 3) := by decide +kernel
theorem dX2_noiseInAll_25 : decode cX2_noiseInAll 25 = .ok (.iload_n 1, 1) := by decide +kernel
theorem dX2_noiseInAll_26 : decode cX2_noiseInAll 26 = .ok (.ireturn, 1) := by decide +kernel
theorem dX2_settle_0 : decode cX2_settle 0 = .ok (.aload_n 0, 1) := by decide +kernel
theorem dX2_settle_1 : decode cX2_settle 1 = .ok (.getfield 43, 3) := by decide +kernel
theorem dX2_settle_4 : decode cX2_settle 4 = .ok (.istore_n 3, 1) := by decide +kernel
theorem dX2_settle_5 : decode cX2_settle 5 = .ok (.iload_n 3, 1) := by decide +kernel
theorem dX2_settle_6 : decode cX2_settle 6 = .ok (.bipush 6, 2) := by decide +kernel
theorem dX2_settle_8 : decode cX2_settle 8 = .ok (.if_icmp .lt 6, 3) := by decide +kernel
theorem dX2_settle_11 : decode cX2_settle 11 = .ok (.bipush (-104), 2) := by decide +kernel
theorem dX2_settle_13 : decode cX2_settle 13 = .ok (.ireturn, 1) := by decide +kernel
theorem dX2_settle_14 : decode cX2_settle 14 = .ok (.aload_n 0, 1) := by decide +kernel
theorem dX2_settle_15 : decode cX2_settle 15 = .ok (.getfield 15, 3) := by decide +kernel
theorem dX2_settle_18 : decode cX2_settle 18 = .ok (.iload_n 3, 1) := by decide +kernel
theorem dX2_settle_19 : decode cX2_settle 19 = .ok (.iload_n 1, 1) := by decide +kernel
theorem dX2_settle_20 : decode cX2_settle 20 = .ok (.iastore, 1) := by decide +kernel
theorem dX2_settle_21 : decode cX2_settle 21 = .ok (.aload_n 0, 1) := by decide +kernel
theorem dX2_settle_22 : decode cX2_settle 22 = .ok (.getfield 18, 3) := by decide +kernel
theorem dX2_settle_25 : decode cX2_settle 25 = .ok (.iload_n 3, 1) := by decide +kernel
theorem dX2_settle_26 : decode cX2_settle 26 = .ok (.iload_n 1, 1) := by decide +kernel
theorem dX2_settle_27 : decode cX2_settle 27 = .ok (.invokestatic 80, 3) := by decide +kernel
theorem dX2_settle_30 : decode cX2_settle 30 = .ok (.iastore, 1) := by decide +kernel
theorem dX2_settle_31 : decode cX2_settle 31 = .ok (.aload_n 0, 1) := by decide +kernel
theorem dX2_settle_32 : decode cX2_settle 32 = .ok (.getfield 21, 3) := by decide +kernel
theorem dX2_settle_35 : decode cX2_settle 35 = .ok (.iload_n 3, 1) := by decide +kernel
theorem dX2_settle_36 : decode cX2_settle 36 = .ok (.iload_n 1, 1) := by decide +kernel
theorem dX2_settle_37 : decode cX2_settle 37 = .ok (.invokestatic 83, 3) := by decide +kernel
theorem dX2_settle_40 : decode cX2_settle 40 = .ok (.iastore, 1) := by decide +kernel
theorem dX2_settle_41 : decode cX2_settle 41 = .ok (.aload_n 0, 1) := by decide +kernel
theorem dX2_settle_42 : decode cX2_settle 42 = .ok (.getfield 24, 3) := by decide +kernel
theorem dX2_settle_45 : decode cX2_settle 45 = .ok (.iload_n 3, 1) := by decide +kernel
theorem dX2_settle_46 : decode cX2_settle 46 = .ok (.iload_n 2, 1) := by decide +kernel
theorem dX2_settle_47 : decode cX2_settle 47 = .ok (.iastore, 1) := by decide +kernel
theorem dX2_settle_48 : decode cX2_settle 48 = .ok (.iload_n 1, 1) := by decide +kernel
theorem dX2_settle_49 : decode cX2_settle 49 = .ok (.iconst 2, 1) := by decide +kernel
theorem dX2_settle_50 : decode cX2_settle 50 = .ok (.if_icmp .ne 15, 3) := by decide +kernel
theorem dX2_settle_53 : decode cX2_settle 53 = .ok (.aload_n 0, 1) := by decide +kernel
theorem dX2_settle_54 : decode cX2_settle 54 = .ok (.dup, 1) := by decide +kernel
theorem dX2_settle_55 : decode cX2_settle 55 = .ok (.getfield 46, 3) := by decide +kernel
theorem dX2_settle_58 : decode cX2_settle 58 = .ok (.iconst 1, 1) := by decide +kernel
theorem dX2_settle_59 : decode cX2_settle 59 = .ok (.iload_n 3, 1) := by decide +kernel
theorem dX2_settle_60 : decode cX2_settle 60 = .ok (.ishl, 1) := by decide +kernel
theorem dX2_settle_61 : decode cX2_settle 61 = .ok (.ior, 1) := by decide +kernel
theorem dX2_settle_62 : decode cX2_settle 62 = .ok (.putfield 46, 3) := by decide +kernel
theorem dX2_settle_65 : decode cX2_settle 65 = .ok (.aload_n 0, 1) := by decide +kernel
theorem dX2_settle_66 : decode cX2_settle 66 = .ok (.dup, 1) := by decide +kernel
theorem dX2_settle_67 : decode cX2_settle 67 = .ok (.getfield 43, 3) := by decide +kernel
theorem dX2_settle_70 : decode cX2_settle 70 = .ok (.iconst 1, 1) := by decide +kernel
theorem dX2_settle_71 : decode cX2_settle 71 = .ok (.iadd, 1) := by decide +kernel
theorem dX2_settle_72 : decode cX2_settle 72 = .ok (.putfield 43, 3) := by decide +kernel
theorem dX2_settle_75 : decode cX2_settle 75 = .ok (.iload_n 3, 1) := by decide +kernel
theorem dX2_settle_76 : decode cX2_settle 76 = .ok (.ireturn, 1) := by decide +kernel
theorem dX2_everyone_0 : decode cX2_everyone 0 = .ok (.iconst 1, 1) := by decide +kernel
theorem dX2_everyone_1 : decode cX2_everyone 1 = .ok (.aload_n 0, 1) := by decide +kernel
theorem dX2_everyone_2 : decode cX2_everyone 2 = .ok (.getfield 43, 3) := by decide +kernel
theorem dX2_everyone_5 : decode cX2_everyone 5 = .ok (.ishl, 1) := by decide +kernel
theorem dX2_everyone_6 : decode cX2_everyone 6 = .ok (.iconst 1, 1) := by decide +kernel
theorem dX2_everyone_7 : decode cX2_everyone 7 = .ok (.isub, 1) := by decide +kernel
theorem dX2_everyone_8 : decode cX2_everyone 8 = .ok (.ireturn, 1) := by decide +kernel
theorem dX2_proclaim_0 : decode cX2_proclaim 0 = .ok (.aload_n 0, 1) := by decide +kernel
theorem dX2_proclaim_1 : decode cX2_proclaim 1 = .ok (.aload_n 0, 1) := by decide +kernel
theorem dX2_proclaim_2 : decode cX2_proclaim 2 = .ok (.getfield 49, 3) := by decide +kernel
theorem dX2_proclaim_5 : decode cX2_proclaim 5 = .ok (.iload_n 1, 1) := by decide +kernel
theorem dX2_proclaim_6 : decode cX2_proclaim 6 = .ok (.iload_n 2, 1) := by decide +kernel
theorem dX2_proclaim_7 : decode cX2_proclaim 7 = .ok (.iconst 0, 1) := by decide +kernel
theorem dX2_proclaim_8 : decode cX2_proclaim 8 = .ok (.invokevirtual 86, 3) := by decide +kernel
theorem dX2_proclaim_11 : decode cX2_proclaim 11 = .ok (.istore_n 3, 1) := by decide +kernel
theorem dX2_proclaim_12 : decode cX2_proclaim 12 = .ok (.aload_n 0, 1) := by decide +kernel
theorem dX2_proclaim_13 : decode cX2_proclaim 13 = .ok (.iload_n 3, 1) := by decide +kernel
theorem dX2_proclaim_14 : decode cX2_proclaim 14 = .ok (.aload_n 0, 1) := by decide +kernel
theorem dX2_proclaim_15 : decode cX2_proclaim 15 = .ok (.getfield 49, 3) := by decide +kernel
theorem dX2_proclaim_18 : decode cX2_proclaim 18 = .ok (.iconst (-1), 1) := by decide +kernel
theorem dX2_proclaim_19 : decode cX2_proclaim 19 = .ok (.ixor, 1) := by decide +kernel
theorem dX2_proclaim_20 : decode cX2_proclaim 20 = .ok (.iand, 1) := by decide +kernel
theorem dX2_proclaim_21 : decode cX2_proclaim 21 = .ok (.invokevirtual 90, 3) := by decide +kernel
theorem dX2_proclaim_24 : decode cX2_proclaim 24 = .ok (.istore 4, 2) := by decide +kernel
theorem dX2_proclaim_26 : decode cX2_proclaim 26 = .ok (.aload_n 0, 1) := by decide +kernel
theorem dX2_proclaim_27 : decode cX2_proclaim 27 = .ok (.iload_n 3, 1) := by decide +kernel
theorem dX2_proclaim_28 : decode cX2_proclaim 28 = .ok (.putfield 49, 3) := by decide +kernel
theorem dX2_proclaim_31 : decode cX2_proclaim 31 = .ok (.aload_n 0, 1) := by decide +kernel
theorem dX2_proclaim_32 : decode cX2_proclaim 32 = .ok (.dup, 1) := by decide +kernel
theorem dX2_proclaim_33 : decode cX2_proclaim 33 = .ok (.getfield 37, 3) := by decide +kernel
theorem dX2_proclaim_36 : decode cX2_proclaim 36 = .ok (.iconst 1, 1) := by decide +kernel
theorem dX2_proclaim_37 : decode cX2_proclaim 37 = .ok (.isub, 1) := by decide +kernel
theorem dX2_proclaim_38 : decode cX2_proclaim 38 = .ok (.putfield 37, 3) := by decide +kernel
theorem dX2_proclaim_41 : decode cX2_proclaim 41 = .ok (.aload_n 0, 1) := by decide +kernel
theorem dX2_proclaim_42 : decode cX2_proclaim 42 = .ok (.dup, 1) := by decide +kernel
theorem dX2_proclaim_43 : decode cX2_proclaim 43 = .ok (.getfield 52, 3) := by decide +kernel
theorem dX2_proclaim_46 : decode cX2_proclaim 46 = .ok (.iconst 1, 1) := by decide +kernel
theorem dX2_proclaim_47 : decode cX2_proclaim 47 = .ok (.iadd, 1) := by decide +kernel
theorem dX2_proclaim_48 : decode cX2_proclaim 48 = .ok (.putfield 52, 3) := by decide +kernel
theorem dX2_proclaim_51 : decode cX2_proclaim 51 = .ok (.iload 4, 2) := by decide +kernel
theorem dX2_proclaim_53 : decode cX2_proclaim 53 = .ok (.invokestatic 93, 3) := by decide +kernel
theorem dX2_proclaim_56 : decode cX2_proclaim 56 = .ok (.ireturn, 1) := by decide +kernel
theorem dX2_sweeten_0 : decode cX2_sweeten 0 = .ok (.aload_n 0, 1) := by decide +kernel
theorem dX2_sweeten_1 : decode cX2_sweeten 1 = .ok (.bipush 9, 2) := by decide +kernel
theorem dX2_sweeten_3 : decode cX2_sweeten 3 = .ok (.aload_n 0, 1) := by decide +kernel
theorem dX2_sweeten_4 : decode cX2_sweeten 4 = .ok (.getfield 37, 3) := by decide +kernel
theorem dX2_sweeten_7 : decode cX2_sweeten 7 = .ok (.iconst 2, 1) := by decide +kernel
theorem dX2_sweeten_8 : decode cX2_sweeten 8 = .ok (.iadd, 1) := by decide +kernel
theorem dX2_sweeten_9 : decode cX2_sweeten 9 = .ok (.invokestatic 98, 3) := by decide +kernel
theorem dX2_sweeten_12 : decode cX2_sweeten 12 = .ok (.putfield 37, 3) := by decide +kernel
theorem dX2_sweeten_15 : decode cX2_sweeten 15 = .ok (.aload_n 0, 1) := by decide +kernel
theorem dX2_sweeten_16 : decode cX2_sweeten 16 = .ok (.getfield 37, 3) := by decide +kernel
theorem dX2_sweeten_19 : decode cX2_sweeten 19 = .ok (.ireturn, 1) := by decide +kernel
theorem dX2_sleep_0 : decode cX2_sleep 0 = .ok (.aload_n 0, 1) := by decide +kernel
theorem dX2_sleep_1 : decode cX2_sleep 1 = .ok (.dup, 1) := by decide +kernel
theorem dX2_sleep_2 : decode cX2_sleep 2 = .ok (.getfield 58, 3) := by decide +kernel
theorem dX2_sleep_5 : decode cX2_sleep 5 = .ok (.iconst 1, 1) := by decide +kernel
theorem dX2_sleep_6 : decode cX2_sleep 6 = .ok (.iadd, 1) := by decide +kernel
theorem dX2_sleep_7 : decode cX2_sleep 7 = .ok (.putfield 58, 3) := by decide +kernel
theorem dX2_sleep_10 : decode cX2_sleep 10 = .ok (.aload_n 0, 1) := by decide +kernel
theorem dX2_sleep_11 : decode cX2_sleep 11 = .ok (.aload_n 0, 1) := by decide +kernel
theorem dX2_sleep_12 : decode cX2_sleep 12 = .ok (.getfield 33, 3) := by decide +kernel
theorem dX2_sleep_15 : decode cX2_sleep 15 = .ok (.putfield 37, 3) := by decide +kernel
theorem dX2_sleep_18 : decode cX2_sleep 18 = .ok (.aload_n 0, 1) := by decide +kernel
theorem dX2_sleep_19 : decode cX2_sleep 19 = .ok (.getfield 37, 3) := by decide +kernel
theorem dX2_sleep_22 : decode cX2_sleep 22 = .ok (.ireturn, 1) := by decide +kernel
theorem dX2_renew_0 : decode cX2_renew 0 = .ok (.aload_n 0, 1) := by decide +kernel
theorem dX2_renew_1 : decode cX2_renew 1 = .ok (.getfield 52, 3) := by decide +kernel
theorem dX2_renew_4 : decode cX2_renew 4 = .ok (.aload_n 0, 1) := by decide +kernel
theorem dX2_renew_5 : decode cX2_renew 5 = .ok (.getfield 40, 3) := by decide +kernel
theorem dX2_renew_8 : decode cX2_renew 8 = .ok (.if_icmp .lt 7, 3) := by decide +kernel
theorem dX2_renew_11 : decode cX2_renew 11 = .ok (.iconst 1, 1) := by decide +kernel
theorem dX2_renew_12 : decode cX2_renew 12 = .ok (.goto 4, 3) := by decide +kernel
theorem dX2_renew_15 : decode cX2_renew 15 = .ok (.iconst 0, 1) := by decide +kernel
theorem dX2_renew_16 : decode cX2_renew 16 = .ok (.istore_n 1, 1) := by decide +kernel
theorem dX2_renew_17 : decode cX2_renew 17 = .ok (.aload_n 0, 1) := by decide +kernel
theorem dX2_renew_18 : decode cX2_renew 18 = .ok (.iconst 0, 1) := by decide +kernel
theorem dX2_renew_19 : decode cX2_renew 19 = .ok (.putfield 49, 3) := by decide +kernel
theorem dX2_renew_22 : decode cX2_renew 22 = .ok (.aload_n 0, 1) := by decide +kernel
theorem dX2_renew_23 : decode cX2_renew 23 = .ok (.iconst 0, 1) := by decide +kernel
theorem dX2_renew_24 : decode cX2_renew 24 = .ok (.putfield 52, 3) := by decide +kernel
theorem dX2_renew_27 : decode cX2_renew 27 = .ok (.aload_n 0, 1) := by decide +kernel
theorem dX2_renew_28 : decode cX2_renew 28 = .ok (.dup, 1) := by decide +kernel
theorem dX2_renew_29 : decode cX2_renew 29 = .ok (.getfield 55, 3) := by decide +kernel
theorem dX2_renew_32 : decode cX2_renew 32 = .ok (.iconst 1, 1) := by decide +kernel
theorem dX2_renew_33 : decode cX2_renew 33 = .ok (.iadd, 1) := by decide +kernel
theorem dX2_renew_34 : decode cX2_renew 34 = .ok (.putfield 55, 3) := by decide +kernel
theorem dX2_renew_37 : decode cX2_renew 37 = .ok (.iload_n 1, 1) := by decide +kernel
theorem dX2_renew_38 : decode cX2_renew 38 = .ok (.ireturn, 1) := by decide +kernel
theorem dX2_note_0 : decode cX2_note 0 = .ok (.iload_n 2, 1) := by decide +kernel
theorem dX2_note_1 : decode cX2_note 1 = .ok (.ifCond .eq 18, 3) := by decide +kernel
theorem dX2_note_4 : decode cX2_note 4 = .ok (.aload_n 0, 1) := by decide +kernel
theorem dX2_note_5 : decode cX2_note 5 = .ok (.dup, 1) := by decide +kernel
theorem dX2_note_6 : decode cX2_note 6 = .ok (.getfield 74, 3) := by decide +kernel
theorem dX2_note_9 : decode cX2_note 9 = .ok (.iconst 1, 1) := by decide +kernel
theorem dX2_note_10 : decode cX2_note 10 = .ok (.iload_n 1, 1) := by decide +kernel
theorem dX2_note_11 : decode cX2_note 11 = .ok (.ishl, 1) := by decide +kernel
theorem dX2_note_12 : decode cX2_note 12 = .ok (.ior, 1) := by decide +kernel
theorem dX2_note_13 : decode cX2_note 13 = .ok (.putfield 74, 3) := by decide +kernel
theorem dX2_note_16 : decode cX2_note 16 = .ok (.goto 15, 3) := by decide +kernel
theorem dX2_note_19 : decode cX2_note 19 = .ok (.aload_n 0, 1) := by decide +kernel
theorem dX2_note_20 : decode cX2_note 20 = .ok (.dup, 1) := by decide +kernel
theorem dX2_note_21 : decode cX2_note 21 = .ok (.getfield 77, 3) := by decide +kernel
theorem dX2_note_24 : decode cX2_note 24 = .ok (.iconst 1, 1) := by decide +kernel
theorem dX2_note_25 : decode cX2_note 25 = .ok (.iload_n 1, 1) := by decide +kernel
theorem dX2_note_26 : decode cX2_note 26 = .ok (.ishl, 1) := by decide +kernel
theorem dX2_note_27 : decode cX2_note 27 = .ok (.ior, 1) := by decide +kernel
theorem dX2_note_28 : decode cX2_note 28 = .ok (.putfield 77, 3) := by decide +kernel
theorem dX2_note_31 : decode cX2_note 31 = .ok (.aload_n 0, 1) := by decide +kernel
theorem dX2_note_32 : decode cX2_note 32 = .ok (.dup, 1) := by decide +kernel
theorem dX2_note_33 : decode cX2_note 33 = .ok (.getfield 71, 3) := by decide +kernel
theorem dX2_note_36 : decode cX2_note 36 = .ok (.iconst 1, 1) := by decide +kernel
theorem dX2_note_37 : decode cX2_note 37 = .ok (.iadd, 1) := by decide +kernel
theorem dX2_note_38 : decode cX2_note 38 = .ok (.putfield 71, 3) := by decide +kernel
theorem dX2_note_41 : decode cX2_note 41 = .ok (.aload_n 0, 1) := by decide +kernel
theorem dX2_note_42 : decode cX2_note 42 = .ok (.getfield 71, 3) := by decide +kernel
theorem dX2_note_45 : decode cX2_note 45 = .ok (.ireturn, 1) := by decide +kernel
theorem dX2_dropTold_0 : decode cX2_dropTold 0 = .ok (.aload_n 0, 1) := by decide +kernel
theorem dX2_dropTold_1 : decode cX2_dropTold 1 = .ok (.getfield 71, 3) := by decide +kernel
theorem dX2_dropTold_4 : decode cX2_dropTold 4 = .ok (.istore_n 1, 1) := by decide +kernel
theorem dX2_dropTold_5 : decode cX2_dropTold 5 = .ok (.aload_n 0, 1) := by decide +kernel
theorem dX2_dropTold_6 : decode cX2_dropTold 6 = .ok (.iconst 0, 1) := by decide +kernel
theorem dX2_dropTold_7 : decode cX2_dropTold 7 = .ok (.putfield 71, 3) := by decide +kernel
theorem dX2_dropTold_10 : decode cX2_dropTold 10 = .ok (.aload_n 0, 1) := by decide +kernel
theorem dX2_dropTold_11 : decode cX2_dropTold 11 = .ok (.iconst 0, 1) := by decide +kernel
theorem dX2_dropTold_12 : decode cX2_dropTold 12 = .ok (.putfield 74, 3) := by decide +kernel
theorem dX2_dropTold_15 : decode cX2_dropTold 15 = .ok (.aload_n 0, 1) := by decide +kernel
theorem dX2_dropTold_16 : decode cX2_dropTold 16 = .ok (.iconst 0, 1) := by decide +kernel
theorem dX2_dropTold_17 : decode cX2_dropTold 17 = .ok (.putfield 77, 3) := by decide +kernel
theorem dX2_dropTold_20 : decode cX2_dropTold 20 = .ok (.iload_n 1, 1) := by decide +kernel
theorem dX2_dropTold_21 : decode cX2_dropTold 21 = .ok (.ireturn, 1) := by decide +kernel
theorem dX2_isAsTold_0 : decode cX2_isAsTold 0 = .ok (.aload_n 0, 1) := by decide +kernel
theorem dX2_isAsTold_1 : decode cX2_isAsTold 1 = .ok (.getfield 74, 3) := by decide +kernel
theorem dX2_isAsTold_4 : decode cX2_isAsTold 4 = .ok (.iload_n 1, 1) := by decide +kernel
theorem dX2_isAsTold_5 : decode cX2_isAsTold 5 = .ok (.iconst (-1), 1) := by decide +kernel
theorem dX2_isAsTold_6 : decode cX2_isAsTold 6 = .ok (.ixor, 1) := by decide +kernel
theorem dX2_isAsTold_7 : decode cX2_isAsTold 7 = .ok (.iand, 1) := by decide +kernel
theorem dX2_isAsTold_8 : decode cX2_isAsTold 8 = .ok (.ifCond .ne 16, 3) := by decide +kernel
theorem dX2_isAsTold_11 : decode cX2_isAsTold 11 = .ok (.aload_n 0, 1) := by decide +kernel
theorem dX2_isAsTold_12 : decode cX2_isAsTold 12 = .ok (.getfield 77, 3) := by decide +kernel
theorem dX2_isAsTold_15 : decode cX2_isAsTold 15 = .ok (.iload_n 1, 1) := by decide +kernel
theorem dX2_isAsTold_16 : decode cX2_isAsTold 16 = .ok (.iand, 1) := by decide +kernel
theorem dX2_isAsTold_17 : decode cX2_isAsTold 17 = .ok (.ifCond .ne 7, 3) := by decide +kernel
theorem dX2_isAsTold_20 : decode cX2_isAsTold 20 = .ok (.iconst 1, 1) := by decide +kernel
theorem dX2_isAsTold_21 : decode cX2_isAsTold 21 = .ok (.goto 4, 3) := by decide +kernel
theorem dX2_isAsTold_24 : decode cX2_isAsTold 24 = .ok (.iconst 0, 1) := by decide +kernel
theorem dX2_isAsTold_25 : decode cX2_isAsTold 25 = .ok (.ireturn, 1) := by decide +kernel
theorem dX2_knowing_0 : decode cX2_knowing 0 = .ok (.iload_n 1, 1) := by decide +kernel
theorem dX2_knowing_1 : decode cX2_knowing 1 = .ok (.aload_n 0, 1) := by decide +kernel
theorem dX2_knowing_2 : decode cX2_knowing 2 = .ok (.getfield 46, 3) := by decide +kernel
theorem dX2_knowing_5 : decode cX2_knowing 5 = .ok (.iconst (-1), 1) := by decide +kernel
theorem dX2_knowing_6 : decode cX2_knowing 6 = .ok (.ixor, 1) := by decide +kernel
theorem dX2_knowing_7 : decode cX2_knowing 7 = .ok (.iand, 1) := by decide +kernel
theorem dX2_knowing_8 : decode cX2_knowing 8 = .ok (.ireturn, 1) := by decide +kernel
theorem dX2_spread_0 : decode cX2_spread 0 = .ok (.iload_n 1, 1) := by decide +kernel
theorem dX2_spread_1 : decode cX2_spread 1 = .ok (.aload_n 0, 1) := by decide +kernel
theorem dX2_spread_2 : decode cX2_spread 2 = .ok (.iload_n 2, 1) := by decide +kernel
theorem dX2_spread_3 : decode cX2_spread 3 = .ok (.iload_n 3, 1) := by decide +kernel
theorem dX2_spread_4 : decode cX2_spread 4 = .ok (.invokevirtual 104, 3) := by decide +kernel
theorem dX2_spread_7 : decode cX2_spread 7 = .ok (.iload 4, 2) := by decide +kernel
theorem dX2_spread_9 : decode cX2_spread 9 = .ok (.iconst (-1), 1) := by decide +kernel
theorem dX2_spread_10 : decode cX2_spread 10 = .ok (.ixor, 1) := by decide +kernel
theorem dX2_spread_11 : decode cX2_spread 11 = .ok (.iand, 1) := by decide +kernel
theorem dX2_spread_12 : decode cX2_spread 12 = .ok (.ior, 1) := by decide +kernel
theorem dX2_spread_13 : decode cX2_spread 13 = .ok (.istore 5, 2) := by decide +kernel
theorem dX2_spread_15 : decode cX2_spread 15 = .ok (.iload 5, 2) := by decide +kernel
theorem dX2_spread_17 : decode cX2_spread 17 = .ok (.iload_n 1, 1) := by decide +kernel
theorem dX2_spread_18 : decode cX2_spread 18 = .ok (.iconst (-1), 1) := by decide +kernel
theorem dX2_spread_19 : decode cX2_spread 19 = .ok (.ixor, 1) := by decide +kernel
theorem dX2_spread_20 : decode cX2_spread 20 = .ok (.iand, 1) := by decide +kernel
theorem dX2_spread_21 : decode cX2_spread 21 = .ok (.istore 6, 2) := by decide +kernel
theorem dX2_spread_23 : decode cX2_spread 23 = .ok (.iconst 0, 1) := by decide +kernel
theorem dX2_spread_24 : decode cX2_spread 24 = .ok (.istore 7, 2) := by decide +kernel
theorem dX2_spread_26 : decode cX2_spread 26 = .ok (.iload 7, 2) := by decide +kernel
theorem dX2_spread_28 : decode cX2_spread 28 = .ok (.aload_n 0, 1) := by decide +kernel
theorem dX2_spread_29 : decode cX2_spread 29 = .ok (.getfield 43, 3) := by decide +kernel
theorem dX2_spread_32 : decode cX2_spread 32 = .ok (.if_icmp .ge 43, 3) := by decide +kernel
theorem dX2_spread_35 : decode cX2_spread 35 = .ok (.iload 6, 2) := by decide +kernel
theorem dX2_spread_37 : decode cX2_spread 37 = .ok (.ifCond .eq 38, 3) := by decide +kernel
theorem dX2_spread_40 : decode cX2_spread 40 = .ok (.aload_n 0, 1) := by decide +kernel
theorem dX2_spread_41 : decode cX2_spread 41 = .ok (.iload 6, 2) := by decide +kernel
theorem dX2_spread_43 : decode cX2_spread 43 = .ok (.invokevirtual 107, 3) := by decide +kernel
theorem dX2_spread_46 : decode cX2_spread 46 = .ok (.iload 4, 2) := by decide +kernel
theorem dX2_spread_48 : decode cX2_spread 48 = .ok (.iconst (-1), 1) := by decide +kernel
theorem dX2_spread_49 : decode cX2_spread 49 = .ok (.ixor, 1) := by decide +kernel
theorem dX2_spread_50 : decode cX2_spread 50 = .ok (.iand, 1) := by decide +kernel
theorem dX2_spread_51 : decode cX2_spread 51 = .ok (.istore 8, 2) := by decide +kernel
theorem dX2_spread_53 : decode cX2_spread 53 = .ok (.iload 8, 2) := by decide +kernel
theorem dX2_spread_55 : decode cX2_spread 55 = .ok (.iload 5, 2) := by decide +kernel
theorem dX2_spread_57 : decode cX2_spread 57 = .ok (.iconst (-1), 1) := by decide +kernel
theorem dX2_spread_58 : decode cX2_spread 58 = .ok (.ixor, 1) := by decide +kernel
theorem dX2_spread_59 : decode cX2_spread 59 = .ok (.iand, 1) := by decide +kernel
theorem dX2_spread_60 : decode cX2_spread 60 = .ok (.istore 6, 2) := by decide +kernel
theorem dX2_spread_62 : decode cX2_spread 62 = .ok (.iload 5, 2) := by decide +kernel
theorem dX2_spread_64 : decode cX2_spread 64 = .ok (.iload 8, 2) := by decide +kernel
theorem dX2_spread_66 : decode cX2_spread 66 = .ok (.ior, 1) := by decide +kernel
theorem dX2_spread_67 : decode cX2_spread 67 = .ok (.istore 5, 2) := by decide +kernel
theorem dX2_spread_69 : decode cX2_spread 69 = .ok (.iinc 7 1, 3) := by decide +kernel
theorem dX2_spread_72 : decode cX2_spread 72 = .ok (.goto (-46), 3) := by decide +kernel
theorem dX2_spread_75 : decode cX2_spread 75 = .ok (.iload 5, 2) := by decide +kernel
theorem dX2_spread_77 : decode cX2_spread 77 = .ok (.ireturn, 1) := by decide +kernel
theorem dX2_repeatedBy_0 : decode cX2_repeatedBy 0 = .ok (.iconst 0, 1) := by decide +kernel
theorem dX2_repeatedBy_1 : decode cX2_repeatedBy 1 = .ok (.istore_n 2, 1) := by decide +kernel
theorem dX2_repeatedBy_2 : decode cX2_repeatedBy 2 = .ok (.iconst 0, 1) := by decide +kernel
theorem dX2_repeatedBy_3 : decode cX2_repeatedBy 3 = .ok (.istore_n 3, 1) := by decide +kernel
theorem dX2_repeatedBy_4 : decode cX2_repeatedBy 4 = .ok (.iload_n 3, 1) := by decide +kernel
theorem dX2_repeatedBy_5 : decode cX2_repeatedBy 5 = .ok (.aload_n 0, 1) := by decide +kernel
theorem dX2_repeatedBy_6 : decode cX2_repeatedBy 6 = .ok (.getfield 43, 3) := by decide +kernel
theorem dX2_repeatedBy_9 : decode cX2_repeatedBy 9 = .ok (.if_icmp .ge 46, 3) := by decide +kernel
theorem dX2_repeatedBy_12 : decode cX2_repeatedBy 12 = .ok (.iload_n 1, 1) := by decide +kernel
theorem dX2_repeatedBy_13 : decode cX2_repeatedBy 13 = .ok (.iload_n 3, 1) := by decide +kernel
theorem dX2_repeatedBy_14 : decode cX2_repeatedBy 14 = .ok (.ishr, 1) := by decide +kernel
theorem dX2_repeatedBy_15 : decode cX2_repeatedBy 15 = .ok (.iconst 1, 1) := by decide +kernel
theorem dX2_repeatedBy_16 : decode cX2_repeatedBy 16 = .ok (.iand, 1) := by decide +kernel
theorem dX2_repeatedBy_17 : decode cX2_repeatedBy 17 = .ok (.iconst 1, 1) := by decide +kernel
theorem dX2_repeatedBy_18 : decode cX2_repeatedBy 18 = .ok (.if_icmp .ne 31, 3) := by decide +kernel
theorem dX2_repeatedBy_21 : decode cX2_repeatedBy 21 = .ok (.aload_n 0, 1) := by decide +kernel
theorem dX2_repeatedBy_22 : decode cX2_repeatedBy 22 = .ok (.getfield 21, 3) := by decide +kernel
theorem dX2_repeatedBy_25 : decode cX2_repeatedBy 25 = .ok (.iload_n 3, 1) := by decide +kernel
theorem dX2_repeatedBy_26 : decode cX2_repeatedBy 26 = .ok (.iaload, 1) := by decide +kernel
theorem dX2_repeatedBy_27 : decode cX2_repeatedBy 27 = .ok (.ifCond .le 22, 3) := by decide +kernel
theorem dX2_repeatedBy_30 : decode cX2_repeatedBy 30 = .ok (.iload_n 2, 1) := by decide +kernel
theorem dX2_repeatedBy_31 : decode cX2_repeatedBy 31 = .ok (.aload_n 0, 1) := by decide +kernel
theorem dX2_repeatedBy_32 : decode cX2_repeatedBy 32 = .ok (.aload_n 0, 1) := by decide +kernel
theorem dX2_repeatedBy_33 : decode cX2_repeatedBy 33 = .ok (.getfield 24, 3) := by decide +kernel
theorem dX2_repeatedBy_36 : decode cX2_repeatedBy 36 = .ok (.iload_n 3, 1) := by decide +kernel
theorem dX2_repeatedBy_37 : decode cX2_repeatedBy 37 = .ok (.iaload, 1) := by decide +kernel
theorem dX2_repeatedBy_38 : decode cX2_repeatedBy 38 = .ok (.aload_n 0, 1) := by decide +kernel
theorem dX2_repeatedBy_39 : decode cX2_repeatedBy 39 = .ok (.getfield 21, 3) := by decide +kernel
theorem dX2_repeatedBy_42 : decode cX2_repeatedBy 42 = .ok (.iload_n 3, 1) := by decide +kernel
theorem dX2_repeatedBy_43 : decode cX2_repeatedBy 43 = .ok (.iaload, 1) := by decide +kernel
theorem dX2_repeatedBy_44 : decode cX2_repeatedBy 44 = .ok (.invokevirtual 104, 3) := by decide +kernel
theorem dX2_repeatedBy_47 : decode cX2_repeatedBy 47 = .ok (.ior, 1) := by decide +kernel
theorem dX2_repeatedBy_48 : decode cX2_repeatedBy 48 = .ok (.istore_n 2, 1) := by decide +kernel
theorem dX2_repeatedBy_49 : decode cX2_repeatedBy 49 = .ok (.iinc 3 1, 3) := by decide +kernel
theorem dX2_repeatedBy_52 : decode cX2_repeatedBy 52 = .ok (.goto (-48), 3) := by decide +kernel
theorem dX2_repeatedBy_55 : decode cX2_repeatedBy 55 = .ok (.iload_n 2, 1) := by decide +kernel
theorem dX2_repeatedBy_56 : decode cX2_repeatedBy 56 = .ok (.ireturn, 1) := by decide +kernel
theorem dX2_hearing_0 : decode cX2_hearing 0 = .ok (.iconst 0, 1) := by decide +kernel
theorem dX2_hearing_1 : decode cX2_hearing 1 = .ok (.istore_n 3, 1) := by decide +kernel
theorem dX2_hearing_2 : decode cX2_hearing 2 = .ok (.iconst 0, 1) := by decide +kernel
theorem dX2_hearing_3 : decode cX2_hearing 3 = .ok (.istore 4, 2) := by decide +kernel
theorem dX2_hearing_5 : decode cX2_hearing 5 = .ok (.iload 4, 2) := by decide +kernel
theorem dX2_hearing_7 : decode cX2_hearing 7 = .ok (.aload_n 0, 1) := by decide +kernel
theorem dX2_hearing_8 : decode cX2_hearing 8 = .ok (.getfield 43, 3) := by decide +kernel
theorem dX2_hearing_11 : decode cX2_hearing 11 = .ok (.if_icmp .ge 68, 3) := by decide +kernel
theorem dX2_hearing_14 : decode cX2_hearing 14 = .ok (.aload_n 0, 1) := by decide +kernel
theorem dX2_hearing_15 : decode cX2_hearing 15 = .ok (.getfield 24, 3) := by decide +kernel
theorem dX2_hearing_18 : decode cX2_hearing 18 = .ok (.iload 4, 2) := by decide +kernel
theorem dX2_hearing_20 : decode cX2_hearing 20 = .ok (.iaload, 1) := by decide +kernel
theorem dX2_hearing_21 : decode cX2_hearing 21 = .ok (.istore 5, 2) := by decide +kernel
theorem dX2_hearing_23 : decode cX2_hearing 23 = .ok (.iload 5, 2) := by decide +kernel
theorem dX2_hearing_25 : decode cX2_hearing 25 = .ok (.iload_n 1, 1) := by decide +kernel
theorem dX2_hearing_26 : decode cX2_hearing 26 = .ok (.if_icmp .ge 10, 3) := by decide +kernel
theorem dX2_hearing_29 : decode cX2_hearing 29 = .ok (.iload_n 1, 1) := by decide +kernel
theorem dX2_hearing_30 : decode cX2_hearing 30 = .ok (.iload 5, 2) := by decide +kernel
theorem dX2_hearing_32 : decode cX2_hearing 32 = .ok (.isub, 1) := by decide +kernel
theorem dX2_hearing_33 : decode cX2_hearing 33 = .ok (.goto 7, 3) := by decide +kernel
theorem dX2_hearing_36 : decode cX2_hearing 36 = .ok (.iload 5, 2) := by decide +kernel
theorem dX2_hearing_38 : decode cX2_hearing 38 = .ok (.iload_n 1, 1) := by decide +kernel
theorem dX2_hearing_39 : decode cX2_hearing 39 = .ok (.isub, 1) := by decide +kernel
theorem dX2_hearing_40 : decode cX2_hearing 40 = .ok (.istore 6, 2) := by decide +kernel
theorem dX2_hearing_42 : decode cX2_hearing 42 = .ok (.iload_n 2, 1) := by decide +kernel
theorem dX2_hearing_43 : decode cX2_hearing 43 = .ok (.iconst 2, 1) := by decide +kernel
theorem dX2_hearing_44 : decode cX2_hearing 44 = .ok (.iload 6, 2) := by decide +kernel
theorem dX2_hearing_46 : decode cX2_hearing 46 = .ok (.imul, 1) := by decide +kernel
theorem dX2_hearing_47 : decode cX2_hearing 47 = .ok (.isub, 1) := by decide +kernel
theorem dX2_hearing_48 : decode cX2_hearing 48 = .ok (.aload_n 0, 1) := by decide +kernel
theorem dX2_hearing_49 : decode cX2_hearing 49 = .ok (.getfield 9, 3) := by decide +kernel
theorem dX2_hearing_52 : decode cX2_hearing 52 = .ok (.iload 5, 2) := by decide +kernel
theorem dX2_hearing_54 : decode cX2_hearing 54 = .ok (.iaload, 1) := by decide +kernel
theorem dX2_hearing_55 : decode cX2_hearing 55 = .ok (.isub, 1) := by decide +kernel
theorem dX2_hearing_56 : decode cX2_hearing 56 = .ok (.aload_n 0, 1) := by decide +kernel
theorem dX2_hearing_57 : decode cX2_hearing 57 = .ok (.getfield 18, 3) := by decide +kernel
theorem dX2_hearing_60 : decode cX2_hearing 60 = .ok (.iload 4, 2) := by decide +kernel
theorem dX2_hearing_62 : decode cX2_hearing 62 = .ok (.iaload, 1) := by decide +kernel
theorem dX2_hearing_63 : decode cX2_hearing 63 = .ok (.if_icmp .lt 10, 3) := by decide +kernel
theorem dX2_hearing_66 : decode cX2_hearing 66 = .ok (.iload_n 3, 1) := by decide +kernel
theorem dX2_hearing_67 : decode cX2_hearing 67 = .ok (.iconst 1, 1) := by decide +kernel
theorem dX2_hearing_68 : decode cX2_hearing 68 = .ok (.iload 4, 2) := by decide +kernel
theorem dX2_hearing_70 : decode cX2_hearing 70 = .ok (.ishl, 1) := by decide +kernel
theorem dX2_hearing_71 : decode cX2_hearing 71 = .ok (.ior, 1) := by decide +kernel
theorem dX2_hearing_72 : decode cX2_hearing 72 = .ok (.istore_n 3, 1) := by decide +kernel
theorem dX2_hearing_73 : decode cX2_hearing 73 = .ok (.iinc 4 1, 3) := by decide +kernel
theorem dX2_hearing_76 : decode cX2_hearing 76 = .ok (.goto (-71), 3) := by decide +kernel
theorem dX2_hearing_79 : decode cX2_hearing 79 = .ok (.iload_n 3, 1) := by decide +kernel
theorem dX2_hearing_80 : decode cX2_hearing 80 = .ok (.ireturn, 1) := by decide +kernel
theorem dX2_loudNeeded_0 : decode cX2_loudNeeded 0 = .ok (.iload_n 0, 1) := by decide +kernel
theorem dX2_loudNeeded_1 : decode cX2_loudNeeded 1 = .ok (.lookupswitch 31 #[(1, 27), (2, 29)], 27) := by decide +kernel
theorem dX2_loudNeeded_28 : decode cX2_loudNeeded 28 = .ok (.iconst 5, 1) := by decide +kernel
theorem dX2_loudNeeded_29 : decode cX2_loudNeeded 29 = .ok (.ireturn, 1) := by decide +kernel
theorem dX2_loudNeeded_30 : decode cX2_loudNeeded 30 = .ok (.iconst 3, 1) := by decide +kernel
theorem dX2_loudNeeded_31 : decode cX2_loudNeeded 31 = .ok (.ireturn, 1) := by decide +kernel
theorem dX2_loudNeeded_32 : decode cX2_loudNeeded 32 = .ok (.iconst 1, 1) := by decide +kernel
theorem dX2_loudNeeded_33 : decode cX2_loudNeeded 33 = .ok (.ireturn, 1) := by decide +kernel
theorem dX2_loudRepeated_0 : decode cX2_loudRepeated 0 = .ok (.iload_n 0, 1) := by decide +kernel
theorem dX2_loudRepeated_1 : decode cX2_loudRepeated 1 = .ok (.lookupswitch 32 #[(3, 27), (4, 29)], 27) := by decide +kernel
theorem dX2_loudRepeated_28 : decode cX2_loudRepeated 28 = .ok (.iconst 4, 1) := by decide +kernel
theorem dX2_loudRepeated_29 : decode cX2_loudRepeated 29 = .ok (.ireturn, 1) := by decide +kernel
theorem dX2_loudRepeated_30 : decode cX2_loudRepeated 30 = .ok (.bipush 7, 2) := by decide +kernel
theorem dX2_loudRepeated_32 : decode cX2_loudRepeated 32 = .ok (.ireturn, 1) := by decide +kernel
theorem dX2_loudRepeated_33 : decode cX2_loudRepeated 33 = .ok (.iconst 0, 1) := by decide +kernel
theorem dX2_loudRepeated_34 : decode cX2_loudRepeated 34 = .ok (.ireturn, 1) := by decide +kernel
theorem dJ6_bitCount_0f7a4_0 : decode cJ6_bitCount_0f7a4 0 = .ok (.iload_n 0, 1) := by decide +kernel
theorem dJ6_bitCount_0f7a4_1 : decode cJ6_bitCount_0f7a4 1 = .ok (.iload_n 0, 1) := by decide +kernel
theorem dJ6_bitCount_0f7a4_2 : decode cJ6_bitCount_0f7a4 2 = .ok (.iconst 1, 1) := by decide +kernel
theorem dJ6_bitCount_0f7a4_3 : decode cJ6_bitCount_0f7a4 3 = .ok (.iushr, 1) := by decide +kernel
theorem dJ6_bitCount_0f7a4_4 : decode cJ6_bitCount_0f7a4 4 = .ok (.ldc_w 265, 3) := by decide +kernel
theorem dJ6_bitCount_0f7a4_7 : decode cJ6_bitCount_0f7a4 7 = .ok (.iand, 1) := by decide +kernel
theorem dJ6_bitCount_0f7a4_8 : decode cJ6_bitCount_0f7a4 8 = .ok (.isub, 1) := by decide +kernel
theorem dJ6_bitCount_0f7a4_9 : decode cJ6_bitCount_0f7a4 9 = .ok (.istore_n 0, 1) := by decide +kernel
theorem dJ6_bitCount_0f7a4_10 : decode cJ6_bitCount_0f7a4 10 = .ok (.iload_n 0, 1) := by decide +kernel
theorem dJ6_bitCount_0f7a4_11 : decode cJ6_bitCount_0f7a4 11 = .ok (.ldc_w 266, 3) := by decide +kernel
theorem dJ6_bitCount_0f7a4_14 : decode cJ6_bitCount_0f7a4 14 = .ok (.iand, 1) := by decide +kernel
theorem dJ6_bitCount_0f7a4_15 : decode cJ6_bitCount_0f7a4 15 = .ok (.iload_n 0, 1) := by decide +kernel
theorem dJ6_bitCount_0f7a4_16 : decode cJ6_bitCount_0f7a4 16 = .ok (.iconst 2, 1) := by decide +kernel
theorem dJ6_bitCount_0f7a4_17 : decode cJ6_bitCount_0f7a4 17 = .ok (.iushr, 1) := by decide +kernel
theorem dJ6_bitCount_0f7a4_18 : decode cJ6_bitCount_0f7a4 18 = .ok (.ldc_w 266, 3) := by decide +kernel
theorem dJ6_bitCount_0f7a4_21 : decode cJ6_bitCount_0f7a4 21 = .ok (.iand, 1) := by decide +kernel
theorem dJ6_bitCount_0f7a4_22 : decode cJ6_bitCount_0f7a4 22 = .ok (.iadd, 1) := by decide +kernel
theorem dJ6_bitCount_0f7a4_23 : decode cJ6_bitCount_0f7a4 23 = .ok (.istore_n 0, 1) := by decide +kernel
theorem dJ6_bitCount_0f7a4_24 : decode cJ6_bitCount_0f7a4 24 = .ok (.iload_n 0, 1) := by decide +kernel
theorem dJ6_bitCount_0f7a4_25 : decode cJ6_bitCount_0f7a4 25 = .ok (.iload_n 0, 1) := by decide +kernel
theorem dJ6_bitCount_0f7a4_26 : decode cJ6_bitCount_0f7a4 26 = .ok (.iconst 4, 1) := by decide +kernel
theorem dJ6_bitCount_0f7a4_27 : decode cJ6_bitCount_0f7a4 27 = .ok (.iushr, 1) := by decide +kernel
theorem dJ6_bitCount_0f7a4_28 : decode cJ6_bitCount_0f7a4 28 = .ok (.iadd, 1) := by decide +kernel
theorem dJ6_bitCount_0f7a4_29 : decode cJ6_bitCount_0f7a4 29 = .ok (.ldc_w 267, 3) := by decide +kernel
theorem dJ6_bitCount_0f7a4_32 : decode cJ6_bitCount_0f7a4 32 = .ok (.iand, 1) := by decide +kernel
theorem dJ6_bitCount_0f7a4_33 : decode cJ6_bitCount_0f7a4 33 = .ok (.istore_n 0, 1) := by decide +kernel
theorem dJ6_bitCount_0f7a4_34 : decode cJ6_bitCount_0f7a4 34 = .ok (.iload_n 0, 1) := by decide +kernel
theorem dJ6_bitCount_0f7a4_35 : decode cJ6_bitCount_0f7a4 35 = .ok (.iload_n 0, 1) := by decide +kernel
theorem dJ6_bitCount_0f7a4_36 : decode cJ6_bitCount_0f7a4 36 = .ok (.bipush 8, 2) := by decide +kernel
theorem dJ6_bitCount_0f7a4_38 : decode cJ6_bitCount_0f7a4 38 = .ok (.iushr, 1) := by decide +kernel
theorem dJ6_bitCount_0f7a4_39 : decode cJ6_bitCount_0f7a4 39 = .ok (.iadd, 1) := by decide +kernel
theorem dJ6_bitCount_0f7a4_40 : decode cJ6_bitCount_0f7a4 40 = .ok (.istore_n 0, 1) := by decide +kernel
theorem dJ6_bitCount_0f7a4_41 : decode cJ6_bitCount_0f7a4 41 = .ok (.iload_n 0, 1) := by decide +kernel
theorem dJ6_bitCount_0f7a4_42 : decode cJ6_bitCount_0f7a4 42 = .ok (.iload_n 0, 1) := by decide +kernel
theorem dJ6_bitCount_0f7a4_43 : decode cJ6_bitCount_0f7a4 43 = .ok (.bipush 16, 2) := by decide +kernel
theorem dJ6_bitCount_0f7a4_45 : decode cJ6_bitCount_0f7a4 45 = .ok (.iushr, 1) := by decide +kernel
theorem dJ6_bitCount_0f7a4_46 : decode cJ6_bitCount_0f7a4 46 = .ok (.iadd, 1) := by decide +kernel
theorem dJ6_bitCount_0f7a4_47 : decode cJ6_bitCount_0f7a4 47 = .ok (.istore_n 0, 1) := by decide +kernel
theorem dJ6_bitCount_0f7a4_48 : decode cJ6_bitCount_0f7a4 48 = .ok (.iload_n 0, 1) := by decide +kernel
theorem dJ6_bitCount_0f7a4_49 : decode cJ6_bitCount_0f7a4 49 = .ok (.bipush 63, 2) := by decide +kernel
theorem dJ6_bitCount_0f7a4_51 : decode cJ6_bitCount_0f7a4 51 = .ok (.iand, 1) := by decide +kernel
theorem dJ6_bitCount_0f7a4_52 : decode cJ6_bitCount_0f7a4 52 = .ok (.ireturn, 1) := by decide +kernel
theorem dJ9_max_7cf53_0 : decode cJ9_max_7cf53 0 = .ok (.iload_n 0, 1) := by decide +kernel
theorem dJ9_max_7cf53_1 : decode cJ9_max_7cf53 1 = .ok (.iload_n 1, 1) := by decide +kernel
theorem dJ9_max_7cf53_2 : decode cJ9_max_7cf53 2 = .ok (.if_icmp .lt 7, 3) := by decide +kernel
theorem dJ9_max_7cf53_5 : decode cJ9_max_7cf53 5 = .ok (.iload_n 0, 1) := by decide +kernel
theorem dJ9_max_7cf53_6 : decode cJ9_max_7cf53 6 = .ok (.goto 4, 3) := by decide +kernel
theorem dJ9_max_7cf53_9 : decode cJ9_max_7cf53 9 = .ok (.iload_n 1, 1) := by decide +kernel
theorem dJ9_max_7cf53_10 : decode cJ9_max_7cf53 10 = .ok (.ireturn, 1) := by decide +kernel
theorem dJ9_min_7cf53_0 : decode cJ9_min_7cf53 0 = .ok (.iload_n 0, 1) := by decide +kernel
theorem dJ9_min_7cf53_1 : decode cJ9_min_7cf53 1 = .ok (.iload_n 1, 1) := by decide +kernel
theorem dJ9_min_7cf53_2 : decode cJ9_min_7cf53 2 = .ok (.if_icmp .gt 7, 3) := by decide +kernel
theorem dJ9_min_7cf53_5 : decode cJ9_min_7cf53 5 = .ok (.iload_n 0, 1) := by decide +kernel
theorem dJ9_min_7cf53_6 : decode cJ9_min_7cf53 6 = .ok (.goto 4, 3) := by decide +kernel
theorem dJ9_min_7cf53_9 : decode cJ9_min_7cf53 9 = .ok (.iload_n 1, 1) := by decide +kernel
theorem dJ9_min_7cf53_10 : decode cJ9_min_7cf53 10 = .ok (.ireturn, 1) := by decide +kernel
end
section
theorem dX3_init_0 : decode cX3_init 0 = .ok (.aload_n 0, 1) := by decide +kernel
theorem dX3_init_1 : decode cX3_init 1 = .ok (.invokespecial 1, 3) := by decide +kernel
theorem dX3_init_4 : decode cX3_init 4 = .ok (.aload_n 0, 1) := by decide +kernel
theorem dX3_init_5 : decode cX3_init 5 = .ok (.new 7, 3) := by decide +kernel
theorem dX3_init_8 : decode cX3_init 8 = .ok (.dup, 1) := by decide +kernel
theorem dX3_init_9 : decode cX3_init 9 = .ok (.invokespecial 9, 3) := by decide +kernel
theorem dX3_init_12 : decode cX3_init 12 = .ok (.putfield 10, 3) := by decide +kernel
theorem dX3_init_15 : decode cX3_init 15 = .ok (.aload_n 0, 1) := by decide +kernel
theorem dX3_init_16 : decode cX3_init 16 = .ok (.new 16, 3) := by decide +kernel
theorem dX3_init_19 : decode cX3_init 19 = .ok (.dup, 1) := by decide +kernel
theorem dX3_init_20 : decode cX3_init 20 = .ok (.invokespecial 18, 3) := by decide +kernel
theorem dX3_init_23 : decode cX3_init 23 = .ok (.putfield 19, 3) := by decide +kernel
theorem dX3_init_26 : decode cX3_init 26 = .ok (.aload_n 0, 1) := by decide +kernel
theorem dX3_init_27 : decode cX3_init 27 = .ok (.new 16, 3) := by decide +kernel
theorem dX3_init_30 : decode cX3_init 30 = .ok (.dup, 1) := by decide +kernel
theorem dX3_init_31 : decode cX3_init 31 = .ok (.invokespecial 18, 3) := by decide +kernel
theorem dX3_init_34 : decode cX3_init 34 = .ok (.putfield 23, 3) := by decide +kernel
theorem dX3_init_37 : decode cX3_init 37 = .ok (.aload_n 0, 1) := by decide +kernel
theorem dX3_init_38 : decode cX3_init 38 = .ok (.new 26, 3) := by decide +kernel
theorem dX3_init_41 : decode cX3_init 41 = .ok (.dup, 1) := by decide +kernel
theorem dX3_init_42 : decode cX3_init 42 = .ok (.invokespecial 28, 3) := by decide +kernel
theorem dX3_init_45 : decode cX3_init 45 = .ok (.putfield 29, 3) := by decide +kernel
theorem dX3_init_48 : decode cX3_init 48 = .ok (.aload_n 0, 1) := by decide +kernel
theorem dX3_init_49 : decode cX3_init 49 = .ok (.iconst 0, 1) := by decide +kernel
theorem dX3_init_50 : decode cX3_init 50 = .ok (.putfield 33, 3) := by decide +kernel
theorem dX3_init_53 : decode cX3_init 53 = .ok (.aload_n 0, 1) := by decide +kernel
theorem dX3_init_54 : decode cX3_init 54 = .ok (.iconst 0, 1) := by decide +kernel
theorem dX3_init_55 : decode cX3_init 55 = .ok (.putfield 37, 3) := by decide +kernel
theorem dX3_init_58 : decode cX3_init 58 = .ok (.return_, 1) := by decide +kernel
theorem dX3_letter_0 : decode cX3_letter 0 = .ok (.iload_n 1, 1) := by decide +kernel
theorem dX3_letter_1 : decode cX3_letter 1 = .ok (.iconst 1, 1) := by decide +kernel
theorem dX3_letter_2 : decode cX3_letter 2 = .ok (.if_icmp .lt 9, 3) := by decide +kernel
theorem dX3_letter_5 : decode cX3_letter 5 = .ok (.iload_n 1, 1) := by decide +kernel
theorem dX3_letter_6 : decode cX3_letter 6 = .ok (.bipush 126, 2) := by decide +kernel
theorem dX3_letter_8 : decode cX3_letter 8 = .ok (.if_icmp .le 6, 3) := by decide +kernel
theorem dX3_letter_11 : decode cX3_letter 11 = .ok (.bipush (-102), 2) := by decide +kernel
theorem dX3_letter_13 : decode cX3_letter 13 = .ok (.ireturn, 1) := by decide +kernel
theorem dX3_letter_14 : decode cX3_letter 14 = .ok (.aload_n 0, 1) := by decide +kernel
theorem dX3_letter_15 : decode cX3_letter 15 = .ok (.getfield 10, 3) := by decide +kernel
theorem dX3_letter_18 : decode cX3_letter 18 = .ok (.iload_n 1, 1) := by decide +kernel
theorem dX3_letter_19 : decode cX3_letter 19 = .ok (.invokevirtual 41, 3) := by decide +kernel
theorem dX3_letter_22 : decode cX3_letter 22 = .ok (.ireturn, 1) := by decide +kernel
theorem dX3_blank_0 : decode cX3_blank 0 = .ok (.aload_n 0, 1) := by decide +kernel
theorem dX3_blank_1 : decode cX3_blank 1 = .ok (.getfield 10, 3) := by decide +kernel
theorem dX3_blank_4 : decode cX3_blank 4 = .ok (.invokevirtual 45, 3) := by decide +kernel
theorem dX3_blank_7 : decode cX3_blank 7 = .ok (.ireturn, 1) := by decide +kernel
theorem dX3_fault_0 : decode cX3_fault 0 = .ok (.aload_n 0, 1) := by decide +kernel
theorem dX3_fault_1 : decode cX3_fault 1 = .ok (.getfield 10, 3) := by decide +kernel
theorem dX3_fault_4 : decode cX3_fault 4 = .ok (.invokevirtual 49, 3) := by decide +kernel
theorem dX3_fault_7 : decode cX3_fault 7 = .ok (.ireturn, 1) := by decide +kernel
theorem dX3_town_0 : decode cX3_town 0 = .ok (.aload_n 0, 1) := by decide +kernel
theorem dX3_town_1 : decode cX3_town 1 = .ok (.getfield 10, 3) := by decide +kernel
theorem dX3_town_4 : decode cX3_town 4 = .ok (.invokevirtual 52, 3) := by decide +kernel
theorem dX3_town_7 : decode cX3_town 7 = .ok (.ifCond .ne 6, 3) := by decide +kernel
theorem dX3_town_10 : decode cX3_town 10 = .ok (.bipush (-103), 2) := by decide +kernel
theorem dX3_town_12 : decode cX3_town 12 = .ok (.ireturn, 1) := by decide +kernel
theorem dX3_town_13 : decode cX3_town 13 = .ok (.aload_n 0, 1) := by decide +kernel
theorem dX3_town_14 : decode cX3_town 14 = .ok (.getfield 19, 3) := by decide +kernel
theorem dX3_town_17 : decode cX3_town 17 = .ok (.aload_n 0, 1) := by decide +kernel
theorem dX3_town_18 : decode cX3_town 18 = .ok (.getfield 10, 3) := by decide +kernel
theorem dX3_town_21 : decode cX3_town 21 = .ok (.invokevirtual 56, 3) := by decide +kernel
theorem dX3_town_24 : decode cX3_town 24 = .ok (.aload_n 0, 1) := by decide +kernel
theorem dX3_town_25 : decode cX3_town 25 = .ok (.getfield 10, 3) := by decide +kernel
theorem dX3_town_28 : decode cX3_town 28 = .ok (.invokevirtual 45, 3) := by decide +kernel
theorem dX3_town_31 : decode cX3_town 31 = .ok (.pop, 1) := by decide +kernel
theorem dX3_town_32 : decode cX3_town 32 = .ok (.aload_n 0, 1) := by decide +kernel
theorem dX3_town_33 : decode cX3_town 33 = .ok (.iconst 0, 1) := by decide +kernel
theorem dX3_town_34 : decode cX3_town 34 = .ok (.putfield 33, 3) := by decide +kernel
theorem dX3_town_37 : decode cX3_town 37 = .ok (.aload_n 0, 1) := by decide +kernel
theorem dX3_town_38 : decode cX3_town 38 = .ok (.dup, 1) := by decide +kernel
theorem dX3_town_39 : decode cX3_town 39 = .ok (.getfield 37, 3) := by decide +kernel
theorem dX3_town_42 : decode cX3_town 42 = .ok (.iconst 1, 1) := by decide +kernel
theorem dX3_town_43 : decode cX3_town 43 = .ok (.iadd, 1) := by decide +kernel
theorem dX3_town_44 : decode cX3_town 44 = .ok (.putfield 37, 3) := by decide +kernel
theorem dX3_town_47 : decode cX3_town 47 = .ok (.aload_n 0, 1) := by decide +kernel
theorem dX3_town_48 : decode cX3_town 48 = .ok (.getfield 19, 3) := by decide +kernel
theorem dX3_town_51 : decode cX3_town 51 = .ok (.invokevirtual 60, 3) := by decide +kernel
theorem dX3_town_54 : decode cX3_town 54 = .ok (.ireturn, 1) := by decide +kernel
theorem dX3_noise_0 : decode cX3_noise 0 = .ok (.aload_n 0, 1) := by decide +kernel
theorem dX3_noise_1 : decode cX3_noise 1 = .ok (.iload_n 1, 1) := by decide +kernel
theorem dX3_noise_2 : decode cX3_noise 2 = .ok (.invokevirtual 63, 3) := by decide +kernel
theorem dX3_noise_5 : decode cX3_noise 5 = .ok (.ifCond .eq 15, 3) := by decide +kernel
theorem dX3_noise_8 : decode cX3_noise 8 = .ok (.aload_n 0, 1) := by decide +kernel
theorem dX3_noise_9 : decode cX3_noise 9 = .ok (.getfield 19, 3) := by decide +kernel
theorem dX3_noise_12 : decode cX3_noise 12 = .ok (.getfield 67, 3) := by decide +kernel
theorem dX3_noise_15 : decode cX3_noise 15 = .ok (.iload_n 1, 1) := by decide +kernel
theorem dX3_noise_16 : decode cX3_noise 16 = .ok (.iaload, 1) := by decide +kernel
theorem dX3_noise_17 : decode cX3_noise 17 = .ok (.goto 5, 3) := by decide +kernel
theorem dX3_noise_20 : decode cX3_noise 20 = .ok (.bipush (-101), 2) := by decide +kernel
theorem dX3_noise_22 : decode cX3_noise 22 = .ok (.ireturn, 1) := by decide +kernel
theorem dX3_hum_0 : decode cX3_hum 0 = .ok (.aload_n 0, 1) := by decide +kernel
theorem dX3_hum_1 : decode cX3_hum 1 = .ok (.iload_n 1, 1) := by decide +kernel
theorem dX3_hum_2 : decode cX3_hum 2 = .ok (.invokevirtual 63, 3) := by decide +kernel
theorem dX3_hum_5 : decode cX3_hum 5 = .ok (.ifCond .ne 6, 3) := by decide +kernel
theorem dX3_hum_8 : decode cX3_hum 8 = .ok (.bipush (-101), 2) := by decide +kernel
theorem dX3_hum_10 : decode cX3_hum 10 = .ok (.ireturn, 1) := by decide +kernel
theorem dX3_hum_11 : decode cX3_hum 11 = .ok (.iload_n 2, 1) := by decide +kernel
theorem dX3_hum_12 : decode cX3_hum 12 = .ok (.ifCond .lt 9, 3) := by decide +kernel
theorem dX3_hum_15 : decode cX3_hum 15 = .ok (.iload_n 2, 1) := by decide +kernel
theorem dX3_hum_16 : decode cX3_hum 16 = .ok (.bipush 9, 2) := by decide +kernel
theorem dX3_hum_18 : decode cX3_hum 18 = .ok (.if_icmp .le 6, 3) := by decide +kernel
theorem dX3_hum_21 : decode cX3_hum 21 = .ok (.bipush (-102), 2) := by decide +kernel
theorem dX3_hum_23 : decode cX3_hum 23 = .ok (.ireturn, 1) := by decide +kernel
theorem dX3_hum_24 : decode cX3_hum 24 = .ok (.aload_n 0, 1) := by decide +kernel
theorem dX3_hum_25 : decode cX3_hum 25 = .ok (.getfield 19, 3) := by decide +kernel
theorem dX3_hum_28 : decode cX3_hum 28 = .ok (.getfield 67, 3) := by decide +kernel
theorem dX3_hum_31 : decode cX3_hum 31 = .ok (.iload_n 1, 1) := by decide +kernel
theorem dX3_hum_32 : decode cX3_hum 32 = .ok (.iaload, 1) := by decide +kernel
theorem dX3_hum_33 : decode cX3_hum 33 = .ok (.istore_n 3, 1) := by decide +kernel
theorem dX3_hum_34 : decode cX3_hum 34 = .ok (.aload_n 0, 1) := by decide +kernel
theorem dX3_hum_35 : decode cX3_hum 35 = .ok (.getfield 19, 3) := by decide +kernel
theorem dX3_hum_38 : decode cX3_hum 38 = .ok (.getfield 67, 3) := by decide +kernel
theorem dX3_hum_41 : decode cX3_hum 41 = .ok (.iload_n 1, 1) := by decide +kernel
theorem dX3_hum_42 : decode cX3_hum 42 = .ok (.iload_n 2, 1) := by decide +kernel
theorem dX3_hum_43 : decode cX3_hum 43 = .ok (.iastore, 1) := by decide +kernel
theorem dX3_hum_44 : decode cX3_hum 44 = .ok (.iload_n 3, 1) := by decide +kernel
theorem dX3_hum_45 : decode cX3_hum 45 = .ok (.ireturn, 1) := by decide +kernel
theorem dX3_listener_0 : decode cX3_listener 0 = .ok (.iload_n 1, 1) := by decide +kernel
theorem dX3_listener_1 : decode cX3_listener 1 = .ok (.invokestatic 71, 3) := by decide +kernel
theorem dX3_listener_4 : decode cX3_listener 4 = .ok (.ifCond .ne 6, 3) := by decide +kernel
theorem dX3_listener_7 : decode cX3_listener 7 = .ok (.bipush (-102), 2) := by decide +kernel
theorem dX3_listener_9 : decode cX3_listener 9 = .ok (.ireturn, 1) := by decide +kernel
theorem dX3_listener_10 : decode cX3_listener 10 = .ok (.aload_n 0, 1) := by decide +kernel
theorem dX3_listener_11 : decode cX3_listener 11 = .ok (.iload_n 2, 1) := by decide +kernel
theorem dX3_listener_12 : decode cX3_listener 12 = .ok (.invokevirtual 63, 3) := by decide +kernel
theorem dX3_listener_15 : decode cX3_listener 15 = .ok (.ifCond .ne 6, 3) := by decide +kernel
theorem dX3_listener_18 : decode cX3_listener 18 = .ok (.bipush (-101), 2) := by decide +kernel
theorem dX3_listener_20 : decode cX3_listener 20 = .ok (.ireturn, 1) := by decide +kernel
theorem dX3_listener_21 : decode cX3_listener 21 = .ok (.aload_n 0, 1) := by decide +kernel
theorem dX3_listener_22 : decode cX3_listener 22 = .ok (.getfield 19, 3) := by decide +kernel
theorem dX3_listener_25 : decode cX3_listener 25 = .ok (.iload_n 1, 1) := by decide +kernel
theorem dX3_listener_26 : decode cX3_listener 26 = .ok (.iload_n 2, 1) := by decide +kernel
theorem dX3_listener_27 : decode cX3_listener 27 = .ok (.invokevirtual 74, 3) := by decide +kernel
theorem dX3_listener_30 : decode cX3_listener 30 = .ok (.ireturn, 1) := by decide +kernel
theorem dX3_about_0 : decode cX3_about 0 = .ok (.aload_n 0, 1) := by decide +kernel
theorem dX3_about_1 : decode cX3_about 1 = .ok (.iload_n 1, 1) := by decide +kernel
theorem dX3_about_2 : decode cX3_about 2 = .ok (.invokevirtual 78, 3) := by decide +kernel
theorem dX3_about_5 : decode cX3_about 5 = .ok (.ifCond .ne 6, 3) := by decide +kernel
theorem dX3_about_8 : decode cX3_about 8 = .ok (.bipush (-101), 2) := by decide +kernel
theorem dX3_about_10 : decode cX3_about 10 = .ok (.ireturn, 1) := by decide +kernel
theorem dX3_about_11 : decode cX3_about 11 = .ok (.iload_n 2, 1) := by decide +kernel
theorem dX3_about_12 : decode cX3_about 12 = .ok (.tableswitch 111 0 5 #[40, 50, 60, 79, 91, 101], 40) := by decide +kernel
theorem dX3_about_52 : decode cX3_about 52 = .ok (.aload_n 0, 1) := by decide +kernel
theorem dX3_about_53 : decode cX3_about 53 = .ok (.getfield 19, 3) := by decide +kernel
theorem dX3_about_56 : decode cX3_about 56 = .ok (.getfield 81, 3) := by decide +kernel
theorem dX3_about_59 : decode cX3_about 59 = .ok (.iload_n 1, 1) := by decide +kernel
theorem dX3_about_60 : decode cX3_about 60 = .ok (.iaload, 1) := by decide +kernel
theorem dX3_about_61 : decode cX3_about 61 = .ok (.ireturn, 1) := by decide +kernel
theorem dX3_about_62 : decode cX3_about 62 = .ok (.aload_n 0, 1) := by decide +kernel
theorem dX3_about_63 : decode cX3_about 63 = .ok (.getfield 19, 3) := by decide +kernel
theorem dX3_about_66 : decode cX3_about 66 = .ok (.getfield 84, 3) := by decide +kernel
theorem dX3_about_69 : decode cX3_about 69 = .ok (.iload_n 1, 1) := by decide +kernel
theorem dX3_about_70 : decode cX3_about 70 = .ok (.iaload, 1) := by decide +kernel
theorem dX3_about_71 : decode cX3_about 71 = .ok (.ireturn, 1) := by decide +kernel
theorem dX3_about_72 : decode cX3_about 72 = .ok (.aload_n 0, 1) := by decide +kernel
theorem dX3_about_73 : decode cX3_about 73 = .ok (.getfield 19, 3) := by decide +kernel
theorem dX3_about_76 : decode cX3_about 76 = .ok (.aload_n 0, 1) := by decide +kernel
theorem dX3_about_77 : decode cX3_about 77 = .ok (.getfield 19, 3) := by decide +kernel
theorem dX3_about_80 : decode cX3_about 80 = .ok (.getfield 87, 3) := by decide +kernel
theorem dX3_about_83 : decode cX3_about 83 = .ok (.invokevirtual 90, 3) := by decide +kernel
theorem dX3_about_86 : decode cX3_about 86 = .ok (.iload_n 1, 1) := by decide +kernel
theorem dX3_about_87 : decode cX3_about 87 = .ok (.invokestatic 93, 3) := by decide +kernel
theorem dX3_about_90 : decode cX3_about 90 = .ok (.ireturn, 1) := by decide +kernel
theorem dX3_about_91 : decode cX3_about 91 = .ok (.aload_n 0, 1) := by decide +kernel
theorem dX3_about_92 : decode cX3_about 92 = .ok (.getfield 19, 3) := by decide +kernel
theorem dX3_about_95 : decode cX3_about 95 = .ok (.getfield 87, 3) := by decide +kernel
theorem dX3_about_98 : decode cX3_about 98 = .ok (.iload_n 1, 1) := by decide +kernel
theorem dX3_about_99 : decode cX3_about 99 = .ok (.invokestatic 93, 3) := by decide +kernel
theorem dX3_about_102 : decode cX3_about 102 = .ok (.ireturn, 1) := by decide +kernel
theorem dX3_about_103 : decode cX3_about 103 = .ok (.aload_n 0, 1) := by decide +kernel
theorem dX3_about_104 : decode cX3_about 104 = .ok (.getfield 19, 3) := by decide +kernel
theorem dX3_about_107 : decode cX3_about 107 = .ok (.getfield 96, 3) := by decide +kernel
theorem dX3_about_110 : decode cX3_about 110 = .ok (.iload_n 1, 1) := by decide +kernel
theorem dX3_about_111 : decode cX3_about 111 = .ok (.iaload, 1) := by decide +kernel
theorem dX3_about_112 : decode cX3_about 112 = .ok (.ireturn, 1) := by decide +kernel
theorem dX3_about_113 : decode cX3_about 113 = .ok (.aload_n 0, 1) := by decide +kernel
theorem dX3_about_114 : decode cX3_about 114 = .ok (.getfield 19, 3) := by decide +kernel
theorem dX3_about_117 : decode cX3_about 117 = .ok (.getfield 99, 3) := by decide +kernel
theorem dX3_about_120 : decode cX3_about 120 = .ok (.iload_n 1, 1) := by decide +kernel
theorem dX3_about_121 : decode cX3_about 121 = .ok (.iaload, 1) := by decide +kernel
theorem dX3_about_122 : decode cX3_about 122 = .ok (.ireturn, 1) := by decide +kernel
theorem dX3_about_123 : decode cX3_about 123 = .ok (.bipush (-102), 2) := by decide +kernel
theorem dX3_about_125 : decode cX3_about 125 = .ok (.ireturn, 1) := by decide +kernel
theorem dX3_as_0 : decode cX3_as 0 = .ok (.aload_n 0, 1) := by decide +kernel
theorem dX3_as_1 : decode cX3_as 1 = .ok (.iload_n 1, 1) := by decide +kernel
theorem dX3_as_2 : decode cX3_as 2 = .ok (.invokevirtual 78, 3) := by decide +kernel
theorem dX3_as_5 : decode cX3_as 5 = .ok (.ifCond .ne 6, 3) := by decide +kernel
theorem dX3_as_8 : decode cX3_as 8 = .ok (.bipush (-101), 2) := by decide +kernel
theorem dX3_as_10 : decode cX3_as 10 = .ok (.ireturn, 1) := by decide +kernel
theorem dX3_as_11 : decode cX3_as 11 = .ok (.iload_n 2, 1) := by decide +kernel
theorem dX3_as_12 : decode cX3_as 12 = .ok (.invokestatic 71, 3) := by decide +kernel
theorem dX3_as_15 : decode cX3_as 15 = .ok (.ifCond .ne 6, 3) := by decide +kernel
theorem dX3_as_18 : decode cX3_as 18 = .ok (.bipush (-102), 2) := by decide +kernel
theorem dX3_as_20 : decode cX3_as 20 = .ok (.ireturn, 1) := by decide +kernel
theorem dX3_as_21 : decode cX3_as 21 = .ok (.aload_n 0, 1) := by decide +kernel
theorem dX3_as_22 : decode cX3_as 22 = .ok (.getfield 19, 3) := by decide +kernel
theorem dX3_as_25 : decode cX3_as 25 = .ok (.getfield 81, 3) := by decide +kernel
theorem dX3_as_28 : decode cX3_as 28 = .ok (.iload_n 1, 1) := by decide +kernel
theorem dX3_as_29 : decode cX3_as 29 = .ok (.iaload, 1) := by decide +kernel
theorem dX3_as_30 : decode cX3_as 30 = .ok (.iload_n 2, 1) := by decide +kernel
theorem dX3_as_31 : decode cX3_as 31 = .ok (.invokestatic 102, 3) := by decide +kernel
theorem dX3_as_34 : decode cX3_as 34 = .ok (.ifCond .eq 7, 3) := by decide +kernel
theorem dX3_as_37 : decode cX3_as 37 = .ok (.iload_n 1, 1) := by decide +kernel
theorem dX3_as_38 : decode cX3_as 38 = .ok (.goto 4, 3) := by decide +kernel
theorem dX3_as_41 : decode cX3_as 41 = .ok (.iconst (-1), 1) := by decide +kernel
theorem dX3_as_42 : decode cX3_as 42 = .ok (.ireturn, 1) := by decide +kernel
theorem dX3_move_0 : decode cX3_move 0 = .ok (.aload_n 0, 1) := by decide +kernel
theorem dX3_move_1 : decode cX3_move 1 = .ok (.iload_n 1, 1) := by decide +kernel
theorem dX3_move_2 : decode cX3_move 2 = .ok (.invokevirtual 78, 3) := by decide +kernel
theorem dX3_move_5 : decode cX3_move 5 = .ok (.ifCond .eq 11, 3) := by decide +kernel
theorem dX3_move_8 : decode cX3_move 8 = .ok (.aload_n 0, 1) := by decide +kernel
theorem dX3_move_9 : decode cX3_move 9 = .ok (.iload_n 2, 1) := by decide +kernel
theorem dX3_move_10 : decode cX3_move 10 = .ok (.invokevirtual 63, 3) := by decide +kernel
theorem dX3_move_13 : decode cX3_move 13 = .ok (.ifCond .ne 6, 3) := by decide +kernel
theorem dX3_move_16 : decode cX3_move 16 = .ok (.bipush (-101), 2) := by decide +kernel
theorem dX3_move_18 : decode cX3_move 18 = .ok (.ireturn, 1) := by decide +kernel
theorem dX3_move_19 : decode cX3_move 19 = .ok (.aload_n 0, 1) := by decide +kernel
theorem dX3_move_20 : decode cX3_move 20 = .ok (.getfield 19, 3) := by decide +kernel
theorem dX3_move_23 : decode cX3_move 23 = .ok (.getfield 84, 3) := by decide +kernel
theorem dX3_move_26 : decode cX3_move 26 = .ok (.iload_n 1, 1) := by decide +kernel
theorem dX3_move_27 : decode cX3_move 27 = .ok (.iaload, 1) := by decide +kernel
theorem dX3_move_28 : decode cX3_move 28 = .ok (.istore_n 3, 1) := by decide +kernel
theorem dX3_move_29 : decode cX3_move 29 = .ok (.aload_n 0, 1) := by decide +kernel
theorem dX3_move_30 : decode cX3_move 30 = .ok (.getfield 19, 3) := by decide +kernel
theorem dX3_move_33 : decode cX3_move 33 = .ok (.getfield 84, 3) := by decide +kernel
theorem dX3_move_36 : decode cX3_move 36 = .ok (.iload_n 1, 1) := by decide +kernel
theorem dX3_move_37 : decode cX3_move 37 = .ok (.iload_n 2, 1) := by decide +kernel
theorem dX3_move_38 : decode cX3_move 38 = .ok (.iastore, 1) := by decide +kernel
theorem dX3_move_39 : decode cX3_move 39 = .ok (.iload_n 3, 1) := by decide +kernel
theorem dX3_move_40 : decode cX3_move 40 = .ok (.ireturn, 1) := by decide +kernel
theorem dX3_cry_0 : decode cX3_cry 0 = .ok (.aload_n 0, 1) := by decide +kernel
theorem dX3_cry_1 : decode cX3_cry 1 = .ok (.iload_n 1, 1) := by decide +kernel
theorem dX3_cry_2 : decode cX3_cry 2 = .ok (.invokevirtual 63, 3) := by decide +kernel
theorem dX3_cry_5 : decode cX3_cry 5 = .ok (.ifCond .ne 6, 3) := by decide +kernel
theorem dX3_cry_8 : decode cX3_cry 8 = .ok (.bipush (-101), 2) := by decide +kernel
theorem dX3_cry_10 : decode cX3_cry 10 = .ok (.ireturn, 1) := by decide +kernel
theorem dX3_cry_11 : decode cX3_cry 11 = .ok (.iload_n 2, 1) := by decide +kernel
theorem dX3_cry_12 : decode cX3_cry 12 = .ok (.invokestatic 106, 3) := by decide +kernel
theorem dX3_cry_15 : decode cX3_cry 15 = .ok (.ifCond .ne 6, 3) := by decide +kernel
theorem dX3_cry_18 : decode cX3_cry 18 = .ok (.bipush (-102), 2) := by decide +kernel
theorem dX3_cry_20 : decode cX3_cry 20 = .ok (.ireturn, 1) := by decide +kernel
theorem dX3_cry_21 : decode cX3_cry 21 = .ok (.aload_n 0, 1) := by decide +kernel
theorem dX3_cry_22 : decode cX3_cry 22 = .ok (.getfield 19, 3) := by decide +kernel
theorem dX3_cry_25 : decode cX3_cry 25 = .ok (.getfield 109, 3) := by decide +kernel
theorem dX3_cry_28 : decode cX3_cry 28 = .ok (.iload_n 2, 1) := by decide +kernel
theorem dX3_cry_29 : decode cX3_cry 29 = .ok (.if_icmp .ge 8, 3) := by decide +kernel
theorem dX3_cry_32 : decode cX3_cry 32 = .ok (.bipush (-103), 2) := by decide +kernel
theorem dX3_cry_34 : decode cX3_cry 34 = .ok (.goto 12, 3) := by decide +kernel
theorem dX3_cry_37 : decode cX3_cry 37 = .ok (.aload_n 0, 1) := by decide +kernel
theorem dX3_cry_38 : decode cX3_cry 38 = .ok (.getfield 19, 3) := by decide +kernel
theorem dX3_cry_41 : decode cX3_cry 41 = .ok (.iload_n 1, 1) := by decide +kernel
theorem dX3_cry_42 : decode cX3_cry 42 = .ok (.iload_n 2, 1) := by decide +kernel
theorem dX3_cry_43 : decode cX3_cry 43 = .ok (.invokevirtual 112, 3) := by decide +kernel
theorem dX3_cry_46 : decode cX3_cry 46 = .ok (.ireturn, 1) := by decide +kernel
theorem dX3_would_0 : decode cX3_would 0 = .ok (.aload_n 0, 1) := by decide +kernel
theorem dX3_would_1 : decode cX3_would 1 = .ok (.iload_n 1, 1) := by decide +kernel
theorem dX3_would_2 : decode cX3_would 2 = .ok (.invokevirtual 63, 3) := by decide +kernel
theorem dX3_would_5 : decode cX3_would 5 = .ok (.ifCond .ne 6, 3) := by decide +kernel
theorem dX3_would_8 : decode cX3_would 8 = .ok (.bipush (-101), 2) := by decide +kernel
theorem dX3_would_10 : decode cX3_would 10 = .ok (.ireturn, 1) := by decide +kernel
theorem dX3_would_11 : decode cX3_would 11 = .ok (.iload_n 2, 1) := by decide +kernel
theorem dX3_would_12 : decode cX3_would 12 = .ok (.invokestatic 106, 3) := by decide +kernel
theorem dX3_would_15 : decode cX3_would 15 = .ok (.ifCond .ne 6, 3) := by decide +kernel
theorem dX3_would_18 : decode cX3_would 18 = .ok (.bipush (-102), 2) := by decide +kernel
theorem dX3_would_20 : decode cX3_would 20 = .ok (.ireturn, 1) := by decide +kernel
theorem dX3_would_21 : decode cX3_would 21 = .ok (.aload_n 0, 1) := by decide +kernel
theorem dX3_would_22 : decode cX3_would 22 = .ok (.getfield 19, 3) := by decide +kernel
theorem dX3_would_25 : decode cX3_would 25 = .ok (.aload_n 0, 1) := by decide +kernel
theorem dX3_would_26 : decode cX3_would 26 = .ok (.getfield 19, 3) := by decide +kernel
theorem dX3_would_29 : decode cX3_would 29 = .ok (.aload_n 0, 1) := by decide +kernel
theorem dX3_would_30 : decode cX3_would 30 = .ok (.getfield 19, 3) := by decide +kernel
theorem dX3_would_33 : decode cX3_would 33 = .ok (.getfield 87, 3) := by decide +kernel
theorem dX3_would_36 : decode cX3_would 36 = .ok (.iload_n 1, 1) := by decide +kernel
theorem dX3_would_37 : decode cX3_would 37 = .ok (.iload_n 2, 1) := by decide +kernel
theorem dX3_would_38 : decode cX3_would 38 = .ok (.iconst 0, 1) := by decide +kernel
theorem dX3_would_39 : decode cX3_would 39 = .ok (.invokevirtual 115, 3) := by decide +kernel
theorem dX3_would_42 : decode cX3_would 42 = .ok (.invokevirtual 90, 3) := by decide +kernel
theorem dX3_would_45 : decode cX3_would 45 = .ok (.ireturn, 1) := by decide +kernel
theorem dX3_honey_0 : decode cX3_honey 0 = .ok (.aload_n 0, 1) := by decide +kernel
theorem dX3_honey_1 : decode cX3_honey 1 = .ok (.invokevirtual 119, 3) := by decide +kernel
theorem dX3_honey_4 : decode cX3_honey 4 = .ok (.ifCond .eq 13, 3) := by decide +kernel
theorem dX3_honey_7 : decode cX3_honey 7 = .ok (.aload_n 0, 1) := by decide +kernel
theorem dX3_honey_8 : decode cX3_honey 8 = .ok (.getfield 19, 3) := by decide +kernel
theorem dX3_honey_11 : decode cX3_honey 11 = .ok (.invokevirtual 122, 3) := by decide +kernel
theorem dX3_honey_14 : decode cX3_honey 14 = .ok (.goto 5, 3) := by decide +kernel
theorem dX3_honey_17 : decode cX3_honey 17 = .ok (.bipush (-103), 2) := by decide +kernel
theorem dX3_honey_19 : decode cX3_honey 19 = .ok (.ireturn, 1) := by decide +kernel
theorem dX3_day_0 : decode cX3_day 0 = .ok (.aload_n 0, 1) := by decide +kernel
theorem dX3_day_1 : decode cX3_day 1 = .ok (.invokevirtual 119, 3) := by decide +kernel
theorem dX3_day_4 : decode cX3_day 4 = .ok (.ifCond .eq 13, 3) := by decide +kernel
theorem dX3_day_7 : decode cX3_day 7 = .ok (.aload_n 0, 1) := by decide +kernel
theorem dX3_day_8 : decode cX3_day 8 = .ok (.getfield 19, 3) := by decide +kernel
theorem dX3_day_11 : decode cX3_day 11 = .ok (.invokevirtual 125, 3) := by decide +kernel
theorem dX3_day_14 : decode cX3_day 14 = .ok (.goto 5, 3) := by decide +kernel
theorem dX3_day_17 : decode cX3_day 17 = .ok (.bipush (-103), 2) := by decide +kernel
theorem dX3_day_19 : decode cX3_day 19 = .ok (.ireturn, 1) := by decide +kernel
theorem dX3_decree_0 : decode cX3_decree 0 = .ok (.aload_n 0, 1) := by decide +kernel
theorem dX3_decree_1 : decode cX3_decree 1 = .ok (.invokevirtual 119, 3) := by decide +kernel
theorem dX3_decree_4 : decode cX3_decree 4 = .ok (.ifCond .eq 13, 3) := by decide +kernel
theorem dX3_decree_7 : decode cX3_decree 7 = .ok (.aload_n 0, 1) := by decide +kernel
theorem dX3_decree_8 : decode cX3_decree 8 = .ok (.getfield 19, 3) := by decide +kernel
theorem dX3_decree_11 : decode cX3_decree 11 = .ok (.invokevirtual 128, 3) := by decide +kernel
theorem dX3_decree_14 : decode cX3_decree 14 = .ok (.goto 5, 3) := by decide +kernel
theorem dX3_decree_17 : decode cX3_decree 17 = .ok (.bipush (-103), 2) := by decide +kernel
theorem dX3_decree_19 : decode cX3_decree 19 = .ok (.ireturn, 1) := by decide +kernel
theorem dX3_least_0 : decode cX3_least 0 = .ok (.iload_n 1, 1) := by decide +kernel
theorem dX3_least_1 : decode cX3_least 1 = .ok (.ifCond .lt 8, 3) := by decide +kernel
theorem dX3_least_4 : decode cX3_least 4 = .ok (.iload_n 1, 1) := by decide +kernel
theorem dX3_least_5 : decode cX3_least 5 = .ok (.iconst 1, 1) := by decide +kernel
theorem dX3_least_6 : decode cX3_least 6 = .ok (.if_icmp .le 6, 3) := by decide +kernel
theorem dX3_least_9 : decode cX3_least 9 = .ok (.bipush (-102), 2) := by decide +kernel
theorem dX3_least_11 : decode cX3_least 11 = .ok (.ireturn, 1) := by decide +kernel
theorem dX3_least_12 : decode cX3_least 12 = .ok (.aload_n 0, 1) := by decide +kernel
theorem dX3_least_13 : decode cX3_least 13 = .ok (.invokevirtual 119, 3) := by decide +kernel
theorem dX3_least_16 : decode cX3_least 16 = .ok (.ifCond .ne 6, 3) := by decide +kernel
theorem dX3_least_19 : decode cX3_least 19 = .ok (.bipush (-103), 2) := by decide +kernel
theorem dX3_least_21 : decode cX3_least 21 = .ok (.ireturn, 1) := by decide +kernel
theorem dX3_least_22 : decode cX3_least 22 = .ok (.aload_n 0, 1) := by decide +kernel
theorem dX3_least_23 : decode cX3_least 23 = .ok (.getfield 29, 3) := by decide +kernel
theorem dX3_least_26 : decode cX3_least 26 = .ok (.aload_n 0, 1) := by decide +kernel
theorem dX3_least_27 : decode cX3_least 27 = .ok (.getfield 19, 3) := by decide +kernel
theorem dX3_least_30 : decode cX3_least 30 = .ok (.invokevirtual 131, 3) := by decide +kernel
theorem dX3_least_33 : decode cX3_least 33 = .ok (.iload_n 1, 1) := by decide +kernel
theorem dX3_least_34 : decode cX3_least 34 = .ok (.ifCond .ne 13, 3) := by decide +kernel
theorem dX3_least_37 : decode cX3_least 37 = .ok (.aload_n 0, 1) := by decide +kernel
theorem dX3_least_38 : decode cX3_least 38 = .ok (.getfield 29, 3) := by decide +kernel
theorem dX3_least_41 : decode cX3_least 41 = .ok (.getfield 135, 3) := by decide +kernel
theorem dX3_least_44 : decode cX3_least 44 = .ok (.goto 10, 3) := by decide +kernel
theorem dX3_least_47 : decode cX3_least 47 = .ok (.aload_n 0, 1) := by decide +kernel
theorem dX3_least_48 : decode cX3_least 48 = .ok (.getfield 29, 3) := by decide +kernel
theorem dX3_least_51 : decode cX3_least 51 = .ok (.getfield 138, 3) := by decide +kernel
theorem dX3_least_54 : decode cX3_least 54 = .ok (.ireturn, 1) := by decide +kernel
theorem dX3_cover_0 : decode cX3_cover 0 = .ok (.iload_n 2, 1) := by decide +kernel
theorem dX3_cover_1 : decode cX3_cover 1 = .ok (.ifCond .eq 15, 3) := by decide +kernel
theorem dX3_cover_4 : decode cX3_cover 4 = .ok (.iload_n 2, 1) := by decide +kernel
theorem dX3_cover_5 : decode cX3_cover 5 = .ok (.bipush 10, 2) := by decide +kernel
theorem dX3_cover_7 : decode cX3_cover 7 = .ok (.if_icmp .lt 13, 3) := by decide +kernel
theorem dX3_cover_10 : decode cX3_cover 10 = .ok (.iload_n 2, 1) := by decide +kernel
theorem dX3_cover_11 : decode cX3_cover 11 = .ok (.bipush 12, 2) := by decide +kernel
theorem dX3_cover_13 : decode cX3_cover 13 = .ok (.if_icmp .gt 7, 3) := by decide +kernel
theorem dX3_cover_16 : decode cX3_cover 16 = .ok (.iconst 1, 1) := by decide +kernel
theorem dX3_cover_17 : decode cX3_cover 17 = .ok (.goto 4, 3) := by decide +kernel
theorem dX3_cover_20 : decode cX3_cover 20 = .ok (.iconst 0, 1) := by decide +kernel
theorem dX3_cover_21 : decode cX3_cover 21 = .ok (.istore_n 3, 1) := by decide +kernel
theorem dX3_cover_22 : decode cX3_cover 22 = .ok (.iload_n 1, 1) := by decide +kernel
theorem dX3_cover_23 : decode cX3_cover 23 = .ok (.ifCond .lt 18, 3) := by decide +kernel
theorem dX3_cover_26 : decode cX3_cover 26 = .ok (.iload_n 1, 1) := by decide +kernel
theorem dX3_cover_27 : decode cX3_cover 27 = .ok (.aload_n 0, 1) := by decide +kernel
theorem dX3_cover_28 : decode cX3_cover 28 = .ok (.getfield 19, 3) := by decide +kernel
theorem dX3_cover_31 : decode cX3_cover 31 = .ok (.invokevirtual 141, 3) := by decide +kernel
theorem dX3_cover_34 : decode cX3_cover 34 = .ok (.if_icmp .gt 7, 3) := by decide +kernel
theorem dX3_cover_37 : decode cX3_cover 37 = .ok (.iload_n 3, 1) := by decide +kernel
theorem dX3_cover_38 : decode cX3_cover 38 = .ok (.ifCond .ne 6, 3) := by decide +kernel
theorem dX3_cover_41 : decode cX3_cover 41 = .ok (.bipush (-102), 2) := by decide +kernel
theorem dX3_cover_43 : decode cX3_cover 43 = .ok (.ireturn, 1) := by decide +kernel
theorem dX3_cover_44 : decode cX3_cover 44 = .ok (.aload_n 0, 1) := by decide +kernel
theorem dX3_cover_45 : decode cX3_cover 45 = .ok (.invokevirtual 119, 3) := by decide +kernel
theorem dX3_cover_48 : decode cX3_cover 48 = .ok (.ifCond .eq 18, 3) := by decide +kernel
theorem dX3_cover_51 : decode cX3_cover 51 = .ok (.aload_n 0, 1) := by decide +kernel
theorem dX3_cover_52 : decode cX3_cover 52 = .ok (.getfield 19, 3) := by decide +kernel
theorem dX3_cover_55 : decode cX3_cover 55 = .ok (.iload_n 1, 1) := by decide +kernel
theorem dX3_cover_56 : decode cX3_cover 56 = .ok (.invokestatic 144, 3) := by decide +kernel
theorem dX3_cover_59 : decode cX3_cover 59 = .ok (.iload_n 2, 1) := by decide +kernel
theorem dX3_cover_60 : decode cX3_cover 60 = .ok (.invokestatic 148, 3) := by decide +kernel
theorem dX3_cover_63 : decode cX3_cover 63 = .ok (.goto 5, 3) := by decide +kernel
theorem dX3_cover_66 : decode cX3_cover 66 = .ok (.bipush (-103), 2) := by decide +kernel
theorem dX3_cover_68 : decode cX3_cover 68 = .ok (.ireturn, 1) := by decide +kernel
theorem dX3_hush_0 : decode cX3_hush 0 = .ok (.aload_n 0, 1) := by decide +kernel
theorem dX3_hush_1 : decode cX3_hush 1 = .ok (.iload_n 1, 1) := by decide +kernel
theorem dX3_hush_2 : decode cX3_hush 2 = .ok (.invokevirtual 78, 3) := by decide +kernel
theorem dX3_hush_5 : decode cX3_hush 5 = .ok (.ifCond .eq 11, 3) := by decide +kernel
theorem dX3_hush_8 : decode cX3_hush 8 = .ok (.aload_n 0, 1) := by decide +kernel
theorem dX3_hush_9 : decode cX3_hush 9 = .ok (.iload_n 2, 1) := by decide +kernel
theorem dX3_hush_10 : decode cX3_hush 10 = .ok (.invokevirtual 63, 3) := by decide +kernel
theorem dX3_hush_13 : decode cX3_hush 13 = .ok (.ifCond .ne 6, 3) := by decide +kernel
theorem dX3_hush_16 : decode cX3_hush 16 = .ok (.bipush (-101), 2) := by decide +kernel
theorem dX3_hush_18 : decode cX3_hush 18 = .ok (.ireturn, 1) := by decide +kernel
theorem dX3_hush_19 : decode cX3_hush 19 = .ok (.iload_n 3, 1) := by decide +kernel
theorem dX3_hush_20 : decode cX3_hush 20 = .ok (.invokestatic 106, 3) := by decide +kernel
theorem dX3_hush_23 : decode cX3_hush 23 = .ok (.ifCond .eq 14, 3) := by decide +kernel
theorem dX3_hush_26 : decode cX3_hush 26 = .ok (.iload 4, 2) := by decide +kernel
theorem dX3_hush_28 : decode cX3_hush 28 = .ok (.ifCond .lt 9, 3) := by decide +kernel
theorem dX3_hush_31 : decode cX3_hush 31 = .ok (.iload 4, 2) := by decide +kernel
theorem dX3_hush_33 : decode cX3_hush 33 = .ok (.iconst 1, 1) := by decide +kernel
theorem dX3_hush_34 : decode cX3_hush 34 = .ok (.if_icmp .le 6, 3) := by decide +kernel
theorem dX3_hush_37 : decode cX3_hush 37 = .ok (.bipush (-102), 2) := by decide +kernel
theorem dX3_hush_39 : decode cX3_hush 39 = .ok (.ireturn, 1) := by decide +kernel
theorem dX3_hush_40 : decode cX3_hush 40 = .ok (.aload_n 0, 1) := by decide +kernel
theorem dX3_hush_41 : decode cX3_hush 41 = .ok (.getfield 19, 3) := by decide +kernel
theorem dX3_hush_44 : decode cX3_hush 44 = .ok (.iload_n 1, 1) := by decide +kernel
theorem dX3_hush_45 : decode cX3_hush 45 = .ok (.iload_n 2, 1) := by decide +kernel
theorem dX3_hush_46 : decode cX3_hush 46 = .ok (.iload_n 3, 1) := by decide +kernel
theorem dX3_hush_47 : decode cX3_hush 47 = .ok (.invokestatic 151, 3) := by decide +kernel
theorem dX3_hush_50 : decode cX3_hush 50 = .ok (.istore 5, 2) := by decide +kernel
theorem dX3_hush_52 : decode cX3_hush 52 = .ok (.iload 4, 2) := by decide +kernel
theorem dX3_hush_54 : decode cX3_hush 54 = .ok (.ifCond .ne 11, 3) := by decide +kernel
theorem dX3_hush_57 : decode cX3_hush 57 = .ok (.iload 5, 2) := by decide +kernel
theorem dX3_hush_59 : decode cX3_hush 59 = .ok (.invokestatic 155, 3) := by decide +kernel
theorem dX3_hush_62 : decode cX3_hush 62 = .ok (.goto 5, 3) := by decide +kernel
theorem dX3_hush_65 : decode cX3_hush 65 = .ok (.iload 5, 2) := by decide +kernel
theorem dX3_hush_67 : decode cX3_hush 67 = .ok (.ireturn, 1) := by decide +kernel
theorem dX3_tell_0 : decode cX3_tell 0 = .ok (.aload_n 0, 1) := by decide +kernel
theorem dX3_tell_1 : decode cX3_tell 1 = .ok (.iload_n 1, 1) := by decide +kernel
theorem dX3_tell_2 : decode cX3_tell 2 = .ok (.invokevirtual 78, 3) := by decide +kernel
theorem dX3_tell_5 : decode cX3_tell 5 = .ok (.ifCond .ne 6, 3) := by decide +kernel
theorem dX3_tell_8 : decode cX3_tell 8 = .ok (.bipush (-101), 2) := by decide +kernel
theorem dX3_tell_10 : decode cX3_tell 10 = .ok (.ireturn, 1) := by decide +kernel
theorem dX3_tell_11 : decode cX3_tell 11 = .ok (.aload_n 0, 1) := by decide +kernel
theorem dX3_tell_12 : decode cX3_tell 12 = .ok (.getfield 19, 3) := by decide +kernel
theorem dX3_tell_15 : decode cX3_tell 15 = .ok (.getfield 158, 3) := by decide +kernel
theorem dX3_tell_18 : decode cX3_tell 18 = .ok (.bipush 8, 2) := by decide +kernel
theorem dX3_tell_20 : decode cX3_tell 20 = .ok (.if_icmp .lt 8, 3) := by decide +kernel
theorem dX3_tell_23 : decode cX3_tell 23 = .ok (.bipush (-104), 2) := by decide +kernel
theorem dX3_tell_25 : decode cX3_tell 25 = .ok (.goto 12, 3) := by decide +kernel
theorem dX3_tell_28 : decode cX3_tell 28 = .ok (.aload_n 0, 1) := by decide +kernel
theorem dX3_tell_29 : decode cX3_tell 29 = .ok (.getfield 19, 3) := by decide +kernel
theorem dX3_tell_32 : decode cX3_tell 32 = .ok (.iload_n 1, 1) := by decide +kernel
theorem dX3_tell_33 : decode cX3_tell 33 = .ok (.iload_n 2, 1) := by decide +kernel
theorem dX3_tell_34 : decode cX3_tell 34 = .ok (.invokevirtual 161, 3) := by decide +kernel
theorem dX3_tell_37 : decode cX3_tell 37 = .ok (.ireturn, 1) := by decide +kernel
theorem dX3_forget_0 : decode cX3_forget 0 = .ok (.aload_n 0, 1) := by decide +kernel
theorem dX3_forget_1 : decode cX3_forget 1 = .ok (.getfield 19, 3) := by decide +kernel
theorem dX3_forget_4 : decode cX3_forget 4 = .ok (.invokevirtual 165, 3) := by decide +kernel
theorem dX3_forget_7 : decode cX3_forget 7 = .ok (.ireturn, 1) := by decide +kernel
theorem dX3_where_0 : decode cX3_where 0 = .ok (.iload_n 1, 1) := by decide +kernel
theorem dX3_where_1 : decode cX3_where 1 = .ok (.ifCond .lt 8, 3) := by decide +kernel
theorem dX3_where_4 : decode cX3_where 4 = .ok (.iload_n 1, 1) := by decide +kernel
theorem dX3_where_5 : decode cX3_where 5 = .ok (.iconst 1, 1) := by decide +kernel
theorem dX3_where_6 : decode cX3_where 6 = .ok (.if_icmp .le 6, 3) := by decide +kernel
theorem dX3_where_9 : decode cX3_where 9 = .ok (.bipush (-102), 2) := by decide +kernel
theorem dX3_where_11 : decode cX3_where 11 = .ok (.ireturn, 1) := by decide +kernel
theorem dX3_where_12 : decode cX3_where 12 = .ok (.aload_n 0, 1) := by decide +kernel
theorem dX3_where_13 : decode cX3_where 13 = .ok (.invokevirtual 119, 3) := by decide +kernel
theorem dX3_where_16 : decode cX3_where 16 = .ok (.ifCond .ne 6, 3) := by decide +kernel
theorem dX3_where_19 : decode cX3_where 19 = .ok (.bipush (-103), 2) := by decide +kernel
theorem dX3_where_21 : decode cX3_where 21 = .ok (.ireturn, 1) := by decide +kernel
theorem dX3_where_22 : decode cX3_where 22 = .ok (.aload_n 0, 1) := by decide +kernel
theorem dX3_where_23 : decode cX3_where 23 = .ok (.getfield 29, 3) := by decide +kernel
theorem dX3_where_26 : decode cX3_where 26 = .ok (.aload_n 0, 1) := by decide +kernel
theorem dX3_where_27 : decode cX3_where 27 = .ok (.getfield 19, 3) := by decide +kernel
theorem dX3_where_30 : decode cX3_where 30 = .ok (.invokevirtual 168, 3) := by decide +kernel
theorem dX3_where_33 : decode cX3_where 33 = .ok (.iload_n 1, 1) := by decide +kernel
theorem dX3_where_34 : decode cX3_where 34 = .ok (.ifCond .ne 13, 3) := by decide +kernel
theorem dX3_where_37 : decode cX3_where 37 = .ok (.aload_n 0, 1) := by decide +kernel
theorem dX3_where_38 : decode cX3_where 38 = .ok (.getfield 29, 3) := by decide +kernel
theorem dX3_where_41 : decode cX3_where 41 = .ok (.getfield 171, 3) := by decide +kernel
theorem dX3_where_44 : decode cX3_where 44 = .ok (.goto 10, 3) := by decide +kernel
theorem dX3_where_47 : decode cX3_where 47 = .ok (.aload_n 0, 1) := by decide +kernel
theorem dX3_where_48 : decode cX3_where 48 = .ok (.getfield 29, 3) := by decide +kernel
theorem dX3_where_51 : decode cX3_where 51 = .ok (.getfield 174, 3) := by decide +kernel
theorem dX3_where_54 : decode cX3_where 54 = .ok (.ireturn, 1) := by decide +kernel
theorem dX3_ask_0 : decode cX3_ask 0 = .ok (.aload_n 0, 1) := by decide +kernel
theorem dX3_ask_1 : decode cX3_ask 1 = .ok (.invokevirtual 119, 3) := by decide +kernel
theorem dX3_ask_4 : decode cX3_ask 4 = .ok (.ifCond .ne 6, 3) := by decide +kernel
theorem dX3_ask_7 : decode cX3_ask 7 = .ok (.bipush (-103), 2) := by decide +kernel
theorem dX3_ask_9 : decode cX3_ask 9 = .ok (.ireturn, 1) := by decide +kernel
theorem dX3_ask_10 : decode cX3_ask 10 = .ok (.aload_n 0, 1) := by decide +kernel
theorem dX3_ask_11 : decode cX3_ask 11 = .ok (.getfield 29, 3) := by decide +kernel
theorem dX3_ask_14 : decode cX3_ask 14 = .ok (.aload_n 0, 1) := by decide +kernel
theorem dX3_ask_15 : decode cX3_ask 15 = .ok (.getfield 19, 3) := by decide +kernel
theorem dX3_ask_18 : decode cX3_ask 18 = .ok (.invokevirtual 168, 3) := by decide +kernel
theorem dX3_ask_21 : decode cX3_ask 21 = .ok (.aload_n 0, 1) := by decide +kernel
theorem dX3_ask_22 : decode cX3_ask 22 = .ok (.getfield 29, 3) := by decide +kernel
theorem dX3_ask_25 : decode cX3_ask 25 = .ok (.aload_n 0, 1) := by decide +kernel
theorem dX3_ask_26 : decode cX3_ask 26 = .ok (.getfield 19, 3) := by decide +kernel
theorem dX3_ask_29 : decode cX3_ask 29 = .ok (.getfield 177, 3) := by decide +kernel
theorem dX3_ask_32 : decode cX3_ask 32 = .ok (.invokevirtual 180, 3) := by decide +kernel
theorem dX3_ask_35 : decode cX3_ask 35 = .ok (.ireturn, 1) := by decide +kernel
theorem dX3_days_0 : decode cX3_days 0 = .ok (.iload_n 1, 1) := by decide +kernel
theorem dX3_days_1 : decode cX3_days 1 = .ok (.iconst 1, 1) := by decide +kernel
theorem dX3_days_2 : decode cX3_days 2 = .ok (.if_icmp .lt 22, 3) := by decide +kernel
theorem dX3_days_5 : decode cX3_days 5 = .ok (.iload_n 1, 1) := by decide +kernel
theorem dX3_days_6 : decode cX3_days 6 = .ok (.bipush 60, 2) := by decide +kernel
theorem dX3_days_8 : decode cX3_days 8 = .ok (.if_icmp .gt 16, 3) := by decide +kernel
theorem dX3_days_11 : decode cX3_days 11 = .ok (.iload_n 2, 1) := by decide +kernel
theorem dX3_days_12 : decode cX3_days 12 = .ok (.ifCond .lt 12, 3) := by decide +kernel
theorem dX3_days_15 : decode cX3_days 15 = .ok (.iload_n 3, 1) := by decide +kernel
theorem dX3_days_16 : decode cX3_days 16 = .ok (.ifCond .lt 8, 3) := by decide +kernel
theorem dX3_days_19 : decode cX3_days 19 = .ok (.iload_n 3, 1) := by decide +kernel
theorem dX3_days_20 : decode cX3_days 20 = .ok (.iconst 2, 1) := by decide +kernel
theorem dX3_days_21 : decode cX3_days 21 = .ok (.if_icmp .le 6, 3) := by decide +kernel
theorem dX3_days_24 : decode cX3_days 24 = .ok (.bipush (-102), 2) := by decide +kernel
theorem dX3_days_26 : decode cX3_days 26 = .ok (.ireturn, 1) := by decide +kernel
theorem dX3_days_27 : decode cX3_days 27 = .ok (.aload_n 0, 1) := by decide +kernel
theorem dX3_days_28 : decode cX3_days 28 = .ok (.invokevirtual 119, 3) := by decide +kernel
theorem dX3_days_31 : decode cX3_days 31 = .ok (.ifCond .ne 6, 3) := by decide +kernel
theorem dX3_days_34 : decode cX3_days 34 = .ok (.bipush (-103), 2) := by decide +kernel
theorem dX3_days_36 : decode cX3_days 36 = .ok (.ireturn, 1) := by decide +kernel
theorem dX3_days_37 : decode cX3_days 37 = .ok (.aload_n 0, 1) := by decide +kernel
theorem dX3_days_38 : decode cX3_days 38 = .ok (.getfield 29, 3) := by decide +kernel
theorem dX3_days_41 : decode cX3_days 41 = .ok (.aload_n 0, 1) := by decide +kernel
theorem dX3_days_42 : decode cX3_days 42 = .ok (.getfield 19, 3) := by decide +kernel
theorem dX3_days_45 : decode cX3_days 45 = .ok (.iload_n 1, 1) := by decide +kernel
theorem dX3_days_46 : decode cX3_days 46 = .ok (.iload_n 2, 1) := by decide +kernel
theorem dX3_days_47 : decode cX3_days 47 = .ok (.invokevirtual 183, 3) := by decide +kernel
theorem dX3_days_50 : decode cX3_days 50 = .ok (.iload_n 3, 1) := by decide +kernel
theorem dX3_days_51 : decode cX3_days 51 = .ok (.lookupswitch 41 #[(0, 25), (1, 33)], 25) := by decide +kernel
theorem dX3_days_76 : decode cX3_days 76 = .ok (.aload_n 0, 1) := by decide +kernel
theorem dX3_days_77 : decode cX3_days 77 = .ok (.getfield 29, 3) := by decide +kernel
theorem dX3_days_80 : decode cX3_days 80 = .ok (.getfield 187, 3) := by decide +kernel
theorem dX3_days_83 : decode cX3_days 83 = .ok (.ireturn, 1) := by decide +kernel
theorem dX3_days_84 : decode cX3_days 84 = .ok (.aload_n 0, 1) := by decide +kernel
theorem dX3_days_85 : decode cX3_days 85 = .ok (.getfield 29, 3) := by decide +kernel
theorem dX3_days_88 : decode cX3_days 88 = .ok (.getfield 190, 3) := by decide +kernel
theorem dX3_days_91 : decode cX3_days 91 = .ok (.ireturn, 1) := by decide +kernel
theorem dX3_days_92 : decode cX3_days 92 = .ok (.aload_n 0, 1) := by decide +kernel
theorem dX3_days_93 : decode cX3_days 93 = .ok (.getfield 29, 3) := by decide +kernel
theorem dX3_days_96 : decode cX3_days 96 = .ok (.getfield 193, 3) := by decide +kernel
theorem dX3_days_99 : decode cX3_days 99 = .ok (.ireturn, 1) := by decide +kernel
theorem dX3_image_0 : decode cX3_image 0 = .ok (.aload_n 0, 1) := by decide +kernel
theorem dX3_image_1 : decode cX3_image 1 = .ok (.invokevirtual 119, 3) := by decide +kernel
theorem dX3_image_4 : decode cX3_image 4 = .ok (.ifCond .ne 6, 3) := by decide +kernel
theorem dX3_image_7 : decode cX3_image 7 = .ok (.bipush (-103), 2) := by decide +kernel
theorem dX3_image_9 : decode cX3_image 9 = .ok (.ireturn, 1) := by decide +kernel
theorem dX3_image_10 : decode cX3_image 10 = .ok (.aload_n 0, 1) := by decide +kernel
theorem dX3_image_11 : decode cX3_image 11 = .ok (.getfield 23, 3) := by decide +kernel
theorem dX3_image_14 : decode cX3_image 14 = .ok (.aload_n 0, 1) := by decide +kernel
theorem dX3_image_15 : decode cX3_image 15 = .ok (.getfield 19, 3) := by decide +kernel
theorem dX3_image_18 : decode cX3_image 18 = .ok (.invokevirtual 196, 3) := by decide +kernel
theorem dX3_image_21 : decode cX3_image 21 = .ok (.aload_n 0, 1) := by decide +kernel
theorem dX3_image_22 : decode cX3_image 22 = .ok (.iconst 1, 1) := by decide +kernel
theorem dX3_image_23 : decode cX3_image 23 = .ok (.putfield 33, 3) := by decide +kernel
theorem dX3_image_26 : decode cX3_image 26 = .ok (.aload_n 0, 1) := by decide +kernel
theorem dX3_image_27 : decode cX3_image 27 = .ok (.getfield 19, 3) := by decide +kernel
theorem dX3_image_30 : decode cX3_image 30 = .ok (.getfield 199, 3) := by decide +kernel
theorem dX3_image_33 : decode cX3_image 33 = .ok (.ireturn, 1) := by decide +kernel
theorem dX3_restore_0 : decode cX3_restore 0 = .ok (.aload_n 0, 1) := by decide +kernel
theorem dX3_restore_1 : decode cX3_restore 1 = .ok (.getfield 33, 3) := by decide +kernel
theorem dX3_restore_4 : decode cX3_restore 4 = .ok (.ifCond .ne 6, 3) := by decide +kernel
theorem dX3_restore_7 : decode cX3_restore 7 = .ok (.bipush (-103), 2) := by decide +kernel
theorem dX3_restore_9 : decode cX3_restore 9 = .ok (.ireturn, 1) := by decide +kernel
theorem dX3_restore_10 : decode cX3_restore 10 = .ok (.aload_n 0, 1) := by decide +kernel
theorem dX3_restore_11 : decode cX3_restore 11 = .ok (.getfield 19, 3) := by decide +kernel
theorem dX3_restore_14 : decode cX3_restore 14 = .ok (.aload_n 0, 1) := by decide +kernel
theorem dX3_restore_15 : decode cX3_restore 15 = .ok (.getfield 23, 3) := by decide +kernel
theorem dX3_restore_18 : decode cX3_restore 18 = .ok (.invokevirtual 196, 3) := by decide +kernel
theorem dX3_restore_21 : decode cX3_restore 21 = .ok (.aload_n 0, 1) := by decide +kernel
theorem dX3_restore_22 : decode cX3_restore 22 = .ok (.getfield 19, 3) := by decide +kernel
theorem dX3_restore_25 : decode cX3_restore 25 = .ok (.getfield 199, 3) := by decide +kernel
theorem dX3_restore_28 : decode cX3_restore 28 = .ok (.ireturn, 1) := by decide +kernel
theorem dX3_count_0 : decode cX3_count 0 = .ok (.iload_n 1, 1) := by decide +kernel
theorem dX3_count_1 : decode cX3_count 1 = .ok (.tableswitch 142 0 9 #[55, 63, 71, 79, 87, 105, 113, 121, 129, 137], 55) := by decide +kernel
theorem dX3_count_56 : decode cX3_count 56 = .ok (.aload_n 0, 1) := by decide +kernel
theorem dX3_count_57 : decode cX3_count 57 = .ok (.getfield 19, 3) := by decide +kernel
theorem dX3_count_60 : decode cX3_count 60 = .ok (.getfield 177, 3) := by decide +kernel
theorem dX3_count_63 : decode cX3_count 63 = .ok (.ireturn, 1) := by decide +kernel
theorem dX3_count_64 : decode cX3_count 64 = .ok (.aload_n 0, 1) := by decide +kernel
theorem dX3_count_65 : decode cX3_count 65 = .ok (.getfield 19, 3) := by decide +kernel
theorem dX3_count_68 : decode cX3_count 68 = .ok (.getfield 109, 3) := by decide +kernel
theorem dX3_count_71 : decode cX3_count 71 = .ok (.ireturn, 1) := by decide +kernel
theorem dX3_count_72 : decode cX3_count 72 = .ok (.aload_n 0, 1) := by decide +kernel
theorem dX3_count_73 : decode cX3_count 73 = .ok (.getfield 19, 3) := by decide +kernel
theorem dX3_count_76 : decode cX3_count 76 = .ok (.getfield 202, 3) := by decide +kernel
theorem dX3_count_79 : decode cX3_count 79 = .ok (.ireturn, 1) := by decide +kernel
theorem dX3_count_80 : decode cX3_count 80 = .ok (.aload_n 0, 1) := by decide +kernel
theorem dX3_count_81 : decode cX3_count 81 = .ok (.getfield 19, 3) := by decide +kernel
theorem dX3_count_84 : decode cX3_count 84 = .ok (.getfield 205, 3) := by decide +kernel
theorem dX3_count_87 : decode cX3_count 87 = .ok (.ireturn, 1) := by decide +kernel
theorem dX3_count_88 : decode cX3_count 88 = .ok (.aload_n 0, 1) := by decide +kernel
theorem dX3_count_89 : decode cX3_count 89 = .ok (.getfield 19, 3) := by decide +kernel
theorem dX3_count_92 : decode cX3_count 92 = .ok (.aload_n 0, 1) := by decide +kernel
theorem dX3_count_93 : decode cX3_count 93 = .ok (.getfield 19, 3) := by decide +kernel
theorem dX3_count_96 : decode cX3_count 96 = .ok (.getfield 87, 3) := by decide +kernel
theorem dX3_count_99 : decode cX3_count 99 = .ok (.invokevirtual 90, 3) := by decide +kernel
theorem dX3_count_102 : decode cX3_count 102 = .ok (.invokestatic 208, 3) := by decide +kernel
theorem dX3_count_105 : decode cX3_count 105 = .ok (.ireturn, 1) := by decide +kernel
theorem dX3_count_106 : decode cX3_count 106 = .ok (.aload_n 0, 1) := by decide +kernel
theorem dX3_count_107 : decode cX3_count 107 = .ok (.getfield 19, 3) := by decide +kernel
theorem dX3_count_110 : decode cX3_count 110 = .ok (.getfield 199, 3) := by decide +kernel
theorem dX3_count_113 : decode cX3_count 113 = .ok (.ireturn, 1) := by decide +kernel
theorem dX3_count_114 : decode cX3_count 114 = .ok (.aload_n 0, 1) := by decide +kernel
theorem dX3_count_115 : decode cX3_count 115 = .ok (.getfield 19, 3) := by decide +kernel
theorem dX3_count_118 : decode cX3_count 118 = .ok (.getfield 213, 3) := by decide +kernel
theorem dX3_count_121 : decode cX3_count 121 = .ok (.ireturn, 1) := by decide +kernel
theorem dX3_count_122 : decode cX3_count 122 = .ok (.aload_n 0, 1) := by decide +kernel
theorem dX3_count_123 : decode cX3_count 123 = .ok (.getfield 19, 3) := by decide +kernel
theorem dX3_count_126 : decode cX3_count 126 = .ok (.getfield 158, 3) := by decide +kernel
theorem dX3_count_129 : decode cX3_count 129 = .ok (.ireturn, 1) := by decide +kernel
theorem dX3_count_130 : decode cX3_count 130 = .ok (.aload_n 0, 1) := by decide +kernel
theorem dX3_count_131 : decode cX3_count 131 = .ok (.getfield 10, 3) := by decide +kernel
theorem dX3_count_134 : decode cX3_count 134 = .ok (.getfield 216, 3) := by decide +kernel
theorem dX3_count_137 : decode cX3_count 137 = .ok (.ireturn, 1) := by decide +kernel
theorem dX3_count_138 : decode cX3_count 138 = .ok (.aload_n 0, 1) := by decide +kernel
theorem dX3_count_139 : decode cX3_count 139 = .ok (.getfield 37, 3) := by decide +kernel
theorem dX3_count_142 : decode cX3_count 142 = .ok (.ireturn, 1) := by decide +kernel
theorem dX3_count_143 : decode cX3_count 143 = .ok (.bipush (-102), 2) := by decide +kernel
theorem dX3_count_145 : decode cX3_count 145 = .ok (.ireturn, 1) := by decide +kernel
theorem dX3_digest_0 : decode cX3_digest 0 = .ok (.aload_n 0, 1) := by decide +kernel
theorem dX3_digest_1 : decode cX3_digest 1 = .ok (.ldc2_w 219, 3) := by decide +kernel
theorem dX3_digest_4 : decode cX3_digest 4 = .ok (.invokevirtual 221, 3) := by decide +kernel
theorem dX3_digest_7 : decode cX3_digest 7 = .ok (.lstore_n 1, 1) := by decide +kernel
theorem dX3_digest_8 : decode cX3_digest 8 = .ok (.aload_n 0, 1) := by decide +kernel
theorem dX3_digest_9 : decode cX3_digest 9 = .ok (.invokevirtual 119, 3) := by decide +kernel
theorem dX3_digest_12 : decode cX3_digest 12 = .ok (.ifCond .eq 13, 3) := by decide +kernel
theorem dX3_digest_15 : decode cX3_digest 15 = .ok (.aload_n 0, 1) := by decide +kernel
theorem dX3_digest_16 : decode cX3_digest 16 = .ok (.aload_n 0, 1) := by decide +kernel
theorem dX3_digest_17 : decode cX3_digest 17 = .ok (.lload_n 1, 1) := by decide +kernel
theorem dX3_digest_18 : decode cX3_digest 18 = .ok (.invokevirtual 225, 3) := by decide +kernel
theorem dX3_digest_21 : decode cX3_digest 21 = .ok (.invokevirtual 228, 3) := by decide +kernel
theorem dX3_digest_24 : decode cX3_digest 24 = .ok (.lstore_n 1, 1) := by decide +kernel
theorem dX3_digest_25 : decode cX3_digest 25 = .ok (.iconst 0, 1) := by decide +kernel
theorem dX3_digest_26 : decode cX3_digest 26 = .ok (.istore_n 3, 1) := by decide +kernel
theorem dX3_digest_27 : decode cX3_digest 27 = .ok (.iload_n 3, 1) := by decide +kernel
theorem dX3_digest_28 : decode cX3_digest 28 = .ok (.aload_n 0, 1) := by decide +kernel
theorem dX3_digest_29 : decode cX3_digest 29 = .ok (.getfield 10, 3) := by decide +kernel
theorem dX3_digest_32 : decode cX3_digest 32 = .ok (.getfield 216, 3) := by decide +kernel
theorem dX3_digest_35 : decode cX3_digest 35 = .ok (.if_icmp .ge 24, 3) := by decide +kernel
theorem dX3_digest_38 : decode cX3_digest 38 = .ok (.lload_n 1, 1) := by decide +kernel
theorem dX3_digest_39 : decode cX3_digest 39 = .ok (.aload_n 0, 1) := by decide +kernel
theorem dX3_digest_40 : decode cX3_digest 40 = .ok (.getfield 10, 3) := by decide +kernel
theorem dX3_digest_43 : decode cX3_digest 43 = .ok (.getfield 231, 3) := by decide +kernel
theorem dX3_digest_46 : decode cX3_digest 46 = .ok (.iload_n 3, 1) := by decide +kernel
theorem dX3_digest_47 : decode cX3_digest 47 = .ok (.iaload, 1) := by decide +kernel
theorem dX3_digest_48 : decode cX3_digest 48 = .ok (.i2l, 1) := by decide +kernel
theorem dX3_digest_49 : decode cX3_digest 49 = .ok (.invokestatic 234, 3) := by decide +kernel
theorem dX3_digest_52 : decode cX3_digest 52 = .ok (.lstore_n 1, 1) := by decide +kernel
theorem dX3_digest_53 : decode cX3_digest 53 = .ok (.iinc 3 1, 3) := by decide +kernel
theorem dX3_digest_56 : decode cX3_digest 56 = .ok (.goto (-29), 3) := by decide +kernel
theorem dX3_digest_59 : decode cX3_digest 59 = .ok (.iconst 0, 1) := by decide +kernel
theorem dX3_digest_60 : decode cX3_digest 60 = .ok (.istore_n 3, 1) := by decide +kernel
theorem dX3_digest_61 : decode cX3_digest 61 = .ok (.iload_n 3, 1) := by decide +kernel
theorem dX3_digest_62 : decode cX3_digest 62 = .ok (.bipush 9, 2) := by decide +kernel
theorem dX3_digest_64 : decode cX3_digest 64 = .ok (.if_icmp .gt 20, 3) := by decide +kernel
theorem dX3_digest_67 : decode cX3_digest 67 = .ok (.lload_n 1, 1) := by decide +kernel
theorem dX3_digest_68 : decode cX3_digest 68 = .ok (.aload_n 0, 1) := by decide +kernel
theorem dX3_digest_69 : decode cX3_digest 69 = .ok (.iload_n 3, 1) := by decide +kernel
theorem dX3_digest_70 : decode cX3_digest 70 = .ok (.invokevirtual 238, 3) := by decide +kernel
theorem dX3_digest_73 : decode cX3_digest 73 = .ok (.i2l, 1) := by decide +kernel
theorem dX3_digest_74 : decode cX3_digest 74 = .ok (.invokestatic 234, 3) := by decide +kernel
theorem dX3_digest_77 : decode cX3_digest 77 = .ok (.lstore_n 1, 1) := by decide +kernel
theorem dX3_digest_78 : decode cX3_digest 78 = .ok (.iinc 3 1, 3) := by decide +kernel
theorem dX3_digest_81 : decode cX3_digest 81 = .ok (.goto (-20), 3) := by decide +kernel
theorem dX3_digest_84 : decode cX3_digest 84 = .ok (.lload_n 1, 1) := by decide +kernel
theorem dX3_digest_85 : decode cX3_digest 85 = .ok (.lreturn, 1) := by decide +kernel
theorem dX3_foldListeners_0 : decode cX3_foldListeners 0 = .ok (.lload_n 1, 1) := by decide +kernel
theorem dX3_foldListeners_1 : decode cX3_foldListeners 1 = .ok (.lstore_n 3, 1) := by decide +kernel
theorem dX3_foldListeners_2 : decode cX3_foldListeners 2 = .ok (.iconst 0, 1) := by decide +kernel
theorem dX3_foldListeners_3 : decode cX3_foldListeners 3 = .ok (.istore 5, 2) := by decide +kernel
theorem dX3_foldListeners_5 : decode cX3_foldListeners 5 = .ok (.iload 5, 2) := by decide +kernel
theorem dX3_foldListeners_7 : decode cX3_foldListeners 7 = .ok (.aload_n 0, 1) := by decide +kernel
theorem dX3_foldListeners_8 : decode cX3_foldListeners 8 = .ok (.getfield 19, 3) := by decide +kernel
theorem dX3_foldListeners_11 : decode cX3_foldListeners 11 = .ok (.getfield 177, 3) := by decide +kernel
theorem dX3_foldListeners_14 : decode cX3_foldListeners 14 = .ok (.if_icmp .ge 71, 3) := by decide +kernel
theorem dX3_foldListeners_17 : decode cX3_foldListeners 17 = .ok (.iconst 0, 1) := by decide +kernel
theorem dX3_foldListeners_18 : decode cX3_foldListeners 18 = .ok (.istore 6, 2) := by decide +kernel
theorem dX3_foldListeners_20 : decode cX3_foldListeners 20 = .ok (.iload 6, 2) := by decide +kernel
theorem dX3_foldListeners_22 : decode cX3_foldListeners 22 = .ok (.iconst 5, 1) := by decide +kernel
theorem dX3_foldListeners_23 : decode cX3_foldListeners 23 = .ok (.if_icmp .gt 23, 3) := by decide +kernel
theorem dX3_foldListeners_26 : decode cX3_foldListeners 26 = .ok (.lload_n 3, 1) := by decide +kernel
theorem dX3_foldListeners_27 : decode cX3_foldListeners 27 = .ok (.aload_n 0, 1) := by decide +kernel
theorem dX3_foldListeners_28 : decode cX3_foldListeners 28 = .ok (.iload 5, 2) := by decide +kernel
theorem dX3_foldListeners_30 : decode cX3_foldListeners 30 = .ok (.iload 6, 2) := by decide +kernel
theorem dX3_foldListeners_32 : decode cX3_foldListeners 32 = .ok (.invokevirtual 241, 3) := by decide +kernel
theorem dX3_foldListeners_35 : decode cX3_foldListeners 35 = .ok (.i2l, 1) := by decide +kernel
theorem dX3_foldListeners_36 : decode cX3_foldListeners 36 = .ok (.invokestatic 234, 3) := by decide +kernel
theorem dX3_foldListeners_39 : decode cX3_foldListeners 39 = .ok (.lstore_n 3, 1) := by decide +kernel
theorem dX3_foldListeners_40 : decode cX3_foldListeners 40 = .ok (.iinc 6 1, 3) := by decide +kernel
theorem dX3_foldListeners_43 : decode cX3_foldListeners 43 = .ok (.goto (-23), 3) := by decide +kernel
theorem dX3_foldListeners_46 : decode cX3_foldListeners 46 = .ok (.aload_n 0, 1) := by decide +kernel
theorem dX3_foldListeners_47 : decode cX3_foldListeners 47 = .ok (.getfield 19, 3) := by decide +kernel
theorem dX3_foldListeners_50 : decode cX3_foldListeners 50 = .ok (.iload 5, 2) := by decide +kernel
theorem dX3_foldListeners_52 : decode cX3_foldListeners 52 = .ok (.iconst 2, 1) := by decide +kernel
theorem dX3_foldListeners_53 : decode cX3_foldListeners 53 = .ok (.bipush 9, 2) := by decide +kernel
theorem dX3_foldListeners_55 : decode cX3_foldListeners 55 = .ok (.invokestatic 151, 3) := by decide +kernel
theorem dX3_foldListeners_58 : decode cX3_foldListeners 58 = .ok (.istore 6, 2) := by decide +kernel
theorem dX3_foldListeners_60 : decode cX3_foldListeners 60 = .ok (.lload_n 3, 1) := by decide +kernel
theorem dX3_foldListeners_61 : decode cX3_foldListeners 61 = .ok (.iload 6, 2) := by decide +kernel
theorem dX3_foldListeners_63 : decode cX3_foldListeners 63 = .ok (.invokestatic 155, 3) := by decide +kernel
theorem dX3_foldListeners_66 : decode cX3_foldListeners 66 = .ok (.i2l, 1) := by decide +kernel
theorem dX3_foldListeners_67 : decode cX3_foldListeners 67 = .ok (.invokestatic 234, 3) := by decide +kernel
theorem dX3_foldListeners_70 : decode cX3_foldListeners 70 = .ok (.lstore_n 3, 1) := by decide +kernel
theorem dX3_foldListeners_71 : decode cX3_foldListeners 71 = .ok (.lload_n 3, 1) := by decide +kernel
theorem dX3_foldListeners_72 : decode cX3_foldListeners 72 = .ok (.iload 6, 2) := by decide +kernel
theorem dX3_foldListeners_74 : decode cX3_foldListeners 74 = .ok (.i2l, 1) := by decide +kernel
theorem dX3_foldListeners_75 : decode cX3_foldListeners 75 = .ok (.invokestatic 234, 3) := by decide +kernel
theorem dX3_foldListeners_78 : decode cX3_foldListeners 78 = .ok (.lstore_n 3, 1) := by decide +kernel
theorem dX3_foldListeners_79 : decode cX3_foldListeners 79 = .ok (.iinc 5 1, 3) := by decide +kernel
theorem dX3_foldListeners_82 : decode cX3_foldListeners 82 = .ok (.goto (-77), 3) := by decide +kernel
theorem dX3_foldListeners_85 : decode cX3_foldListeners 85 = .ok (.lload_n 3, 1) := by decide +kernel
theorem dX3_foldListeners_86 : decode cX3_foldListeners 86 = .ok (.lreturn, 1) := by decide +kernel
theorem dX3_foldPlaces_0 : decode cX3_foldPlaces 0 = .ok (.lload_n 1, 1) := by decide +kernel
theorem dX3_foldPlaces_1 : decode cX3_foldPlaces 1 = .ok (.lstore_n 3, 1) := by decide +kernel
theorem dX3_foldPlaces_2 : decode cX3_foldPlaces 2 = .ok (.iconst 0, 1) := by decide +kernel
theorem dX3_foldPlaces_3 : decode cX3_foldPlaces 3 = .ok (.istore 5, 2) := by decide +kernel
theorem dX3_foldPlaces_5 : decode cX3_foldPlaces 5 = .ok (.iload 5, 2) := by decide +kernel
theorem dX3_foldPlaces_7 : decode cX3_foldPlaces 7 = .ok (.bipush 6, 2) := by decide +kernel
theorem dX3_foldPlaces_9 : decode cX3_foldPlaces 9 = .ok (.if_icmp .ge 34, 3) := by decide +kernel
theorem dX3_foldPlaces_12 : decode cX3_foldPlaces 12 = .ok (.lload_n 3, 1) := by decide +kernel
theorem dX3_foldPlaces_13 : decode cX3_foldPlaces 13 = .ok (.aload_n 0, 1) := by decide +kernel
theorem dX3_foldPlaces_14 : decode cX3_foldPlaces 14 = .ok (.iload 5, 2) := by decide +kernel
theorem dX3_foldPlaces_16 : decode cX3_foldPlaces 16 = .ok (.invokevirtual 244, 3) := by decide +kernel
theorem dX3_foldPlaces_19 : decode cX3_foldPlaces 19 = .ok (.i2l, 1) := by decide +kernel
theorem dX3_foldPlaces_20 : decode cX3_foldPlaces 20 = .ok (.invokestatic 234, 3) := by decide +kernel
theorem dX3_foldPlaces_23 : decode cX3_foldPlaces 23 = .ok (.lstore_n 3, 1) := by decide +kernel
theorem dX3_foldPlaces_24 : decode cX3_foldPlaces 24 = .ok (.lload_n 3, 1) := by decide +kernel
theorem dX3_foldPlaces_25 : decode cX3_foldPlaces 25 = .ok (.aload_n 0, 1) := by decide +kernel
theorem dX3_foldPlaces_26 : decode cX3_foldPlaces 26 = .ok (.iload 5, 2) := by decide +kernel
theorem dX3_foldPlaces_28 : decode cX3_foldPlaces 28 = .ok (.iconst 5, 1) := by decide +kernel
theorem dX3_foldPlaces_29 : decode cX3_foldPlaces 29 = .ok (.invokevirtual 246, 3) := by decide +kernel
theorem dX3_foldPlaces_32 : decode cX3_foldPlaces 32 = .ok (.i2l, 1) := by decide +kernel
theorem dX3_foldPlaces_33 : decode cX3_foldPlaces 33 = .ok (.invokestatic 234, 3) := by decide +kernel
theorem dX3_foldPlaces_36 : decode cX3_foldPlaces 36 = .ok (.lstore_n 3, 1) := by decide +kernel
theorem dX3_foldPlaces_37 : decode cX3_foldPlaces 37 = .ok (.iinc 5 1, 3) := by decide +kernel
theorem dX3_foldPlaces_40 : decode cX3_foldPlaces 40 = .ok (.goto (-35), 3) := by decide +kernel
theorem dX3_foldPlaces_43 : decode cX3_foldPlaces 43 = .ok (.lload_n 3, 1) := by decide +kernel
theorem dX3_foldPlaces_44 : decode cX3_foldPlaces 44 = .ok (.lreturn, 1) := by decide +kernel
theorem dX3_foldQuestions_0 : decode cX3_foldQuestions 0 = .ok (.lload_n 1, 1) := by decide +kernel
theorem dX3_foldQuestions_1 : decode cX3_foldQuestions 1 = .ok (.aload_n 0, 1) := by decide +kernel
theorem dX3_foldQuestions_2 : decode cX3_foldQuestions 2 = .ok (.iconst 0, 1) := by decide +kernel
theorem dX3_foldQuestions_3 : decode cX3_foldQuestions 3 = .ok (.invokevirtual 249, 3) := by decide +kernel
theorem dX3_foldQuestions_6 : decode cX3_foldQuestions 6 = .ok (.i2l, 1) := by decide +kernel
theorem dX3_foldQuestions_7 : decode cX3_foldQuestions 7 = .ok (.invokestatic 234, 3) := by decide +kernel
theorem dX3_foldQuestions_10 : decode cX3_foldQuestions 10 = .ok (.aload_n 0, 1) := by decide +kernel
theorem dX3_foldQuestions_11 : decode cX3_foldQuestions 11 = .ok (.iconst 1, 1) := by decide +kernel
theorem dX3_foldQuestions_12 : decode cX3_foldQuestions 12 = .ok (.invokevirtual 249, 3) := by decide +kernel
theorem dX3_foldQuestions_15 : decode cX3_foldQuestions 15 = .ok (.i2l, 1) := by decide +kernel
theorem dX3_foldQuestions_16 : decode cX3_foldQuestions 16 = .ok (.invokestatic 234, 3) := by decide +kernel
theorem dX3_foldQuestions_19 : decode cX3_foldQuestions 19 = .ok (.lstore_n 3, 1) := by decide +kernel
theorem dX3_foldQuestions_20 : decode cX3_foldQuestions 20 = .ok (.aload_n 0, 1) := by decide +kernel
theorem dX3_foldQuestions_21 : decode cX3_foldQuestions 21 = .ok (.getfield 19, 3) := by decide +kernel
theorem dX3_foldQuestions_24 : decode cX3_foldQuestions 24 = .ok (.aload_n 0, 1) := by decide +kernel
theorem dX3_foldQuestions_25 : decode cX3_foldQuestions 25 = .ok (.getfield 19, 3) := by decide +kernel
theorem dX3_foldQuestions_28 : decode cX3_foldQuestions 28 = .ok (.invokevirtual 141, 3) := by decide +kernel
theorem dX3_foldQuestions_31 : decode cX3_foldQuestions 31 = .ok (.invokestatic 144, 3) := by decide +kernel
theorem dX3_foldQuestions_34 : decode cX3_foldQuestions 34 = .ok (.istore 5, 2) := by decide +kernel
theorem dX3_foldQuestions_36 : decode cX3_foldQuestions 36 = .ok (.lload_n 3, 1) := by decide +kernel
theorem dX3_foldQuestions_37 : decode cX3_foldQuestions 37 = .ok (.iload 5, 2) := by decide +kernel
theorem dX3_foldQuestions_39 : decode cX3_foldQuestions 39 = .ok (.iconst 0, 1) := by decide +kernel
theorem dX3_foldQuestions_40 : decode cX3_foldQuestions 40 = .ok (.invokestatic 148, 3) := by decide +kernel
theorem dX3_foldQuestions_43 : decode cX3_foldQuestions 43 = .ok (.i2l, 1) := by decide +kernel
theorem dX3_foldQuestions_44 : decode cX3_foldQuestions 44 = .ok (.invokestatic 234, 3) := by decide +kernel
theorem dX3_foldQuestions_47 : decode cX3_foldQuestions 47 = .ok (.lstore_n 3, 1) := by decide +kernel
theorem dX3_foldQuestions_48 : decode cX3_foldQuestions 48 = .ok (.bipush 10, 2) := by decide +kernel
theorem dX3_foldQuestions_50 : decode cX3_foldQuestions 50 = .ok (.istore 6, 2) := by decide +kernel
theorem dX3_foldQuestions_52 : decode cX3_foldQuestions 52 = .ok (.iload 6, 2) := by decide +kernel
theorem dX3_foldQuestions_54 : decode cX3_foldQuestions 54 = .ok (.bipush 12, 2) := by decide +kernel
theorem dX3_foldQuestions_56 : decode cX3_foldQuestions 56 = .ok (.if_icmp .gt 22, 3) := by decide +kernel
theorem dX3_foldQuestions_59 : decode cX3_foldQuestions 59 = .ok (.lload_n 3, 1) := by decide +kernel
theorem dX3_foldQuestions_60 : decode cX3_foldQuestions 60 = .ok (.iload 5, 2) := by decide +kernel
theorem dX3_foldQuestions_62 : decode cX3_foldQuestions 62 = .ok (.iload 6, 2) := by decide +kernel
theorem dX3_foldQuestions_64 : decode cX3_foldQuestions 64 = .ok (.invokestatic 148, 3) := by decide +kernel
theorem dX3_foldQuestions_67 : decode cX3_foldQuestions 67 = .ok (.i2l, 1) := by decide +kernel
theorem dX3_foldQuestions_68 : decode cX3_foldQuestions 68 = .ok (.invokestatic 234, 3) := by decide +kernel
theorem dX3_foldQuestions_71 : decode cX3_foldQuestions 71 = .ok (.lstore_n 3, 1) := by decide +kernel
theorem dX3_foldQuestions_72 : decode cX3_foldQuestions 72 = .ok (.iinc 6 1, 3) := by decide +kernel
theorem dX3_foldQuestions_75 : decode cX3_foldQuestions 75 = .ok (.goto (-23), 3) := by decide +kernel
theorem dX3_foldQuestions_78 : decode cX3_foldQuestions 78 = .ok (.lload_n 3, 1) := by decide +kernel
theorem dX3_foldQuestions_79 : decode cX3_foldQuestions 79 = .ok (.aload_n 0, 1) := by decide +kernel
theorem dX3_foldQuestions_80 : decode cX3_foldQuestions 80 = .ok (.iconst 0, 1) := by decide +kernel
theorem dX3_foldQuestions_81 : decode cX3_foldQuestions 81 = .ok (.invokevirtual 252, 3) := by decide +kernel
theorem dX3_foldQuestions_84 : decode cX3_foldQuestions 84 = .ok (.i2l, 1) := by decide +kernel
theorem dX3_foldQuestions_85 : decode cX3_foldQuestions 85 = .ok (.invokestatic 234, 3) := by decide +kernel
theorem dX3_foldQuestions_88 : decode cX3_foldQuestions 88 = .ok (.aload_n 0, 1) := by decide +kernel
theorem dX3_foldQuestions_89 : decode cX3_foldQuestions 89 = .ok (.iconst 1, 1) := by decide +kernel
theorem dX3_foldQuestions_90 : decode cX3_foldQuestions 90 = .ok (.invokevirtual 252, 3) := by decide +kernel
theorem dX3_foldQuestions_93 : decode cX3_foldQuestions 93 = .ok (.i2l, 1) := by decide +kernel
theorem dX3_foldQuestions_94 : decode cX3_foldQuestions 94 = .ok (.invokestatic 234, 3) := by decide +kernel
theorem dX3_foldQuestions_97 : decode cX3_foldQuestions 97 = .ok (.aload_n 0, 1) := by decide +kernel
theorem dX3_foldQuestions_98 : decode cX3_foldQuestions 98 = .ok (.invokevirtual 255, 3) := by decide +kernel
theorem dX3_foldQuestions_101 : decode cX3_foldQuestions 101 = .ok (.i2l, 1) := by decide +kernel
theorem dX3_foldQuestions_102 : decode cX3_foldQuestions 102 = .ok (.invokestatic 234, 3) := by decide +kernel
theorem dX3_foldQuestions_105 : decode cX3_foldQuestions 105 = .ok (.lreturn, 1) := by decide +kernel
theorem dX3_fold_0 : decode cX3_fold 0 = .ok (.ldc2_w 258, 3) := by decide +kernel
theorem dX3_fold_3 : decode cX3_fold 3 = .ok (.lload_n 0, 1) := by decide +kernel
theorem dX3_fold_4 : decode cX3_fold 4 = .ok (.lmul, 1) := by decide +kernel
theorem dX3_fold_5 : decode cX3_fold 5 = .ok (.lload_n 2, 1) := by decide +kernel
theorem dX3_fold_6 : decode cX3_fold 6 = .ok (.ladd, 1) := by decide +kernel
theorem dX3_fold_7 : decode cX3_fold 7 = .ok (.lreturn, 1) := by decide +kernel
theorem dX3_hasTown_0 : decode cX3_hasTown 0 = .ok (.aload_n 0, 1) := by decide +kernel
theorem dX3_hasTown_1 : decode cX3_hasTown 1 = .ok (.getfield 37, 3) := by decide +kernel
theorem dX3_hasTown_4 : decode cX3_hasTown 4 = .ok (.ifCond .le 7, 3) := by decide +kernel
theorem dX3_hasTown_7 : decode cX3_hasTown 7 = .ok (.iconst 1, 1) := by decide +kernel
theorem dX3_hasTown_8 : decode cX3_hasTown 8 = .ok (.goto 4, 3) := by decide +kernel
theorem dX3_hasTown_11 : decode cX3_hasTown 11 = .ok (.iconst 0, 1) := by decide +kernel
theorem dX3_hasTown_12 : decode cX3_hasTown 12 = .ok (.ireturn, 1) := by decide +kernel
theorem dX3_isPlace_0 : decode cX3_isPlace 0 = .ok (.aload_n 0, 1) := by decide +kernel
theorem dX3_isPlace_1 : decode cX3_isPlace 1 = .ok (.invokevirtual 119, 3) := by decide +kernel
theorem dX3_isPlace_4 : decode cX3_isPlace 4 = .ok (.ifCond .eq 17, 3) := by decide +kernel
theorem dX3_isPlace_7 : decode cX3_isPlace 7 = .ok (.iload_n 1, 1) := by decide +kernel
theorem dX3_isPlace_8 : decode cX3_isPlace 8 = .ok (.ifCond .lt 13, 3) := by decide +kernel
theorem dX3_isPlace_11 : decode cX3_isPlace 11 = .ok (.iload_n 1, 1) := by decide +kernel
theorem dX3_isPlace_12 : decode cX3_isPlace 12 = .ok (.bipush 6, 2) := by decide +kernel
theorem dX3_isPlace_14 : decode cX3_isPlace 14 = .ok (.if_icmp .ge 7, 3) := by decide +kernel
theorem dX3_isPlace_17 : decode cX3_isPlace 17 = .ok (.iconst 1, 1) := by decide +kernel
theorem dX3_isPlace_18 : decode cX3_isPlace 18 = .ok (.goto 4, 3) := by decide +kernel
theorem dX3_isPlace_21 : decode cX3_isPlace 21 = .ok (.iconst 0, 1) := by decide +kernel
theorem dX3_isPlace_22 : decode cX3_isPlace 22 = .ok (.ireturn, 1) := by decide +kernel
theorem dX3_isListener_0 : decode cX3_isListener 0 = .ok (.iload_n 1, 1) := by decide +kernel
theorem dX3_isListener_1 : decode cX3_isListener 1 = .ok (.ifCond .lt 18, 3) := by decide +kernel
theorem dX3_isListener_4 : decode cX3_isListener 4 = .ok (.iload_n 1, 1) := by decide +kernel
theorem dX3_isListener_5 : decode cX3_isListener 5 = .ok (.aload_n 0, 1) := by decide +kernel
theorem dX3_isListener_6 : decode cX3_isListener 6 = .ok (.getfield 19, 3) := by decide +kernel
theorem dX3_isListener_9 : decode cX3_isListener 9 = .ok (.getfield 177, 3) := by decide +kernel
theorem dX3_isListener_12 : decode cX3_isListener 12 = .ok (.if_icmp .ge 7, 3) := by decide +kernel
theorem dX3_isListener_15 : decode cX3_isListener 15 = .ok (.iconst 1, 1) := by decide +kernel
theorem dX3_isListener_16 : decode cX3_isListener 16 = .ok (.goto 4, 3) := by decide +kernel
theorem dX3_isListener_19 : decode cX3_isListener 19 = .ok (.iconst 0, 1) := by decide +kernel
theorem dX3_isListener_20 : decode cX3_isListener 20 = .ok (.ireturn, 1) := by decide +kernel
theorem dX3_isKind_0 : decode cX3_isKind 0 = .ok (.iload_n 0, 1) := by decide +kernel
theorem dX3_isKind_1 : decode cX3_isKind 1 = .ok (.ifCond .lt 12, 3) := by decide +kernel
theorem dX3_isKind_4 : decode cX3_isKind 4 = .ok (.iload_n 0, 1) := by decide +kernel
theorem dX3_isKind_5 : decode cX3_isKind 5 = .ok (.iconst 4, 1) := by decide +kernel
theorem dX3_isKind_6 : decode cX3_isKind 6 = .ok (.if_icmp .gt 7, 3) := by decide +kernel
theorem dX3_isKind_9 : decode cX3_isKind 9 = .ok (.iconst 1, 1) := by decide +kernel
theorem dX3_isKind_10 : decode cX3_isKind 10 = .ok (.goto 4, 3) := by decide +kernel
theorem dX3_isKind_13 : decode cX3_isKind 13 = .ok (.iconst 0, 1) := by decide +kernel
theorem dX3_isKind_14 : decode cX3_isKind 14 = .ok (.ireturn, 1) := by decide +kernel
theorem dX3_isLoud_0 : decode cX3_isLoud 0 = .ok (.iload_n 0, 1) := by decide +kernel
theorem dX3_isLoud_1 : decode cX3_isLoud 1 = .ok (.iconst 1, 1) := by decide +kernel
theorem dX3_isLoud_2 : decode cX3_isLoud 2 = .ok (.if_icmp .lt 13, 3) := by decide +kernel
theorem dX3_isLoud_5 : decode cX3_isLoud 5 = .ok (.iload_n 0, 1) := by decide +kernel
theorem dX3_isLoud_6 : decode cX3_isLoud 6 = .ok (.bipush 9, 2) := by decide +kernel
theorem dX3_isLoud_8 : decode cX3_isLoud 8 = .ok (.if_icmp .gt 7, 3) := by decide +kernel
theorem dX3_isLoud_11 : decode cX3_isLoud 11 = .ok (.iconst 1, 1) := by decide +kernel
theorem dX3_isLoud_12 : decode cX3_isLoud 12 = .ok (.goto 4, 3) := by decide +kernel
theorem dX3_isLoud_15 : decode cX3_isLoud 15 = .ok (.iconst 0, 1) := by decide +kernel
theorem dX3_isLoud_16 : decode cX3_isLoud 16 = .ok (.ireturn, 1) := by decide +kernel
theorem dX3_isOfKind_0 : decode cX3_isOfKind 0 = .ok (.iload_n 1, 1) := by decide +kernel
theorem dX3_isOfKind_1 : decode cX3_isOfKind 1 = .ok (.ifCond .eq 18, 3) := by decide +kernel
theorem dX3_isOfKind_4 : decode cX3_isOfKind 4 = .ok (.iload_n 0, 1) := by decide +kernel
theorem dX3_isOfKind_5 : decode cX3_isOfKind 5 = .ok (.iload_n 1, 1) := by decide +kernel
theorem dX3_isOfKind_6 : decode cX3_isOfKind 6 = .ok (.if_icmp .eq 13, 3) := by decide +kernel
theorem dX3_isOfKind_9 : decode cX3_isOfKind 9 = .ok (.iload_n 0, 1) := by decide +kernel
theorem dX3_isOfKind_10 : decode cX3_isOfKind 10 = .ok (.iconst 4, 1) := by decide +kernel
theorem dX3_isOfKind_11 : decode cX3_isOfKind 11 = .ok (.if_icmp .ne 12, 3) := by decide +kernel
theorem dX3_isOfKind_14 : decode cX3_isOfKind 14 = .ok (.iload_n 1, 1) := by decide +kernel
theorem dX3_isOfKind_15 : decode cX3_isOfKind 15 = .ok (.iconst 3, 1) := by decide +kernel
theorem dX3_isOfKind_16 : decode cX3_isOfKind 16 = .ok (.if_icmp .ne 7, 3) := by decide +kernel
theorem dX3_isOfKind_19 : decode cX3_isOfKind 19 = .ok (.iconst 1, 1) := by decide +kernel
theorem dX3_isOfKind_20 : decode cX3_isOfKind 20 = .ok (.goto 4, 3) := by decide +kernel
theorem dX3_isOfKind_23 : decode cX3_isOfKind 23 = .ok (.iconst 0, 1) := by decide +kernel
theorem dX3_isOfKind_24 : decode cX3_isOfKind 24 = .ok (.ireturn, 1) := by decide +kernel
theorem dX3_bit_0 : decode cX3_bit 0 = .ok (.iload_n 0, 1) := by decide +kernel
theorem dX3_bit_1 : decode cX3_bit 1 = .ok (.iload_n 1, 1) := by decide +kernel
theorem dX3_bit_2 : decode cX3_bit 2 = .ok (.ishr, 1) := by decide +kernel
theorem dX3_bit_3 : decode cX3_bit 3 = .ok (.iconst 1, 1) := by decide +kernel
theorem dX3_bit_4 : decode cX3_bit 4 = .ok (.iand, 1) := by decide +kernel
theorem dX3_bit_5 : decode cX3_bit 5 = .ok (.ireturn, 1) := by decide +kernel
theorem dX3_howMany_0 : decode cX3_howMany 0 = .ok (.iload_n 0, 1) := by decide +kernel
theorem dX3_howMany_1 : decode cX3_howMany 1 = .ok (.ifCond .ge 7, 3) := by decide +kernel
theorem dX3_howMany_4 : decode cX3_howMany 4 = .ok (.iload_n 0, 1) := by decide +kernel
theorem dX3_howMany_5 : decode cX3_howMany 5 = .ok (.goto 7, 3) := by decide +kernel
theorem dX3_howMany_8 : decode cX3_howMany 8 = .ok (.iload_n 0, 1) := by decide +kernel
theorem dX3_howMany_9 : decode cX3_howMany 9 = .ok (.invokestatic 208, 3) := by decide +kernel
theorem dX3_howMany_12 : decode cX3_howMany 12 = .ok (.ireturn, 1) := by decide +kernel
end
section
theorem dX4_init_0 : decode cX4_init 0 = .ok (.aload_n 0, 1) := by decide +kernel
theorem dX4_init_1 : decode cX4_init 1 = .ok (.invokespecial 1, 3) := by decide +kernel
theorem dX4_init_4 : decode cX4_init 4 = .ok (.aload_n 0, 1) := by decide +kernel
theorem dX4_init_5 : decode cX4_init 5 = .ok (.bipush 12, 2) := by decide +kernel
theorem dX4_init_7 : decode cX4_init 7 = .ok (.newarray .int, 2) := by decide +kernel
theorem dX4_init_9 : decode cX4_init 9 = .ok (.putfield 7, 3) := by decide +kernel
theorem dX4_init_12 : decode cX4_init 12 = .ok (.aload_n 0, 1) := by decide +kernel
theorem dX4_init_13 : decode cX4_init 13 = .ok (.bipush 6, 2) := by decide +kernel
theorem dX4_init_15 : decode cX4_init 15 = .ok (.newarray .int, 2) := by decide +kernel
theorem dX4_init_17 : decode cX4_init 17 = .ok (.putfield 13, 3) := by decide +kernel
theorem dX4_init_20 : decode cX4_init 20 = .ok (.aload_n 0, 1) := by decide +kernel
theorem dX4_init_21 : decode cX4_init 21 = .ok (.bipush 12, 2) := by decide +kernel
theorem dX4_init_23 : decode cX4_init 23 = .ok (.newarray .int, 2) := by decide +kernel
theorem dX4_init_25 : decode cX4_init 25 = .ok (.putfield 16, 3) := by decide +kernel
theorem dX4_init_28 : decode cX4_init 28 = .ok (.aload_n 0, 1) := by decide +kernel
theorem dX4_init_29 : decode cX4_init 29 = .ok (.iconst 3, 1) := by decide +kernel
theorem dX4_init_30 : decode cX4_init 30 = .ok (.newarray .int, 2) := by decide +kernel
theorem dX4_init_32 : decode cX4_init 32 = .ok (.putfield 19, 3) := by decide +kernel
theorem dX4_init_35 : decode cX4_init 35 = .ok (.aload_n 0, 1) := by decide +kernel
theorem dX4_init_36 : decode cX4_init 36 = .ok (.bipush 16, 2) := by decide +kernel
theorem dX4_init_38 : decode cX4_init 38 = .ok (.newarray .int, 2) := by decide +kernel
theorem dX4_init_40 : decode cX4_init 40 = .ok (.putfield 22, 3) := by decide +kernel
theorem dX4_init_43 : decode cX4_init 43 = .ok (.aload_n 0, 1) := by decide +kernel
theorem dX4_init_44 : decode cX4_init 44 = .ok (.bipush 12, 2) := by decide +kernel
theorem dX4_init_46 : decode cX4_init 46 = .ok (.newarray .int, 2) := by decide +kernel
theorem dX4_init_48 : decode cX4_init 48 = .ok (.putfield 25, 3) := by decide +kernel
theorem dX4_init_51 : decode cX4_init 51 = .ok (.aload_n 0, 1) := by decide +kernel
theorem dX4_init_52 : decode cX4_init 52 = .ok (.bipush 16, 2) := by decide +kernel
theorem dX4_init_54 : decode cX4_init 54 = .ok (.newarray .int, 2) := by decide +kernel
theorem dX4_init_56 : decode cX4_init 56 = .ok (.putfield 28, 3) := by decide +kernel
theorem dX4_init_59 : decode cX4_init 59 = .ok (.aload_n 0, 1) := by decide +kernel
theorem dX4_init_60 : decode cX4_init 60 = .ok (.bipush 6, 2) := by decide +kernel
theorem dX4_init_62 : decode cX4_init 62 = .ok (.newarray .int, 2) := by decide +kernel
theorem dX4_init_64 : decode cX4_init 64 = .ok (.putfield 31, 3) := by decide +kernel
theorem dX4_init_67 : decode cX4_init 67 = .ok (.aload_n 0, 1) := by decide +kernel
theorem dX4_init_68 : decode cX4_init 68 = .ok (.iconst (-1), 1) := by decide +kernel
theorem dX4_init_69 : decode cX4_init 69 = .ok (.putfield 34, 3) := by decide +kernel
theorem dX4_init_72 : decode cX4_init 72 = .ok (.return_, 1) := by decide +kernel
theorem dX4_in_0 : decode cX4_in 0 = .ok (.lload_n 0, 1) := by decide +kernel
theorem dX4_in_1 : decode cX4_in 1 = .ok (.lload_n 2, 1) := by decide +kernel
theorem dX4_in_2 : decode cX4_in 2 = .ok (.lcmp, 1) := by decide +kernel
theorem dX4_in_3 : decode cX4_in 3 = .ok (.ifCond .lt 14, 3) := by decide +kernel
theorem dX4_in_6 : decode cX4_in 6 = .ok (.lload_n 0, 1) := by decide +kernel
theorem dX4_in_7 : decode cX4_in 7 = .ok (.lload 4, 2) := by decide +kernel
theorem dX4_in_9 : decode cX4_in 9 = .ok (.lcmp, 1) := by decide +kernel
theorem dX4_in_10 : decode cX4_in 10 = .ok (.ifCond .gt 7, 3) := by decide +kernel
theorem dX4_in_13 : decode cX4_in 13 = .ok (.iconst 1, 1) := by decide +kernel
theorem dX4_in_14 : decode cX4_in 14 = .ok (.goto 4, 3) := by decide +kernel
theorem dX4_in_17 : decode cX4_in 17 = .ok (.iconst 0, 1) := by decide +kernel
theorem dX4_in_18 : decode cX4_in 18 = .ok (.ireturn, 1) := by decide +kernel
theorem dX4_copy_0 : decode cX4_copy 0 = .ok (.iconst 0, 1) := by decide +kernel
theorem dX4_copy_1 : decode cX4_copy 1 = .ok (.istore_n 2, 1) := by decide +kernel
theorem dX4_copy_2 : decode cX4_copy 2 = .ok (.iload_n 2, 1) := by decide +kernel
theorem dX4_copy_3 : decode cX4_copy 3 = .ok (.aload_n 0, 1) := by decide +kernel
theorem dX4_copy_4 : decode cX4_copy 4 = .ok (.arraylength, 1) := by decide +kernel
theorem dX4_copy_5 : decode cX4_copy 5 = .ok (.if_icmp .ge 15, 3) := by decide +kernel
theorem dX4_copy_8 : decode cX4_copy 8 = .ok (.aload_n 1, 1) := by decide +kernel
theorem dX4_copy_9 : decode cX4_copy 9 = .ok (.iload_n 2, 1) := by decide +kernel
theorem dX4_copy_10 : decode cX4_copy 10 = .ok (.aload_n 0, 1) := by decide +kernel
theorem dX4_copy_11 : decode cX4_copy 11 = .ok (.iload_n 2, 1) := by decide +kernel
theorem dX4_copy_12 : decode cX4_copy 12 = .ok (.iaload, 1) := by decide +kernel
theorem dX4_copy_13 : decode cX4_copy 13 = .ok (.iastore, 1) := by decide +kernel
theorem dX4_copy_14 : decode cX4_copy 14 = .ok (.iinc 2 1, 3) := by decide +kernel
theorem dX4_copy_17 : decode cX4_copy 17 = .ok (.goto (-15), 3) := by decide +kernel
theorem dX4_copy_20 : decode cX4_copy 20 = .ok (.return_, 1) := by decide +kernel
theorem dX4_ones_0 : decode cX4_ones 0 = .ok (.iconst 0, 1) := by decide +kernel
theorem dX4_ones_1 : decode cX4_ones 1 = .ok (.istore_n 1, 1) := by decide +kernel
theorem dX4_ones_2 : decode cX4_ones 2 = .ok (.iconst 0, 1) := by decide +kernel
theorem dX4_ones_3 : decode cX4_ones 3 = .ok (.istore_n 2, 1) := by decide +kernel
theorem dX4_ones_4 : decode cX4_ones 4 = .ok (.iload_n 2, 1) := by decide +kernel
theorem dX4_ones_5 : decode cX4_ones 5 = .ok (.bipush 6, 2) := by decide +kernel
theorem dX4_ones_7 : decode cX4_ones 7 = .ok (.if_icmp .ge 17, 3) := by decide +kernel
theorem dX4_ones_10 : decode cX4_ones 10 = .ok (.iload_n 1, 1) := by decide +kernel
theorem dX4_ones_11 : decode cX4_ones 11 = .ok (.iload_n 0, 1) := by decide +kernel
theorem dX4_ones_12 : decode cX4_ones 12 = .ok (.iload_n 2, 1) := by decide +kernel
theorem dX4_ones_13 : decode cX4_ones 13 = .ok (.ishr, 1) := by decide +kernel
theorem dX4_ones_14 : decode cX4_ones 14 = .ok (.iconst 1, 1) := by decide +kernel
theorem dX4_ones_15 : decode cX4_ones 15 = .ok (.iand, 1) := by decide +kernel
theorem dX4_ones_16 : decode cX4_ones 16 = .ok (.iadd, 1) := by decide +kernel
theorem dX4_ones_17 : decode cX4_ones 17 = .ok (.istore_n 1, 1) := by decide +kernel
theorem dX4_ones_18 : decode cX4_ones 18 = .ok (.iinc 2 1, 3) := by decide +kernel
theorem dX4_ones_21 : decode cX4_ones 21 = .ok (.goto (-17), 3) := by decide +kernel
theorem dX4_ones_24 : decode cX4_ones 24 = .ok (.iload_n 1, 1) := by decide +kernel
theorem dX4_ones_25 : decode cX4_ones 25 = .ok (.ireturn, 1) := by decide +kernel
theorem dX4_letter_0 : decode cX4_letter 0 = .ok (.iload_n 1, 1) := by decide +kernel
theorem dX4_letter_1 : decode cX4_letter 1 = .ok (.i2l, 1) := by decide +kernel
theorem dX4_letter_2 : decode cX4_letter 2 = .ok (.lconst 1, 1) := by decide +kernel
theorem dX4_letter_3 : decode cX4_letter 3 = .ok (.ldc2_w 38, 3) := by decide +kernel
theorem dX4_letter_6 : decode cX4_letter 6 = .ok (.invokestatic 40, 3) := by decide +kernel
theorem dX4_letter_9 : decode cX4_letter 9 = .ok (.ifCond .ne 6, 3) := by decide +kernel
theorem dX4_letter_12 : decode cX4_letter 12 = .ok (.bipush (-102), 2) := by decide +kernel
theorem dX4_letter_14 : decode cX4_letter 14 = .ok (.ireturn, 1) := by decide +kernel
theorem dX4_letter_15 : decode cX4_letter 15 = .ok (.aload_n 0, 1) := by decide +kernel
theorem dX4_letter_16 : decode cX4_letter 16 = .ok (.getfield 44, 3) := by decide +kernel
theorem dX4_letter_19 : decode cX4_letter 19 = .ok (.bipush 12, 2) := by decide +kernel
theorem dX4_letter_21 : decode cX4_letter 21 = .ok (.if_icmp .ne 6, 3) := by decide +kernel
theorem dX4_letter_24 : decode cX4_letter 24 = .ok (.bipush (-104), 2) := by decide +kernel
theorem dX4_letter_26 : decode cX4_letter 26 = .ok (.ireturn, 1) := by decide +kernel
theorem dX4_letter_27 : decode cX4_letter 27 = .ok (.aload_n 0, 1) := by decide +kernel
theorem dX4_letter_28 : decode cX4_letter 28 = .ok (.getfield 7, 3) := by decide +kernel
theorem dX4_letter_31 : decode cX4_letter 31 = .ok (.aload_n 0, 1) := by decide +kernel
theorem dX4_letter_32 : decode cX4_letter 32 = .ok (.getfield 44, 3) := by decide +kernel
theorem dX4_letter_35 : decode cX4_letter 35 = .ok (.iload_n 1, 1) := by decide +kernel
theorem dX4_letter_36 : decode cX4_letter 36 = .ok (.iastore, 1) := by decide +kernel
theorem dX4_letter_37 : decode cX4_letter 37 = .ok (.aload_n 0, 1) := by decide +kernel
theorem dX4_letter_38 : decode cX4_letter 38 = .ok (.dup, 1) := by decide +kernel
theorem dX4_letter_39 : decode cX4_letter 39 = .ok (.getfield 44, 3) := by decide +kernel
theorem dX4_letter_42 : decode cX4_letter 42 = .ok (.iconst 1, 1) := by decide +kernel
theorem dX4_letter_43 : decode cX4_letter 43 = .ok (.iadd, 1) := by decide +kernel
theorem dX4_letter_44 : decode cX4_letter 44 = .ok (.putfield 44, 3) := by decide +kernel
theorem dX4_letter_47 : decode cX4_letter 47 = .ok (.aload_n 0, 1) := by decide +kernel
theorem dX4_letter_48 : decode cX4_letter 48 = .ok (.getfield 44, 3) := by decide +kernel
theorem dX4_letter_51 : decode cX4_letter 51 = .ok (.ireturn, 1) := by decide +kernel
theorem dX4_blank_0 : decode cX4_blank 0 = .ok (.aload_n 0, 1) := by decide +kernel
theorem dX4_blank_1 : decode cX4_blank 1 = .ok (.getfield 44, 3) := by decide +kernel
theorem dX4_blank_4 : decode cX4_blank 4 = .ok (.istore_n 1, 1) := by decide +kernel
theorem dX4_blank_5 : decode cX4_blank 5 = .ok (.aload_n 0, 1) := by decide +kernel
theorem dX4_blank_6 : decode cX4_blank 6 = .ok (.iconst 0, 1) := by decide +kernel
theorem dX4_blank_7 : decode cX4_blank 7 = .ok (.putfield 44, 3) := by decide +kernel
theorem dX4_blank_10 : decode cX4_blank 10 = .ok (.iload_n 1, 1) := by decide +kernel
theorem dX4_blank_11 : decode cX4_blank 11 = .ok (.ireturn, 1) := by decide +kernel
theorem dX4_isGood_0 : decode cX4_isGood 0 = .ok (.iload_n 1, 1) := by decide +kernel
theorem dX4_isGood_1 : decode cX4_isGood 1 = .ok (.bipush 48, 2) := by decide +kernel
theorem dX4_isGood_3 : decode cX4_isGood 3 = .ok (.isub, 1) := by decide +kernel
theorem dX4_isGood_4 : decode cX4_isGood 4 = .ok (.istore_n 2, 1) := by decide +kernel
theorem dX4_isGood_5 : decode cX4_isGood 5 = .ok (.iload_n 0, 1) := by decide +kernel
theorem dX4_isGood_6 : decode cX4_isGood 6 = .ok (.bipush 6, 2) := by decide +kernel
theorem dX4_isGood_8 : decode cX4_isGood 8 = .ok (.if_icmp .ne 15, 3) := by decide +kernel
theorem dX4_isGood_11 : decode cX4_isGood 11 = .ok (.iload_n 1, 1) := by decide +kernel
theorem dX4_isGood_12 : decode cX4_isGood 12 = .ok (.bipush 59, 2) := by decide +kernel
theorem dX4_isGood_14 : decode cX4_isGood 14 = .ok (.if_icmp .ne 7, 3) := by decide +kernel
theorem dX4_isGood_17 : decode cX4_isGood 17 = .ok (.iconst 1, 1) := by decide +kernel
theorem dX4_isGood_18 : decode cX4_isGood 18 = .ok (.goto 4, 3) := by decide +kernel
theorem dX4_isGood_21 : decode cX4_isGood 21 = .ok (.iconst 0, 1) := by decide +kernel
theorem dX4_isGood_22 : decode cX4_isGood 22 = .ok (.ireturn, 1) := by decide +kernel
theorem dX4_isGood_23 : decode cX4_isGood 23 = .ok (.iload_n 0, 1) := by decide +kernel
theorem dX4_isGood_24 : decode cX4_isGood 24 = .ok (.bipush 6, 2) := by decide +kernel
theorem dX4_isGood_26 : decode cX4_isGood 26 = .ok (.if_icmp .ge 15, 3) := by decide +kernel
theorem dX4_isGood_29 : decode cX4_isGood 29 = .ok (.iload_n 2, 1) := by decide +kernel
theorem dX4_isGood_30 : decode cX4_isGood 30 = .ok (.i2l, 1) := by decide +kernel
theorem dX4_isGood_31 : decode cX4_isGood 31 = .ok (.lconst 0, 1) := by decide +kernel
theorem dX4_isGood_32 : decode cX4_isGood 32 = .ok (.ldc2_w 47, 3) := by decide +kernel
theorem dX4_isGood_35 : decode cX4_isGood 35 = .ok (.invokestatic 40, 3) := by decide +kernel
theorem dX4_isGood_38 : decode cX4_isGood 38 = .ok (.goto 44, 3) := by decide +kernel
theorem dX4_isGood_41 : decode cX4_isGood 41 = .ok (.iload_n 0, 1) := by decide +kernel
theorem dX4_isGood_42 : decode cX4_isGood 42 = .ok (.bipush 7, 2) := by decide +kernel
theorem dX4_isGood_44 : decode cX4_isGood 44 = .ok (.if_icmp .ne 15, 3) := by decide +kernel
theorem dX4_isGood_47 : decode cX4_isGood 47 = .ok (.iload_n 2, 1) := by decide +kernel
theorem dX4_isGood_48 : decode cX4_isGood 48 = .ok (.i2l, 1) := by decide +kernel
theorem dX4_isGood_49 : decode cX4_isGood 49 = .ok (.lconst 1, 1) := by decide +kernel
theorem dX4_isGood_50 : decode cX4_isGood 50 = .ok (.ldc2_w 47, 3) := by decide +kernel
theorem dX4_isGood_53 : decode cX4_isGood 53 = .ok (.invokestatic 40, 3) := by decide +kernel
theorem dX4_isGood_56 : decode cX4_isGood 56 = .ok (.goto 26, 3) := by decide +kernel
theorem dX4_isGood_59 : decode cX4_isGood 59 = .ok (.iload_n 0, 1) := by decide +kernel
theorem dX4_isGood_60 : decode cX4_isGood 60 = .ok (.bipush 8, 2) := by decide +kernel
theorem dX4_isGood_62 : decode cX4_isGood 62 = .ok (.if_icmp .ne 19, 3) := by decide +kernel
theorem dX4_isGood_65 : decode cX4_isGood 65 = .ok (.iload_n 2, 1) := by decide +kernel
theorem dX4_isGood_66 : decode cX4_isGood 66 = .ok (.i2l, 1) := by decide +kernel
theorem dX4_isGood_67 : decode cX4_isGood 67 = .ok (.lconst 1, 1) := by decide +kernel
theorem dX4_isGood_68 : decode cX4_isGood 68 = .ok (.ldc2_w 49, 3) := by decide +kernel
theorem dX4_isGood_71 : decode cX4_isGood 71 = .ok (.invokestatic 40, 3) := by decide +kernel
theorem dX4_isGood_74 : decode cX4_isGood 74 = .ok (.ifCond .eq 7, 3) := by decide +kernel
theorem dX4_isGood_77 : decode cX4_isGood 77 = .ok (.iconst 1, 1) := by decide +kernel
theorem dX4_isGood_78 : decode cX4_isGood 78 = .ok (.goto 4, 3) := by decide +kernel
theorem dX4_isGood_81 : decode cX4_isGood 81 = .ok (.iconst 0, 1) := by decide +kernel
theorem dX4_isGood_82 : decode cX4_isGood 82 = .ok (.ireturn, 1) := by decide +kernel
theorem dX4_faultOf_0 : decode cX4_faultOf 0 = .ok (.iconst 0, 1) := by decide +kernel
theorem dX4_faultOf_1 : decode cX4_faultOf 1 = .ok (.istore_n 1, 1) := by decide +kernel
theorem dX4_faultOf_2 : decode cX4_faultOf 2 = .ok (.iload_n 1, 1) := by decide +kernel
theorem dX4_faultOf_3 : decode cX4_faultOf 3 = .ok (.aload_n 0, 1) := by decide +kernel
theorem dX4_faultOf_4 : decode cX4_faultOf 4 = .ok (.getfield 44, 3) := by decide +kernel
theorem dX4_faultOf_7 : decode cX4_faultOf 7 = .ok (.if_icmp .ge 22, 3) := by decide +kernel
theorem dX4_faultOf_10 : decode cX4_faultOf 10 = .ok (.iload_n 1, 1) := by decide +kernel
theorem dX4_faultOf_11 : decode cX4_faultOf 11 = .ok (.aload_n 0, 1) := by decide +kernel
theorem dX4_faultOf_12 : decode cX4_faultOf 12 = .ok (.getfield 7, 3) := by decide +kernel
theorem dX4_faultOf_15 : decode cX4_faultOf 15 = .ok (.iload_n 1, 1) := by decide +kernel
theorem dX4_faultOf_16 : decode cX4_faultOf 16 = .ok (.iaload, 1) := by decide +kernel
theorem dX4_faultOf_17 : decode cX4_faultOf 17 = .ok (.invokestatic 51, 3) := by decide +kernel
theorem dX4_faultOf_20 : decode cX4_faultOf 20 = .ok (.ifCond .eq 9, 3) := by decide +kernel
theorem dX4_faultOf_23 : decode cX4_faultOf 23 = .ok (.iinc 1 1, 3) := by decide +kernel
theorem dX4_faultOf_26 : decode cX4_faultOf 26 = .ok (.goto (-24), 3) := by decide +kernel
theorem dX4_faultOf_29 : decode cX4_faultOf 29 = .ok (.iload_n 1, 1) := by decide +kernel
theorem dX4_faultOf_30 : decode cX4_faultOf 30 = .ok (.ireturn, 1) := by decide +kernel
theorem dX4_fault_0 : decode cX4_fault 0 = .ok (.aload_n 0, 1) := by decide +kernel
theorem dX4_fault_1 : decode cX4_fault 1 = .ok (.invokevirtual 55, 3) := by decide +kernel
theorem dX4_fault_4 : decode cX4_fault 4 = .ok (.ireturn, 1) := by decide +kernel
theorem dX4_town_0 : decode cX4_town 0 = .ok (.aload_n 0, 1) := by decide +kernel
theorem dX4_town_1 : decode cX4_town 1 = .ok (.getfield 44, 3) := by decide +kernel
theorem dX4_town_4 : decode cX4_town 4 = .ok (.bipush 9, 2) := by decide +kernel
theorem dX4_town_6 : decode cX4_town 6 = .ok (.if_icmp .ne 12, 3) := by decide +kernel
theorem dX4_town_9 : decode cX4_town 9 = .ok (.aload_n 0, 1) := by decide +kernel
theorem dX4_town_10 : decode cX4_town 10 = .ok (.invokevirtual 55, 3) := by decide +kernel
theorem dX4_town_13 : decode cX4_town 13 = .ok (.bipush 9, 2) := by decide +kernel
theorem dX4_town_15 : decode cX4_town 15 = .ok (.if_icmp .ge 6, 3) := by decide +kernel
theorem dX4_town_18 : decode cX4_town 18 = .ok (.bipush (-103), 2) := by decide +kernel
theorem dX4_town_20 : decode cX4_town 20 = .ok (.ireturn, 1) := by decide +kernel
theorem dX4_town_21 : decode cX4_town 21 = .ok (.iconst 0, 1) := by decide +kernel
theorem dX4_town_22 : decode cX4_town 22 = .ok (.istore_n 1, 1) := by decide +kernel
theorem dX4_town_23 : decode cX4_town 23 = .ok (.iconst 0, 1) := by decide +kernel
theorem dX4_town_24 : decode cX4_town 24 = .ok (.istore_n 2, 1) := by decide +kernel
theorem dX4_town_25 : decode cX4_town 25 = .ok (.iload_n 2, 1) := by decide +kernel
theorem dX4_town_26 : decode cX4_town 26 = .ok (.bipush 6, 2) := by decide +kernel
theorem dX4_town_28 : decode cX4_town 28 = .ok (.if_icmp .ge 33, 3) := by decide +kernel
theorem dX4_town_31 : decode cX4_town 31 = .ok (.aload_n 0, 1) := by decide +kernel
theorem dX4_town_32 : decode cX4_town 32 = .ok (.getfield 13, 3) := by decide +kernel
theorem dX4_town_35 : decode cX4_town 35 = .ok (.iload_n 2, 1) := by decide +kernel
theorem dX4_town_36 : decode cX4_town 36 = .ok (.aload_n 0, 1) := by decide +kernel
theorem dX4_town_37 : decode cX4_town 37 = .ok (.getfield 7, 3) := by decide +kernel
theorem dX4_town_40 : decode cX4_town 40 = .ok (.iload_n 2, 1) := by decide +kernel
theorem dX4_town_41 : decode cX4_town 41 = .ok (.iaload, 1) := by decide +kernel
theorem dX4_town_42 : decode cX4_town 42 = .ok (.bipush 48, 2) := by decide +kernel
theorem dX4_town_44 : decode cX4_town 44 = .ok (.isub, 1) := by decide +kernel
theorem dX4_town_45 : decode cX4_town 45 = .ok (.iastore, 1) := by decide +kernel
theorem dX4_town_46 : decode cX4_town 46 = .ok (.iload_n 1, 1) := by decide +kernel
theorem dX4_town_47 : decode cX4_town 47 = .ok (.aload_n 0, 1) := by decide +kernel
theorem dX4_town_48 : decode cX4_town 48 = .ok (.getfield 13, 3) := by decide +kernel
theorem dX4_town_51 : decode cX4_town 51 = .ok (.iload_n 2, 1) := by decide +kernel
theorem dX4_town_52 : decode cX4_town 52 = .ok (.iaload, 1) := by decide +kernel
theorem dX4_town_53 : decode cX4_town 53 = .ok (.iadd, 1) := by decide +kernel
theorem dX4_town_54 : decode cX4_town 54 = .ok (.istore_n 1, 1) := by decide +kernel
theorem dX4_town_55 : decode cX4_town 55 = .ok (.iinc 2 1, 3) := by decide +kernel
theorem dX4_town_58 : decode cX4_town 58 = .ok (.goto (-33), 3) := by decide +kernel
theorem dX4_town_61 : decode cX4_town 61 = .ok (.aload_n 0, 1) := by decide +kernel
theorem dX4_town_62 : decode cX4_town 62 = .ok (.aload_n 0, 1) := by decide +kernel
theorem dX4_town_63 : decode cX4_town 63 = .ok (.getfield 7, 3) := by decide +kernel
theorem dX4_town_66 : decode cX4_town 66 = .ok (.bipush 7, 2) := by decide +kernel
theorem dX4_town_68 : decode cX4_town 68 = .ok (.iaload, 1) := by decide +kernel
theorem dX4_town_69 : decode cX4_town 69 = .ok (.bipush 48, 2) := by decide +kernel
theorem dX4_town_71 : decode cX4_town 71 = .ok (.isub, 1) := by decide +kernel
theorem dX4_town_72 : decode cX4_town 72 = .ok (.putfield 59, 3) := by decide +kernel
theorem dX4_town_75 : decode cX4_town 75 = .ok (.aload_n 0, 1) := by decide +kernel
theorem dX4_town_76 : decode cX4_town 76 = .ok (.aload_n 0, 1) := by decide +kernel
theorem dX4_town_77 : decode cX4_town 77 = .ok (.getfield 59, 3) := by decide +kernel
theorem dX4_town_80 : decode cX4_town 80 = .ok (.putfield 62, 3) := by decide +kernel
theorem dX4_town_83 : decode cX4_town 83 = .ok (.aload_n 0, 1) := by decide +kernel
theorem dX4_town_84 : decode cX4_town 84 = .ok (.aload_n 0, 1) := by decide +kernel
theorem dX4_town_85 : decode cX4_town 85 = .ok (.getfield 7, 3) := by decide +kernel
theorem dX4_town_88 : decode cX4_town 88 = .ok (.bipush 8, 2) := by decide +kernel
theorem dX4_town_90 : decode cX4_town 90 = .ok (.iaload, 1) := by decide +kernel
theorem dX4_town_91 : decode cX4_town 91 = .ok (.bipush 48, 2) := by decide +kernel
theorem dX4_town_93 : decode cX4_town 93 = .ok (.isub, 1) := by decide +kernel
theorem dX4_town_94 : decode cX4_town 94 = .ok (.putfield 65, 3) := by decide +kernel
theorem dX4_town_97 : decode cX4_town 97 = .ok (.aload_n 0, 1) := by decide +kernel
theorem dX4_town_98 : decode cX4_town 98 = .ok (.iconst 0, 1) := by decide +kernel
theorem dX4_town_99 : decode cX4_town 99 = .ok (.putfield 68, 3) := by decide +kernel
theorem dX4_town_102 : decode cX4_town 102 = .ok (.aload_n 0, 1) := by decide +kernel
theorem dX4_town_103 : decode cX4_town 103 = .ok (.iconst 0, 1) := by decide +kernel
theorem dX4_town_104 : decode cX4_town 104 = .ok (.putfield 71, 3) := by decide +kernel
theorem dX4_town_107 : decode cX4_town 107 = .ok (.aload_n 0, 1) := by decide +kernel
theorem dX4_town_108 : decode cX4_town 108 = .ok (.iconst 1, 1) := by decide +kernel
theorem dX4_town_109 : decode cX4_town 109 = .ok (.putfield 74, 3) := by decide +kernel
theorem dX4_town_112 : decode cX4_town 112 = .ok (.aload_n 0, 1) := by decide +kernel
theorem dX4_town_113 : decode cX4_town 113 = .ok (.iconst 1, 1) := by decide +kernel
theorem dX4_town_114 : decode cX4_town 114 = .ok (.putfield 77, 3) := by decide +kernel
theorem dX4_town_117 : decode cX4_town 117 = .ok (.aload_n 0, 1) := by decide +kernel
theorem dX4_town_118 : decode cX4_town 118 = .ok (.iconst 0, 1) := by decide +kernel
theorem dX4_town_119 : decode cX4_town 119 = .ok (.putfield 80, 3) := by decide +kernel
theorem dX4_town_122 : decode cX4_town 122 = .ok (.aload_n 0, 1) := by decide +kernel
theorem dX4_town_123 : decode cX4_town 123 = .ok (.iconst 0, 1) := by decide +kernel
theorem dX4_town_124 : decode cX4_town 124 = .ok (.putfield 83, 3) := by decide +kernel
theorem dX4_town_127 : decode cX4_town 127 = .ok (.aload_n 0, 1) := by decide +kernel
theorem dX4_town_128 : decode cX4_town 128 = .ok (.dup, 1) := by decide +kernel
theorem dX4_town_129 : decode cX4_town 129 = .ok (.getfield 86, 3) := by decide +kernel
theorem dX4_town_132 : decode cX4_town 132 = .ok (.iconst 1, 1) := by decide +kernel
theorem dX4_town_133 : decode cX4_town 133 = .ok (.iadd, 1) := by decide +kernel
theorem dX4_town_134 : decode cX4_town 134 = .ok (.putfield 86, 3) := by decide +kernel
theorem dX4_town_137 : decode cX4_town 137 = .ok (.aload_n 0, 1) := by decide +kernel
theorem dX4_town_138 : decode cX4_town 138 = .ok (.iconst 0, 1) := by decide +kernel
theorem dX4_town_139 : decode cX4_town 139 = .ok (.putfield 44, 3) := by decide +kernel
theorem dX4_town_142 : decode cX4_town 142 = .ok (.iload_n 1, 1) := by decide +kernel
theorem dX4_town_143 : decode cX4_town 143 = .ok (.ireturn, 1) := by decide +kernel
theorem dX4_lacks_0 : decode cX4_lacks 0 = .ok (.aload_n 0, 1) := by decide +kernel
theorem dX4_lacks_1 : decode cX4_lacks 1 = .ok (.getfield 65, 3) := by decide +kernel
theorem dX4_lacks_4 : decode cX4_lacks 4 = .ok (.ifCond .ne 7, 3) := by decide +kernel
theorem dX4_lacks_7 : decode cX4_lacks 7 = .ok (.iconst 1, 1) := by decide +kernel
theorem dX4_lacks_8 : decode cX4_lacks 8 = .ok (.goto 4, 3) := by decide +kernel
theorem dX4_lacks_11 : decode cX4_lacks 11 = .ok (.iconst 0, 1) := by decide +kernel
theorem dX4_lacks_12 : decode cX4_lacks 12 = .ok (.ireturn, 1) := by decide +kernel
theorem dX4_isPlace_0 : decode cX4_isPlace 0 = .ok (.aload_n 0, 1) := by decide +kernel
theorem dX4_isPlace_1 : decode cX4_isPlace 1 = .ok (.invokevirtual 89, 3) := by decide +kernel
theorem dX4_isPlace_4 : decode cX4_isPlace 4 = .ok (.ifCond .ne 19, 3) := by decide +kernel
theorem dX4_isPlace_7 : decode cX4_isPlace 7 = .ok (.iload_n 1, 1) := by decide +kernel
theorem dX4_isPlace_8 : decode cX4_isPlace 8 = .ok (.i2l, 1) := by decide +kernel
theorem dX4_isPlace_9 : decode cX4_isPlace 9 = .ok (.lconst 0, 1) := by decide +kernel
theorem dX4_isPlace_10 : decode cX4_isPlace 10 = .ok (.ldc2_w 49, 3) := by decide +kernel
theorem dX4_isPlace_13 : decode cX4_isPlace 13 = .ok (.invokestatic 40, 3) := by decide +kernel
theorem dX4_isPlace_16 : decode cX4_isPlace 16 = .ok (.ifCond .eq 7, 3) := by decide +kernel
theorem dX4_isPlace_19 : decode cX4_isPlace 19 = .ok (.iconst 1, 1) := by decide +kernel
theorem dX4_isPlace_20 : decode cX4_isPlace 20 = .ok (.goto 4, 3) := by decide +kernel
theorem dX4_isPlace_23 : decode cX4_isPlace 23 = .ok (.iconst 0, 1) := by decide +kernel
theorem dX4_isPlace_24 : decode cX4_isPlace 24 = .ok (.ireturn, 1) := by decide +kernel
theorem dX4_noise_0 : decode cX4_noise 0 = .ok (.aload_n 0, 1) := by decide +kernel
theorem dX4_noise_1 : decode cX4_noise 1 = .ok (.iload_n 1, 1) := by decide +kernel
theorem dX4_noise_2 : decode cX4_noise 2 = .ok (.invokevirtual 93, 3) := by decide +kernel
theorem dX4_noise_5 : decode cX4_noise 5 = .ok (.ifCond .eq 12, 3) := by decide +kernel
theorem dX4_noise_8 : decode cX4_noise 8 = .ok (.aload_n 0, 1) := by decide +kernel
theorem dX4_noise_9 : decode cX4_noise 9 = .ok (.getfield 13, 3) := by decide +kernel
theorem dX4_noise_12 : decode cX4_noise 12 = .ok (.iload_n 1, 1) := by decide +kernel
theorem dX4_noise_13 : decode cX4_noise 13 = .ok (.iaload, 1) := by decide +kernel
theorem dX4_noise_14 : decode cX4_noise 14 = .ok (.goto 5, 3) := by decide +kernel
theorem dX4_noise_17 : decode cX4_noise 17 = .ok (.bipush (-101), 2) := by decide +kernel
theorem dX4_noise_19 : decode cX4_noise 19 = .ok (.ireturn, 1) := by decide +kernel
theorem dX4_hum_0 : decode cX4_hum 0 = .ok (.aload_n 0, 1) := by decide +kernel
theorem dX4_hum_1 : decode cX4_hum 1 = .ok (.iload_n 1, 1) := by decide +kernel
theorem dX4_hum_2 : decode cX4_hum 2 = .ok (.invokevirtual 93, 3) := by decide +kernel
theorem dX4_hum_5 : decode cX4_hum 5 = .ok (.ifCond .ne 6, 3) := by decide +kernel
theorem dX4_hum_8 : decode cX4_hum 8 = .ok (.bipush (-101), 2) := by decide +kernel
theorem dX4_hum_10 : decode cX4_hum 10 = .ok (.ireturn, 1) := by decide +kernel
theorem dX4_hum_11 : decode cX4_hum 11 = .ok (.iload_n 2, 1) := by decide +kernel
theorem dX4_hum_12 : decode cX4_hum 12 = .ok (.i2l, 1) := by decide +kernel
theorem dX4_hum_13 : decode cX4_hum 13 = .ok (.lconst 0, 1) := by decide +kernel
theorem dX4_hum_14 : decode cX4_hum 14 = .ok (.ldc2_w 47, 3) := by decide +kernel
theorem dX4_hum_17 : decode cX4_hum 17 = .ok (.invokestatic 40, 3) := by decide +kernel
theorem dX4_hum_20 : decode cX4_hum 20 = .ok (.ifCond .ne 6, 3) := by decide +kernel
theorem dX4_hum_23 : decode cX4_hum 23 = .ok (.bipush (-102), 2) := by decide +kernel
theorem dX4_hum_25 : decode cX4_hum 25 = .ok (.ireturn, 1) := by decide +kernel
theorem dX4_hum_26 : decode cX4_hum 26 = .ok (.aload_n 0, 1) := by decide +kernel
theorem dX4_hum_27 : decode cX4_hum 27 = .ok (.getfield 13, 3) := by decide +kernel
theorem dX4_hum_30 : decode cX4_hum 30 = .ok (.iload_n 1, 1) := by decide +kernel
theorem dX4_hum_31 : decode cX4_hum 31 = .ok (.iaload, 1) := by decide +kernel
theorem dX4_hum_32 : decode cX4_hum 32 = .ok (.istore_n 3, 1) := by decide +kernel
theorem dX4_hum_33 : decode cX4_hum 33 = .ok (.aload_n 0, 1) := by decide +kernel
theorem dX4_hum_34 : decode cX4_hum 34 = .ok (.getfield 13, 3) := by decide +kernel
theorem dX4_hum_37 : decode cX4_hum 37 = .ok (.iload_n 1, 1) := by decide +kernel
theorem dX4_hum_38 : decode cX4_hum 38 = .ok (.iload_n 2, 1) := by decide +kernel
theorem dX4_hum_39 : decode cX4_hum 39 = .ok (.iastore, 1) := by decide +kernel
theorem dX4_hum_40 : decode cX4_hum 40 = .ok (.iload_n 3, 1) := by decide +kernel
theorem dX4_hum_41 : decode cX4_hum 41 = .ok (.ireturn, 1) := by decide +kernel
theorem dX4_isListener_0 : decode cX4_isListener 0 = .ok (.iload_n 1, 1) := by decide +kernel
theorem dX4_isListener_1 : decode cX4_isListener 1 = .ok (.i2l, 1) := by decide +kernel
theorem dX4_isListener_2 : decode cX4_isListener 2 = .ok (.lconst 0, 1) := by decide +kernel
theorem dX4_isListener_3 : decode cX4_isListener 3 = .ok (.aload_n 0, 1) := by decide +kernel
theorem dX4_isListener_4 : decode cX4_isListener 4 = .ok (.getfield 80, 3) := by decide +kernel
theorem dX4_isListener_7 : decode cX4_isListener 7 = .ok (.iconst 1, 1) := by decide +kernel
theorem dX4_isListener_8 : decode cX4_isListener 8 = .ok (.isub, 1) := by decide +kernel
theorem dX4_isListener_9 : decode cX4_isListener 9 = .ok (.i2l, 1) := by decide +kernel
theorem dX4_isListener_10 : decode cX4_isListener 10 = .ok (.invokestatic 40, 3) := by decide +kernel
theorem dX4_isListener_13 : decode cX4_isListener 13 = .ok (.ireturn, 1) := by decide +kernel
theorem dX4_allListeners_0 : decode cX4_allListeners 0 = .ok (.iconst 1, 1) := by decide +kernel
theorem dX4_allListeners_1 : decode cX4_allListeners 1 = .ok (.aload_n 0, 1) := by decide +kernel
theorem dX4_allListeners_2 : decode cX4_allListeners 2 = .ok (.getfield 80, 3) := by decide +kernel
theorem dX4_allListeners_5 : decode cX4_allListeners 5 = .ok (.ishl, 1) := by decide +kernel
theorem dX4_allListeners_6 : decode cX4_allListeners 6 = .ok (.iconst 1, 1) := by decide +kernel
theorem dX4_allListeners_7 : decode cX4_allListeners 7 = .ok (.isub, 1) := by decide +kernel
theorem dX4_allListeners_8 : decode cX4_allListeners 8 = .ok (.ireturn, 1) := by decide +kernel
theorem dX4_listener_0 : decode cX4_listener 0 = .ok (.iload_n 1, 1) := by decide +kernel
theorem dX4_listener_1 : decode cX4_listener 1 = .ok (.i2l, 1) := by decide +kernel
theorem dX4_listener_2 : decode cX4_listener 2 = .ok (.lconst 0, 1) := by decide +kernel
theorem dX4_listener_3 : decode cX4_listener 3 = .ok (.ldc2_w 97, 3) := by decide +kernel
theorem dX4_listener_6 : decode cX4_listener 6 = .ok (.invokestatic 40, 3) := by decide +kernel
theorem dX4_listener_9 : decode cX4_listener 9 = .ok (.ifCond .ne 6, 3) := by decide +kernel
theorem dX4_listener_12 : decode cX4_listener 12 = .ok (.bipush (-102), 2) := by decide +kernel
theorem dX4_listener_14 : decode cX4_listener 14 = .ok (.ireturn, 1) := by decide +kernel
theorem dX4_listener_15 : decode cX4_listener 15 = .ok (.aload_n 0, 1) := by decide +kernel
theorem dX4_listener_16 : decode cX4_listener 16 = .ok (.iload_n 2, 1) := by decide +kernel
theorem dX4_listener_17 : decode cX4_listener 17 = .ok (.invokevirtual 93, 3) := by decide +kernel
theorem dX4_listener_20 : decode cX4_listener 20 = .ok (.ifCond .ne 6, 3) := by decide +kernel
theorem dX4_listener_23 : decode cX4_listener 23 = .ok (.bipush (-101), 2) := by decide +kernel
theorem dX4_listener_25 : decode cX4_listener 25 = .ok (.ireturn, 1) := by decide +kernel
theorem dX4_listener_26 : decode cX4_listener 26 = .ok (.aload_n 0, 1) := by decide +kernel
theorem dX4_listener_27 : decode cX4_listener 27 = .ok (.getfield 80, 3) := by decide +kernel
theorem dX4_listener_30 : decode cX4_listener 30 = .ok (.bipush 6, 2) := by decide +kernel
theorem dX4_listener_32 : decode cX4_listener 32 = .ok (.if_icmp .ne 6, 3) := by decide +kernel
theorem dX4_listener_35 : decode cX4_listener 35 = .ok (.bipush (-104), 2) := by decide +kernel
theorem dX4_listener_37 : decode cX4_listener 37 = .ok (.ireturn, 1) := by decide +kernel
theorem dX4_listener_38 : decode cX4_listener 38 = .ok (.aload_n 0, 1) := by decide +kernel
theorem dX4_listener_39 : decode cX4_listener 39 = .ok (.getfield 16, 3) := by decide +kernel
theorem dX4_listener_42 : decode cX4_listener 42 = .ok (.iconst 2, 1) := by decide +kernel
theorem dX4_listener_43 : decode cX4_listener 43 = .ok (.aload_n 0, 1) := by decide +kernel
theorem dX4_listener_44 : decode cX4_listener 44 = .ok (.getfield 80, 3) := by decide +kernel
theorem dX4_listener_47 : decode cX4_listener 47 = .ok (.imul, 1) := by decide +kernel
theorem dX4_listener_48 : decode cX4_listener 48 = .ok (.iload_n 1, 1) := by decide +kernel
theorem dX4_listener_49 : decode cX4_listener 49 = .ok (.iastore, 1) := by decide +kernel
theorem dX4_listener_50 : decode cX4_listener 50 = .ok (.aload_n 0, 1) := by decide +kernel
theorem dX4_listener_51 : decode cX4_listener 51 = .ok (.getfield 16, 3) := by decide +kernel
theorem dX4_listener_54 : decode cX4_listener 54 = .ok (.iconst 2, 1) := by decide +kernel
theorem dX4_listener_55 : decode cX4_listener 55 = .ok (.aload_n 0, 1) := by decide +kernel
theorem dX4_listener_56 : decode cX4_listener 56 = .ok (.getfield 80, 3) := by decide +kernel
theorem dX4_listener_59 : decode cX4_listener 59 = .ok (.imul, 1) := by decide +kernel
theorem dX4_listener_60 : decode cX4_listener 60 = .ok (.iconst 1, 1) := by decide +kernel
theorem dX4_listener_61 : decode cX4_listener 61 = .ok (.iadd, 1) := by decide +kernel
theorem dX4_listener_62 : decode cX4_listener 62 = .ok (.iload_n 2, 1) := by decide +kernel
theorem dX4_listener_63 : decode cX4_listener 63 = .ok (.iastore, 1) := by decide +kernel
theorem dX4_listener_64 : decode cX4_listener 64 = .ok (.aload_n 0, 1) := by decide +kernel
theorem dX4_listener_65 : decode cX4_listener 65 = .ok (.dup, 1) := by decide +kernel
theorem dX4_listener_66 : decode cX4_listener 66 = .ok (.getfield 80, 3) := by decide +kernel
theorem dX4_listener_69 : decode cX4_listener 69 = .ok (.iconst 1, 1) := by decide +kernel
theorem dX4_listener_70 : decode cX4_listener 70 = .ok (.iadd, 1) := by decide +kernel
theorem dX4_listener_71 : decode cX4_listener 71 = .ok (.putfield 80, 3) := by decide +kernel
theorem dX4_listener_74 : decode cX4_listener 74 = .ok (.aload_n 0, 1) := by decide +kernel
theorem dX4_listener_75 : decode cX4_listener 75 = .ok (.getfield 80, 3) := by decide +kernel
theorem dX4_listener_78 : decode cX4_listener 78 = .ok (.iconst 1, 1) := by decide +kernel
theorem dX4_listener_79 : decode cX4_listener 79 = .ok (.isub, 1) := by decide +kernel
theorem dX4_listener_80 : decode cX4_listener 80 = .ok (.ireturn, 1) := by decide +kernel
theorem dX4_needsOf_0 : decode cX4_needsOf 0 = .ok (.aload_n 0, 1) := by decide +kernel
theorem dX4_needsOf_1 : decode cX4_needsOf 1 = .ok (.getfield 16, 3) := by decide +kernel
theorem dX4_needsOf_4 : decode cX4_needsOf 4 = .ok (.iconst 2, 1) := by decide +kernel
theorem dX4_needsOf_5 : decode cX4_needsOf 5 = .ok (.iload_n 1, 1) := by decide +kernel
theorem dX4_needsOf_6 : decode cX4_needsOf 6 = .ok (.imul, 1) := by decide +kernel
theorem dX4_needsOf_7 : decode cX4_needsOf 7 = .ok (.iaload, 1) := by decide +kernel
theorem dX4_needsOf_8 : decode cX4_needsOf 8 = .ok (.iconst 1, 1) := by decide +kernel
theorem dX4_needsOf_9 : decode cX4_needsOf 9 = .ok (.if_icmp .ne 7, 3) := by decide +kernel
theorem dX4_needsOf_12 : decode cX4_needsOf 12 = .ok (.iconst 5, 1) := by decide +kernel
theorem dX4_needsOf_13 : decode cX4_needsOf 13 = .ok (.goto 20, 3) := by decide +kernel
theorem dX4_needsOf_16 : decode cX4_needsOf 16 = .ok (.aload_n 0, 1) := by decide +kernel
theorem dX4_needsOf_17 : decode cX4_needsOf 17 = .ok (.getfield 16, 3) := by decide +kernel
theorem dX4_needsOf_20 : decode cX4_needsOf 20 = .ok (.iconst 2, 1) := by decide +kernel
theorem dX4_needsOf_21 : decode cX4_needsOf 21 = .ok (.iload_n 1, 1) := by decide +kernel
theorem dX4_needsOf_22 : decode cX4_needsOf 22 = .ok (.imul, 1) := by decide +kernel
theorem dX4_needsOf_23 : decode cX4_needsOf 23 = .ok (.iaload, 1) := by decide +kernel
theorem dX4_needsOf_24 : decode cX4_needsOf 24 = .ok (.iconst 2, 1) := by decide +kernel
theorem dX4_needsOf_25 : decode cX4_needsOf 25 = .ok (.if_icmp .ne 7, 3) := by decide +kernel
theorem dX4_needsOf_28 : decode cX4_needsOf 28 = .ok (.iconst 3, 1) := by decide +kernel
theorem dX4_needsOf_29 : decode cX4_needsOf 29 = .ok (.goto 4, 3) := by decide +kernel
theorem dX4_needsOf_32 : decode cX4_needsOf 32 = .ok (.iconst 1, 1) := by decide +kernel
theorem dX4_needsOf_33 : decode cX4_needsOf 33 = .ok (.ireturn, 1) := by decide +kernel
theorem dX4_criesOf_0 : decode cX4_criesOf 0 = .ok (.aload_n 0, 1) := by decide +kernel
theorem dX4_criesOf_1 : decode cX4_criesOf 1 = .ok (.getfield 16, 3) := by decide +kernel
theorem dX4_criesOf_4 : decode cX4_criesOf 4 = .ok (.iconst 2, 1) := by decide +kernel
theorem dX4_criesOf_5 : decode cX4_criesOf 5 = .ok (.iload_n 1, 1) := by decide +kernel
theorem dX4_criesOf_6 : decode cX4_criesOf 6 = .ok (.imul, 1) := by decide +kernel
theorem dX4_criesOf_7 : decode cX4_criesOf 7 = .ok (.iaload, 1) := by decide +kernel
theorem dX4_criesOf_8 : decode cX4_criesOf 8 = .ok (.iconst 3, 1) := by decide +kernel
theorem dX4_criesOf_9 : decode cX4_criesOf 9 = .ok (.if_icmp .ne 7, 3) := by decide +kernel
theorem dX4_criesOf_12 : decode cX4_criesOf 12 = .ok (.iconst 4, 1) := by decide +kernel
theorem dX4_criesOf_13 : decode cX4_criesOf 13 = .ok (.goto 21, 3) := by decide +kernel
theorem dX4_criesOf_16 : decode cX4_criesOf 16 = .ok (.aload_n 0, 1) := by decide +kernel
theorem dX4_criesOf_17 : decode cX4_criesOf 17 = .ok (.getfield 16, 3) := by decide +kernel
theorem dX4_criesOf_20 : decode cX4_criesOf 20 = .ok (.iconst 2, 1) := by decide +kernel
theorem dX4_criesOf_21 : decode cX4_criesOf 21 = .ok (.iload_n 1, 1) := by decide +kernel
theorem dX4_criesOf_22 : decode cX4_criesOf 22 = .ok (.imul, 1) := by decide +kernel
theorem dX4_criesOf_23 : decode cX4_criesOf 23 = .ok (.iaload, 1) := by decide +kernel
theorem dX4_criesOf_24 : decode cX4_criesOf 24 = .ok (.iconst 4, 1) := by decide +kernel
theorem dX4_criesOf_25 : decode cX4_criesOf 25 = .ok (.if_icmp .ne 8, 3) := by decide +kernel
theorem dX4_criesOf_28 : decode cX4_criesOf 28 = .ok (.bipush 7, 2) := by decide +kernel
theorem dX4_criesOf_30 : decode cX4_criesOf 30 = .ok (.goto 4, 3) := by decide +kernel
theorem dX4_criesOf_33 : decode cX4_criesOf 33 = .ok (.iconst 0, 1) := by decide +kernel
theorem dX4_criesOf_34 : decode cX4_criesOf 34 = .ok (.ireturn, 1) := by decide +kernel
theorem dX4_hearing_0 : decode cX4_hearing 0 = .ok (.iconst 0, 1) := by decide +kernel
theorem dX4_hearing_1 : decode cX4_hearing 1 = .ok (.istore 4, 2) := by decide +kernel
theorem dX4_hearing_3 : decode cX4_hearing 3 = .ok (.iconst 0, 1) := by decide +kernel
theorem dX4_hearing_4 : decode cX4_hearing 4 = .ok (.istore 5, 2) := by decide +kernel
theorem dX4_hearing_6 : decode cX4_hearing 6 = .ok (.iload 5, 2) := by decide +kernel
theorem dX4_hearing_8 : decode cX4_hearing 8 = .ok (.aload_n 0, 1) := by decide +kernel
theorem dX4_hearing_9 : decode cX4_hearing 9 = .ok (.getfield 80, 3) := by decide +kernel
theorem dX4_hearing_12 : decode cX4_hearing 12 = .ok (.if_icmp .ge 91, 3) := by decide +kernel
theorem dX4_hearing_15 : decode cX4_hearing 15 = .ok (.aload_n 0, 1) := by decide +kernel
theorem dX4_hearing_16 : decode cX4_hearing 16 = .ok (.getfield 16, 3) := by decide +kernel
theorem dX4_hearing_19 : decode cX4_hearing 19 = .ok (.iconst 2, 1) := by decide +kernel
theorem dX4_hearing_20 : decode cX4_hearing 20 = .ok (.iload 5, 2) := by decide +kernel
theorem dX4_hearing_22 : decode cX4_hearing 22 = .ok (.imul, 1) := by decide +kernel
theorem dX4_hearing_23 : decode cX4_hearing 23 = .ok (.iconst 1, 1) := by decide +kernel
theorem dX4_hearing_24 : decode cX4_hearing 24 = .ok (.iadd, 1) := by decide +kernel
theorem dX4_hearing_25 : decode cX4_hearing 25 = .ok (.iaload, 1) := by decide +kernel
theorem dX4_hearing_26 : decode cX4_hearing 26 = .ok (.istore 6, 2) := by decide +kernel
theorem dX4_hearing_28 : decode cX4_hearing 28 = .ok (.iload 6, 2) := by decide +kernel
theorem dX4_hearing_30 : decode cX4_hearing 30 = .ok (.iload_n 1, 1) := by decide +kernel
theorem dX4_hearing_31 : decode cX4_hearing 31 = .ok (.if_icmp .le 10, 3) := by decide +kernel
theorem dX4_hearing_34 : decode cX4_hearing 34 = .ok (.iload 6, 2) := by decide +kernel
theorem dX4_hearing_36 : decode cX4_hearing 36 = .ok (.iload_n 1, 1) := by decide +kernel
theorem dX4_hearing_37 : decode cX4_hearing 37 = .ok (.isub, 1) := by decide +kernel
theorem dX4_hearing_38 : decode cX4_hearing 38 = .ok (.goto 7, 3) := by decide +kernel
theorem dX4_hearing_41 : decode cX4_hearing 41 = .ok (.iload_n 1, 1) := by decide +kernel
theorem dX4_hearing_42 : decode cX4_hearing 42 = .ok (.iload 6, 2) := by decide +kernel
theorem dX4_hearing_44 : decode cX4_hearing 44 = .ok (.isub, 1) := by decide +kernel
theorem dX4_hearing_45 : decode cX4_hearing 45 = .ok (.istore 7, 2) := by decide +kernel
theorem dX4_hearing_47 : decode cX4_hearing 47 = .ok (.iload_n 2, 1) := by decide +kernel
theorem dX4_hearing_48 : decode cX4_hearing 48 = .ok (.iconst 2, 1) := by decide +kernel
theorem dX4_hearing_49 : decode cX4_hearing 49 = .ok (.iload 7, 2) := by decide +kernel
theorem dX4_hearing_51 : decode cX4_hearing 51 = .ok (.imul, 1) := by decide +kernel
theorem dX4_hearing_52 : decode cX4_hearing 52 = .ok (.isub, 1) := by decide +kernel
theorem dX4_hearing_53 : decode cX4_hearing 53 = .ok (.aload_n 0, 1) := by decide +kernel
theorem dX4_hearing_54 : decode cX4_hearing 54 = .ok (.getfield 13, 3) := by decide +kernel
theorem dX4_hearing_57 : decode cX4_hearing 57 = .ok (.iload 6, 2) := by decide +kernel
theorem dX4_hearing_59 : decode cX4_hearing 59 = .ok (.iaload, 1) := by decide +kernel
theorem dX4_hearing_60 : decode cX4_hearing 60 = .ok (.isub, 1) := by decide +kernel
theorem dX4_hearing_61 : decode cX4_hearing 61 = .ok (.aload_n 0, 1) := by decide +kernel
theorem dX4_hearing_62 : decode cX4_hearing 62 = .ok (.iload 5, 2) := by decide +kernel
theorem dX4_hearing_64 : decode cX4_hearing 64 = .ok (.invokevirtual 99, 3) := by decide +kernel
theorem dX4_hearing_67 : decode cX4_hearing 67 = .ok (.if_icmp .lt 7, 3) := by decide +kernel
theorem dX4_hearing_70 : decode cX4_hearing 70 = .ok (.iconst 1, 1) := by decide +kernel
theorem dX4_hearing_71 : decode cX4_hearing 71 = .ok (.goto 4, 3) := by decide +kernel
theorem dX4_hearing_74 : decode cX4_hearing 74 = .ok (.iconst 0, 1) := by decide +kernel
theorem dX4_hearing_75 : decode cX4_hearing 75 = .ok (.istore 8, 2) := by decide +kernel
theorem dX4_hearing_77 : decode cX4_hearing 77 = .ok (.iload 4, 2) := by decide +kernel
theorem dX4_hearing_79 : decode cX4_hearing 79 = .ok (.iload 8, 2) := by decide +kernel
theorem dX4_hearing_81 : decode cX4_hearing 81 = .ok (.ifCond .eq 12, 3) := by decide +kernel
theorem dX4_hearing_84 : decode cX4_hearing 84 = .ok (.iload_n 3, 1) := by decide +kernel
theorem dX4_hearing_85 : decode cX4_hearing 85 = .ok (.iconst 1, 1) := by decide +kernel
theorem dX4_hearing_86 : decode cX4_hearing 86 = .ok (.iload 5, 2) := by decide +kernel
theorem dX4_hearing_88 : decode cX4_hearing 88 = .ok (.ishl, 1) := by decide +kernel
theorem dX4_hearing_89 : decode cX4_hearing 89 = .ok (.iand, 1) := by decide +kernel
theorem dX4_hearing_90 : decode cX4_hearing 90 = .ok (.goto 4, 3) := by decide +kernel
theorem dX4_hearing_93 : decode cX4_hearing 93 = .ok (.iconst 0, 1) := by decide +kernel
theorem dX4_hearing_94 : decode cX4_hearing 94 = .ok (.ior, 1) := by decide +kernel
theorem dX4_hearing_95 : decode cX4_hearing 95 = .ok (.istore 4, 2) := by decide +kernel
theorem dX4_hearing_97 : decode cX4_hearing 97 = .ok (.iinc 5 1, 3) := by decide +kernel
theorem dX4_hearing_100 : decode cX4_hearing 100 = .ok (.goto (-94), 3) := by decide +kernel
theorem dX4_hearing_103 : decode cX4_hearing 103 = .ok (.iload 4, 2) := by decide +kernel
theorem dX4_hearing_105 : decode cX4_hearing 105 = .ok (.ireturn, 1) := by decide +kernel
theorem dX4_heardBy_0 : decode cX4_heardBy 0 = .ok (.iload 4, 2) := by decide +kernel
theorem dX4_heardBy_2 : decode cX4_heardBy 2 = .ok (.aload_n 0, 1) := by decide +kernel
theorem dX4_heardBy_3 : decode cX4_heardBy 3 = .ok (.iload_n 1, 1) := by decide +kernel
theorem dX4_heardBy_4 : decode cX4_heardBy 4 = .ok (.iload_n 2, 1) := by decide +kernel
theorem dX4_heardBy_5 : decode cX4_heardBy 5 = .ok (.iload_n 3, 1) := by decide +kernel
theorem dX4_heardBy_6 : decode cX4_heardBy 6 = .ok (.invokevirtual 103, 3) := by decide +kernel
theorem dX4_heardBy_9 : decode cX4_heardBy 9 = .ok (.ior, 1) := by decide +kernel
theorem dX4_heardBy_10 : decode cX4_heardBy 10 = .ok (.istore 5, 2) := by decide +kernel
theorem dX4_heardBy_12 : decode cX4_heardBy 12 = .ok (.iload 4, 2) := by decide +kernel
theorem dX4_heardBy_14 : decode cX4_heardBy 14 = .ok (.istore 6, 2) := by decide +kernel
theorem dX4_heardBy_16 : decode cX4_heardBy 16 = .ok (.iload 6, 2) := by decide +kernel
theorem dX4_heardBy_18 : decode cX4_heardBy 18 = .ok (.iload 5, 2) := by decide +kernel
theorem dX4_heardBy_20 : decode cX4_heardBy 20 = .ok (.if_icmp .eq 109, 3) := by decide +kernel
theorem dX4_heardBy_23 : decode cX4_heardBy 23 = .ok (.iload 5, 2) := by decide +kernel
theorem dX4_heardBy_25 : decode cX4_heardBy 25 = .ok (.istore 7, 2) := by decide +kernel
theorem dX4_heardBy_27 : decode cX4_heardBy 27 = .ok (.iconst 0, 1) := by decide +kernel
theorem dX4_heardBy_28 : decode cX4_heardBy 28 = .ok (.istore 8, 2) := by decide +kernel
theorem dX4_heardBy_30 : decode cX4_heardBy 30 = .ok (.iload 8, 2) := by decide +kernel
theorem dX4_heardBy_32 : decode cX4_heardBy 32 = .ok (.aload_n 0, 1) := by decide +kernel
theorem dX4_heardBy_33 : decode cX4_heardBy 33 = .ok (.getfield 80, 3) := by decide +kernel
theorem dX4_heardBy_36 : decode cX4_heardBy 36 = .ok (.if_icmp .ge 82, 3) := by decide +kernel
theorem dX4_heardBy_39 : decode cX4_heardBy 39 = .ok (.iload 5, 2) := by decide +kernel
theorem dX4_heardBy_41 : decode cX4_heardBy 41 = .ok (.iload 8, 2) := by decide +kernel
theorem dX4_heardBy_43 : decode cX4_heardBy 43 = .ok (.ishr, 1) := by decide +kernel
theorem dX4_heardBy_44 : decode cX4_heardBy 44 = .ok (.iconst 1, 1) := by decide +kernel
theorem dX4_heardBy_45 : decode cX4_heardBy 45 = .ok (.iand, 1) := by decide +kernel
theorem dX4_heardBy_46 : decode cX4_heardBy 46 = .ok (.iconst 1, 1) := by decide +kernel
theorem dX4_heardBy_47 : decode cX4_heardBy 47 = .ok (.if_icmp .ne 26, 3) := by decide +kernel
theorem dX4_heardBy_50 : decode cX4_heardBy 50 = .ok (.iload 6, 2) := by decide +kernel
theorem dX4_heardBy_52 : decode cX4_heardBy 52 = .ok (.iload 8, 2) := by decide +kernel
theorem dX4_heardBy_54 : decode cX4_heardBy 54 = .ok (.ishr, 1) := by decide +kernel
theorem dX4_heardBy_55 : decode cX4_heardBy 55 = .ok (.iconst 1, 1) := by decide +kernel
theorem dX4_heardBy_56 : decode cX4_heardBy 56 = .ok (.iand, 1) := by decide +kernel
theorem dX4_heardBy_57 : decode cX4_heardBy 57 = .ok (.ifCond .ne 16, 3) := by decide +kernel
theorem dX4_heardBy_60 : decode cX4_heardBy 60 = .ok (.aload_n 0, 1) := by decide +kernel
theorem dX4_heardBy_61 : decode cX4_heardBy 61 = .ok (.iload 8, 2) := by decide +kernel
theorem dX4_heardBy_63 : decode cX4_heardBy 63 = .ok (.invokevirtual 107, 3) := by decide +kernel
theorem dX4_heardBy_66 : decode cX4_heardBy 66 = .ok (.ifCond .le 7, 3) := by decide +kernel
theorem dX4_heardBy_69 : decode cX4_heardBy 69 = .ok (.iconst 1, 1) := by decide +kernel
theorem dX4_heardBy_70 : decode cX4_heardBy 70 = .ok (.goto 4, 3) := by decide +kernel
theorem dX4_heardBy_73 : decode cX4_heardBy 73 = .ok (.iconst 0, 1) := by decide +kernel
theorem dX4_heardBy_74 : decode cX4_heardBy 74 = .ok (.istore 9, 2) := by decide +kernel
theorem dX4_heardBy_76 : decode cX4_heardBy 76 = .ok (.iload 7, 2) := by decide +kernel
theorem dX4_heardBy_78 : decode cX4_heardBy 78 = .ok (.iload 9, 2) := by decide +kernel
theorem dX4_heardBy_80 : decode cX4_heardBy 80 = .ok (.ifCond .eq 28, 3) := by decide +kernel
theorem dX4_heardBy_83 : decode cX4_heardBy 83 = .ok (.aload_n 0, 1) := by decide +kernel
theorem dX4_heardBy_84 : decode cX4_heardBy 84 = .ok (.aload_n 0, 1) := by decide +kernel
theorem dX4_heardBy_85 : decode cX4_heardBy 85 = .ok (.getfield 16, 3) := by decide +kernel
theorem dX4_heardBy_88 : decode cX4_heardBy 88 = .ok (.iconst 2, 1) := by decide +kernel
theorem dX4_heardBy_89 : decode cX4_heardBy 89 = .ok (.iload 8, 2) := by decide +kernel
theorem dX4_heardBy_91 : decode cX4_heardBy 91 = .ok (.imul, 1) := by decide +kernel
theorem dX4_heardBy_92 : decode cX4_heardBy 92 = .ok (.iconst 1, 1) := by decide +kernel
theorem dX4_heardBy_93 : decode cX4_heardBy 93 = .ok (.iadd, 1) := by decide +kernel
theorem dX4_heardBy_94 : decode cX4_heardBy 94 = .ok (.iaload, 1) := by decide +kernel
theorem dX4_heardBy_95 : decode cX4_heardBy 95 = .ok (.aload_n 0, 1) := by decide +kernel
theorem dX4_heardBy_96 : decode cX4_heardBy 96 = .ok (.iload 8, 2) := by decide +kernel
theorem dX4_heardBy_98 : decode cX4_heardBy 98 = .ok (.invokevirtual 107, 3) := by decide +kernel
theorem dX4_heardBy_101 : decode cX4_heardBy 101 = .ok (.iload_n 3, 1) := by decide +kernel
theorem dX4_heardBy_102 : decode cX4_heardBy 102 = .ok (.invokevirtual 103, 3) := by decide +kernel
theorem dX4_heardBy_105 : decode cX4_heardBy 105 = .ok (.goto 4, 3) := by decide +kernel
theorem dX4_heardBy_108 : decode cX4_heardBy 108 = .ok (.iconst 0, 1) := by decide +kernel
theorem dX4_heardBy_109 : decode cX4_heardBy 109 = .ok (.ior, 1) := by decide +kernel
theorem dX4_heardBy_110 : decode cX4_heardBy 110 = .ok (.istore 7, 2) := by decide +kernel
theorem dX4_heardBy_112 : decode cX4_heardBy 112 = .ok (.iinc 8 1, 3) := by decide +kernel
theorem dX4_heardBy_115 : decode cX4_heardBy 115 = .ok (.goto (-85), 3) := by decide +kernel
theorem dX4_heardBy_118 : decode cX4_heardBy 118 = .ok (.iload 5, 2) := by decide +kernel
theorem dX4_heardBy_120 : decode cX4_heardBy 120 = .ok (.istore 6, 2) := by decide +kernel
theorem dX4_heardBy_122 : decode cX4_heardBy 122 = .ok (.iload 7, 2) := by decide +kernel
theorem dX4_heardBy_124 : decode cX4_heardBy 124 = .ok (.istore 5, 2) := by decide +kernel
theorem dX4_heardBy_126 : decode cX4_heardBy 126 = .ok (.goto (-110), 3) := by decide +kernel
theorem dX4_heardBy_129 : decode cX4_heardBy 129 = .ok (.iload 5, 2) := by decide +kernel
theorem dX4_heardBy_131 : decode cX4_heardBy 131 = .ok (.ireturn, 1) := by decide +kernel
theorem dX4_knowing_0 : decode cX4_knowing 0 = .ok (.iconst 0, 1) := by decide +kernel
theorem dX4_knowing_1 : decode cX4_knowing 1 = .ok (.istore_n 2, 1) := by decide +kernel
theorem dX4_knowing_2 : decode cX4_knowing 2 = .ok (.iconst 0, 1) := by decide +kernel
theorem dX4_knowing_3 : decode cX4_knowing 3 = .ok (.istore_n 3, 1) := by decide +kernel
theorem dX4_knowing_4 : decode cX4_knowing 4 = .ok (.iload_n 3, 1) := by decide +kernel
theorem dX4_knowing_5 : decode cX4_knowing 5 = .ok (.aload_n 0, 1) := by decide +kernel
theorem dX4_knowing_6 : decode cX4_knowing 6 = .ok (.getfield 80, 3) := by decide +kernel
theorem dX4_knowing_9 : decode cX4_knowing 9 = .ok (.if_icmp .ge 33, 3) := by decide +kernel
theorem dX4_knowing_12 : decode cX4_knowing 12 = .ok (.iload_n 2, 1) := by decide +kernel
theorem dX4_knowing_13 : decode cX4_knowing 13 = .ok (.aload_n 0, 1) := by decide +kernel
theorem dX4_knowing_14 : decode cX4_knowing 14 = .ok (.getfield 16, 3) := by decide +kernel
theorem dX4_knowing_17 : decode cX4_knowing 17 = .ok (.iconst 2, 1) := by decide +kernel
theorem dX4_knowing_18 : decode cX4_knowing 18 = .ok (.iload_n 3, 1) := by decide +kernel
theorem dX4_knowing_19 : decode cX4_knowing 19 = .ok (.imul, 1) := by decide +kernel
theorem dX4_knowing_20 : decode cX4_knowing 20 = .ok (.iaload, 1) := by decide +kernel
theorem dX4_knowing_21 : decode cX4_knowing 21 = .ok (.iconst 2, 1) := by decide +kernel
theorem dX4_knowing_22 : decode cX4_knowing 22 = .ok (.if_icmp .ne 7, 3) := by decide +kernel
theorem dX4_knowing_25 : decode cX4_knowing 25 = .ok (.iconst 0, 1) := by decide +kernel
theorem dX4_knowing_26 : decode cX4_knowing 26 = .ok (.goto 8, 3) := by decide +kernel
theorem dX4_knowing_29 : decode cX4_knowing 29 = .ok (.iload_n 1, 1) := by decide +kernel
theorem dX4_knowing_30 : decode cX4_knowing 30 = .ok (.iconst 1, 1) := by decide +kernel
theorem dX4_knowing_31 : decode cX4_knowing 31 = .ok (.iload_n 3, 1) := by decide +kernel
theorem dX4_knowing_32 : decode cX4_knowing 32 = .ok (.ishl, 1) := by decide +kernel
theorem dX4_knowing_33 : decode cX4_knowing 33 = .ok (.iand, 1) := by decide +kernel
theorem dX4_knowing_34 : decode cX4_knowing 34 = .ok (.ior, 1) := by decide +kernel
theorem dX4_knowing_35 : decode cX4_knowing 35 = .ok (.istore_n 2, 1) := by decide +kernel
theorem dX4_knowing_36 : decode cX4_knowing 36 = .ok (.iinc 3 1, 3) := by decide +kernel
theorem dX4_knowing_39 : decode cX4_knowing 39 = .ok (.goto (-35), 3) := by decide +kernel
theorem dX4_knowing_42 : decode cX4_knowing 42 = .ok (.iload_n 2, 1) := by decide +kernel
theorem dX4_knowing_43 : decode cX4_knowing 43 = .ok (.ireturn, 1) := by decide +kernel
theorem dX4_listenerOf_0 : decode cX4_listenerOf 0 = .ok (.iload_n 2, 1) := by decide +kernel
theorem dX4_listenerOf_1 : decode cX4_listenerOf 1 = .ok (.tableswitch 84 0 5 #[39, 39, 50, 63, 72, 78], 39) := by decide +kernel
theorem dX4_listenerOf_40 : decode cX4_listenerOf 40 = .ok (.aload_n 0, 1) := by decide +kernel
theorem dX4_listenerOf_41 : decode cX4_listenerOf 41 = .ok (.getfield 16, 3) := by decide +kernel
theorem dX4_listenerOf_44 : decode cX4_listenerOf 44 = .ok (.iconst 2, 1) := by decide +kernel
theorem dX4_listenerOf_45 : decode cX4_listenerOf 45 = .ok (.iload_n 1, 1) := by decide +kernel
theorem dX4_listenerOf_46 : decode cX4_listenerOf 46 = .ok (.imul, 1) := by decide +kernel
theorem dX4_listenerOf_47 : decode cX4_listenerOf 47 = .ok (.iload_n 2, 1) := by decide +kernel
theorem dX4_listenerOf_48 : decode cX4_listenerOf 48 = .ok (.iadd, 1) := by decide +kernel
theorem dX4_listenerOf_49 : decode cX4_listenerOf 49 = .ok (.iaload, 1) := by decide +kernel
theorem dX4_listenerOf_50 : decode cX4_listenerOf 50 = .ok (.ireturn, 1) := by decide +kernel
theorem dX4_listenerOf_51 : decode cX4_listenerOf 51 = .ok (.aload_n 0, 1) := by decide +kernel
theorem dX4_listenerOf_52 : decode cX4_listenerOf 52 = .ok (.aload_n 0, 1) := by decide +kernel
theorem dX4_listenerOf_53 : decode cX4_listenerOf 53 = .ok (.getfield 71, 3) := by decide +kernel
theorem dX4_listenerOf_56 : decode cX4_listenerOf 56 = .ok (.invokevirtual 110, 3) := by decide +kernel
theorem dX4_listenerOf_59 : decode cX4_listenerOf 59 = .ok (.iload_n 1, 1) := by decide +kernel
theorem dX4_listenerOf_60 : decode cX4_listenerOf 60 = .ok (.ishr, 1) := by decide +kernel
theorem dX4_listenerOf_61 : decode cX4_listenerOf 61 = .ok (.iconst 1, 1) := by decide +kernel
theorem dX4_listenerOf_62 : decode cX4_listenerOf 62 = .ok (.iand, 1) := by decide +kernel
theorem dX4_listenerOf_63 : decode cX4_listenerOf 63 = .ok (.ireturn, 1) := by decide +kernel
theorem dX4_listenerOf_64 : decode cX4_listenerOf 64 = .ok (.aload_n 0, 1) := by decide +kernel
theorem dX4_listenerOf_65 : decode cX4_listenerOf 65 = .ok (.getfield 71, 3) := by decide +kernel
theorem dX4_listenerOf_68 : decode cX4_listenerOf 68 = .ok (.iload_n 1, 1) := by decide +kernel
theorem dX4_listenerOf_69 : decode cX4_listenerOf 69 = .ok (.ishr, 1) := by decide +kernel
theorem dX4_listenerOf_70 : decode cX4_listenerOf 70 = .ok (.iconst 1, 1) := by decide +kernel
theorem dX4_listenerOf_71 : decode cX4_listenerOf 71 = .ok (.iand, 1) := by decide +kernel
theorem dX4_listenerOf_72 : decode cX4_listenerOf 72 = .ok (.ireturn, 1) := by decide +kernel
theorem dX4_listenerOf_73 : decode cX4_listenerOf 73 = .ok (.aload_n 0, 1) := by decide +kernel
theorem dX4_listenerOf_74 : decode cX4_listenerOf 74 = .ok (.iload_n 1, 1) := by decide +kernel
theorem dX4_listenerOf_75 : decode cX4_listenerOf 75 = .ok (.invokevirtual 99, 3) := by decide +kernel
theorem dX4_listenerOf_78 : decode cX4_listenerOf 78 = .ok (.ireturn, 1) := by decide +kernel
theorem dX4_listenerOf_79 : decode cX4_listenerOf 79 = .ok (.aload_n 0, 1) := by decide +kernel
theorem dX4_listenerOf_80 : decode cX4_listenerOf 80 = .ok (.iload_n 1, 1) := by decide +kernel
theorem dX4_listenerOf_81 : decode cX4_listenerOf 81 = .ok (.invokevirtual 107, 3) := by decide +kernel
theorem dX4_listenerOf_84 : decode cX4_listenerOf 84 = .ok (.ireturn, 1) := by decide +kernel
theorem dX4_listenerOf_85 : decode cX4_listenerOf 85 = .ok (.bipush (-102), 2) := by decide +kernel
theorem dX4_listenerOf_87 : decode cX4_listenerOf 87 = .ok (.ireturn, 1) := by decide +kernel
theorem dX4_about_0 : decode cX4_about 0 = .ok (.aload_n 0, 1) := by decide +kernel
theorem dX4_about_1 : decode cX4_about 1 = .ok (.iload_n 1, 1) := by decide +kernel
theorem dX4_about_2 : decode cX4_about 2 = .ok (.invokevirtual 113, 3) := by decide +kernel
theorem dX4_about_5 : decode cX4_about 5 = .ok (.ifCond .eq 12, 3) := by decide +kernel
theorem dX4_about_8 : decode cX4_about 8 = .ok (.aload_n 0, 1) := by decide +kernel
theorem dX4_about_9 : decode cX4_about 9 = .ok (.iload_n 1, 1) := by decide +kernel
theorem dX4_about_10 : decode cX4_about 10 = .ok (.iload_n 2, 1) := by decide +kernel
theorem dX4_about_11 : decode cX4_about 11 = .ok (.invokevirtual 116, 3) := by decide +kernel
theorem dX4_about_14 : decode cX4_about 14 = .ok (.goto 5, 3) := by decide +kernel
theorem dX4_about_17 : decode cX4_about 17 = .ok (.bipush (-101), 2) := by decide +kernel
theorem dX4_about_19 : decode cX4_about 19 = .ok (.ireturn, 1) := by decide +kernel
theorem dX4_as_0 : decode cX4_as 0 = .ok (.aload_n 0, 1) := by decide +kernel
theorem dX4_as_1 : decode cX4_as 1 = .ok (.iload_n 1, 1) := by decide +kernel
theorem dX4_as_2 : decode cX4_as 2 = .ok (.invokevirtual 113, 3) := by decide +kernel
theorem dX4_as_5 : decode cX4_as 5 = .ok (.ifCond .ne 6, 3) := by decide +kernel
theorem dX4_as_8 : decode cX4_as 8 = .ok (.bipush (-101), 2) := by decide +kernel
theorem dX4_as_10 : decode cX4_as 10 = .ok (.ireturn, 1) := by decide +kernel
theorem dX4_as_11 : decode cX4_as 11 = .ok (.iload_n 2, 1) := by decide +kernel
theorem dX4_as_12 : decode cX4_as 12 = .ok (.i2l, 1) := by decide +kernel
theorem dX4_as_13 : decode cX4_as 13 = .ok (.lconst 0, 1) := by decide +kernel
theorem dX4_as_14 : decode cX4_as 14 = .ok (.ldc2_w 97, 3) := by decide +kernel
theorem dX4_as_17 : decode cX4_as 17 = .ok (.invokestatic 40, 3) := by decide +kernel
theorem dX4_as_20 : decode cX4_as 20 = .ok (.ifCond .ne 6, 3) := by decide +kernel
theorem dX4_as_23 : decode cX4_as 23 = .ok (.bipush (-102), 2) := by decide +kernel
theorem dX4_as_25 : decode cX4_as 25 = .ok (.ireturn, 1) := by decide +kernel
theorem dX4_as_26 : decode cX4_as 26 = .ok (.aload_n 0, 1) := by decide +kernel
theorem dX4_as_27 : decode cX4_as 27 = .ok (.getfield 16, 3) := by decide +kernel
theorem dX4_as_30 : decode cX4_as 30 = .ok (.iconst 2, 1) := by decide +kernel
theorem dX4_as_31 : decode cX4_as 31 = .ok (.iload_n 1, 1) := by decide +kernel
theorem dX4_as_32 : decode cX4_as 32 = .ok (.imul, 1) := by decide +kernel
theorem dX4_as_33 : decode cX4_as 33 = .ok (.iaload, 1) := by decide +kernel
theorem dX4_as_34 : decode cX4_as 34 = .ok (.istore_n 3, 1) := by decide +kernel
theorem dX4_as_35 : decode cX4_as 35 = .ok (.iload_n 2, 1) := by decide +kernel
theorem dX4_as_36 : decode cX4_as 36 = .ok (.ifCond .eq 18, 3) := by decide +kernel
theorem dX4_as_39 : decode cX4_as 39 = .ok (.iload_n 2, 1) := by decide +kernel
theorem dX4_as_40 : decode cX4_as 40 = .ok (.iload_n 3, 1) := by decide +kernel
theorem dX4_as_41 : decode cX4_as 41 = .ok (.if_icmp .eq 13, 3) := by decide +kernel
theorem dX4_as_44 : decode cX4_as 44 = .ok (.iload_n 2, 1) := by decide +kernel
theorem dX4_as_45 : decode cX4_as 45 = .ok (.iconst 3, 1) := by decide +kernel
theorem dX4_as_46 : decode cX4_as 46 = .ok (.if_icmp .ne 12, 3) := by decide +kernel
theorem dX4_as_49 : decode cX4_as 49 = .ok (.iload_n 3, 1) := by decide +kernel
theorem dX4_as_50 : decode cX4_as 50 = .ok (.iconst 4, 1) := by decide +kernel
theorem dX4_as_51 : decode cX4_as 51 = .ok (.if_icmp .ne 7, 3) := by decide +kernel
theorem dX4_as_54 : decode cX4_as 54 = .ok (.iconst 1, 1) := by decide +kernel
theorem dX4_as_55 : decode cX4_as 55 = .ok (.goto 4, 3) := by decide +kernel
theorem dX4_as_58 : decode cX4_as 58 = .ok (.iconst 0, 1) := by decide +kernel
theorem dX4_as_59 : decode cX4_as 59 = .ok (.istore 4, 2) := by decide +kernel
theorem dX4_as_61 : decode cX4_as 61 = .ok (.iload 4, 2) := by decide +kernel
theorem dX4_as_63 : decode cX4_as 63 = .ok (.ifCond .eq 7, 3) := by decide +kernel
theorem dX4_as_66 : decode cX4_as 66 = .ok (.iload_n 1, 1) := by decide +kernel
theorem dX4_as_67 : decode cX4_as 67 = .ok (.goto 4, 3) := by decide +kernel
theorem dX4_as_70 : decode cX4_as 70 = .ok (.iconst (-1), 1) := by decide +kernel
theorem dX4_as_71 : decode cX4_as 71 = .ok (.ireturn, 1) := by decide +kernel
theorem dX4_move_0 : decode cX4_move 0 = .ok (.aload_n 0, 1) := by decide +kernel
theorem dX4_move_1 : decode cX4_move 1 = .ok (.iload_n 1, 1) := by decide +kernel
theorem dX4_move_2 : decode cX4_move 2 = .ok (.invokevirtual 113, 3) := by decide +kernel
theorem dX4_move_5 : decode cX4_move 5 = .ok (.ifCond .eq 11, 3) := by decide +kernel
theorem dX4_move_8 : decode cX4_move 8 = .ok (.aload_n 0, 1) := by decide +kernel
theorem dX4_move_9 : decode cX4_move 9 = .ok (.iload_n 2, 1) := by decide +kernel
theorem dX4_move_10 : decode cX4_move 10 = .ok (.invokevirtual 93, 3) := by decide +kernel
theorem dX4_move_13 : decode cX4_move 13 = .ok (.ifCond .ne 6, 3) := by decide +kernel
theorem dX4_move_16 : decode cX4_move 16 = .ok (.bipush (-101), 2) := by decide +kernel
theorem dX4_move_18 : decode cX4_move 18 = .ok (.ireturn, 1) := by decide +kernel
theorem dX4_move_19 : decode cX4_move 19 = .ok (.aload_n 0, 1) := by decide +kernel
theorem dX4_move_20 : decode cX4_move 20 = .ok (.getfield 16, 3) := by decide +kernel
theorem dX4_move_23 : decode cX4_move 23 = .ok (.iconst 2, 1) := by decide +kernel
theorem dX4_move_24 : decode cX4_move 24 = .ok (.iload_n 1, 1) := by decide +kernel
theorem dX4_move_25 : decode cX4_move 25 = .ok (.imul, 1) := by decide +kernel
theorem dX4_move_26 : decode cX4_move 26 = .ok (.iconst 1, 1) := by decide +kernel
theorem dX4_move_27 : decode cX4_move 27 = .ok (.iadd, 1) := by decide +kernel
theorem dX4_move_28 : decode cX4_move 28 = .ok (.iaload, 1) := by decide +kernel
theorem dX4_move_29 : decode cX4_move 29 = .ok (.istore_n 3, 1) := by decide +kernel
theorem dX4_move_30 : decode cX4_move 30 = .ok (.aload_n 0, 1) := by decide +kernel
theorem dX4_move_31 : decode cX4_move 31 = .ok (.getfield 16, 3) := by decide +kernel
theorem dX4_move_34 : decode cX4_move 34 = .ok (.iconst 2, 1) := by decide +kernel
theorem dX4_move_35 : decode cX4_move 35 = .ok (.iload_n 1, 1) := by decide +kernel
theorem dX4_move_36 : decode cX4_move 36 = .ok (.imul, 1) := by decide +kernel
theorem dX4_move_37 : decode cX4_move 37 = .ok (.iconst 1, 1) := by decide +kernel
theorem dX4_move_38 : decode cX4_move 38 = .ok (.iadd, 1) := by decide +kernel
theorem dX4_move_39 : decode cX4_move 39 = .ok (.iload_n 2, 1) := by decide +kernel
theorem dX4_move_40 : decode cX4_move 40 = .ok (.iastore, 1) := by decide +kernel
theorem dX4_move_41 : decode cX4_move 41 = .ok (.iload_n 3, 1) := by decide +kernel
theorem dX4_move_42 : decode cX4_move 42 = .ok (.ireturn, 1) := by decide +kernel
theorem dX4_knowThen_0 : decode cX4_knowThen 0 = .ok (.aload_n 0, 1) := by decide +kernel
theorem dX4_knowThen_1 : decode cX4_knowThen 1 = .ok (.aload_n 0, 1) := by decide +kernel
theorem dX4_knowThen_2 : decode cX4_knowThen 2 = .ok (.iload_n 1, 1) := by decide +kernel
theorem dX4_knowThen_3 : decode cX4_knowThen 3 = .ok (.iload_n 2, 1) := by decide +kernel
theorem dX4_knowThen_4 : decode cX4_knowThen 4 = .ok (.aload_n 0, 1) := by decide +kernel
theorem dX4_knowThen_5 : decode cX4_knowThen 5 = .ok (.invokevirtual 120, 3) := by decide +kernel
theorem dX4_knowThen_8 : decode cX4_knowThen 8 = .ok (.iload_n 3, 1) := by decide +kernel
theorem dX4_knowThen_9 : decode cX4_knowThen 9 = .ok (.invokevirtual 123, 3) := by decide +kernel
theorem dX4_knowThen_12 : decode cX4_knowThen 12 = .ok (.invokevirtual 110, 3) := by decide +kernel
theorem dX4_knowThen_15 : decode cX4_knowThen 15 = .ok (.ireturn, 1) := by decide +kernel
theorem dX4_cry_0 : decode cX4_cry 0 = .ok (.aload_n 0, 1) := by decide +kernel
theorem dX4_cry_1 : decode cX4_cry 1 = .ok (.iload_n 1, 1) := by decide +kernel
theorem dX4_cry_2 : decode cX4_cry 2 = .ok (.invokevirtual 93, 3) := by decide +kernel
theorem dX4_cry_5 : decode cX4_cry 5 = .ok (.ifCond .ne 6, 3) := by decide +kernel
theorem dX4_cry_8 : decode cX4_cry 8 = .ok (.bipush (-101), 2) := by decide +kernel
theorem dX4_cry_10 : decode cX4_cry 10 = .ok (.ireturn, 1) := by decide +kernel
theorem dX4_cry_11 : decode cX4_cry 11 = .ok (.iload_n 2, 1) := by decide +kernel
theorem dX4_cry_12 : decode cX4_cry 12 = .ok (.i2l, 1) := by decide +kernel
theorem dX4_cry_13 : decode cX4_cry 13 = .ok (.lconst 1, 1) := by decide +kernel
theorem dX4_cry_14 : decode cX4_cry 14 = .ok (.ldc2_w 47, 3) := by decide +kernel
theorem dX4_cry_17 : decode cX4_cry 17 = .ok (.invokestatic 40, 3) := by decide +kernel
theorem dX4_cry_20 : decode cX4_cry 20 = .ok (.ifCond .ne 6, 3) := by decide +kernel
theorem dX4_cry_23 : decode cX4_cry 23 = .ok (.bipush (-102), 2) := by decide +kernel
theorem dX4_cry_25 : decode cX4_cry 25 = .ok (.ireturn, 1) := by decide +kernel
theorem dX4_cry_26 : decode cX4_cry 26 = .ok (.aload_n 0, 1) := by decide +kernel
theorem dX4_cry_27 : decode cX4_cry 27 = .ok (.getfield 62, 3) := by decide +kernel
theorem dX4_cry_30 : decode cX4_cry 30 = .ok (.iload_n 2, 1) := by decide +kernel
theorem dX4_cry_31 : decode cX4_cry 31 = .ok (.if_icmp .ge 6, 3) := by decide +kernel
theorem dX4_cry_34 : decode cX4_cry 34 = .ok (.bipush (-103), 2) := by decide +kernel
theorem dX4_cry_36 : decode cX4_cry 36 = .ok (.ireturn, 1) := by decide +kernel
theorem dX4_cry_37 : decode cX4_cry 37 = .ok (.aload_n 0, 1) := by decide +kernel
theorem dX4_cry_38 : decode cX4_cry 38 = .ok (.aload_n 0, 1) := by decide +kernel
theorem dX4_cry_39 : decode cX4_cry 39 = .ok (.getfield 71, 3) := by decide +kernel
theorem dX4_cry_42 : decode cX4_cry 42 = .ok (.invokevirtual 110, 3) := by decide +kernel
theorem dX4_cry_45 : decode cX4_cry 45 = .ok (.invokestatic 127, 3) := by decide +kernel
theorem dX4_cry_48 : decode cX4_cry 48 = .ok (.istore_n 3, 1) := by decide +kernel
theorem dX4_cry_49 : decode cX4_cry 49 = .ok (.aload_n 0, 1) := by decide +kernel
theorem dX4_cry_50 : decode cX4_cry 50 = .ok (.aload_n 0, 1) := by decide +kernel
theorem dX4_cry_51 : decode cX4_cry 51 = .ok (.iload_n 1, 1) := by decide +kernel
theorem dX4_cry_52 : decode cX4_cry 52 = .ok (.iload_n 2, 1) := by decide +kernel
theorem dX4_cry_53 : decode cX4_cry 53 = .ok (.aload_n 0, 1) := by decide +kernel
theorem dX4_cry_54 : decode cX4_cry 54 = .ok (.invokevirtual 120, 3) := by decide +kernel
theorem dX4_cry_57 : decode cX4_cry 57 = .ok (.aload_n 0, 1) := by decide +kernel
theorem dX4_cry_58 : decode cX4_cry 58 = .ok (.getfield 71, 3) := by decide +kernel
theorem dX4_cry_61 : decode cX4_cry 61 = .ok (.invokevirtual 123, 3) := by decide +kernel
theorem dX4_cry_64 : decode cX4_cry 64 = .ok (.putfield 71, 3) := by decide +kernel
theorem dX4_cry_67 : decode cX4_cry 67 = .ok (.aload_n 0, 1) := by decide +kernel
theorem dX4_cry_68 : decode cX4_cry 68 = .ok (.dup, 1) := by decide +kernel
theorem dX4_cry_69 : decode cX4_cry 69 = .ok (.getfield 62, 3) := by decide +kernel
theorem dX4_cry_72 : decode cX4_cry 72 = .ok (.iconst 1, 1) := by decide +kernel
theorem dX4_cry_73 : decode cX4_cry 73 = .ok (.isub, 1) := by decide +kernel
theorem dX4_cry_74 : decode cX4_cry 74 = .ok (.putfield 62, 3) := by decide +kernel
theorem dX4_cry_77 : decode cX4_cry 77 = .ok (.aload_n 0, 1) := by decide +kernel
theorem dX4_cry_78 : decode cX4_cry 78 = .ok (.dup, 1) := by decide +kernel
theorem dX4_cry_79 : decode cX4_cry 79 = .ok (.getfield 68, 3) := by decide +kernel
theorem dX4_cry_82 : decode cX4_cry 82 = .ok (.iconst 1, 1) := by decide +kernel
theorem dX4_cry_83 : decode cX4_cry 83 = .ok (.iadd, 1) := by decide +kernel
theorem dX4_cry_84 : decode cX4_cry 84 = .ok (.putfield 68, 3) := by decide +kernel
theorem dX4_cry_87 : decode cX4_cry 87 = .ok (.aload_n 0, 1) := by decide +kernel
theorem dX4_cry_88 : decode cX4_cry 88 = .ok (.aload_n 0, 1) := by decide +kernel
theorem dX4_cry_89 : decode cX4_cry 89 = .ok (.getfield 71, 3) := by decide +kernel
theorem dX4_cry_92 : decode cX4_cry 92 = .ok (.invokevirtual 110, 3) := by decide +kernel
theorem dX4_cry_95 : decode cX4_cry 95 = .ok (.invokestatic 127, 3) := by decide +kernel
theorem dX4_cry_98 : decode cX4_cry 98 = .ok (.iload_n 3, 1) := by decide +kernel
theorem dX4_cry_99 : decode cX4_cry 99 = .ok (.isub, 1) := by decide +kernel
theorem dX4_cry_100 : decode cX4_cry 100 = .ok (.ireturn, 1) := by decide +kernel
theorem dX4_would_0 : decode cX4_would 0 = .ok (.aload_n 0, 1) := by decide +kernel
theorem dX4_would_1 : decode cX4_would 1 = .ok (.iload_n 1, 1) := by decide +kernel
theorem dX4_would_2 : decode cX4_would 2 = .ok (.invokevirtual 93, 3) := by decide +kernel
theorem dX4_would_5 : decode cX4_would 5 = .ok (.ifCond .ne 6, 3) := by decide +kernel
theorem dX4_would_8 : decode cX4_would 8 = .ok (.bipush (-101), 2) := by decide +kernel
theorem dX4_would_10 : decode cX4_would 10 = .ok (.ireturn, 1) := by decide +kernel
theorem dX4_would_11 : decode cX4_would 11 = .ok (.iload_n 2, 1) := by decide +kernel
theorem dX4_would_12 : decode cX4_would 12 = .ok (.i2l, 1) := by decide +kernel
theorem dX4_would_13 : decode cX4_would 13 = .ok (.lconst 1, 1) := by decide +kernel
theorem dX4_would_14 : decode cX4_would 14 = .ok (.ldc2_w 47, 3) := by decide +kernel
theorem dX4_would_17 : decode cX4_would 17 = .ok (.invokestatic 40, 3) := by decide +kernel
theorem dX4_would_20 : decode cX4_would 20 = .ok (.ifCond .eq 16, 3) := by decide +kernel
theorem dX4_would_23 : decode cX4_would 23 = .ok (.aload_n 0, 1) := by decide +kernel
theorem dX4_would_24 : decode cX4_would 24 = .ok (.iload_n 1, 1) := by decide +kernel
theorem dX4_would_25 : decode cX4_would 25 = .ok (.iload_n 2, 1) := by decide +kernel
theorem dX4_would_26 : decode cX4_would 26 = .ok (.aload_n 0, 1) := by decide +kernel
theorem dX4_would_27 : decode cX4_would 27 = .ok (.getfield 71, 3) := by decide +kernel
theorem dX4_would_30 : decode cX4_would 30 = .ok (.invokevirtual 130, 3) := by decide +kernel
theorem dX4_would_33 : decode cX4_would 33 = .ok (.goto 5, 3) := by decide +kernel
theorem dX4_would_36 : decode cX4_would 36 = .ok (.bipush (-102), 2) := by decide +kernel
theorem dX4_would_38 : decode cX4_would 38 = .ok (.ireturn, 1) := by decide +kernel
theorem dX4_honey_0 : decode cX4_honey 0 = .ok (.aload_n 0, 1) := by decide +kernel
theorem dX4_honey_1 : decode cX4_honey 1 = .ok (.invokevirtual 89, 3) := by decide +kernel
theorem dX4_honey_4 : decode cX4_honey 4 = .ok (.ifCond .eq 6, 3) := by decide +kernel
theorem dX4_honey_7 : decode cX4_honey 7 = .ok (.bipush (-103), 2) := by decide +kernel
theorem dX4_honey_9 : decode cX4_honey 9 = .ok (.ireturn, 1) := by decide +kernel
theorem dX4_honey_10 : decode cX4_honey 10 = .ok (.aload_n 0, 1) := by decide +kernel
theorem dX4_honey_11 : decode cX4_honey 11 = .ok (.aload_n 0, 1) := by decide +kernel
theorem dX4_honey_12 : decode cX4_honey 12 = .ok (.getfield 62, 3) := by decide +kernel
theorem dX4_honey_15 : decode cX4_honey 15 = .ok (.iconst 2, 1) := by decide +kernel
theorem dX4_honey_16 : decode cX4_honey 16 = .ok (.iadd, 1) := by decide +kernel
theorem dX4_honey_17 : decode cX4_honey 17 = .ok (.bipush 9, 2) := by decide +kernel
theorem dX4_honey_19 : decode cX4_honey 19 = .ok (.if_icmp .le 8, 3) := by decide +kernel
theorem dX4_honey_22 : decode cX4_honey 22 = .ok (.bipush 9, 2) := by decide +kernel
theorem dX4_honey_24 : decode cX4_honey 24 = .ok (.goto 9, 3) := by decide +kernel
theorem dX4_honey_27 : decode cX4_honey 27 = .ok (.aload_n 0, 1) := by decide +kernel
theorem dX4_honey_28 : decode cX4_honey 28 = .ok (.getfield 62, 3) := by decide +kernel
theorem dX4_honey_31 : decode cX4_honey 31 = .ok (.iconst 2, 1) := by decide +kernel
theorem dX4_honey_32 : decode cX4_honey 32 = .ok (.iadd, 1) := by decide +kernel
theorem dX4_honey_33 : decode cX4_honey 33 = .ok (.putfield 62, 3) := by decide +kernel
theorem dX4_honey_36 : decode cX4_honey 36 = .ok (.aload_n 0, 1) := by decide +kernel
theorem dX4_honey_37 : decode cX4_honey 37 = .ok (.getfield 62, 3) := by decide +kernel
theorem dX4_honey_40 : decode cX4_honey 40 = .ok (.ireturn, 1) := by decide +kernel
theorem dX4_day_0 : decode cX4_day 0 = .ok (.aload_n 0, 1) := by decide +kernel
theorem dX4_day_1 : decode cX4_day 1 = .ok (.invokevirtual 89, 3) := by decide +kernel
theorem dX4_day_4 : decode cX4_day 4 = .ok (.ifCond .eq 6, 3) := by decide +kernel
theorem dX4_day_7 : decode cX4_day 7 = .ok (.bipush (-103), 2) := by decide +kernel
theorem dX4_day_9 : decode cX4_day 9 = .ok (.ireturn, 1) := by decide +kernel
theorem dX4_day_10 : decode cX4_day 10 = .ok (.aload_n 0, 1) := by decide +kernel
theorem dX4_day_11 : decode cX4_day 11 = .ok (.aload_n 0, 1) := by decide +kernel
theorem dX4_day_12 : decode cX4_day 12 = .ok (.getfield 59, 3) := by decide +kernel
theorem dX4_day_15 : decode cX4_day 15 = .ok (.putfield 62, 3) := by decide +kernel
theorem dX4_day_18 : decode cX4_day 18 = .ok (.aload_n 0, 1) := by decide +kernel
theorem dX4_day_19 : decode cX4_day 19 = .ok (.dup, 1) := by decide +kernel
theorem dX4_day_20 : decode cX4_day 20 = .ok (.getfield 77, 3) := by decide +kernel
theorem dX4_day_23 : decode cX4_day 23 = .ok (.iconst 1, 1) := by decide +kernel
theorem dX4_day_24 : decode cX4_day 24 = .ok (.iadd, 1) := by decide +kernel
theorem dX4_day_25 : decode cX4_day 25 = .ok (.putfield 77, 3) := by decide +kernel
theorem dX4_day_28 : decode cX4_day 28 = .ok (.aload_n 0, 1) := by decide +kernel
theorem dX4_day_29 : decode cX4_day 29 = .ok (.getfield 62, 3) := by decide +kernel
theorem dX4_day_32 : decode cX4_day 32 = .ok (.ireturn, 1) := by decide +kernel
theorem dX4_decree_0 : decode cX4_decree 0 = .ok (.aload_n 0, 1) := by decide +kernel
theorem dX4_decree_1 : decode cX4_decree 1 = .ok (.invokevirtual 89, 3) := by decide +kernel
theorem dX4_decree_4 : decode cX4_decree 4 = .ok (.ifCond .eq 6, 3) := by decide +kernel
theorem dX4_decree_7 : decode cX4_decree 7 = .ok (.bipush (-103), 2) := by decide +kernel
theorem dX4_decree_9 : decode cX4_decree 9 = .ok (.ireturn, 1) := by decide +kernel
theorem dX4_decree_10 : decode cX4_decree 10 = .ok (.aload_n 0, 1) := by decide +kernel
theorem dX4_decree_11 : decode cX4_decree 11 = .ok (.getfield 68, 3) := by decide +kernel
theorem dX4_decree_14 : decode cX4_decree 14 = .ok (.aload_n 0, 1) := by decide +kernel
theorem dX4_decree_15 : decode cX4_decree 15 = .ok (.getfield 65, 3) := by decide +kernel
theorem dX4_decree_18 : decode cX4_decree 18 = .ok (.if_icmp .lt 7, 3) := by decide +kernel
theorem dX4_decree_21 : decode cX4_decree 21 = .ok (.iconst 1, 1) := by decide +kernel
theorem dX4_decree_22 : decode cX4_decree 22 = .ok (.goto 4, 3) := by decide +kernel
theorem dX4_decree_25 : decode cX4_decree 25 = .ok (.iconst 0, 1) := by decide +kernel
theorem dX4_decree_26 : decode cX4_decree 26 = .ok (.istore_n 1, 1) := by decide +kernel
theorem dX4_decree_27 : decode cX4_decree 27 = .ok (.aload_n 0, 1) := by decide +kernel
theorem dX4_decree_28 : decode cX4_decree 28 = .ok (.iconst 0, 1) := by decide +kernel
theorem dX4_decree_29 : decode cX4_decree 29 = .ok (.putfield 68, 3) := by decide +kernel
theorem dX4_decree_32 : decode cX4_decree 32 = .ok (.aload_n 0, 1) := by decide +kernel
theorem dX4_decree_33 : decode cX4_decree 33 = .ok (.iconst 0, 1) := by decide +kernel
theorem dX4_decree_34 : decode cX4_decree 34 = .ok (.putfield 71, 3) := by decide +kernel
theorem dX4_decree_37 : decode cX4_decree 37 = .ok (.aload_n 0, 1) := by decide +kernel
theorem dX4_decree_38 : decode cX4_decree 38 = .ok (.dup, 1) := by decide +kernel
theorem dX4_decree_39 : decode cX4_decree 39 = .ok (.getfield 74, 3) := by decide +kernel
theorem dX4_decree_42 : decode cX4_decree 42 = .ok (.iconst 1, 1) := by decide +kernel
theorem dX4_decree_43 : decode cX4_decree 43 = .ok (.iadd, 1) := by decide +kernel
theorem dX4_decree_44 : decode cX4_decree 44 = .ok (.putfield 74, 3) := by decide +kernel
theorem dX4_decree_47 : decode cX4_decree 47 = .ok (.iload_n 1, 1) := by decide +kernel
theorem dX4_decree_48 : decode cX4_decree 48 = .ok (.ireturn, 1) := by decide +kernel
theorem dX4_leastOf_0 : decode cX4_leastOf 0 = .ok (.iconst (-1), 1) := by decide +kernel
theorem dX4_leastOf_1 : decode cX4_leastOf 1 = .ok (.istore_n 2, 1) := by decide +kernel
theorem dX4_leastOf_2 : decode cX4_leastOf 2 = .ok (.iconst (-1), 1) := by decide +kernel
theorem dX4_leastOf_3 : decode cX4_leastOf 3 = .ok (.istore_n 3, 1) := by decide +kernel
theorem dX4_leastOf_4 : decode cX4_leastOf 4 = .ok (.iconst 5, 1) := by decide +kernel
theorem dX4_leastOf_5 : decode cX4_leastOf 5 = .ok (.istore 4, 2) := by decide +kernel
theorem dX4_leastOf_7 : decode cX4_leastOf 7 = .ok (.iload 4, 2) := by decide +kernel
theorem dX4_leastOf_9 : decode cX4_leastOf 9 = .ok (.ifCond .lt 68, 3) := by decide +kernel
theorem dX4_leastOf_12 : decode cX4_leastOf 12 = .ok (.aload_n 0, 1) := by decide +kernel
theorem dX4_leastOf_13 : decode cX4_leastOf 13 = .ok (.getfield 62, 3) := by decide +kernel
theorem dX4_leastOf_16 : decode cX4_leastOf 16 = .ok (.ifCond .le 61, 3) := by decide +kernel
theorem dX4_leastOf_19 : decode cX4_leastOf 19 = .ok (.aload_n 0, 1) := by decide +kernel
theorem dX4_leastOf_20 : decode cX4_leastOf 20 = .ok (.iload 4, 2) := by decide +kernel
theorem dX4_leastOf_22 : decode cX4_leastOf 22 = .ok (.iconst 1, 1) := by decide +kernel
theorem dX4_leastOf_23 : decode cX4_leastOf 23 = .ok (.aload_n 0, 1) := by decide +kernel
theorem dX4_leastOf_24 : decode cX4_leastOf 24 = .ok (.getfield 71, 3) := by decide +kernel
theorem dX4_leastOf_27 : decode cX4_leastOf 27 = .ok (.invokevirtual 130, 3) := by decide +kernel
theorem dX4_leastOf_30 : decode cX4_leastOf 30 = .ok (.invokestatic 127, 3) := by decide +kernel
theorem dX4_leastOf_33 : decode cX4_leastOf 33 = .ok (.istore 5, 2) := by decide +kernel
theorem dX4_leastOf_35 : decode cX4_leastOf 35 = .ok (.iload_n 3, 1) := by decide +kernel
theorem dX4_leastOf_36 : decode cX4_leastOf 36 = .ok (.iconst (-1), 1) := by decide +kernel
theorem dX4_leastOf_37 : decode cX4_leastOf 37 = .ok (.if_icmp .eq 9, 3) := by decide +kernel
theorem dX4_leastOf_40 : decode cX4_leastOf 40 = .ok (.iload 5, 2) := by decide +kernel
theorem dX4_leastOf_42 : decode cX4_leastOf 42 = .ok (.iload_n 3, 1) := by decide +kernel
theorem dX4_leastOf_43 : decode cX4_leastOf 43 = .ok (.if_icmp .gt 8, 3) := by decide +kernel
theorem dX4_leastOf_46 : decode cX4_leastOf 46 = .ok (.iload 4, 2) := by decide +kernel
theorem dX4_leastOf_48 : decode cX4_leastOf 48 = .ok (.goto 4, 3) := by decide +kernel
theorem dX4_leastOf_51 : decode cX4_leastOf 51 = .ok (.iload_n 2, 1) := by decide +kernel
theorem dX4_leastOf_52 : decode cX4_leastOf 52 = .ok (.istore_n 2, 1) := by decide +kernel
theorem dX4_leastOf_53 : decode cX4_leastOf 53 = .ok (.iload_n 3, 1) := by decide +kernel
theorem dX4_leastOf_54 : decode cX4_leastOf 54 = .ok (.iconst (-1), 1) := by decide +kernel
theorem dX4_leastOf_55 : decode cX4_leastOf 55 = .ok (.if_icmp .eq 9, 3) := by decide +kernel
theorem dX4_leastOf_58 : decode cX4_leastOf 58 = .ok (.iload 5, 2) := by decide +kernel
theorem dX4_leastOf_60 : decode cX4_leastOf 60 = .ok (.iload_n 3, 1) := by decide +kernel
theorem dX4_leastOf_61 : decode cX4_leastOf 61 = .ok (.if_icmp .ge 8, 3) := by decide +kernel
theorem dX4_leastOf_64 : decode cX4_leastOf 64 = .ok (.iload 5, 2) := by decide +kernel
theorem dX4_leastOf_66 : decode cX4_leastOf 66 = .ok (.goto 4, 3) := by decide +kernel
theorem dX4_leastOf_69 : decode cX4_leastOf 69 = .ok (.iload_n 3, 1) := by decide +kernel
theorem dX4_leastOf_70 : decode cX4_leastOf 70 = .ok (.istore_n 3, 1) := by decide +kernel
theorem dX4_leastOf_71 : decode cX4_leastOf 71 = .ok (.iinc 4 (-1), 3) := by decide +kernel
theorem dX4_leastOf_74 : decode cX4_leastOf 74 = .ok (.goto (-67), 3) := by decide +kernel
theorem dX4_leastOf_77 : decode cX4_leastOf 77 = .ok (.iload_n 1, 1) := by decide +kernel
theorem dX4_leastOf_78 : decode cX4_leastOf 78 = .ok (.ifCond .ne 7, 3) := by decide +kernel
theorem dX4_leastOf_81 : decode cX4_leastOf 81 = .ok (.iload_n 2, 1) := by decide +kernel
theorem dX4_leastOf_82 : decode cX4_leastOf 82 = .ok (.goto 4, 3) := by decide +kernel
theorem dX4_leastOf_85 : decode cX4_leastOf 85 = .ok (.iload_n 3, 1) := by decide +kernel
theorem dX4_leastOf_86 : decode cX4_leastOf 86 = .ok (.ireturn, 1) := by decide +kernel
theorem dX4_least_0 : decode cX4_least 0 = .ok (.iload_n 1, 1) := by decide +kernel
theorem dX4_least_1 : decode cX4_least 1 = .ok (.i2l, 1) := by decide +kernel
theorem dX4_least_2 : decode cX4_least 2 = .ok (.lconst 0, 1) := by decide +kernel
theorem dX4_least_3 : decode cX4_least 3 = .ok (.lconst 1, 1) := by decide +kernel
theorem dX4_least_4 : decode cX4_least 4 = .ok (.invokestatic 40, 3) := by decide +kernel
theorem dX4_least_7 : decode cX4_least 7 = .ok (.ifCond .ne 6, 3) := by decide +kernel
theorem dX4_least_10 : decode cX4_least 10 = .ok (.bipush (-102), 2) := by decide +kernel
theorem dX4_least_12 : decode cX4_least 12 = .ok (.ireturn, 1) := by decide +kernel
theorem dX4_least_13 : decode cX4_least 13 = .ok (.aload_n 0, 1) := by decide +kernel
theorem dX4_least_14 : decode cX4_least 14 = .ok (.invokevirtual 89, 3) := by decide +kernel
theorem dX4_least_17 : decode cX4_least 17 = .ok (.ifCond .eq 8, 3) := by decide +kernel
theorem dX4_least_20 : decode cX4_least 20 = .ok (.bipush (-103), 2) := by decide +kernel
theorem dX4_least_22 : decode cX4_least 22 = .ok (.goto 8, 3) := by decide +kernel
theorem dX4_least_25 : decode cX4_least 25 = .ok (.aload_n 0, 1) := by decide +kernel
theorem dX4_least_26 : decode cX4_least 26 = .ok (.iload_n 1, 1) := by decide +kernel
theorem dX4_least_27 : decode cX4_least 27 = .ok (.invokevirtual 133, 3) := by decide +kernel
theorem dX4_least_30 : decode cX4_least 30 = .ok (.ireturn, 1) := by decide +kernel
theorem dX4_isCovered_0 : decode cX4_isCovered 0 = .ok (.iload_n 3, 1) := by decide +kernel
theorem dX4_isCovered_1 : decode cX4_isCovered 1 = .ok (.istore 4, 2) := by decide +kernel
theorem dX4_isCovered_3 : decode cX4_isCovered 3 = .ok (.iload_n 2, 1) := by decide +kernel
theorem dX4_isCovered_4 : decode cX4_isCovered 4 = .ok (.iconst 1, 1) := by decide +kernel
theorem dX4_isCovered_5 : decode cX4_isCovered 5 = .ok (.isub, 1) := by decide +kernel
theorem dX4_isCovered_6 : decode cX4_isCovered 6 = .ok (.istore 5, 2) := by decide +kernel
theorem dX4_isCovered_8 : decode cX4_isCovered 8 = .ok (.iload 5, 2) := by decide +kernel
theorem dX4_isCovered_10 : decode cX4_isCovered 10 = .ok (.ifCond .lt 28, 3) := by decide +kernel
theorem dX4_isCovered_13 : decode cX4_isCovered 13 = .ok (.aload_n 0, 1) := by decide +kernel
theorem dX4_isCovered_14 : decode cX4_isCovered 14 = .ok (.getfield 19, 3) := by decide +kernel
theorem dX4_isCovered_17 : decode cX4_isCovered 17 = .ok (.iload 5, 2) := by decide +kernel
theorem dX4_isCovered_19 : decode cX4_isCovered 19 = .ok (.iload 4, 2) := by decide +kernel
theorem dX4_isCovered_21 : decode cX4_isCovered 21 = .ok (.bipush 6, 2) := by decide +kernel
theorem dX4_isCovered_23 : decode cX4_isCovered 23 = .ok (.irem, 1) := by decide +kernel
theorem dX4_isCovered_24 : decode cX4_isCovered 24 = .ok (.iastore, 1) := by decide +kernel
theorem dX4_isCovered_25 : decode cX4_isCovered 25 = .ok (.iload 4, 2) := by decide +kernel
theorem dX4_isCovered_27 : decode cX4_isCovered 27 = .ok (.bipush 6, 2) := by decide +kernel
theorem dX4_isCovered_29 : decode cX4_isCovered 29 = .ok (.idiv, 1) := by decide +kernel
theorem dX4_isCovered_30 : decode cX4_isCovered 30 = .ok (.istore 4, 2) := by decide +kernel
theorem dX4_isCovered_32 : decode cX4_isCovered 32 = .ok (.iinc 5 (-1), 3) := by decide +kernel
theorem dX4_isCovered_35 : decode cX4_isCovered 35 = .ok (.goto (-27), 3) := by decide +kernel
theorem dX4_isCovered_38 : decode cX4_isCovered 38 = .ok (.aload_n 0, 1) := by decide +kernel
theorem dX4_isCovered_39 : decode cX4_isCovered 39 = .ok (.getfield 71, 3) := by decide +kernel
theorem dX4_isCovered_42 : decode cX4_isCovered 42 = .ok (.istore 5, 2) := by decide +kernel
theorem dX4_isCovered_44 : decode cX4_isCovered 44 = .ok (.iconst 0, 1) := by decide +kernel
theorem dX4_isCovered_45 : decode cX4_isCovered 45 = .ok (.istore 6, 2) := by decide +kernel
theorem dX4_isCovered_47 : decode cX4_isCovered 47 = .ok (.iload 6, 2) := by decide +kernel
theorem dX4_isCovered_49 : decode cX4_isCovered 49 = .ok (.iload_n 2, 1) := by decide +kernel
theorem dX4_isCovered_50 : decode cX4_isCovered 50 = .ok (.if_icmp .ge 35, 3) := by decide +kernel
theorem dX4_isCovered_53 : decode cX4_isCovered 53 = .ok (.aload_n 0, 1) := by decide +kernel
theorem dX4_isCovered_54 : decode cX4_isCovered 54 = .ok (.aload_n 0, 1) := by decide +kernel
theorem dX4_isCovered_55 : decode cX4_isCovered 55 = .ok (.getfield 19, 3) := by decide +kernel
theorem dX4_isCovered_58 : decode cX4_isCovered 58 = .ok (.iload 6, 2) := by decide +kernel
theorem dX4_isCovered_60 : decode cX4_isCovered 60 = .ok (.iaload, 1) := by decide +kernel
theorem dX4_isCovered_61 : decode cX4_isCovered 61 = .ok (.aload_n 0, 1) := by decide +kernel
theorem dX4_isCovered_62 : decode cX4_isCovered 62 = .ok (.getfield 62, 3) := by decide +kernel
theorem dX4_isCovered_65 : decode cX4_isCovered 65 = .ok (.iload 6, 2) := by decide +kernel
theorem dX4_isCovered_67 : decode cX4_isCovered 67 = .ok (.isub, 1) := by decide +kernel
theorem dX4_isCovered_68 : decode cX4_isCovered 68 = .ok (.aload_n 0, 1) := by decide +kernel
theorem dX4_isCovered_69 : decode cX4_isCovered 69 = .ok (.invokevirtual 120, 3) := by decide +kernel
theorem dX4_isCovered_72 : decode cX4_isCovered 72 = .ok (.iload 5, 2) := by decide +kernel
theorem dX4_isCovered_74 : decode cX4_isCovered 74 = .ok (.invokevirtual 123, 3) := by decide +kernel
theorem dX4_isCovered_77 : decode cX4_isCovered 77 = .ok (.istore 5, 2) := by decide +kernel
theorem dX4_isCovered_79 : decode cX4_isCovered 79 = .ok (.iinc 6 1, 3) := by decide +kernel
theorem dX4_isCovered_82 : decode cX4_isCovered 82 = .ok (.goto (-35), 3) := by decide +kernel
theorem dX4_isCovered_85 : decode cX4_isCovered 85 = .ok (.iload_n 1, 1) := by decide +kernel
theorem dX4_isCovered_86 : decode cX4_isCovered 86 = .ok (.aload_n 0, 1) := by decide +kernel
theorem dX4_isCovered_87 : decode cX4_isCovered 87 = .ok (.iload 5, 2) := by decide +kernel
theorem dX4_isCovered_89 : decode cX4_isCovered 89 = .ok (.invokevirtual 110, 3) := by decide +kernel
theorem dX4_isCovered_92 : decode cX4_isCovered 92 = .ok (.iconst (-1), 1) := by decide +kernel
theorem dX4_isCovered_93 : decode cX4_isCovered 93 = .ok (.ixor, 1) := by decide +kernel
theorem dX4_isCovered_94 : decode cX4_isCovered 94 = .ok (.iand, 1) := by decide +kernel
theorem dX4_isCovered_95 : decode cX4_isCovered 95 = .ok (.ifCond .ne 7, 3) := by decide +kernel
theorem dX4_isCovered_98 : decode cX4_isCovered 98 = .ok (.iconst 1, 1) := by decide +kernel
theorem dX4_isCovered_99 : decode cX4_isCovered 99 = .ok (.goto 4, 3) := by decide +kernel
theorem dX4_isCovered_102 : decode cX4_isCovered 102 = .ok (.iconst 0, 1) := by decide +kernel
theorem dX4_isCovered_103 : decode cX4_isCovered 103 = .ok (.ireturn, 1) := by decide +kernel
theorem dX4_coverOf_0 : decode cX4_coverOf 0 = .ok (.iconst 1, 1) := by decide +kernel
theorem dX4_coverOf_1 : decode cX4_coverOf 1 = .ok (.istore_n 3, 1) := by decide +kernel
theorem dX4_coverOf_2 : decode cX4_coverOf 2 = .ok (.iconst 0, 1) := by decide +kernel
theorem dX4_coverOf_3 : decode cX4_coverOf 3 = .ok (.istore 4, 2) := by decide +kernel
theorem dX4_coverOf_5 : decode cX4_coverOf 5 = .ok (.iload 4, 2) := by decide +kernel
theorem dX4_coverOf_7 : decode cX4_coverOf 7 = .ok (.iconst 4, 1) := by decide +kernel
theorem dX4_coverOf_8 : decode cX4_coverOf 8 = .ok (.if_icmp .ge 82, 3) := by decide +kernel
theorem dX4_coverOf_11 : decode cX4_coverOf 11 = .ok (.iload 4, 2) := by decide +kernel
theorem dX4_coverOf_13 : decode cX4_coverOf 13 = .ok (.aload_n 0, 1) := by decide +kernel
theorem dX4_coverOf_14 : decode cX4_coverOf 14 = .ok (.getfield 62, 3) := by decide +kernel
theorem dX4_coverOf_17 : decode cX4_coverOf 17 = .ok (.if_icmp .gt 73, 3) := by decide +kernel
theorem dX4_coverOf_20 : decode cX4_coverOf 20 = .ok (.iconst 0, 1) := by decide +kernel
theorem dX4_coverOf_21 : decode cX4_coverOf 21 = .ok (.istore 5, 2) := by decide +kernel
theorem dX4_coverOf_23 : decode cX4_coverOf 23 = .ok (.iload 5, 2) := by decide +kernel
theorem dX4_coverOf_25 : decode cX4_coverOf 25 = .ok (.iload_n 3, 1) := by decide +kernel
theorem dX4_coverOf_26 : decode cX4_coverOf 26 = .ok (.if_icmp .ge 53, 3) := by decide +kernel
theorem dX4_coverOf_29 : decode cX4_coverOf 29 = .ok (.aload_n 0, 1) := by decide +kernel
theorem dX4_coverOf_30 : decode cX4_coverOf 30 = .ok (.iload_n 1, 1) := by decide +kernel
theorem dX4_coverOf_31 : decode cX4_coverOf 31 = .ok (.iload 4, 2) := by decide +kernel
theorem dX4_coverOf_33 : decode cX4_coverOf 33 = .ok (.iload 5, 2) := by decide +kernel
theorem dX4_coverOf_35 : decode cX4_coverOf 35 = .ok (.invokevirtual 136, 3) := by decide +kernel
theorem dX4_coverOf_38 : decode cX4_coverOf 38 = .ok (.ifCond .eq 35, 3) := by decide +kernel
theorem dX4_coverOf_41 : decode cX4_coverOf 41 = .ok (.iload_n 2, 1) := by decide +kernel
theorem dX4_coverOf_42 : decode cX4_coverOf 42 = .ok (.ifCond .ne 8, 3) := by decide +kernel
theorem dX4_coverOf_45 : decode cX4_coverOf 45 = .ok (.iload 4, 2) := by decide +kernel
theorem dX4_coverOf_47 : decode cX4_coverOf 47 = .ok (.goto 25, 3) := by decide +kernel
theorem dX4_coverOf_50 : decode cX4_coverOf 50 = .ok (.iload_n 2, 1) := by decide +kernel
theorem dX4_coverOf_51 : decode cX4_coverOf 51 = .ok (.bipush 10, 2) := by decide +kernel
theorem dX4_coverOf_53 : decode cX4_coverOf 53 = .ok (.isub, 1) := by decide +kernel
theorem dX4_coverOf_54 : decode cX4_coverOf 54 = .ok (.iload 4, 2) := by decide +kernel
theorem dX4_coverOf_56 : decode cX4_coverOf 56 = .ok (.if_icmp .ge 15, 3) := by decide +kernel
theorem dX4_coverOf_59 : decode cX4_coverOf 59 = .ok (.aload_n 0, 1) := by decide +kernel
theorem dX4_coverOf_60 : decode cX4_coverOf 60 = .ok (.getfield 19, 3) := by decide +kernel
theorem dX4_coverOf_63 : decode cX4_coverOf 63 = .ok (.iload_n 2, 1) := by decide +kernel
theorem dX4_coverOf_64 : decode cX4_coverOf 64 = .ok (.bipush 10, 2) := by decide +kernel
theorem dX4_coverOf_66 : decode cX4_coverOf 66 = .ok (.isub, 1) := by decide +kernel
theorem dX4_coverOf_67 : decode cX4_coverOf 67 = .ok (.iaload, 1) := by decide +kernel
theorem dX4_coverOf_68 : decode cX4_coverOf 68 = .ok (.goto 4, 3) := by decide +kernel
theorem dX4_coverOf_71 : decode cX4_coverOf 71 = .ok (.iconst (-1), 1) := by decide +kernel
theorem dX4_coverOf_72 : decode cX4_coverOf 72 = .ok (.ireturn, 1) := by decide +kernel
theorem dX4_coverOf_73 : decode cX4_coverOf 73 = .ok (.iinc 5 1, 3) := by decide +kernel
theorem dX4_coverOf_76 : decode cX4_coverOf 76 = .ok (.goto (-53), 3) := by decide +kernel
theorem dX4_coverOf_79 : decode cX4_coverOf 79 = .ok (.iload_n 3, 1) := by decide +kernel
theorem dX4_coverOf_80 : decode cX4_coverOf 80 = .ok (.bipush 6, 2) := by decide +kernel
theorem dX4_coverOf_82 : decode cX4_coverOf 82 = .ok (.imul, 1) := by decide +kernel
theorem dX4_coverOf_83 : decode cX4_coverOf 83 = .ok (.istore_n 3, 1) := by decide +kernel
theorem dX4_coverOf_84 : decode cX4_coverOf 84 = .ok (.iinc 4 1, 3) := by decide +kernel
theorem dX4_coverOf_87 : decode cX4_coverOf 87 = .ok (.goto (-82), 3) := by decide +kernel
theorem dX4_coverOf_90 : decode cX4_coverOf 90 = .ok (.iconst (-1), 1) := by decide +kernel
theorem dX4_coverOf_91 : decode cX4_coverOf 91 = .ok (.ireturn, 1) := by decide +kernel
theorem dX4_cover_0 : decode cX4_cover 0 = .ok (.iload_n 1, 1) := by decide +kernel
theorem dX4_cover_1 : decode cX4_cover 1 = .ok (.i2l, 1) := by decide +kernel
theorem dX4_cover_2 : decode cX4_cover 2 = .ok (.lconst 0, 1) := by decide +kernel
theorem dX4_cover_3 : decode cX4_cover 3 = .ok (.aload_n 0, 1) := by decide +kernel
theorem dX4_cover_4 : decode cX4_cover 4 = .ok (.invokevirtual 120, 3) := by decide +kernel
theorem dX4_cover_7 : decode cX4_cover 7 = .ok (.i2l, 1) := by decide +kernel
theorem dX4_cover_8 : decode cX4_cover 8 = .ok (.invokestatic 40, 3) := by decide +kernel
theorem dX4_cover_11 : decode cX4_cover 11 = .ok (.ifCond .eq 21, 3) := by decide +kernel
theorem dX4_cover_14 : decode cX4_cover 14 = .ok (.iload_n 2, 1) := by decide +kernel
theorem dX4_cover_15 : decode cX4_cover 15 = .ok (.ifCond .eq 20, 3) := by decide +kernel
theorem dX4_cover_18 : decode cX4_cover 18 = .ok (.iload_n 2, 1) := by decide +kernel
theorem dX4_cover_19 : decode cX4_cover 19 = .ok (.i2l, 1) := by decide +kernel
theorem dX4_cover_20 : decode cX4_cover 20 = .ok (.ldc2_w 140, 3) := by decide +kernel
theorem dX4_cover_23 : decode cX4_cover 23 = .ok (.ldc2_w 142, 3) := by decide +kernel
theorem dX4_cover_26 : decode cX4_cover 26 = .ok (.invokestatic 40, 3) := by decide +kernel
theorem dX4_cover_29 : decode cX4_cover 29 = .ok (.ifCond .ne 6, 3) := by decide +kernel
theorem dX4_cover_32 : decode cX4_cover 32 = .ok (.bipush (-102), 2) := by decide +kernel
theorem dX4_cover_34 : decode cX4_cover 34 = .ok (.ireturn, 1) := by decide +kernel
theorem dX4_cover_35 : decode cX4_cover 35 = .ok (.aload_n 0, 1) := by decide +kernel
theorem dX4_cover_36 : decode cX4_cover 36 = .ok (.invokevirtual 89, 3) := by decide +kernel
theorem dX4_cover_39 : decode cX4_cover 39 = .ok (.ifCond .eq 8, 3) := by decide +kernel
theorem dX4_cover_42 : decode cX4_cover 42 = .ok (.bipush (-103), 2) := by decide +kernel
theorem dX4_cover_44 : decode cX4_cover 44 = .ok (.goto 9, 3) := by decide +kernel
theorem dX4_cover_47 : decode cX4_cover 47 = .ok (.aload_n 0, 1) := by decide +kernel
theorem dX4_cover_48 : decode cX4_cover 48 = .ok (.iload_n 1, 1) := by decide +kernel
theorem dX4_cover_49 : decode cX4_cover 49 = .ok (.iload_n 2, 1) := by decide +kernel
theorem dX4_cover_50 : decode cX4_cover 50 = .ok (.invokevirtual 144, 3) := by decide +kernel
theorem dX4_cover_53 : decode cX4_cover 53 = .ok (.ireturn, 1) := by decide +kernel
theorem dX4_hushOf_0 : decode cX4_hushOf 0 = .ok (.iconst (-1), 1) := by decide +kernel
theorem dX4_hushOf_1 : decode cX4_hushOf 1 = .ok (.istore 4, 2) := by decide +kernel
theorem dX4_hushOf_3 : decode cX4_hushOf 3 = .ok (.iconst 0, 1) := by decide +kernel
theorem dX4_hushOf_4 : decode cX4_hushOf 4 = .ok (.istore 5, 2) := by decide +kernel
theorem dX4_hushOf_6 : decode cX4_hushOf 6 = .ok (.iload 5, 2) := by decide +kernel
theorem dX4_hushOf_8 : decode cX4_hushOf 8 = .ok (.aload_n 0, 1) := by decide +kernel
theorem dX4_hushOf_9 : decode cX4_hushOf 9 = .ok (.invokevirtual 120, 3) := by decide +kernel
theorem dX4_hushOf_12 : decode cX4_hushOf 12 = .ok (.if_icmp .gt 89, 3) := by decide +kernel
theorem dX4_hushOf_15 : decode cX4_hushOf 15 = .ok (.iload 5, 2) := by decide +kernel
theorem dX4_hushOf_17 : decode cX4_hushOf 17 = .ok (.iload_n 1, 1) := by decide +kernel
theorem dX4_hushOf_18 : decode cX4_hushOf 18 = .ok (.ishr, 1) := by decide +kernel
theorem dX4_hushOf_19 : decode cX4_hushOf 19 = .ok (.iconst 1, 1) := by decide +kernel
theorem dX4_hushOf_20 : decode cX4_hushOf 20 = .ok (.iand, 1) := by decide +kernel
theorem dX4_hushOf_21 : decode cX4_hushOf 21 = .ok (.ifCond .ne 26, 3) := by decide +kernel
theorem dX4_hushOf_24 : decode cX4_hushOf 24 = .ok (.iload 4, 2) := by decide +kernel
theorem dX4_hushOf_26 : decode cX4_hushOf 26 = .ok (.iconst (-1), 1) := by decide +kernel
theorem dX4_hushOf_27 : decode cX4_hushOf 27 = .ok (.if_icmp .eq 16, 3) := by decide +kernel
theorem dX4_hushOf_30 : decode cX4_hushOf 30 = .ok (.iload 5, 2) := by decide +kernel
theorem dX4_hushOf_32 : decode cX4_hushOf 32 = .ok (.invokestatic 127, 3) := by decide +kernel
theorem dX4_hushOf_35 : decode cX4_hushOf 35 = .ok (.iload 4, 2) := by decide +kernel
theorem dX4_hushOf_37 : decode cX4_hushOf 37 = .ok (.invokestatic 127, 3) := by decide +kernel
theorem dX4_hushOf_40 : decode cX4_hushOf 40 = .ok (.if_icmp .ge 7, 3) := by decide +kernel
theorem dX4_hushOf_43 : decode cX4_hushOf 43 = .ok (.iconst 1, 1) := by decide +kernel
theorem dX4_hushOf_44 : decode cX4_hushOf 44 = .ok (.goto 4, 3) := by decide +kernel
theorem dX4_hushOf_47 : decode cX4_hushOf 47 = .ok (.iconst 0, 1) := by decide +kernel
theorem dX4_hushOf_48 : decode cX4_hushOf 48 = .ok (.istore 6, 2) := by decide +kernel
theorem dX4_hushOf_50 : decode cX4_hushOf 50 = .ok (.aload_n 0, 1) := by decide +kernel
theorem dX4_hushOf_51 : decode cX4_hushOf 51 = .ok (.iload_n 2, 1) := by decide +kernel
theorem dX4_hushOf_52 : decode cX4_hushOf 52 = .ok (.iload_n 3, 1) := by decide +kernel
theorem dX4_hushOf_53 : decode cX4_hushOf 53 = .ok (.aload_n 0, 1) := by decide +kernel
theorem dX4_hushOf_54 : decode cX4_hushOf 54 = .ok (.invokevirtual 120, 3) := by decide +kernel
theorem dX4_hushOf_57 : decode cX4_hushOf 57 = .ok (.iload 5, 2) := by decide +kernel
theorem dX4_hushOf_59 : decode cX4_hushOf 59 = .ok (.iconst (-1), 1) := by decide +kernel
theorem dX4_hushOf_60 : decode cX4_hushOf 60 = .ok (.ixor, 1) := by decide +kernel
theorem dX4_hushOf_61 : decode cX4_hushOf 61 = .ok (.iand, 1) := by decide +kernel
theorem dX4_hushOf_62 : decode cX4_hushOf 62 = .ok (.iconst 0, 1) := by decide +kernel
theorem dX4_hushOf_63 : decode cX4_hushOf 63 = .ok (.invokevirtual 123, 3) := by decide +kernel
theorem dX4_hushOf_66 : decode cX4_hushOf 66 = .ok (.istore 7, 2) := by decide +kernel
theorem dX4_hushOf_68 : decode cX4_hushOf 68 = .ok (.iload 6, 2) := by decide +kernel
theorem dX4_hushOf_70 : decode cX4_hushOf 70 = .ok (.ifCond .eq 21, 3) := by decide +kernel
theorem dX4_hushOf_73 : decode cX4_hushOf 73 = .ok (.aload_n 0, 1) := by decide +kernel
theorem dX4_hushOf_74 : decode cX4_hushOf 74 = .ok (.iload 7, 2) := by decide +kernel
theorem dX4_hushOf_76 : decode cX4_hushOf 76 = .ok (.invokevirtual 110, 3) := by decide +kernel
theorem dX4_hushOf_79 : decode cX4_hushOf 79 = .ok (.iload_n 1, 1) := by decide +kernel
theorem dX4_hushOf_80 : decode cX4_hushOf 80 = .ok (.ishr, 1) := by decide +kernel
theorem dX4_hushOf_81 : decode cX4_hushOf 81 = .ok (.iconst 1, 1) := by decide +kernel
theorem dX4_hushOf_82 : decode cX4_hushOf 82 = .ok (.iand, 1) := by decide +kernel
theorem dX4_hushOf_83 : decode cX4_hushOf 83 = .ok (.ifCond .ne 8, 3) := by decide +kernel
theorem dX4_hushOf_86 : decode cX4_hushOf 86 = .ok (.iload 5, 2) := by decide +kernel
theorem dX4_hushOf_88 : decode cX4_hushOf 88 = .ok (.goto 5, 3) := by decide +kernel
theorem dX4_hushOf_91 : decode cX4_hushOf 91 = .ok (.iload 4, 2) := by decide +kernel
theorem dX4_hushOf_93 : decode cX4_hushOf 93 = .ok (.istore 4, 2) := by decide +kernel
theorem dX4_hushOf_95 : decode cX4_hushOf 95 = .ok (.iinc 5 1, 3) := by decide +kernel
theorem dX4_hushOf_98 : decode cX4_hushOf 98 = .ok (.goto (-92), 3) := by decide +kernel
theorem dX4_hushOf_101 : decode cX4_hushOf 101 = .ok (.iload 4, 2) := by decide +kernel
theorem dX4_hushOf_103 : decode cX4_hushOf 103 = .ok (.ireturn, 1) := by decide +kernel
theorem dX4_tellHush_0 : decode cX4_tellHush 0 = .ok (.aload_n 0, 1) := by decide +kernel
theorem dX4_tellHush_1 : decode cX4_tellHush 1 = .ok (.iload_n 1, 1) := by decide +kernel
theorem dX4_tellHush_2 : decode cX4_tellHush 2 = .ok (.iload_n 2, 1) := by decide +kernel
theorem dX4_tellHush_3 : decode cX4_tellHush 3 = .ok (.iload_n 3, 1) := by decide +kernel
theorem dX4_tellHush_4 : decode cX4_tellHush 4 = .ok (.invokevirtual 147, 3) := by decide +kernel
theorem dX4_tellHush_7 : decode cX4_tellHush 7 = .ok (.istore 5, 2) := by decide +kernel
theorem dX4_tellHush_9 : decode cX4_tellHush 9 = .ok (.iload 5, 2) := by decide +kernel
theorem dX4_tellHush_11 : decode cX4_tellHush 11 = .ok (.iconst (-1), 1) := by decide +kernel
theorem dX4_tellHush_12 : decode cX4_tellHush 12 = .ok (.if_icmp .eq 9, 3) := by decide +kernel
theorem dX4_tellHush_15 : decode cX4_tellHush 15 = .ok (.iload 4, 2) := by decide +kernel
theorem dX4_tellHush_17 : decode cX4_tellHush 17 = .ok (.iconst 1, 1) := by decide +kernel
theorem dX4_tellHush_18 : decode cX4_tellHush 18 = .ok (.if_icmp .ne 8, 3) := by decide +kernel
theorem dX4_tellHush_21 : decode cX4_tellHush 21 = .ok (.iload 5, 2) := by decide +kernel
theorem dX4_tellHush_23 : decode cX4_tellHush 23 = .ok (.goto 8, 3) := by decide +kernel
theorem dX4_tellHush_26 : decode cX4_tellHush 26 = .ok (.iload 5, 2) := by decide +kernel
theorem dX4_tellHush_28 : decode cX4_tellHush 28 = .ok (.invokestatic 127, 3) := by decide +kernel
theorem dX4_tellHush_31 : decode cX4_tellHush 31 = .ok (.ireturn, 1) := by decide +kernel
theorem dX4_hush_0 : decode cX4_hush 0 = .ok (.aload_n 0, 1) := by decide +kernel
theorem dX4_hush_1 : decode cX4_hush 1 = .ok (.iload_n 1, 1) := by decide +kernel
theorem dX4_hush_2 : decode cX4_hush 2 = .ok (.invokevirtual 113, 3) := by decide +kernel
theorem dX4_hush_5 : decode cX4_hush 5 = .ok (.ifCond .eq 11, 3) := by decide +kernel
theorem dX4_hush_8 : decode cX4_hush 8 = .ok (.aload_n 0, 1) := by decide +kernel
theorem dX4_hush_9 : decode cX4_hush 9 = .ok (.iload_n 2, 1) := by decide +kernel
theorem dX4_hush_10 : decode cX4_hush 10 = .ok (.invokevirtual 93, 3) := by decide +kernel
theorem dX4_hush_13 : decode cX4_hush 13 = .ok (.ifCond .ne 6, 3) := by decide +kernel
theorem dX4_hush_16 : decode cX4_hush 16 = .ok (.bipush (-101), 2) := by decide +kernel
theorem dX4_hush_18 : decode cX4_hush 18 = .ok (.ireturn, 1) := by decide +kernel
theorem dX4_hush_19 : decode cX4_hush 19 = .ok (.iload_n 3, 1) := by decide +kernel
theorem dX4_hush_20 : decode cX4_hush 20 = .ok (.i2l, 1) := by decide +kernel
theorem dX4_hush_21 : decode cX4_hush 21 = .ok (.lconst 1, 1) := by decide +kernel
theorem dX4_hush_22 : decode cX4_hush 22 = .ok (.ldc2_w 47, 3) := by decide +kernel
theorem dX4_hush_25 : decode cX4_hush 25 = .ok (.invokestatic 40, 3) := by decide +kernel
theorem dX4_hush_28 : decode cX4_hush 28 = .ok (.ifCond .eq 26, 3) := by decide +kernel
theorem dX4_hush_31 : decode cX4_hush 31 = .ok (.iload 4, 2) := by decide +kernel
theorem dX4_hush_33 : decode cX4_hush 33 = .ok (.i2l, 1) := by decide +kernel
theorem dX4_hush_34 : decode cX4_hush 34 = .ok (.lconst 0, 1) := by decide +kernel
theorem dX4_hush_35 : decode cX4_hush 35 = .ok (.lconst 1, 1) := by decide +kernel
theorem dX4_hush_36 : decode cX4_hush 36 = .ok (.invokestatic 40, 3) := by decide +kernel
theorem dX4_hush_39 : decode cX4_hush 39 = .ok (.ifCond .eq 15, 3) := by decide +kernel
theorem dX4_hush_42 : decode cX4_hush 42 = .ok (.aload_n 0, 1) := by decide +kernel
theorem dX4_hush_43 : decode cX4_hush 43 = .ok (.iload_n 1, 1) := by decide +kernel
theorem dX4_hush_44 : decode cX4_hush 44 = .ok (.iload_n 2, 1) := by decide +kernel
theorem dX4_hush_45 : decode cX4_hush 45 = .ok (.iload_n 3, 1) := by decide +kernel
theorem dX4_hush_46 : decode cX4_hush 46 = .ok (.iload 4, 2) := by decide +kernel
theorem dX4_hush_48 : decode cX4_hush 48 = .ok (.invokevirtual 150, 3) := by decide +kernel
theorem dX4_hush_51 : decode cX4_hush 51 = .ok (.goto 5, 3) := by decide +kernel
theorem dX4_hush_54 : decode cX4_hush 54 = .ok (.bipush (-102), 2) := by decide +kernel
theorem dX4_hush_56 : decode cX4_hush 56 = .ok (.ireturn, 1) := by decide +kernel
theorem dX4_tell_0 : decode cX4_tell 0 = .ok (.aload_n 0, 1) := by decide +kernel
theorem dX4_tell_1 : decode cX4_tell 1 = .ok (.iload_n 1, 1) := by decide +kernel
theorem dX4_tell_2 : decode cX4_tell 2 = .ok (.invokevirtual 113, 3) := by decide +kernel
theorem dX4_tell_5 : decode cX4_tell 5 = .ok (.ifCond .ne 6, 3) := by decide +kernel
theorem dX4_tell_8 : decode cX4_tell 8 = .ok (.bipush (-101), 2) := by decide +kernel
theorem dX4_tell_10 : decode cX4_tell 10 = .ok (.ireturn, 1) := by decide +kernel
theorem dX4_tell_11 : decode cX4_tell 11 = .ok (.aload_n 0, 1) := by decide +kernel
theorem dX4_tell_12 : decode cX4_tell 12 = .ok (.getfield 83, 3) := by decide +kernel
theorem dX4_tell_15 : decode cX4_tell 15 = .ok (.bipush 8, 2) := by decide +kernel
theorem dX4_tell_17 : decode cX4_tell 17 = .ok (.if_icmp .ne 6, 3) := by decide +kernel
theorem dX4_tell_20 : decode cX4_tell 20 = .ok (.bipush (-104), 2) := by decide +kernel
theorem dX4_tell_22 : decode cX4_tell 22 = .ok (.ireturn, 1) := by decide +kernel
theorem dX4_tell_23 : decode cX4_tell 23 = .ok (.aload_n 0, 1) := by decide +kernel
theorem dX4_tell_24 : decode cX4_tell 24 = .ok (.getfield 22, 3) := by decide +kernel
theorem dX4_tell_27 : decode cX4_tell 27 = .ok (.iconst 2, 1) := by decide +kernel
theorem dX4_tell_28 : decode cX4_tell 28 = .ok (.aload_n 0, 1) := by decide +kernel
theorem dX4_tell_29 : decode cX4_tell 29 = .ok (.getfield 83, 3) := by decide +kernel
theorem dX4_tell_32 : decode cX4_tell 32 = .ok (.imul, 1) := by decide +kernel
theorem dX4_tell_33 : decode cX4_tell 33 = .ok (.iload_n 1, 1) := by decide +kernel
theorem dX4_tell_34 : decode cX4_tell 34 = .ok (.iastore, 1) := by decide +kernel
theorem dX4_tell_35 : decode cX4_tell 35 = .ok (.aload_n 0, 1) := by decide +kernel
theorem dX4_tell_36 : decode cX4_tell 36 = .ok (.getfield 22, 3) := by decide +kernel
theorem dX4_tell_39 : decode cX4_tell 39 = .ok (.iconst 2, 1) := by decide +kernel
theorem dX4_tell_40 : decode cX4_tell 40 = .ok (.aload_n 0, 1) := by decide +kernel
theorem dX4_tell_41 : decode cX4_tell 41 = .ok (.getfield 83, 3) := by decide +kernel
theorem dX4_tell_44 : decode cX4_tell 44 = .ok (.imul, 1) := by decide +kernel
theorem dX4_tell_45 : decode cX4_tell 45 = .ok (.iconst 1, 1) := by decide +kernel
theorem dX4_tell_46 : decode cX4_tell 46 = .ok (.iadd, 1) := by decide +kernel
theorem dX4_tell_47 : decode cX4_tell 47 = .ok (.iload_n 2, 1) := by decide +kernel
theorem dX4_tell_48 : decode cX4_tell 48 = .ok (.ifCond .eq 7, 3) := by decide +kernel
theorem dX4_tell_51 : decode cX4_tell 51 = .ok (.iconst 1, 1) := by decide +kernel
theorem dX4_tell_52 : decode cX4_tell 52 = .ok (.goto 4, 3) := by decide +kernel
theorem dX4_tell_55 : decode cX4_tell 55 = .ok (.iconst 0, 1) := by decide +kernel
theorem dX4_tell_56 : decode cX4_tell 56 = .ok (.iastore, 1) := by decide +kernel
theorem dX4_tell_57 : decode cX4_tell 57 = .ok (.aload_n 0, 1) := by decide +kernel
theorem dX4_tell_58 : decode cX4_tell 58 = .ok (.dup, 1) := by decide +kernel
theorem dX4_tell_59 : decode cX4_tell 59 = .ok (.getfield 83, 3) := by decide +kernel
theorem dX4_tell_62 : decode cX4_tell 62 = .ok (.iconst 1, 1) := by decide +kernel
theorem dX4_tell_63 : decode cX4_tell 63 = .ok (.iadd, 1) := by decide +kernel
theorem dX4_tell_64 : decode cX4_tell 64 = .ok (.putfield 83, 3) := by decide +kernel
theorem dX4_tell_67 : decode cX4_tell 67 = .ok (.aload_n 0, 1) := by decide +kernel
theorem dX4_tell_68 : decode cX4_tell 68 = .ok (.getfield 83, 3) := by decide +kernel
theorem dX4_tell_71 : decode cX4_tell 71 = .ok (.ireturn, 1) := by decide +kernel
theorem dX4_forget_0 : decode cX4_forget 0 = .ok (.aload_n 0, 1) := by decide +kernel
theorem dX4_forget_1 : decode cX4_forget 1 = .ok (.getfield 83, 3) := by decide +kernel
theorem dX4_forget_4 : decode cX4_forget 4 = .ok (.istore_n 1, 1) := by decide +kernel
theorem dX4_forget_5 : decode cX4_forget 5 = .ok (.aload_n 0, 1) := by decide +kernel
theorem dX4_forget_6 : decode cX4_forget 6 = .ok (.iconst 0, 1) := by decide +kernel
theorem dX4_forget_7 : decode cX4_forget 7 = .ok (.putfield 83, 3) := by decide +kernel
theorem dX4_forget_10 : decode cX4_forget 10 = .ok (.iload_n 1, 1) := by decide +kernel
theorem dX4_forget_11 : decode cX4_forget 11 = .ok (.ireturn, 1) := by decide +kernel
theorem dX4_isTold_0 : decode cX4_isTold 0 = .ok (.aload_n 0, 1) := by decide +kernel
theorem dX4_isTold_1 : decode cX4_isTold 1 = .ok (.iload_n 1, 1) := by decide +kernel
theorem dX4_isTold_2 : decode cX4_isTold 2 = .ok (.bipush 10, 2) := by decide +kernel
theorem dX4_isTold_4 : decode cX4_isTold 4 = .ok (.idiv, 1) := by decide +kernel
theorem dX4_isTold_5 : decode cX4_isTold 5 = .ok (.iload_n 1, 1) := by decide +kernel
theorem dX4_isTold_6 : decode cX4_isTold 6 = .ok (.bipush 10, 2) := by decide +kernel
theorem dX4_isTold_8 : decode cX4_isTold 8 = .ok (.irem, 1) := by decide +kernel
theorem dX4_isTold_9 : decode cX4_isTold 9 = .ok (.iconst 0, 1) := by decide +kernel
theorem dX4_isTold_10 : decode cX4_isTold 10 = .ok (.invokevirtual 130, 3) := by decide +kernel
theorem dX4_isTold_13 : decode cX4_isTold 13 = .ok (.istore_n 2, 1) := by decide +kernel
theorem dX4_isTold_14 : decode cX4_isTold 14 = .ok (.iconst 1, 1) := by decide +kernel
theorem dX4_isTold_15 : decode cX4_isTold 15 = .ok (.istore_n 3, 1) := by decide +kernel
theorem dX4_isTold_16 : decode cX4_isTold 16 = .ok (.iconst 0, 1) := by decide +kernel
theorem dX4_isTold_17 : decode cX4_isTold 17 = .ok (.istore 4, 2) := by decide +kernel
theorem dX4_isTold_19 : decode cX4_isTold 19 = .ok (.iload 4, 2) := by decide +kernel
theorem dX4_isTold_21 : decode cX4_isTold 21 = .ok (.aload_n 0, 1) := by decide +kernel
theorem dX4_isTold_22 : decode cX4_isTold 22 = .ok (.getfield 83, 3) := by decide +kernel
theorem dX4_isTold_25 : decode cX4_isTold 25 = .ok (.if_icmp .ge 46, 3) := by decide +kernel
theorem dX4_isTold_28 : decode cX4_isTold 28 = .ok (.iload_n 3, 1) := by decide +kernel
theorem dX4_isTold_29 : decode cX4_isTold 29 = .ok (.ifCond .eq 34, 3) := by decide +kernel
theorem dX4_isTold_32 : decode cX4_isTold 32 = .ok (.iload_n 2, 1) := by decide +kernel
theorem dX4_isTold_33 : decode cX4_isTold 33 = .ok (.aload_n 0, 1) := by decide +kernel
theorem dX4_isTold_34 : decode cX4_isTold 34 = .ok (.getfield 22, 3) := by decide +kernel
theorem dX4_isTold_37 : decode cX4_isTold 37 = .ok (.iconst 2, 1) := by decide +kernel
theorem dX4_isTold_38 : decode cX4_isTold 38 = .ok (.iload 4, 2) := by decide +kernel
theorem dX4_isTold_40 : decode cX4_isTold 40 = .ok (.imul, 1) := by decide +kernel
theorem dX4_isTold_41 : decode cX4_isTold 41 = .ok (.iaload, 1) := by decide +kernel
theorem dX4_isTold_42 : decode cX4_isTold 42 = .ok (.ishr, 1) := by decide +kernel
theorem dX4_isTold_43 : decode cX4_isTold 43 = .ok (.iconst 1, 1) := by decide +kernel
theorem dX4_isTold_44 : decode cX4_isTold 44 = .ok (.iand, 1) := by decide +kernel
theorem dX4_isTold_45 : decode cX4_isTold 45 = .ok (.aload_n 0, 1) := by decide +kernel
theorem dX4_isTold_46 : decode cX4_isTold 46 = .ok (.getfield 22, 3) := by decide +kernel
theorem dX4_isTold_49 : decode cX4_isTold 49 = .ok (.iconst 2, 1) := by decide +kernel
theorem dX4_isTold_50 : decode cX4_isTold 50 = .ok (.iload 4, 2) := by decide +kernel
theorem dX4_isTold_52 : decode cX4_isTold 52 = .ok (.imul, 1) := by decide +kernel
theorem dX4_isTold_53 : decode cX4_isTold 53 = .ok (.iconst 1, 1) := by decide +kernel
theorem dX4_isTold_54 : decode cX4_isTold 54 = .ok (.iadd, 1) := by decide +kernel
theorem dX4_isTold_55 : decode cX4_isTold 55 = .ok (.iaload, 1) := by decide +kernel
theorem dX4_isTold_56 : decode cX4_isTold 56 = .ok (.if_icmp .ne 7, 3) := by decide +kernel
theorem dX4_isTold_59 : decode cX4_isTold 59 = .ok (.iconst 1, 1) := by decide +kernel
theorem dX4_isTold_60 : decode cX4_isTold 60 = .ok (.goto 4, 3) := by decide +kernel
theorem dX4_isTold_63 : decode cX4_isTold 63 = .ok (.iconst 0, 1) := by decide +kernel
theorem dX4_isTold_64 : decode cX4_isTold 64 = .ok (.istore_n 3, 1) := by decide +kernel
theorem dX4_isTold_65 : decode cX4_isTold 65 = .ok (.iinc 4 1, 3) := by decide +kernel
theorem dX4_isTold_68 : decode cX4_isTold 68 = .ok (.goto (-49), 3) := by decide +kernel
theorem dX4_isTold_71 : decode cX4_isTold 71 = .ok (.iload_n 3, 1) := by decide +kernel
theorem dX4_isTold_72 : decode cX4_isTold 72 = .ok (.ireturn, 1) := by decide +kernel
theorem dX4_whereOf_0 : decode cX4_whereOf 0 = .ok (.iconst 0, 1) := by decide +kernel
theorem dX4_whereOf_1 : decode cX4_whereOf 1 = .ok (.istore_n 2, 1) := by decide +kernel
theorem dX4_whereOf_2 : decode cX4_whereOf 2 = .ok (.iconst (-1), 1) := by decide +kernel
theorem dX4_whereOf_3 : decode cX4_whereOf 3 = .ok (.istore_n 3, 1) := by decide +kernel
theorem dX4_whereOf_4 : decode cX4_whereOf 4 = .ok (.bipush 59, 2) := by decide +kernel
theorem dX4_whereOf_6 : decode cX4_whereOf 6 = .ok (.istore 4, 2) := by decide +kernel
theorem dX4_whereOf_8 : decode cX4_whereOf 8 = .ok (.iload 4, 2) := by decide +kernel
theorem dX4_whereOf_10 : decode cX4_whereOf 10 = .ok (.ifCond .le 32, 3) := by decide +kernel
theorem dX4_whereOf_13 : decode cX4_whereOf 13 = .ok (.iload 4, 2) := by decide +kernel
theorem dX4_whereOf_15 : decode cX4_whereOf 15 = .ok (.bipush 10, 2) := by decide +kernel
theorem dX4_whereOf_17 : decode cX4_whereOf 17 = .ok (.irem, 1) := by decide +kernel
theorem dX4_whereOf_18 : decode cX4_whereOf 18 = .ok (.ifCond .le 18, 3) := by decide +kernel
theorem dX4_whereOf_21 : decode cX4_whereOf 21 = .ok (.aload_n 0, 1) := by decide +kernel
theorem dX4_whereOf_22 : decode cX4_whereOf 22 = .ok (.iload 4, 2) := by decide +kernel
theorem dX4_whereOf_24 : decode cX4_whereOf 24 = .ok (.invokevirtual 153, 3) := by decide +kernel
theorem dX4_whereOf_27 : decode cX4_whereOf 27 = .ok (.ifCond .eq 9, 3) := by decide +kernel
theorem dX4_whereOf_30 : decode cX4_whereOf 30 = .ok (.iinc 2 1, 3) := by decide +kernel
theorem dX4_whereOf_33 : decode cX4_whereOf 33 = .ok (.iload 4, 2) := by decide +kernel
theorem dX4_whereOf_35 : decode cX4_whereOf 35 = .ok (.istore_n 3, 1) := by decide +kernel
theorem dX4_whereOf_36 : decode cX4_whereOf 36 = .ok (.iinc 4 (-1), 3) := by decide +kernel
theorem dX4_whereOf_39 : decode cX4_whereOf 39 = .ok (.goto (-31), 3) := by decide +kernel
theorem dX4_whereOf_42 : decode cX4_whereOf 42 = .ok (.iload_n 1, 1) := by decide +kernel
theorem dX4_whereOf_43 : decode cX4_whereOf 43 = .ok (.ifCond .ne 7, 3) := by decide +kernel
theorem dX4_whereOf_46 : decode cX4_whereOf 46 = .ok (.iload_n 2, 1) := by decide +kernel
theorem dX4_whereOf_47 : decode cX4_whereOf 47 = .ok (.goto 4, 3) := by decide +kernel
theorem dX4_whereOf_50 : decode cX4_whereOf 50 = .ok (.iload_n 3, 1) := by decide +kernel
theorem dX4_whereOf_51 : decode cX4_whereOf 51 = .ok (.ireturn, 1) := by decide +kernel
theorem dX4_where_0 : decode cX4_where 0 = .ok (.iload_n 1, 1) := by decide +kernel
theorem dX4_where_1 : decode cX4_where 1 = .ok (.i2l, 1) := by decide +kernel
theorem dX4_where_2 : decode cX4_where 2 = .ok (.lconst 0, 1) := by decide +kernel
theorem dX4_where_3 : decode cX4_where 3 = .ok (.lconst 1, 1) := by decide +kernel
theorem dX4_where_4 : decode cX4_where 4 = .ok (.invokestatic 40, 3) := by decide +kernel
theorem dX4_where_7 : decode cX4_where 7 = .ok (.ifCond .ne 6, 3) := by decide +kernel
theorem dX4_where_10 : decode cX4_where 10 = .ok (.bipush (-102), 2) := by decide +kernel
theorem dX4_where_12 : decode cX4_where 12 = .ok (.ireturn, 1) := by decide +kernel
theorem dX4_where_13 : decode cX4_where 13 = .ok (.aload_n 0, 1) := by decide +kernel
theorem dX4_where_14 : decode cX4_where 14 = .ok (.invokevirtual 89, 3) := by decide +kernel
theorem dX4_where_17 : decode cX4_where 17 = .ok (.ifCond .eq 8, 3) := by decide +kernel
theorem dX4_where_20 : decode cX4_where 20 = .ok (.bipush (-103), 2) := by decide +kernel
theorem dX4_where_22 : decode cX4_where 22 = .ok (.goto 8, 3) := by decide +kernel
theorem dX4_where_25 : decode cX4_where 25 = .ok (.aload_n 0, 1) := by decide +kernel
theorem dX4_where_26 : decode cX4_where 26 = .ok (.iload_n 1, 1) := by decide +kernel
theorem dX4_where_27 : decode cX4_where 27 = .ok (.invokevirtual 156, 3) := by decide +kernel
theorem dX4_where_30 : decode cX4_where 30 = .ok (.ireturn, 1) := by decide +kernel
theorem dX4_askOf_0 : decode cX4_askOf 0 = .ok (.aload_n 0, 1) := by decide +kernel
theorem dX4_askOf_1 : decode cX4_askOf 1 = .ok (.iconst 0, 1) := by decide +kernel
theorem dX4_askOf_2 : decode cX4_askOf 2 = .ok (.invokevirtual 156, 3) := by decide +kernel
theorem dX4_askOf_5 : decode cX4_askOf 5 = .ok (.istore_n 1, 1) := by decide +kernel
theorem dX4_askOf_6 : decode cX4_askOf 6 = .ok (.iconst (-1), 1) := by decide +kernel
theorem dX4_askOf_7 : decode cX4_askOf 7 = .ok (.istore_n 2, 1) := by decide +kernel
theorem dX4_askOf_8 : decode cX4_askOf 8 = .ok (.bipush 99, 2) := by decide +kernel
theorem dX4_askOf_10 : decode cX4_askOf 10 = .ok (.istore_n 3, 1) := by decide +kernel
theorem dX4_askOf_11 : decode cX4_askOf 11 = .ok (.iconst 0, 1) := by decide +kernel
theorem dX4_askOf_12 : decode cX4_askOf 12 = .ok (.istore 4, 2) := by decide +kernel
theorem dX4_askOf_14 : decode cX4_askOf 14 = .ok (.iload 4, 2) := by decide +kernel
theorem dX4_askOf_16 : decode cX4_askOf 16 = .ok (.aload_n 0, 1) := by decide +kernel
theorem dX4_askOf_17 : decode cX4_askOf 17 = .ok (.getfield 80, 3) := by decide +kernel
theorem dX4_askOf_20 : decode cX4_askOf 20 = .ok (.if_icmp .ge 136, 3) := by decide +kernel
theorem dX4_askOf_23 : decode cX4_askOf 23 = .ok (.iload_n 1, 1) := by decide +kernel
theorem dX4_askOf_24 : decode cX4_askOf 24 = .ok (.ifCond .le 132, 3) := by decide +kernel
theorem dX4_askOf_27 : decode cX4_askOf 27 = .ok (.iconst 0, 1) := by decide +kernel
theorem dX4_askOf_28 : decode cX4_askOf 28 = .ok (.istore 5, 2) := by decide +kernel
theorem dX4_askOf_30 : decode cX4_askOf 30 = .ok (.iconst 1, 1) := by decide +kernel
theorem dX4_askOf_31 : decode cX4_askOf 31 = .ok (.istore 6, 2) := by decide +kernel
theorem dX4_askOf_33 : decode cX4_askOf 33 = .ok (.iload 6, 2) := by decide +kernel
theorem dX4_askOf_35 : decode cX4_askOf 35 = .ok (.bipush 60, 2) := by decide +kernel
theorem dX4_askOf_37 : decode cX4_askOf 37 = .ok (.if_icmp .ge 67, 3) := by decide +kernel
theorem dX4_askOf_40 : decode cX4_askOf 40 = .ok (.iload 6, 2) := by decide +kernel
theorem dX4_askOf_42 : decode cX4_askOf 42 = .ok (.bipush 10, 2) := by decide +kernel
theorem dX4_askOf_44 : decode cX4_askOf 44 = .ok (.irem, 1) := by decide +kernel
theorem dX4_askOf_45 : decode cX4_askOf 45 = .ok (.ifCond .le 16, 3) := by decide +kernel
theorem dX4_askOf_48 : decode cX4_askOf 48 = .ok (.aload_n 0, 1) := by decide +kernel
theorem dX4_askOf_49 : decode cX4_askOf 49 = .ok (.iload 6, 2) := by decide +kernel
theorem dX4_askOf_51 : decode cX4_askOf 51 = .ok (.invokevirtual 153, 3) := by decide +kernel
theorem dX4_askOf_54 : decode cX4_askOf 54 = .ok (.ifCond .eq 7, 3) := by decide +kernel
theorem dX4_askOf_57 : decode cX4_askOf 57 = .ok (.iconst 1, 1) := by decide +kernel
theorem dX4_askOf_58 : decode cX4_askOf 58 = .ok (.goto 4, 3) := by decide +kernel
theorem dX4_askOf_61 : decode cX4_askOf 61 = .ok (.iconst 0, 1) := by decide +kernel
theorem dX4_askOf_62 : decode cX4_askOf 62 = .ok (.istore 7, 2) := by decide +kernel
theorem dX4_askOf_64 : decode cX4_askOf 64 = .ok (.iload 5, 2) := by decide +kernel
theorem dX4_askOf_66 : decode cX4_askOf 66 = .ok (.iload 7, 2) := by decide +kernel
theorem dX4_askOf_68 : decode cX4_askOf 68 = .ok (.ifCond .eq 26, 3) := by decide +kernel
theorem dX4_askOf_71 : decode cX4_askOf 71 = .ok (.aload_n 0, 1) := by decide +kernel
theorem dX4_askOf_72 : decode cX4_askOf 72 = .ok (.iload 6, 2) := by decide +kernel
theorem dX4_askOf_74 : decode cX4_askOf 74 = .ok (.bipush 10, 2) := by decide +kernel
theorem dX4_askOf_76 : decode cX4_askOf 76 = .ok (.idiv, 1) := by decide +kernel
theorem dX4_askOf_77 : decode cX4_askOf 77 = .ok (.iload 6, 2) := by decide +kernel
theorem dX4_askOf_79 : decode cX4_askOf 79 = .ok (.bipush 10, 2) := by decide +kernel
theorem dX4_askOf_81 : decode cX4_askOf 81 = .ok (.irem, 1) := by decide +kernel
theorem dX4_askOf_82 : decode cX4_askOf 82 = .ok (.iconst 0, 1) := by decide +kernel
theorem dX4_askOf_83 : decode cX4_askOf 83 = .ok (.invokevirtual 130, 3) := by decide +kernel
theorem dX4_askOf_86 : decode cX4_askOf 86 = .ok (.iload 4, 2) := by decide +kernel
theorem dX4_askOf_88 : decode cX4_askOf 88 = .ok (.ishr, 1) := by decide +kernel
theorem dX4_askOf_89 : decode cX4_askOf 89 = .ok (.iconst 1, 1) := by decide +kernel
theorem dX4_askOf_90 : decode cX4_askOf 90 = .ok (.iand, 1) := by decide +kernel
theorem dX4_askOf_91 : decode cX4_askOf 91 = .ok (.goto 4, 3) := by decide +kernel
theorem dX4_askOf_94 : decode cX4_askOf 94 = .ok (.iconst 0, 1) := by decide +kernel
theorem dX4_askOf_95 : decode cX4_askOf 95 = .ok (.iadd, 1) := by decide +kernel
theorem dX4_askOf_96 : decode cX4_askOf 96 = .ok (.istore 5, 2) := by decide +kernel
theorem dX4_askOf_98 : decode cX4_askOf 98 = .ok (.iinc 6 1, 3) := by decide +kernel
theorem dX4_askOf_101 : decode cX4_askOf 101 = .ok (.goto (-68), 3) := by decide +kernel
theorem dX4_askOf_104 : decode cX4_askOf 104 = .ok (.iload 5, 2) := by decide +kernel
theorem dX4_askOf_106 : decode cX4_askOf 106 = .ok (.iload_n 1, 1) := by decide +kernel
theorem dX4_askOf_107 : decode cX4_askOf 107 = .ok (.iload 5, 2) := by decide +kernel
theorem dX4_askOf_109 : decode cX4_askOf 109 = .ok (.isub, 1) := by decide +kernel
theorem dX4_askOf_110 : decode cX4_askOf 110 = .ok (.if_icmp .le 8, 3) := by decide +kernel
theorem dX4_askOf_113 : decode cX4_askOf 113 = .ok (.iload 5, 2) := by decide +kernel
theorem dX4_askOf_115 : decode cX4_askOf 115 = .ok (.goto 7, 3) := by decide +kernel
theorem dX4_askOf_118 : decode cX4_askOf 118 = .ok (.iload_n 1, 1) := by decide +kernel
theorem dX4_askOf_119 : decode cX4_askOf 119 = .ok (.iload 5, 2) := by decide +kernel
theorem dX4_askOf_121 : decode cX4_askOf 121 = .ok (.isub, 1) := by decide +kernel
theorem dX4_askOf_122 : decode cX4_askOf 122 = .ok (.istore 6, 2) := by decide +kernel
theorem dX4_askOf_124 : decode cX4_askOf 124 = .ok (.iload 6, 2) := by decide +kernel
theorem dX4_askOf_126 : decode cX4_askOf 126 = .ok (.iload_n 3, 1) := by decide +kernel
theorem dX4_askOf_127 : decode cX4_askOf 127 = .ok (.if_icmp .ge 8, 3) := by decide +kernel
theorem dX4_askOf_130 : decode cX4_askOf 130 = .ok (.iload 4, 2) := by decide +kernel
theorem dX4_askOf_132 : decode cX4_askOf 132 = .ok (.goto 4, 3) := by decide +kernel
theorem dX4_askOf_135 : decode cX4_askOf 135 = .ok (.iload_n 2, 1) := by decide +kernel
theorem dX4_askOf_136 : decode cX4_askOf 136 = .ok (.istore_n 2, 1) := by decide +kernel
theorem dX4_askOf_137 : decode cX4_askOf 137 = .ok (.iload 6, 2) := by decide +kernel
theorem dX4_askOf_139 : decode cX4_askOf 139 = .ok (.iload_n 3, 1) := by decide +kernel
theorem dX4_askOf_140 : decode cX4_askOf 140 = .ok (.if_icmp .ge 8, 3) := by decide +kernel
theorem dX4_askOf_143 : decode cX4_askOf 143 = .ok (.iload 6, 2) := by decide +kernel
theorem dX4_askOf_145 : decode cX4_askOf 145 = .ok (.goto 4, 3) := by decide +kernel
theorem dX4_askOf_148 : decode cX4_askOf 148 = .ok (.iload_n 3, 1) := by decide +kernel
theorem dX4_askOf_149 : decode cX4_askOf 149 = .ok (.istore_n 3, 1) := by decide +kernel
theorem dX4_askOf_150 : decode cX4_askOf 150 = .ok (.iinc 4 1, 3) := by decide +kernel
theorem dX4_askOf_153 : decode cX4_askOf 153 = .ok (.goto (-139), 3) := by decide +kernel
theorem dX4_askOf_156 : decode cX4_askOf 156 = .ok (.iload_n 2, 1) := by decide +kernel
theorem dX4_askOf_157 : decode cX4_askOf 157 = .ok (.ireturn, 1) := by decide +kernel
theorem dX4_ask_0 : decode cX4_ask 0 = .ok (.aload_n 0, 1) := by decide +kernel
theorem dX4_ask_1 : decode cX4_ask 1 = .ok (.invokevirtual 89, 3) := by decide +kernel
theorem dX4_ask_4 : decode cX4_ask 4 = .ok (.ifCond .eq 8, 3) := by decide +kernel
theorem dX4_ask_7 : decode cX4_ask 7 = .ok (.bipush (-103), 2) := by decide +kernel
theorem dX4_ask_9 : decode cX4_ask 9 = .ok (.goto 7, 3) := by decide +kernel
theorem dX4_ask_12 : decode cX4_ask 12 = .ok (.aload_n 0, 1) := by decide +kernel
theorem dX4_ask_13 : decode cX4_ask 13 = .ok (.invokevirtual 159, 3) := by decide +kernel
theorem dX4_ask_16 : decode cX4_ask 16 = .ok (.ireturn, 1) := by decide +kernel
theorem dX4_draw_0 : decode cX4_draw 0 = .ok (.aload_n 0, 1) := by decide +kernel
theorem dX4_draw_1 : decode cX4_draw 1 = .ok (.ldc2_w 162, 3) := by decide +kernel
theorem dX4_draw_4 : decode cX4_draw 4 = .ok (.aload_n 0, 1) := by decide +kernel
theorem dX4_draw_5 : decode cX4_draw 5 = .ok (.getfield 164, 3) := by decide +kernel
theorem dX4_draw_8 : decode cX4_draw 8 = .ok (.i2l, 1) := by decide +kernel
theorem dX4_draw_9 : decode cX4_draw 9 = .ok (.lmul, 1) := by decide +kernel
theorem dX4_draw_10 : decode cX4_draw 10 = .ok (.ldc2_w 167, 3) := by decide +kernel
theorem dX4_draw_13 : decode cX4_draw 13 = .ok (.ladd, 1) := by decide +kernel
theorem dX4_draw_14 : decode cX4_draw 14 = .ok (.ldc2_w 169, 3) := by decide +kernel
theorem dX4_draw_17 : decode cX4_draw 17 = .ok (.land, 1) := by decide +kernel
theorem dX4_draw_18 : decode cX4_draw 18 = .ok (.l2i, 1) := by decide +kernel
theorem dX4_draw_19 : decode cX4_draw 19 = .ok (.putfield 164, 3) := by decide +kernel
theorem dX4_draw_22 : decode cX4_draw 22 = .ok (.aload_n 0, 1) := by decide +kernel
theorem dX4_draw_23 : decode cX4_draw 23 = .ok (.getfield 164, 3) := by decide +kernel
theorem dX4_draw_26 : decode cX4_draw 26 = .ok (.ldc 171, 2) := by decide +kernel
theorem dX4_draw_28 : decode cX4_draw 28 = .ok (.idiv, 1) := by decide +kernel
theorem dX4_draw_29 : decode cX4_draw 29 = .ok (.iload_n 1, 1) := by decide +kernel
theorem dX4_draw_30 : decode cX4_draw 30 = .ok (.irem, 1) := by decide +kernel
theorem dX4_draw_31 : decode cX4_draw 31 = .ok (.ireturn, 1) := by decide +kernel
theorem dX4_days_0 : decode cX4_days 0 = .ok (.iload_n 1, 1) := by decide +kernel
theorem dX4_days_1 : decode cX4_days 1 = .ok (.i2l, 1) := by decide +kernel
theorem dX4_days_2 : decode cX4_days 2 = .ok (.lconst 1, 1) := by decide +kernel
theorem dX4_days_3 : decode cX4_days 3 = .ok (.ldc2_w 172, 3) := by decide +kernel
theorem dX4_days_6 : decode cX4_days 6 = .ok (.invokestatic 40, 3) := by decide +kernel
theorem dX4_days_9 : decode cX4_days 9 = .ok (.ifCond .eq 19, 3) := by decide +kernel
theorem dX4_days_12 : decode cX4_days 12 = .ok (.iload_n 2, 1) := by decide +kernel
theorem dX4_days_13 : decode cX4_days 13 = .ok (.ifCond .lt 15, 3) := by decide +kernel
theorem dX4_days_16 : decode cX4_days 16 = .ok (.iload_n 3, 1) := by decide +kernel
theorem dX4_days_17 : decode cX4_days 17 = .ok (.i2l, 1) := by decide +kernel
theorem dX4_days_18 : decode cX4_days 18 = .ok (.lconst 0, 1) := by decide +kernel
theorem dX4_days_19 : decode cX4_days 19 = .ok (.ldc2_w 174, 3) := by decide +kernel
theorem dX4_days_22 : decode cX4_days 22 = .ok (.invokestatic 40, 3) := by decide +kernel
theorem dX4_days_25 : decode cX4_days 25 = .ok (.ifCond .ne 6, 3) := by decide +kernel
theorem dX4_days_28 : decode cX4_days 28 = .ok (.bipush (-102), 2) := by decide +kernel
theorem dX4_days_30 : decode cX4_days 30 = .ok (.ireturn, 1) := by decide +kernel
theorem dX4_days_31 : decode cX4_days 31 = .ok (.aload_n 0, 1) := by decide +kernel
theorem dX4_days_32 : decode cX4_days 32 = .ok (.invokevirtual 89, 3) := by decide +kernel
theorem dX4_days_35 : decode cX4_days 35 = .ok (.ifCond .eq 6, 3) := by decide +kernel
theorem dX4_days_38 : decode cX4_days 38 = .ok (.bipush (-103), 2) := by decide +kernel
theorem dX4_days_40 : decode cX4_days 40 = .ok (.ireturn, 1) := by decide +kernel
theorem dX4_days_41 : decode cX4_days 41 = .ok (.aload_n 0, 1) := by decide +kernel
theorem dX4_days_42 : decode cX4_days 42 = .ok (.iload_n 2, 1) := by decide +kernel
theorem dX4_days_43 : decode cX4_days 43 = .ok (.putfield 164, 3) := by decide +kernel
theorem dX4_days_46 : decode cX4_days 46 = .ok (.iconst 0, 1) := by decide +kernel
theorem dX4_days_47 : decode cX4_days 47 = .ok (.istore 4, 2) := by decide +kernel
theorem dX4_days_49 : decode cX4_days 49 = .ok (.iconst 0, 1) := by decide +kernel
theorem dX4_days_50 : decode cX4_days 50 = .ok (.istore 5, 2) := by decide +kernel
theorem dX4_days_52 : decode cX4_days 52 = .ok (.iconst 0, 1) := by decide +kernel
theorem dX4_days_53 : decode cX4_days 53 = .ok (.istore 6, 2) := by decide +kernel
theorem dX4_days_55 : decode cX4_days 55 = .ok (.iload 6, 2) := by decide +kernel
theorem dX4_days_57 : decode cX4_days 57 = .ok (.iload_n 1, 1) := by decide +kernel
theorem dX4_days_58 : decode cX4_days 58 = .ok (.if_icmp .ge 44, 3) := by decide +kernel
theorem dX4_days_61 : decode cX4_days 61 = .ok (.aload_n 0, 1) := by decide +kernel
theorem dX4_days_62 : decode cX4_days 62 = .ok (.bipush 6, 2) := by decide +kernel
theorem dX4_days_64 : decode cX4_days 64 = .ok (.invokevirtual 176, 3) := by decide +kernel
theorem dX4_days_67 : decode cX4_days 67 = .ok (.istore 7, 2) := by decide +kernel
theorem dX4_days_69 : decode cX4_days 69 = .ok (.aload_n 0, 1) := by decide +kernel
theorem dX4_days_70 : decode cX4_days 70 = .ok (.iload 7, 2) := by decide +kernel
theorem dX4_days_72 : decode cX4_days 72 = .ok (.aload_n 0, 1) := by decide +kernel
theorem dX4_days_73 : decode cX4_days 73 = .ok (.bipush 9, 2) := by decide +kernel
theorem dX4_days_75 : decode cX4_days 75 = .ok (.invokevirtual 176, 3) := by decide +kernel
theorem dX4_days_78 : decode cX4_days 78 = .ok (.iconst 1, 1) := by decide +kernel
theorem dX4_days_79 : decode cX4_days 79 = .ok (.iadd, 1) := by decide +kernel
theorem dX4_days_80 : decode cX4_days 80 = .ok (.iconst 0, 1) := by decide +kernel
theorem dX4_days_81 : decode cX4_days 81 = .ok (.invokevirtual 130, 3) := by decide +kernel
theorem dX4_days_84 : decode cX4_days 84 = .ok (.invokestatic 127, 3) := by decide +kernel
theorem dX4_days_87 : decode cX4_days 87 = .ok (.istore 5, 2) := by decide +kernel
theorem dX4_days_89 : decode cX4_days 89 = .ok (.iload 4, 2) := by decide +kernel
theorem dX4_days_91 : decode cX4_days 91 = .ok (.iload 5, 2) := by decide +kernel
theorem dX4_days_93 : decode cX4_days 93 = .ok (.iadd, 1) := by decide +kernel
theorem dX4_days_94 : decode cX4_days 94 = .ok (.istore 4, 2) := by decide +kernel
theorem dX4_days_96 : decode cX4_days 96 = .ok (.iinc 6 1, 3) := by decide +kernel
theorem dX4_days_99 : decode cX4_days 99 = .ok (.goto (-44), 3) := by decide +kernel
theorem dX4_days_102 : decode cX4_days 102 = .ok (.iload_n 3, 1) := by decide +kernel
theorem dX4_days_103 : decode cX4_days 103 = .ok (.ifCond .ne 8, 3) := by decide +kernel
theorem dX4_days_106 : decode cX4_days 106 = .ok (.iload 4, 2) := by decide +kernel
theorem dX4_days_108 : decode cX4_days 108 = .ok (.goto 17, 3) := by decide +kernel
theorem dX4_days_111 : decode cX4_days 111 = .ok (.iload_n 3, 1) := by decide +kernel
theorem dX4_days_112 : decode cX4_days 112 = .ok (.iconst 1, 1) := by decide +kernel
theorem dX4_days_113 : decode cX4_days 113 = .ok (.if_icmp .ne 8, 3) := by decide +kernel
theorem dX4_days_116 : decode cX4_days 116 = .ok (.iload 5, 2) := by decide +kernel
theorem dX4_days_118 : decode cX4_days 118 = .ok (.goto 7, 3) := by decide +kernel
theorem dX4_days_121 : decode cX4_days 121 = .ok (.aload_n 0, 1) := by decide +kernel
theorem dX4_days_122 : decode cX4_days 122 = .ok (.getfield 164, 3) := by decide +kernel
theorem dX4_days_125 : decode cX4_days 125 = .ok (.ireturn, 1) := by decide +kernel
theorem dX4_image_0 : decode cX4_image 0 = .ok (.aload_n 0, 1) := by decide +kernel
theorem dX4_image_1 : decode cX4_image 1 = .ok (.invokevirtual 89, 3) := by decide +kernel
theorem dX4_image_4 : decode cX4_image 4 = .ok (.ifCond .eq 6, 3) := by decide +kernel
theorem dX4_image_7 : decode cX4_image 7 = .ok (.bipush (-103), 2) := by decide +kernel
theorem dX4_image_9 : decode cX4_image 9 = .ok (.ireturn, 1) := by decide +kernel
theorem dX4_image_10 : decode cX4_image 10 = .ok (.aload_n 0, 1) := by decide +kernel
theorem dX4_image_11 : decode cX4_image 11 = .ok (.getfield 16, 3) := by decide +kernel
theorem dX4_image_14 : decode cX4_image 14 = .ok (.aload_n 0, 1) := by decide +kernel
theorem dX4_image_15 : decode cX4_image 15 = .ok (.getfield 25, 3) := by decide +kernel
theorem dX4_image_18 : decode cX4_image 18 = .ok (.invokestatic 179, 3) := by decide +kernel
theorem dX4_image_21 : decode cX4_image 21 = .ok (.aload_n 0, 1) := by decide +kernel
theorem dX4_image_22 : decode cX4_image 22 = .ok (.getfield 22, 3) := by decide +kernel
theorem dX4_image_25 : decode cX4_image 25 = .ok (.aload_n 0, 1) := by decide +kernel
theorem dX4_image_26 : decode cX4_image 26 = .ok (.getfield 28, 3) := by decide +kernel
theorem dX4_image_29 : decode cX4_image 29 = .ok (.invokestatic 179, 3) := by decide +kernel
theorem dX4_image_32 : decode cX4_image 32 = .ok (.aload_n 0, 1) := by decide +kernel
theorem dX4_image_33 : decode cX4_image 33 = .ok (.getfield 13, 3) := by decide +kernel
theorem dX4_image_36 : decode cX4_image 36 = .ok (.aload_n 0, 1) := by decide +kernel
theorem dX4_image_37 : decode cX4_image 37 = .ok (.getfield 31, 3) := by decide +kernel
theorem dX4_image_40 : decode cX4_image 40 = .ok (.invokestatic 179, 3) := by decide +kernel
theorem dX4_image_43 : decode cX4_image 43 = .ok (.aload_n 0, 1) := by decide +kernel
theorem dX4_image_44 : decode cX4_image 44 = .ok (.aload_n 0, 1) := by decide +kernel
theorem dX4_image_45 : decode cX4_image 45 = .ok (.getfield 80, 3) := by decide +kernel
theorem dX4_image_48 : decode cX4_image 48 = .ok (.putfield 183, 3) := by decide +kernel
theorem dX4_image_51 : decode cX4_image 51 = .ok (.aload_n 0, 1) := by decide +kernel
theorem dX4_image_52 : decode cX4_image 52 = .ok (.aload_n 0, 1) := by decide +kernel
theorem dX4_image_53 : decode cX4_image 53 = .ok (.getfield 62, 3) := by decide +kernel
theorem dX4_image_56 : decode cX4_image 56 = .ok (.putfield 186, 3) := by decide +kernel
theorem dX4_image_59 : decode cX4_image 59 = .ok (.aload_n 0, 1) := by decide +kernel
theorem dX4_image_60 : decode cX4_image 60 = .ok (.aload_n 0, 1) := by decide +kernel
theorem dX4_image_61 : decode cX4_image 61 = .ok (.getfield 68, 3) := by decide +kernel
theorem dX4_image_64 : decode cX4_image 64 = .ok (.putfield 189, 3) := by decide +kernel
theorem dX4_image_67 : decode cX4_image 67 = .ok (.aload_n 0, 1) := by decide +kernel
theorem dX4_image_68 : decode cX4_image 68 = .ok (.aload_n 0, 1) := by decide +kernel
theorem dX4_image_69 : decode cX4_image 69 = .ok (.getfield 71, 3) := by decide +kernel
theorem dX4_image_72 : decode cX4_image 72 = .ok (.putfield 192, 3) := by decide +kernel
theorem dX4_image_75 : decode cX4_image 75 = .ok (.aload_n 0, 1) := by decide +kernel
theorem dX4_image_76 : decode cX4_image 76 = .ok (.aload_n 0, 1) := by decide +kernel
theorem dX4_image_77 : decode cX4_image 77 = .ok (.getfield 74, 3) := by decide +kernel
theorem dX4_image_80 : decode cX4_image 80 = .ok (.putfield 195, 3) := by decide +kernel
theorem dX4_image_83 : decode cX4_image 83 = .ok (.aload_n 0, 1) := by decide +kernel
theorem dX4_image_84 : decode cX4_image 84 = .ok (.aload_n 0, 1) := by decide +kernel
theorem dX4_image_85 : decode cX4_image 85 = .ok (.getfield 77, 3) := by decide +kernel
theorem dX4_image_88 : decode cX4_image 88 = .ok (.putfield 198, 3) := by decide +kernel
theorem dX4_image_91 : decode cX4_image 91 = .ok (.aload_n 0, 1) := by decide +kernel
theorem dX4_image_92 : decode cX4_image 92 = .ok (.aload_n 0, 1) := by decide +kernel
theorem dX4_image_93 : decode cX4_image 93 = .ok (.getfield 83, 3) := by decide +kernel
theorem dX4_image_96 : decode cX4_image 96 = .ok (.putfield 201, 3) := by decide +kernel
theorem dX4_image_99 : decode cX4_image 99 = .ok (.aload_n 0, 1) := by decide +kernel
theorem dX4_image_100 : decode cX4_image 100 = .ok (.aload_n 0, 1) := by decide +kernel
theorem dX4_image_101 : decode cX4_image 101 = .ok (.getfield 86, 3) := by decide +kernel
theorem dX4_image_104 : decode cX4_image 104 = .ok (.putfield 34, 3) := by decide +kernel
theorem dX4_image_107 : decode cX4_image 107 = .ok (.aload_n 0, 1) := by decide +kernel
theorem dX4_image_108 : decode cX4_image 108 = .ok (.getfield 74, 3) := by decide +kernel
theorem dX4_image_111 : decode cX4_image 111 = .ok (.ireturn, 1) := by decide +kernel
theorem dX4_restore_0 : decode cX4_restore 0 = .ok (.aload_n 0, 1) := by decide +kernel
theorem dX4_restore_1 : decode cX4_restore 1 = .ok (.getfield 34, 3) := by decide +kernel
theorem dX4_restore_4 : decode cX4_restore 4 = .ok (.aload_n 0, 1) := by decide +kernel
theorem dX4_restore_5 : decode cX4_restore 5 = .ok (.getfield 86, 3) := by decide +kernel
theorem dX4_restore_8 : decode cX4_restore 8 = .ok (.if_icmp .eq 6, 3) := by decide +kernel
theorem dX4_restore_11 : decode cX4_restore 11 = .ok (.bipush (-103), 2) := by decide +kernel
theorem dX4_restore_13 : decode cX4_restore 13 = .ok (.ireturn, 1) := by decide +kernel
theorem dX4_restore_14 : decode cX4_restore 14 = .ok (.aload_n 0, 1) := by decide +kernel
theorem dX4_restore_15 : decode cX4_restore 15 = .ok (.getfield 25, 3) := by decide +kernel
theorem dX4_restore_18 : decode cX4_restore 18 = .ok (.aload_n 0, 1) := by decide +kernel
theorem dX4_restore_19 : decode cX4_restore 19 = .ok (.getfield 16, 3) := by decide +kernel
theorem dX4_restore_22 : decode cX4_restore 22 = .ok (.invokestatic 179, 3) := by decide +kernel
theorem dX4_restore_25 : decode cX4_restore 25 = .ok (.aload_n 0, 1) := by decide +kernel
theorem dX4_restore_26 : decode cX4_restore 26 = .ok (.getfield 28, 3) := by decide +kernel
theorem dX4_restore_29 : decode cX4_restore 29 = .ok (.aload_n 0, 1) := by decide +kernel
theorem dX4_restore_30 : decode cX4_restore 30 = .ok (.getfield 22, 3) := by decide +kernel
theorem dX4_restore_33 : decode cX4_restore 33 = .ok (.invokestatic 179, 3) := by decide +kernel
theorem dX4_restore_36 : decode cX4_restore 36 = .ok (.aload_n 0, 1) := by decide +kernel
theorem dX4_restore_37 : decode cX4_restore 37 = .ok (.getfield 31, 3) := by decide +kernel
theorem dX4_restore_40 : decode cX4_restore 40 = .ok (.aload_n 0, 1) := by decide +kernel
theorem dX4_restore_41 : decode cX4_restore 41 = .ok (.getfield 13, 3) := by decide +kernel
theorem dX4_restore_44 : decode cX4_restore 44 = .ok (.invokestatic 179, 3) := by decide +kernel
theorem dX4_restore_47 : decode cX4_restore 47 = .ok (.aload_n 0, 1) := by decide +kernel
theorem dX4_restore_48 : decode cX4_restore 48 = .ok (.aload_n 0, 1) := by decide +kernel
theorem dX4_restore_49 : decode cX4_restore 49 = .ok (.getfield 183, 3) := by decide +kernel
theorem dX4_restore_52 : decode cX4_restore 52 = .ok (.putfield 80, 3) := by decide +kernel
theorem dX4_restore_55 : decode cX4_restore 55 = .ok (.aload_n 0, 1) := by decide +kernel
theorem dX4_restore_56 : decode cX4_restore 56 = .ok (.aload_n 0, 1) := by decide +kernel
theorem dX4_restore_57 : decode cX4_restore 57 = .ok (.getfield 186, 3) := by decide +kernel
theorem dX4_restore_60 : decode cX4_restore 60 = .ok (.putfield 62, 3) := by decide +kernel
theorem dX4_restore_63 : decode cX4_restore 63 = .ok (.aload_n 0, 1) := by decide +kernel
theorem dX4_restore_64 : decode cX4_restore 64 = .ok (.aload_n 0, 1) := by decide +kernel
theorem dX4_restore_65 : decode cX4_restore 65 = .ok (.getfield 189, 3) := by decide +kernel
theorem dX4_restore_68 : decode cX4_restore 68 = .ok (.putfield 68, 3) := by decide +kernel
theorem dX4_restore_71 : decode cX4_restore 71 = .ok (.aload_n 0, 1) := by decide +kernel
theorem dX4_restore_72 : decode cX4_restore 72 = .ok (.aload_n 0, 1) := by decide +kernel
theorem dX4_restore_73 : decode cX4_restore 73 = .ok (.getfield 192, 3) := by decide +kernel
theorem dX4_restore_76 : decode cX4_restore 76 = .ok (.putfield 71, 3) := by decide +kernel
theorem dX4_restore_79 : decode cX4_restore 79 = .ok (.aload_n 0, 1) := by decide +kernel
theorem dX4_restore_80 : decode cX4_restore 80 = .ok (.aload_n 0, 1) := by decide +kernel
theorem dX4_restore_81 : decode cX4_restore 81 = .ok (.getfield 195, 3) := by decide +kernel
theorem dX4_restore_84 : decode cX4_restore 84 = .ok (.putfield 74, 3) := by decide +kernel
theorem dX4_restore_87 : decode cX4_restore 87 = .ok (.aload_n 0, 1) := by decide +kernel
theorem dX4_restore_88 : decode cX4_restore 88 = .ok (.aload_n 0, 1) := by decide +kernel
theorem dX4_restore_89 : decode cX4_restore 89 = .ok (.getfield 198, 3) := by decide +kernel
theorem dX4_restore_92 : decode cX4_restore 92 = .ok (.putfield 77, 3) := by decide +kernel
theorem dX4_restore_95 : decode cX4_restore 95 = .ok (.aload_n 0, 1) := by decide +kernel
theorem dX4_restore_96 : decode cX4_restore 96 = .ok (.aload_n 0, 1) := by decide +kernel
theorem dX4_restore_97 : decode cX4_restore 97 = .ok (.getfield 201, 3) := by decide +kernel
theorem dX4_restore_100 : decode cX4_restore 100 = .ok (.putfield 83, 3) := by decide +kernel
theorem dX4_restore_103 : decode cX4_restore 103 = .ok (.aload_n 0, 1) := by decide +kernel
theorem dX4_restore_104 : decode cX4_restore 104 = .ok (.getfield 74, 3) := by decide +kernel
theorem dX4_restore_107 : decode cX4_restore 107 = .ok (.ireturn, 1) := by decide +kernel
theorem dX4_countOf_0 : decode cX4_countOf 0 = .ok (.iload_n 1, 1) := by decide +kernel
theorem dX4_countOf_1 : decode cX4_countOf 1 = .ok (.tableswitch 112 0 9 #[55, 60, 65, 70, 75, 87, 92, 97, 102, 107], 55) := by decide +kernel
theorem dX4_countOf_56 : decode cX4_countOf 56 = .ok (.aload_n 0, 1) := by decide +kernel
theorem dX4_countOf_57 : decode cX4_countOf 57 = .ok (.getfield 80, 3) := by decide +kernel
theorem dX4_countOf_60 : decode cX4_countOf 60 = .ok (.ireturn, 1) := by decide +kernel
theorem dX4_countOf_61 : decode cX4_countOf 61 = .ok (.aload_n 0, 1) := by decide +kernel
theorem dX4_countOf_62 : decode cX4_countOf 62 = .ok (.getfield 62, 3) := by decide +kernel
theorem dX4_countOf_65 : decode cX4_countOf 65 = .ok (.ireturn, 1) := by decide +kernel
theorem dX4_countOf_66 : decode cX4_countOf 66 = .ok (.aload_n 0, 1) := by decide +kernel
theorem dX4_countOf_67 : decode cX4_countOf 67 = .ok (.getfield 65, 3) := by decide +kernel
theorem dX4_countOf_70 : decode cX4_countOf 70 = .ok (.ireturn, 1) := by decide +kernel
theorem dX4_countOf_71 : decode cX4_countOf 71 = .ok (.aload_n 0, 1) := by decide +kernel
theorem dX4_countOf_72 : decode cX4_countOf 72 = .ok (.getfield 68, 3) := by decide +kernel
theorem dX4_countOf_75 : decode cX4_countOf 75 = .ok (.ireturn, 1) := by decide +kernel
theorem dX4_countOf_76 : decode cX4_countOf 76 = .ok (.aload_n 0, 1) := by decide +kernel
theorem dX4_countOf_77 : decode cX4_countOf 77 = .ok (.aload_n 0, 1) := by decide +kernel
theorem dX4_countOf_78 : decode cX4_countOf 78 = .ok (.getfield 71, 3) := by decide +kernel
theorem dX4_countOf_81 : decode cX4_countOf 81 = .ok (.invokevirtual 110, 3) := by decide +kernel
theorem dX4_countOf_84 : decode cX4_countOf 84 = .ok (.invokestatic 127, 3) := by decide +kernel
theorem dX4_countOf_87 : decode cX4_countOf 87 = .ok (.ireturn, 1) := by decide +kernel
theorem dX4_countOf_88 : decode cX4_countOf 88 = .ok (.aload_n 0, 1) := by decide +kernel
theorem dX4_countOf_89 : decode cX4_countOf 89 = .ok (.getfield 74, 3) := by decide +kernel
theorem dX4_countOf_92 : decode cX4_countOf 92 = .ok (.ireturn, 1) := by decide +kernel
theorem dX4_countOf_93 : decode cX4_countOf 93 = .ok (.aload_n 0, 1) := by decide +kernel
theorem dX4_countOf_94 : decode cX4_countOf 94 = .ok (.getfield 77, 3) := by decide +kernel
theorem dX4_countOf_97 : decode cX4_countOf 97 = .ok (.ireturn, 1) := by decide +kernel
theorem dX4_countOf_98 : decode cX4_countOf 98 = .ok (.aload_n 0, 1) := by decide +kernel
theorem dX4_countOf_99 : decode cX4_countOf 99 = .ok (.getfield 83, 3) := by decide +kernel
theorem dX4_countOf_102 : decode cX4_countOf 102 = .ok (.ireturn, 1) := by decide +kernel
theorem dX4_countOf_103 : decode cX4_countOf 103 = .ok (.aload_n 0, 1) := by decide +kernel
theorem dX4_countOf_104 : decode cX4_countOf 104 = .ok (.getfield 44, 3) := by decide +kernel
theorem dX4_countOf_107 : decode cX4_countOf 107 = .ok (.ireturn, 1) := by decide +kernel
theorem dX4_countOf_108 : decode cX4_countOf 108 = .ok (.aload_n 0, 1) := by decide +kernel
theorem dX4_countOf_109 : decode cX4_countOf 109 = .ok (.getfield 86, 3) := by decide +kernel
theorem dX4_countOf_112 : decode cX4_countOf 112 = .ok (.ireturn, 1) := by decide +kernel
theorem dX4_countOf_113 : decode cX4_countOf 113 = .ok (.bipush (-102), 2) := by decide +kernel
theorem dX4_countOf_115 : decode cX4_countOf 115 = .ok (.ireturn, 1) := by decide +kernel
theorem dX4_count_0 : decode cX4_count 0 = .ok (.aload_n 0, 1) := by decide +kernel
theorem dX4_count_1 : decode cX4_count 1 = .ok (.iload_n 1, 1) := by decide +kernel
theorem dX4_count_2 : decode cX4_count 2 = .ok (.invokevirtual 204, 3) := by decide +kernel
theorem dX4_count_5 : decode cX4_count 5 = .ok (.ireturn, 1) := by decide +kernel
theorem dX4_say_0 : decode cX4_say 0 = .ok (.aload_n 0, 1) := by decide +kernel
theorem dX4_say_1 : decode cX4_say 1 = .ok (.ldc2_w 207, 3) := by decide +kernel
theorem dX4_say_4 : decode cX4_say 4 = .ok (.aload_n 0, 1) := by decide +kernel
theorem dX4_say_5 : decode cX4_say 5 = .ok (.getfield 209, 3) := by decide +kernel
theorem dX4_say_8 : decode cX4_say 8 = .ok (.lmul, 1) := by decide +kernel
theorem dX4_say_9 : decode cX4_say 9 = .ok (.lload_n 1, 1) := by decide +kernel
theorem dX4_say_10 : decode cX4_say 10 = .ok (.ladd, 1) := by decide +kernel
theorem dX4_say_11 : decode cX4_say 11 = .ok (.putfield 209, 3) := by decide +kernel
theorem dX4_say_14 : decode cX4_say 14 = .ok (.return_, 1) := by decide +kernel
theorem dX4_sayTown_0 : decode cX4_sayTown 0 = .ok (.iconst 0, 1) := by decide +kernel
theorem dX4_sayTown_1 : decode cX4_sayTown 1 = .ok (.istore_n 1, 1) := by decide +kernel
theorem dX4_sayTown_2 : decode cX4_sayTown 2 = .ok (.iload_n 1, 1) := by decide +kernel
theorem dX4_sayTown_3 : decode cX4_sayTown 3 = .ok (.bipush 6, 2) := by decide +kernel
theorem dX4_sayTown_5 : decode cX4_sayTown 5 = .ok (.if_icmp .ge 35, 3) := by decide +kernel
theorem dX4_sayTown_8 : decode cX4_sayTown 8 = .ok (.aload_n 0, 1) := by decide +kernel
theorem dX4_sayTown_9 : decode cX4_sayTown 9 = .ok (.aload_n 0, 1) := by decide +kernel
theorem dX4_sayTown_10 : decode cX4_sayTown 10 = .ok (.getfield 13, 3) := by decide +kernel
theorem dX4_sayTown_13 : decode cX4_sayTown 13 = .ok (.iload_n 1, 1) := by decide +kernel
theorem dX4_sayTown_14 : decode cX4_sayTown 14 = .ok (.iaload, 1) := by decide +kernel
theorem dX4_sayTown_15 : decode cX4_sayTown 15 = .ok (.i2l, 1) := by decide +kernel
theorem dX4_sayTown_16 : decode cX4_sayTown 16 = .ok (.invokevirtual 213, 3) := by decide +kernel
theorem dX4_sayTown_19 : decode cX4_sayTown 19 = .ok (.aload_n 0, 1) := by decide +kernel
theorem dX4_sayTown_20 : decode cX4_sayTown 20 = .ok (.aload_n 0, 1) := by decide +kernel
theorem dX4_sayTown_21 : decode cX4_sayTown 21 = .ok (.iload_n 1, 1) := by decide +kernel
theorem dX4_sayTown_22 : decode cX4_sayTown 22 = .ok (.iconst 5, 1) := by decide +kernel
theorem dX4_sayTown_23 : decode cX4_sayTown 23 = .ok (.aload_n 0, 1) := by decide +kernel
theorem dX4_sayTown_24 : decode cX4_sayTown 24 = .ok (.getfield 71, 3) := by decide +kernel
theorem dX4_sayTown_27 : decode cX4_sayTown 27 = .ok (.invokevirtual 130, 3) := by decide +kernel
theorem dX4_sayTown_30 : decode cX4_sayTown 30 = .ok (.i2l, 1) := by decide +kernel
theorem dX4_sayTown_31 : decode cX4_sayTown 31 = .ok (.invokevirtual 213, 3) := by decide +kernel
theorem dX4_sayTown_34 : decode cX4_sayTown 34 = .ok (.iinc 1 1, 3) := by decide +kernel
theorem dX4_sayTown_37 : decode cX4_sayTown 37 = .ok (.goto (-35), 3) := by decide +kernel
theorem dX4_sayTown_40 : decode cX4_sayTown 40 = .ok (.aload_n 0, 1) := by decide +kernel
theorem dX4_sayTown_41 : decode cX4_sayTown 41 = .ok (.aload_n 0, 1) := by decide +kernel
theorem dX4_sayTown_42 : decode cX4_sayTown 42 = .ok (.iconst 0, 1) := by decide +kernel
theorem dX4_sayTown_43 : decode cX4_sayTown 43 = .ok (.invokevirtual 133, 3) := by decide +kernel
theorem dX4_sayTown_46 : decode cX4_sayTown 46 = .ok (.i2l, 1) := by decide +kernel
theorem dX4_sayTown_47 : decode cX4_sayTown 47 = .ok (.invokevirtual 213, 3) := by decide +kernel
theorem dX4_sayTown_50 : decode cX4_sayTown 50 = .ok (.aload_n 0, 1) := by decide +kernel
theorem dX4_sayTown_51 : decode cX4_sayTown 51 = .ok (.aload_n 0, 1) := by decide +kernel
theorem dX4_sayTown_52 : decode cX4_sayTown 52 = .ok (.iconst 1, 1) := by decide +kernel
theorem dX4_sayTown_53 : decode cX4_sayTown 53 = .ok (.invokevirtual 133, 3) := by decide +kernel
theorem dX4_sayTown_56 : decode cX4_sayTown 56 = .ok (.i2l, 1) := by decide +kernel
theorem dX4_sayTown_57 : decode cX4_sayTown 57 = .ok (.invokevirtual 213, 3) := by decide +kernel
theorem dX4_sayTown_60 : decode cX4_sayTown 60 = .ok (.aload_n 0, 1) := by decide +kernel
theorem dX4_sayTown_61 : decode cX4_sayTown 61 = .ok (.aload_n 0, 1) := by decide +kernel
theorem dX4_sayTown_62 : decode cX4_sayTown 62 = .ok (.aload_n 0, 1) := by decide +kernel
theorem dX4_sayTown_63 : decode cX4_sayTown 63 = .ok (.invokevirtual 120, 3) := by decide +kernel
theorem dX4_sayTown_66 : decode cX4_sayTown 66 = .ok (.iconst 0, 1) := by decide +kernel
theorem dX4_sayTown_67 : decode cX4_sayTown 67 = .ok (.invokevirtual 144, 3) := by decide +kernel
theorem dX4_sayTown_70 : decode cX4_sayTown 70 = .ok (.i2l, 1) := by decide +kernel
theorem dX4_sayTown_71 : decode cX4_sayTown 71 = .ok (.invokevirtual 213, 3) := by decide +kernel
theorem dX4_sayTown_74 : decode cX4_sayTown 74 = .ok (.bipush 10, 2) := by decide +kernel
theorem dX4_sayTown_76 : decode cX4_sayTown 76 = .ok (.istore_n 1, 1) := by decide +kernel
theorem dX4_sayTown_77 : decode cX4_sayTown 77 = .ok (.iload_n 1, 1) := by decide +kernel
theorem dX4_sayTown_78 : decode cX4_sayTown 78 = .ok (.bipush 13, 2) := by decide +kernel
theorem dX4_sayTown_80 : decode cX4_sayTown 80 = .ok (.if_icmp .ge 23, 3) := by decide +kernel
theorem dX4_sayTown_83 : decode cX4_sayTown 83 = .ok (.aload_n 0, 1) := by decide +kernel
theorem dX4_sayTown_84 : decode cX4_sayTown 84 = .ok (.aload_n 0, 1) := by decide +kernel
theorem dX4_sayTown_85 : decode cX4_sayTown 85 = .ok (.aload_n 0, 1) := by decide +kernel
theorem dX4_sayTown_86 : decode cX4_sayTown 86 = .ok (.invokevirtual 120, 3) := by decide +kernel
theorem dX4_sayTown_89 : decode cX4_sayTown 89 = .ok (.iload_n 1, 1) := by decide +kernel
theorem dX4_sayTown_90 : decode cX4_sayTown 90 = .ok (.invokevirtual 144, 3) := by decide +kernel
theorem dX4_sayTown_93 : decode cX4_sayTown 93 = .ok (.i2l, 1) := by decide +kernel
theorem dX4_sayTown_94 : decode cX4_sayTown 94 = .ok (.invokevirtual 213, 3) := by decide +kernel
theorem dX4_sayTown_97 : decode cX4_sayTown 97 = .ok (.iinc 1 1, 3) := by decide +kernel
theorem dX4_sayTown_100 : decode cX4_sayTown 100 = .ok (.goto (-23), 3) := by decide +kernel
theorem dX4_sayTown_103 : decode cX4_sayTown 103 = .ok (.aload_n 0, 1) := by decide +kernel
theorem dX4_sayTown_104 : decode cX4_sayTown 104 = .ok (.aload_n 0, 1) := by decide +kernel
theorem dX4_sayTown_105 : decode cX4_sayTown 105 = .ok (.iconst 0, 1) := by decide +kernel
theorem dX4_sayTown_106 : decode cX4_sayTown 106 = .ok (.invokevirtual 156, 3) := by decide +kernel
theorem dX4_sayTown_109 : decode cX4_sayTown 109 = .ok (.i2l, 1) := by decide +kernel
theorem dX4_sayTown_110 : decode cX4_sayTown 110 = .ok (.invokevirtual 213, 3) := by decide +kernel
theorem dX4_sayTown_113 : decode cX4_sayTown 113 = .ok (.aload_n 0, 1) := by decide +kernel
theorem dX4_sayTown_114 : decode cX4_sayTown 114 = .ok (.aload_n 0, 1) := by decide +kernel
theorem dX4_sayTown_115 : decode cX4_sayTown 115 = .ok (.iconst 1, 1) := by decide +kernel
theorem dX4_sayTown_116 : decode cX4_sayTown 116 = .ok (.invokevirtual 156, 3) := by decide +kernel
theorem dX4_sayTown_119 : decode cX4_sayTown 119 = .ok (.i2l, 1) := by decide +kernel
theorem dX4_sayTown_120 : decode cX4_sayTown 120 = .ok (.invokevirtual 213, 3) := by decide +kernel
theorem dX4_sayTown_123 : decode cX4_sayTown 123 = .ok (.aload_n 0, 1) := by decide +kernel
theorem dX4_sayTown_124 : decode cX4_sayTown 124 = .ok (.aload_n 0, 1) := by decide +kernel
theorem dX4_sayTown_125 : decode cX4_sayTown 125 = .ok (.invokevirtual 159, 3) := by decide +kernel
theorem dX4_sayTown_128 : decode cX4_sayTown 128 = .ok (.i2l, 1) := by decide +kernel
theorem dX4_sayTown_129 : decode cX4_sayTown 129 = .ok (.invokevirtual 213, 3) := by decide +kernel
theorem dX4_sayTown_132 : decode cX4_sayTown 132 = .ok (.return_, 1) := by decide +kernel
theorem dX4_digest_0 : decode cX4_digest 0 = .ok (.aload_n 0, 1) := by decide +kernel
theorem dX4_digest_1 : decode cX4_digest 1 = .ok (.ldc2_w 217, 3) := by decide +kernel
theorem dX4_digest_4 : decode cX4_digest 4 = .ok (.putfield 209, 3) := by decide +kernel
theorem dX4_digest_7 : decode cX4_digest 7 = .ok (.iconst 0, 1) := by decide +kernel
theorem dX4_digest_8 : decode cX4_digest 8 = .ok (.istore_n 1, 1) := by decide +kernel
theorem dX4_digest_9 : decode cX4_digest 9 = .ok (.iload_n 1, 1) := by decide +kernel
theorem dX4_digest_10 : decode cX4_digest 10 = .ok (.aload_n 0, 1) := by decide +kernel
theorem dX4_digest_11 : decode cX4_digest 11 = .ok (.getfield 80, 3) := by decide +kernel
theorem dX4_digest_14 : decode cX4_digest 14 = .ok (.if_icmp .ge 62, 3) := by decide +kernel
theorem dX4_digest_17 : decode cX4_digest 17 = .ok (.iconst 0, 1) := by decide +kernel
theorem dX4_digest_18 : decode cX4_digest 18 = .ok (.istore_n 2, 1) := by decide +kernel
theorem dX4_digest_19 : decode cX4_digest 19 = .ok (.iload_n 2, 1) := by decide +kernel
theorem dX4_digest_20 : decode cX4_digest 20 = .ok (.bipush 6, 2) := by decide +kernel
theorem dX4_digest_22 : decode cX4_digest 22 = .ok (.if_icmp .ge 20, 3) := by decide +kernel
theorem dX4_digest_25 : decode cX4_digest 25 = .ok (.aload_n 0, 1) := by decide +kernel
theorem dX4_digest_26 : decode cX4_digest 26 = .ok (.aload_n 0, 1) := by decide +kernel
theorem dX4_digest_27 : decode cX4_digest 27 = .ok (.iload_n 1, 1) := by decide +kernel
theorem dX4_digest_28 : decode cX4_digest 28 = .ok (.iload_n 2, 1) := by decide +kernel
theorem dX4_digest_29 : decode cX4_digest 29 = .ok (.invokevirtual 116, 3) := by decide +kernel
theorem dX4_digest_32 : decode cX4_digest 32 = .ok (.i2l, 1) := by decide +kernel
theorem dX4_digest_33 : decode cX4_digest 33 = .ok (.invokevirtual 213, 3) := by decide +kernel
theorem dX4_digest_36 : decode cX4_digest 36 = .ok (.iinc 2 1, 3) := by decide +kernel
theorem dX4_digest_39 : decode cX4_digest 39 = .ok (.goto (-20), 3) := by decide +kernel
theorem dX4_digest_42 : decode cX4_digest 42 = .ok (.aload_n 0, 1) := by decide +kernel
theorem dX4_digest_43 : decode cX4_digest 43 = .ok (.aload_n 0, 1) := by decide +kernel
theorem dX4_digest_44 : decode cX4_digest 44 = .ok (.iload_n 1, 1) := by decide +kernel
theorem dX4_digest_45 : decode cX4_digest 45 = .ok (.iconst 2, 1) := by decide +kernel
theorem dX4_digest_46 : decode cX4_digest 46 = .ok (.bipush 9, 2) := by decide +kernel
theorem dX4_digest_48 : decode cX4_digest 48 = .ok (.iconst 0, 1) := by decide +kernel
theorem dX4_digest_49 : decode cX4_digest 49 = .ok (.invokevirtual 150, 3) := by decide +kernel
theorem dX4_digest_52 : decode cX4_digest 52 = .ok (.i2l, 1) := by decide +kernel
theorem dX4_digest_53 : decode cX4_digest 53 = .ok (.invokevirtual 213, 3) := by decide +kernel
theorem dX4_digest_56 : decode cX4_digest 56 = .ok (.aload_n 0, 1) := by decide +kernel
theorem dX4_digest_57 : decode cX4_digest 57 = .ok (.aload_n 0, 1) := by decide +kernel
theorem dX4_digest_58 : decode cX4_digest 58 = .ok (.iload_n 1, 1) := by decide +kernel
theorem dX4_digest_59 : decode cX4_digest 59 = .ok (.iconst 2, 1) := by decide +kernel
theorem dX4_digest_60 : decode cX4_digest 60 = .ok (.bipush 9, 2) := by decide +kernel
theorem dX4_digest_62 : decode cX4_digest 62 = .ok (.iconst 1, 1) := by decide +kernel
theorem dX4_digest_63 : decode cX4_digest 63 = .ok (.invokevirtual 150, 3) := by decide +kernel
theorem dX4_digest_66 : decode cX4_digest 66 = .ok (.i2l, 1) := by decide +kernel
theorem dX4_digest_67 : decode cX4_digest 67 = .ok (.invokevirtual 213, 3) := by decide +kernel
theorem dX4_digest_70 : decode cX4_digest 70 = .ok (.iinc 1 1, 3) := by decide +kernel
theorem dX4_digest_73 : decode cX4_digest 73 = .ok (.goto (-64), 3) := by decide +kernel
theorem dX4_digest_76 : decode cX4_digest 76 = .ok (.aload_n 0, 1) := by decide +kernel
theorem dX4_digest_77 : decode cX4_digest 77 = .ok (.invokevirtual 89, 3) := by decide +kernel
theorem dX4_digest_80 : decode cX4_digest 80 = .ok (.ifCond .ne 7, 3) := by decide +kernel
theorem dX4_digest_83 : decode cX4_digest 83 = .ok (.aload_n 0, 1) := by decide +kernel
theorem dX4_digest_84 : decode cX4_digest 84 = .ok (.invokevirtual 219, 3) := by decide +kernel
theorem dX4_digest_87 : decode cX4_digest 87 = .ok (.iconst 0, 1) := by decide +kernel
theorem dX4_digest_88 : decode cX4_digest 88 = .ok (.istore_n 1, 1) := by decide +kernel
theorem dX4_digest_89 : decode cX4_digest 89 = .ok (.iload_n 1, 1) := by decide +kernel
theorem dX4_digest_90 : decode cX4_digest 90 = .ok (.aload_n 0, 1) := by decide +kernel
theorem dX4_digest_91 : decode cX4_digest 91 = .ok (.getfield 44, 3) := by decide +kernel
theorem dX4_digest_94 : decode cX4_digest 94 = .ok (.if_icmp .ge 20, 3) := by decide +kernel
theorem dX4_digest_97 : decode cX4_digest 97 = .ok (.aload_n 0, 1) := by decide +kernel
theorem dX4_digest_98 : decode cX4_digest 98 = .ok (.aload_n 0, 1) := by decide +kernel
theorem dX4_digest_99 : decode cX4_digest 99 = .ok (.getfield 7, 3) := by decide +kernel
theorem dX4_digest_102 : decode cX4_digest 102 = .ok (.iload_n 1, 1) := by decide +kernel
theorem dX4_digest_103 : decode cX4_digest 103 = .ok (.iaload, 1) := by decide +kernel
theorem dX4_digest_104 : decode cX4_digest 104 = .ok (.i2l, 1) := by decide +kernel
theorem dX4_digest_105 : decode cX4_digest 105 = .ok (.invokevirtual 213, 3) := by decide +kernel
theorem dX4_digest_108 : decode cX4_digest 108 = .ok (.iinc 1 1, 3) := by decide +kernel
theorem dX4_digest_111 : decode cX4_digest 111 = .ok (.goto (-22), 3) := by decide +kernel
theorem dX4_digest_114 : decode cX4_digest 114 = .ok (.iconst 0, 1) := by decide +kernel
theorem dX4_digest_115 : decode cX4_digest 115 = .ok (.istore_n 1, 1) := by decide +kernel
theorem dX4_digest_116 : decode cX4_digest 116 = .ok (.iload_n 1, 1) := by decide +kernel
theorem dX4_digest_117 : decode cX4_digest 117 = .ok (.bipush 10, 2) := by decide +kernel
theorem dX4_digest_119 : decode cX4_digest 119 = .ok (.if_icmp .ge 19, 3) := by decide +kernel
theorem dX4_digest_122 : decode cX4_digest 122 = .ok (.aload_n 0, 1) := by decide +kernel
theorem dX4_digest_123 : decode cX4_digest 123 = .ok (.aload_n 0, 1) := by decide +kernel
theorem dX4_digest_124 : decode cX4_digest 124 = .ok (.iload_n 1, 1) := by decide +kernel
theorem dX4_digest_125 : decode cX4_digest 125 = .ok (.invokevirtual 204, 3) := by decide +kernel
theorem dX4_digest_128 : decode cX4_digest 128 = .ok (.i2l, 1) := by decide +kernel
theorem dX4_digest_129 : decode cX4_digest 129 = .ok (.invokevirtual 213, 3) := by decide +kernel
theorem dX4_digest_132 : decode cX4_digest 132 = .ok (.iinc 1 1, 3) := by decide +kernel
theorem dX4_digest_135 : decode cX4_digest 135 = .ok (.goto (-19), 3) := by decide +kernel
theorem dX4_digest_138 : decode cX4_digest 138 = .ok (.aload_n 0, 1) := by decide +kernel
theorem dX4_digest_139 : decode cX4_digest 139 = .ok (.getfield 209, 3) := by decide +kernel
theorem dX4_digest_142 : decode cX4_digest 142 = .ok (.lreturn, 1) := by decide +kernel
end
section
theorem dL_law_0 : decode cL_law 0 = .ok (.new 7, 3) := by decide +kernel
theorem dL_law_3 : decode cL_law 3 = .ok (.dup, 1) := by decide +kernel
theorem dL_law_4 : decode cL_law 4 = .ok (.invokespecial 9, 3) := by decide +kernel
theorem dL_law_7 : decode cL_law 7 = .ok (.astore_n 1, 1) := by decide +kernel
theorem dL_law_8 : decode cL_law 8 = .ok (.new 10, 3) := by decide +kernel
theorem dL_law_11 : decode cL_law 11 = .ok (.dup, 1) := by decide +kernel
theorem dL_law_12 : decode cL_law 12 = .ok (.invokespecial 12, 3) := by decide +kernel
theorem dL_law_15 : decode cL_law 15 = .ok (.astore_n 2, 1) := by decide +kernel
theorem dL_law_16 : decode cL_law 16 = .ok (.iconst 0, 1) := by decide +kernel
theorem dL_law_17 : decode cL_law 17 = .ok (.istore_n 3, 1) := by decide +kernel
theorem dL_law_18 : decode cL_law 18 = .ok (.iload_n 3, 1) := by decide +kernel
theorem dL_law_19 : decode cL_law 19 = .ok (.aload_n 0, 1) := by decide +kernel
theorem dL_law_20 : decode cL_law 20 = .ok (.arraylength, 1) := by decide +kernel
theorem dL_law_21 : decode cL_law 21 = .ok (.iconst 5, 1) := by decide +kernel
theorem dL_law_22 : decode cL_law 22 = .ok (.isub, 1) := by decide +kernel
theorem dL_law_23 : decode cL_law 23 = .ok (.if_icmp .gt 807, 3) := by decide +kernel
theorem dL_law_26 : decode cL_law 26 = .ok (.aload_n 0, 1) := by decide +kernel
theorem dL_law_27 : decode cL_law 27 = .ok (.iload_n 3, 1) := by decide +kernel
theorem dL_law_28 : decode cL_law 28 = .ok (.iaload, 1) := by decide +kernel
theorem dL_law_29 : decode cL_law 29 = .ok (.bipush 31, 2) := by decide +kernel
theorem dL_law_31 : decode cL_law 31 = .ok (.iand, 1) := by decide +kernel
theorem dL_law_32 : decode cL_law 32 = .ok (.tableswitch 792 0 26 #[124, 147, 160, 173, 186, 209, 242, 275, 308, 341, 374, 407, 440, 453, 466, 479, 502, 535, 588, 637, 650, 673, 686, 729, 742, 755, 778], 124) := by decide +kernel
theorem dL_law_156 : decode cL_law 156 = .ok (.aload_n 1, 1) := by decide +kernel
theorem dL_law_157 : decode cL_law 157 = .ok (.aload_n 0, 1) := by decide +kernel
theorem dL_law_158 : decode cL_law 158 = .ok (.iload_n 3, 1) := by decide +kernel
theorem dL_law_159 : decode cL_law 159 = .ok (.iconst 1, 1) := by decide +kernel
theorem dL_law_160 : decode cL_law 160 = .ok (.iadd, 1) := by decide +kernel
theorem dL_law_161 : decode cL_law 161 = .ok (.iaload, 1) := by decide +kernel
theorem dL_law_162 : decode cL_law 162 = .ok (.invokevirtual 13, 3) := by decide +kernel
theorem dL_law_165 : decode cL_law 165 = .ok (.aload_n 2, 1) := by decide +kernel
theorem dL_law_166 : decode cL_law 166 = .ok (.aload_n 0, 1) := by decide +kernel
theorem dL_law_167 : decode cL_law 167 = .ok (.iload_n 3, 1) := by decide +kernel
theorem dL_law_168 : decode cL_law 168 = .ok (.iconst 1, 1) := by decide +kernel
theorem dL_law_169 : decode cL_law 169 = .ok (.iadd, 1) := by decide +kernel
theorem dL_law_170 : decode cL_law 170 = .ok (.iaload, 1) := by decide +kernel
theorem dL_law_171 : decode cL_law 171 = .ok (.invokevirtual 17, 3) := by decide +kernel
theorem dL_law_174 : decode cL_law 174 = .ok (.if_icmp .eq 650, 3) := by decide +kernel
theorem dL_law_177 : decode cL_law 177 = .ok (.iconst 0, 1) := by decide +kernel
theorem dL_law_178 : decode cL_law 178 = .ok (.ireturn, 1) := by decide +kernel
theorem dL_law_179 : decode cL_law 179 = .ok (.aload_n 1, 1) := by decide +kernel
theorem dL_law_180 : decode cL_law 180 = .ok (.invokevirtual 18, 3) := by decide +kernel
theorem dL_law_183 : decode cL_law 183 = .ok (.aload_n 2, 1) := by decide +kernel
theorem dL_law_184 : decode cL_law 184 = .ok (.invokevirtual 22, 3) := by decide +kernel
theorem dL_law_187 : decode cL_law 187 = .ok (.if_icmp .eq 637, 3) := by decide +kernel
theorem dL_law_190 : decode cL_law 190 = .ok (.iconst 0, 1) := by decide +kernel
theorem dL_law_191 : decode cL_law 191 = .ok (.ireturn, 1) := by decide +kernel
theorem dL_law_192 : decode cL_law 192 = .ok (.aload_n 1, 1) := by decide +kernel
theorem dL_law_193 : decode cL_law 193 = .ok (.invokevirtual 23, 3) := by decide +kernel
theorem dL_law_196 : decode cL_law 196 = .ok (.aload_n 2, 1) := by decide +kernel
theorem dL_law_197 : decode cL_law 197 = .ok (.invokevirtual 26, 3) := by decide +kernel
theorem dL_law_200 : decode cL_law 200 = .ok (.if_icmp .eq 624, 3) := by decide +kernel
theorem dL_law_203 : decode cL_law 203 = .ok (.iconst 0, 1) := by decide +kernel
theorem dL_law_204 : decode cL_law 204 = .ok (.ireturn, 1) := by decide +kernel
theorem dL_law_205 : decode cL_law 205 = .ok (.aload_n 1, 1) := by decide +kernel
theorem dL_law_206 : decode cL_law 206 = .ok (.invokevirtual 27, 3) := by decide +kernel
theorem dL_law_209 : decode cL_law 209 = .ok (.aload_n 2, 1) := by decide +kernel
theorem dL_law_210 : decode cL_law 210 = .ok (.invokevirtual 30, 3) := by decide +kernel
theorem dL_law_213 : decode cL_law 213 = .ok (.if_icmp .eq 611, 3) := by decide +kernel
theorem dL_law_216 : decode cL_law 216 = .ok (.iconst 0, 1) := by decide +kernel
theorem dL_law_217 : decode cL_law 217 = .ok (.ireturn, 1) := by decide +kernel
theorem dL_law_218 : decode cL_law 218 = .ok (.aload_n 1, 1) := by decide +kernel
theorem dL_law_219 : decode cL_law 219 = .ok (.aload_n 0, 1) := by decide +kernel
theorem dL_law_220 : decode cL_law 220 = .ok (.iload_n 3, 1) := by decide +kernel
theorem dL_law_221 : decode cL_law 221 = .ok (.iconst 1, 1) := by decide +kernel
theorem dL_law_222 : decode cL_law 222 = .ok (.iadd, 1) := by decide +kernel
theorem dL_law_223 : decode cL_law 223 = .ok (.iaload, 1) := by decide +kernel
theorem dL_law_224 : decode cL_law 224 = .ok (.invokevirtual 31, 3) := by decide +kernel
theorem dL_law_227 : decode cL_law 227 = .ok (.aload_n 2, 1) := by decide +kernel
theorem dL_law_228 : decode cL_law 228 = .ok (.aload_n 0, 1) := by decide +kernel
theorem dL_law_229 : decode cL_law 229 = .ok (.iload_n 3, 1) := by decide +kernel
theorem dL_law_230 : decode cL_law 230 = .ok (.iconst 1, 1) := by decide +kernel
theorem dL_law_231 : decode cL_law 231 = .ok (.iadd, 1) := by decide +kernel
theorem dL_law_232 : decode cL_law 232 = .ok (.iaload, 1) := by decide +kernel
theorem dL_law_233 : decode cL_law 233 = .ok (.invokevirtual 34, 3) := by decide +kernel
theorem dL_law_236 : decode cL_law 236 = .ok (.if_icmp .eq 588, 3) := by decide +kernel
theorem dL_law_239 : decode cL_law 239 = .ok (.iconst 0, 1) := by decide +kernel
theorem dL_law_240 : decode cL_law 240 = .ok (.ireturn, 1) := by decide +kernel
theorem dL_law_241 : decode cL_law 241 = .ok (.aload_n 1, 1) := by decide +kernel
theorem dL_law_242 : decode cL_law 242 = .ok (.aload_n 0, 1) := by decide +kernel
theorem dL_law_243 : decode cL_law 243 = .ok (.iload_n 3, 1) := by decide +kernel
theorem dL_law_244 : decode cL_law 244 = .ok (.iconst 1, 1) := by decide +kernel
theorem dL_law_245 : decode cL_law 245 = .ok (.iadd, 1) := by decide +kernel
theorem dL_law_246 : decode cL_law 246 = .ok (.iaload, 1) := by decide +kernel
theorem dL_law_247 : decode cL_law 247 = .ok (.aload_n 0, 1) := by decide +kernel
theorem dL_law_248 : decode cL_law 248 = .ok (.iload_n 3, 1) := by decide +kernel
theorem dL_law_249 : decode cL_law 249 = .ok (.iconst 2, 1) := by decide +kernel
theorem dL_law_250 : decode cL_law 250 = .ok (.iadd, 1) := by decide +kernel
theorem dL_law_251 : decode cL_law 251 = .ok (.iaload, 1) := by decide +kernel
theorem dL_law_252 : decode cL_law 252 = .ok (.invokevirtual 35, 3) := by decide +kernel
theorem dL_law_255 : decode cL_law 255 = .ok (.aload_n 2, 1) := by decide +kernel
theorem dL_law_256 : decode cL_law 256 = .ok (.aload_n 0, 1) := by decide +kernel
theorem dL_law_257 : decode cL_law 257 = .ok (.iload_n 3, 1) := by decide +kernel
theorem dL_law_258 : decode cL_law 258 = .ok (.iconst 1, 1) := by decide +kernel
theorem dL_law_259 : decode cL_law 259 = .ok (.iadd, 1) := by decide +kernel
theorem dL_law_260 : decode cL_law 260 = .ok (.iaload, 1) := by decide +kernel
theorem dL_law_261 : decode cL_law 261 = .ok (.aload_n 0, 1) := by decide +kernel
theorem dL_law_262 : decode cL_law 262 = .ok (.iload_n 3, 1) := by decide +kernel
theorem dL_law_263 : decode cL_law 263 = .ok (.iconst 2, 1) := by decide +kernel
theorem dL_law_264 : decode cL_law 264 = .ok (.iadd, 1) := by decide +kernel
theorem dL_law_265 : decode cL_law 265 = .ok (.iaload, 1) := by decide +kernel
theorem dL_law_266 : decode cL_law 266 = .ok (.invokevirtual 39, 3) := by decide +kernel
theorem dL_law_269 : decode cL_law 269 = .ok (.if_icmp .eq 555, 3) := by decide +kernel
theorem dL_law_272 : decode cL_law 272 = .ok (.iconst 0, 1) := by decide +kernel
theorem dL_law_273 : decode cL_law 273 = .ok (.ireturn, 1) := by decide +kernel
theorem dL_law_274 : decode cL_law 274 = .ok (.aload_n 1, 1) := by decide +kernel
theorem dL_law_275 : decode cL_law 275 = .ok (.aload_n 0, 1) := by decide +kernel
theorem dL_law_276 : decode cL_law 276 = .ok (.iload_n 3, 1) := by decide +kernel
theorem dL_law_277 : decode cL_law 277 = .ok (.iconst 1, 1) := by decide +kernel
theorem dL_law_278 : decode cL_law 278 = .ok (.iadd, 1) := by decide +kernel
theorem dL_law_279 : decode cL_law 279 = .ok (.iaload, 1) := by decide +kernel
theorem dL_law_280 : decode cL_law 280 = .ok (.aload_n 0, 1) := by decide +kernel
theorem dL_law_281 : decode cL_law 281 = .ok (.iload_n 3, 1) := by decide +kernel
theorem dL_law_282 : decode cL_law 282 = .ok (.iconst 2, 1) := by decide +kernel
theorem dL_law_283 : decode cL_law 283 = .ok (.iadd, 1) := by decide +kernel
theorem dL_law_284 : decode cL_law 284 = .ok (.iaload, 1) := by decide +kernel
theorem dL_law_285 : decode cL_law 285 = .ok (.invokevirtual 40, 3) := by decide +kernel
theorem dL_law_288 : decode cL_law 288 = .ok (.aload_n 2, 1) := by decide +kernel
theorem dL_law_289 : decode cL_law 289 = .ok (.aload_n 0, 1) := by decide +kernel
theorem dL_law_290 : decode cL_law 290 = .ok (.iload_n 3, 1) := by decide +kernel
theorem dL_law_291 : decode cL_law 291 = .ok (.iconst 1, 1) := by decide +kernel
theorem dL_law_292 : decode cL_law 292 = .ok (.iadd, 1) := by decide +kernel
theorem dL_law_293 : decode cL_law 293 = .ok (.iaload, 1) := by decide +kernel
theorem dL_law_294 : decode cL_law 294 = .ok (.aload_n 0, 1) := by decide +kernel
theorem dL_law_295 : decode cL_law 295 = .ok (.iload_n 3, 1) := by decide +kernel
theorem dL_law_296 : decode cL_law 296 = .ok (.iconst 2, 1) := by decide +kernel
theorem dL_law_297 : decode cL_law 297 = .ok (.iadd, 1) := by decide +kernel
theorem dL_law_298 : decode cL_law 298 = .ok (.iaload, 1) := by decide +kernel
theorem dL_law_299 : decode cL_law 299 = .ok (.invokevirtual 43, 3) := by decide +kernel
theorem dL_law_302 : decode cL_law 302 = .ok (.if_icmp .eq 522, 3) := by decide +kernel
theorem dL_law_305 : decode cL_law 305 = .ok (.iconst 0, 1) := by decide +kernel
theorem dL_law_306 : decode cL_law 306 = .ok (.ireturn, 1) := by decide +kernel
theorem dL_law_307 : decode cL_law 307 = .ok (.aload_n 1, 1) := by decide +kernel
theorem dL_law_308 : decode cL_law 308 = .ok (.aload_n 0, 1) := by decide +kernel
theorem dL_law_309 : decode cL_law 309 = .ok (.iload_n 3, 1) := by decide +kernel
theorem dL_law_310 : decode cL_law 310 = .ok (.iconst 1, 1) := by decide +kernel
theorem dL_law_311 : decode cL_law 311 = .ok (.iadd, 1) := by decide +kernel
theorem dL_law_312 : decode cL_law 312 = .ok (.iaload, 1) := by decide +kernel
theorem dL_law_313 : decode cL_law 313 = .ok (.aload_n 0, 1) := by decide +kernel
theorem dL_law_314 : decode cL_law 314 = .ok (.iload_n 3, 1) := by decide +kernel
theorem dL_law_315 : decode cL_law 315 = .ok (.iconst 2, 1) := by decide +kernel
theorem dL_law_316 : decode cL_law 316 = .ok (.iadd, 1) := by decide +kernel
theorem dL_law_317 : decode cL_law 317 = .ok (.iaload, 1) := by decide +kernel
theorem dL_law_318 : decode cL_law 318 = .ok (.invokevirtual 44, 3) := by decide +kernel
theorem dL_law_321 : decode cL_law 321 = .ok (.aload_n 2, 1) := by decide +kernel
theorem dL_law_322 : decode cL_law 322 = .ok (.aload_n 0, 1) := by decide +kernel
theorem dL_law_323 : decode cL_law 323 = .ok (.iload_n 3, 1) := by decide +kernel
theorem dL_law_324 : decode cL_law 324 = .ok (.iconst 1, 1) := by decide +kernel
theorem dL_law_325 : decode cL_law 325 = .ok (.iadd, 1) := by decide +kernel
theorem dL_law_326 : decode cL_law 326 = .ok (.iaload, 1) := by decide +kernel
theorem dL_law_327 : decode cL_law 327 = .ok (.aload_n 0, 1) := by decide +kernel
theorem dL_law_328 : decode cL_law 328 = .ok (.iload_n 3, 1) := by decide +kernel
theorem dL_law_329 : decode cL_law 329 = .ok (.iconst 2, 1) := by decide +kernel
theorem dL_law_330 : decode cL_law 330 = .ok (.iadd, 1) := by decide +kernel
theorem dL_law_331 : decode cL_law 331 = .ok (.iaload, 1) := by decide +kernel
theorem dL_law_332 : decode cL_law 332 = .ok (.invokevirtual 47, 3) := by decide +kernel
theorem dL_law_335 : decode cL_law 335 = .ok (.if_icmp .eq 489, 3) := by decide +kernel
theorem dL_law_338 : decode cL_law 338 = .ok (.iconst 0, 1) := by decide +kernel
theorem dL_law_339 : decode cL_law 339 = .ok (.ireturn, 1) := by decide +kernel
theorem dL_law_340 : decode cL_law 340 = .ok (.aload_n 1, 1) := by decide +kernel
theorem dL_law_341 : decode cL_law 341 = .ok (.aload_n 0, 1) := by decide +kernel
theorem dL_law_342 : decode cL_law 342 = .ok (.iload_n 3, 1) := by decide +kernel
theorem dL_law_343 : decode cL_law 343 = .ok (.iconst 1, 1) := by decide +kernel
theorem dL_law_344 : decode cL_law 344 = .ok (.iadd, 1) := by decide +kernel
theorem dL_law_345 : decode cL_law 345 = .ok (.iaload, 1) := by decide +kernel
theorem dL_law_346 : decode cL_law 346 = .ok (.aload_n 0, 1) := by decide +kernel
theorem dL_law_347 : decode cL_law 347 = .ok (.iload_n 3, 1) := by decide +kernel
theorem dL_law_348 : decode cL_law 348 = .ok (.iconst 2, 1) := by decide +kernel
theorem dL_law_349 : decode cL_law 349 = .ok (.iadd, 1) := by decide +kernel
theorem dL_law_350 : decode cL_law 350 = .ok (.iaload, 1) := by decide +kernel
theorem dL_law_351 : decode cL_law 351 = .ok (.invokevirtual 48, 3) := by decide +kernel
theorem dL_law_354 : decode cL_law 354 = .ok (.aload_n 2, 1) := by decide +kernel
theorem dL_law_355 : decode cL_law 355 = .ok (.aload_n 0, 1) := by decide +kernel
theorem dL_law_356 : decode cL_law 356 = .ok (.iload_n 3, 1) := by decide +kernel
theorem dL_law_357 : decode cL_law 357 = .ok (.iconst 1, 1) := by decide +kernel
theorem dL_law_358 : decode cL_law 358 = .ok (.iadd, 1) := by decide +kernel
theorem dL_law_359 : decode cL_law 359 = .ok (.iaload, 1) := by decide +kernel
theorem dL_law_360 : decode cL_law 360 = .ok (.aload_n 0, 1) := by decide +kernel
theorem dL_law_361 : decode cL_law 361 = .ok (.iload_n 3, 1) := by decide +kernel
theorem dL_law_362 : decode cL_law 362 = .ok (.iconst 2, 1) := by decide +kernel
theorem dL_law_363 : decode cL_law 363 = .ok (.iadd, 1) := by decide +kernel
theorem dL_law_364 : decode cL_law 364 = .ok (.iaload, 1) := by decide +kernel
theorem dL_law_365 : decode cL_law 365 = .ok (.invokevirtual 51, 3) := by decide +kernel
theorem dL_law_368 : decode cL_law 368 = .ok (.if_icmp .eq 456, 3) := by decide +kernel
theorem dL_law_371 : decode cL_law 371 = .ok (.iconst 0, 1) := by decide +kernel
theorem dL_law_372 : decode cL_law 372 = .ok (.ireturn, 1) := by decide +kernel
theorem dL_law_373 : decode cL_law 373 = .ok (.aload_n 1, 1) := by decide +kernel
theorem dL_law_374 : decode cL_law 374 = .ok (.aload_n 0, 1) := by decide +kernel
theorem dL_law_375 : decode cL_law 375 = .ok (.iload_n 3, 1) := by decide +kernel
theorem dL_law_376 : decode cL_law 376 = .ok (.iconst 1, 1) := by decide +kernel
theorem dL_law_377 : decode cL_law 377 = .ok (.iadd, 1) := by decide +kernel
theorem dL_law_378 : decode cL_law 378 = .ok (.iaload, 1) := by decide +kernel
theorem dL_law_379 : decode cL_law 379 = .ok (.aload_n 0, 1) := by decide +kernel
theorem dL_law_380 : decode cL_law 380 = .ok (.iload_n 3, 1) := by decide +kernel
theorem dL_law_381 : decode cL_law 381 = .ok (.iconst 2, 1) := by decide +kernel
theorem dL_law_382 : decode cL_law 382 = .ok (.iadd, 1) := by decide +kernel
theorem dL_law_383 : decode cL_law 383 = .ok (.iaload, 1) := by decide +kernel
theorem dL_law_384 : decode cL_law 384 = .ok (.invokevirtual 52, 3) := by decide +kernel
theorem dL_law_387 : decode cL_law 387 = .ok (.aload_n 2, 1) := by decide +kernel
theorem dL_law_388 : decode cL_law 388 = .ok (.aload_n 0, 1) := by decide +kernel
theorem dL_law_389 : decode cL_law 389 = .ok (.iload_n 3, 1) := by decide +kernel
theorem dL_law_390 : decode cL_law 390 = .ok (.iconst 1, 1) := by decide +kernel
theorem dL_law_391 : decode cL_law 391 = .ok (.iadd, 1) := by decide +kernel
theorem dL_law_392 : decode cL_law 392 = .ok (.iaload, 1) := by decide +kernel
theorem dL_law_393 : decode cL_law 393 = .ok (.aload_n 0, 1) := by decide +kernel
theorem dL_law_394 : decode cL_law 394 = .ok (.iload_n 3, 1) := by decide +kernel
theorem dL_law_395 : decode cL_law 395 = .ok (.iconst 2, 1) := by decide +kernel
theorem dL_law_396 : decode cL_law 396 = .ok (.iadd, 1) := by decide +kernel
theorem dL_law_397 : decode cL_law 397 = .ok (.iaload, 1) := by decide +kernel
theorem dL_law_398 : decode cL_law 398 = .ok (.invokevirtual 55, 3) := by decide +kernel
theorem dL_law_401 : decode cL_law 401 = .ok (.if_icmp .eq 423, 3) := by decide +kernel
theorem dL_law_404 : decode cL_law 404 = .ok (.iconst 0, 1) := by decide +kernel
theorem dL_law_405 : decode cL_law 405 = .ok (.ireturn, 1) := by decide +kernel
theorem dL_law_406 : decode cL_law 406 = .ok (.aload_n 1, 1) := by decide +kernel
theorem dL_law_407 : decode cL_law 407 = .ok (.aload_n 0, 1) := by decide +kernel
theorem dL_law_408 : decode cL_law 408 = .ok (.iload_n 3, 1) := by decide +kernel
theorem dL_law_409 : decode cL_law 409 = .ok (.iconst 1, 1) := by decide +kernel
theorem dL_law_410 : decode cL_law 410 = .ok (.iadd, 1) := by decide +kernel
theorem dL_law_411 : decode cL_law 411 = .ok (.iaload, 1) := by decide +kernel
theorem dL_law_412 : decode cL_law 412 = .ok (.aload_n 0, 1) := by decide +kernel
theorem dL_law_413 : decode cL_law 413 = .ok (.iload_n 3, 1) := by decide +kernel
theorem dL_law_414 : decode cL_law 414 = .ok (.iconst 2, 1) := by decide +kernel
theorem dL_law_415 : decode cL_law 415 = .ok (.iadd, 1) := by decide +kernel
theorem dL_law_416 : decode cL_law 416 = .ok (.iaload, 1) := by decide +kernel
theorem dL_law_417 : decode cL_law 417 = .ok (.invokevirtual 56, 3) := by decide +kernel
theorem dL_law_420 : decode cL_law 420 = .ok (.aload_n 2, 1) := by decide +kernel
theorem dL_law_421 : decode cL_law 421 = .ok (.aload_n 0, 1) := by decide +kernel
theorem dL_law_422 : decode cL_law 422 = .ok (.iload_n 3, 1) := by decide +kernel
theorem dL_law_423 : decode cL_law 423 = .ok (.iconst 1, 1) := by decide +kernel
theorem dL_law_424 : decode cL_law 424 = .ok (.iadd, 1) := by decide +kernel
theorem dL_law_425 : decode cL_law 425 = .ok (.iaload, 1) := by decide +kernel
theorem dL_law_426 : decode cL_law 426 = .ok (.aload_n 0, 1) := by decide +kernel
theorem dL_law_427 : decode cL_law 427 = .ok (.iload_n 3, 1) := by decide +kernel
theorem dL_law_428 : decode cL_law 428 = .ok (.iconst 2, 1) := by decide +kernel
theorem dL_law_429 : decode cL_law 429 = .ok (.iadd, 1) := by decide +kernel
theorem dL_law_430 : decode cL_law 430 = .ok (.iaload, 1) := by decide +kernel
theorem dL_law_431 : decode cL_law 431 = .ok (.invokevirtual 59, 3) := by decide +kernel
theorem dL_law_434 : decode cL_law 434 = .ok (.if_icmp .eq 390, 3) := by decide +kernel
theorem dL_law_437 : decode cL_law 437 = .ok (.iconst 0, 1) := by decide +kernel
theorem dL_law_438 : decode cL_law 438 = .ok (.ireturn, 1) := by decide +kernel
theorem dL_law_439 : decode cL_law 439 = .ok (.aload_n 1, 1) := by decide +kernel
theorem dL_law_440 : decode cL_law 440 = .ok (.aload_n 0, 1) := by decide +kernel
theorem dL_law_441 : decode cL_law 441 = .ok (.iload_n 3, 1) := by decide +kernel
theorem dL_law_442 : decode cL_law 442 = .ok (.iconst 1, 1) := by decide +kernel
theorem dL_law_443 : decode cL_law 443 = .ok (.iadd, 1) := by decide +kernel
theorem dL_law_444 : decode cL_law 444 = .ok (.iaload, 1) := by decide +kernel
theorem dL_law_445 : decode cL_law 445 = .ok (.aload_n 0, 1) := by decide +kernel
theorem dL_law_446 : decode cL_law 446 = .ok (.iload_n 3, 1) := by decide +kernel
theorem dL_law_447 : decode cL_law 447 = .ok (.iconst 2, 1) := by decide +kernel
theorem dL_law_448 : decode cL_law 448 = .ok (.iadd, 1) := by decide +kernel
theorem dL_law_449 : decode cL_law 449 = .ok (.iaload, 1) := by decide +kernel
theorem dL_law_450 : decode cL_law 450 = .ok (.invokevirtual 60, 3) := by decide +kernel
theorem dL_law_453 : decode cL_law 453 = .ok (.aload_n 2, 1) := by decide +kernel
theorem dL_law_454 : decode cL_law 454 = .ok (.aload_n 0, 1) := by decide +kernel
theorem dL_law_455 : decode cL_law 455 = .ok (.iload_n 3, 1) := by decide +kernel
theorem dL_law_456 : decode cL_law 456 = .ok (.iconst 1, 1) := by decide +kernel
theorem dL_law_457 : decode cL_law 457 = .ok (.iadd, 1) := by decide +kernel
theorem dL_law_458 : decode cL_law 458 = .ok (.iaload, 1) := by decide +kernel
theorem dL_law_459 : decode cL_law 459 = .ok (.aload_n 0, 1) := by decide +kernel
theorem dL_law_460 : decode cL_law 460 = .ok (.iload_n 3, 1) := by decide +kernel
theorem dL_law_461 : decode cL_law 461 = .ok (.iconst 2, 1) := by decide +kernel
theorem dL_law_462 : decode cL_law 462 = .ok (.iadd, 1) := by decide +kernel
theorem dL_law_463 : decode cL_law 463 = .ok (.iaload, 1) := by decide +kernel
theorem dL_law_464 : decode cL_law 464 = .ok (.invokevirtual 63, 3) := by decide +kernel
theorem dL_law_467 : decode cL_law 467 = .ok (.if_icmp .eq 357, 3) := by decide +kernel
theorem dL_law_470 : decode cL_law 470 = .ok (.iconst 0, 1) := by decide +kernel
theorem dL_law_471 : decode cL_law 471 = .ok (.ireturn, 1) := by decide +kernel
theorem dL_law_472 : decode cL_law 472 = .ok (.aload_n 1, 1) := by decide +kernel
theorem dL_law_473 : decode cL_law 473 = .ok (.invokevirtual 64, 3) := by decide +kernel
theorem dL_law_476 : decode cL_law 476 = .ok (.aload_n 2, 1) := by decide +kernel
theorem dL_law_477 : decode cL_law 477 = .ok (.invokevirtual 67, 3) := by decide +kernel
theorem dL_law_480 : decode cL_law 480 = .ok (.if_icmp .eq 344, 3) := by decide +kernel
theorem dL_law_483 : decode cL_law 483 = .ok (.iconst 0, 1) := by decide +kernel
theorem dL_law_484 : decode cL_law 484 = .ok (.ireturn, 1) := by decide +kernel
theorem dL_law_485 : decode cL_law 485 = .ok (.aload_n 1, 1) := by decide +kernel
theorem dL_law_486 : decode cL_law 486 = .ok (.invokevirtual 68, 3) := by decide +kernel
theorem dL_law_489 : decode cL_law 489 = .ok (.aload_n 2, 1) := by decide +kernel
theorem dL_law_490 : decode cL_law 490 = .ok (.invokevirtual 71, 3) := by decide +kernel
theorem dL_law_493 : decode cL_law 493 = .ok (.if_icmp .eq 331, 3) := by decide +kernel
theorem dL_law_496 : decode cL_law 496 = .ok (.iconst 0, 1) := by decide +kernel
theorem dL_law_497 : decode cL_law 497 = .ok (.ireturn, 1) := by decide +kernel
theorem dL_law_498 : decode cL_law 498 = .ok (.aload_n 1, 1) := by decide +kernel
theorem dL_law_499 : decode cL_law 499 = .ok (.invokevirtual 72, 3) := by decide +kernel
theorem dL_law_502 : decode cL_law 502 = .ok (.aload_n 2, 1) := by decide +kernel
theorem dL_law_503 : decode cL_law 503 = .ok (.invokevirtual 75, 3) := by decide +kernel
theorem dL_law_506 : decode cL_law 506 = .ok (.if_icmp .eq 318, 3) := by decide +kernel
theorem dL_law_509 : decode cL_law 509 = .ok (.iconst 0, 1) := by decide +kernel
theorem dL_law_510 : decode cL_law 510 = .ok (.ireturn, 1) := by decide +kernel
theorem dL_law_511 : decode cL_law 511 = .ok (.aload_n 1, 1) := by decide +kernel
theorem dL_law_512 : decode cL_law 512 = .ok (.aload_n 0, 1) := by decide +kernel
theorem dL_law_513 : decode cL_law 513 = .ok (.iload_n 3, 1) := by decide +kernel
theorem dL_law_514 : decode cL_law 514 = .ok (.iconst 1, 1) := by decide +kernel
theorem dL_law_515 : decode cL_law 515 = .ok (.iadd, 1) := by decide +kernel
theorem dL_law_516 : decode cL_law 516 = .ok (.iaload, 1) := by decide +kernel
theorem dL_law_517 : decode cL_law 517 = .ok (.invokevirtual 76, 3) := by decide +kernel
theorem dL_law_520 : decode cL_law 520 = .ok (.aload_n 2, 1) := by decide +kernel
theorem dL_law_521 : decode cL_law 521 = .ok (.aload_n 0, 1) := by decide +kernel
theorem dL_law_522 : decode cL_law 522 = .ok (.iload_n 3, 1) := by decide +kernel
theorem dL_law_523 : decode cL_law 523 = .ok (.iconst 1, 1) := by decide +kernel
theorem dL_law_524 : decode cL_law 524 = .ok (.iadd, 1) := by decide +kernel
theorem dL_law_525 : decode cL_law 525 = .ok (.iaload, 1) := by decide +kernel
theorem dL_law_526 : decode cL_law 526 = .ok (.invokevirtual 79, 3) := by decide +kernel
theorem dL_law_529 : decode cL_law 529 = .ok (.if_icmp .eq 295, 3) := by decide +kernel
theorem dL_law_532 : decode cL_law 532 = .ok (.iconst 0, 1) := by decide +kernel
theorem dL_law_533 : decode cL_law 533 = .ok (.ireturn, 1) := by decide +kernel
theorem dL_law_534 : decode cL_law 534 = .ok (.aload_n 1, 1) := by decide +kernel
theorem dL_law_535 : decode cL_law 535 = .ok (.aload_n 0, 1) := by decide +kernel
theorem dL_law_536 : decode cL_law 536 = .ok (.iload_n 3, 1) := by decide +kernel
theorem dL_law_537 : decode cL_law 537 = .ok (.iconst 1, 1) := by decide +kernel
theorem dL_law_538 : decode cL_law 538 = .ok (.iadd, 1) := by decide +kernel
theorem dL_law_539 : decode cL_law 539 = .ok (.iaload, 1) := by decide +kernel
theorem dL_law_540 : decode cL_law 540 = .ok (.aload_n 0, 1) := by decide +kernel
theorem dL_law_541 : decode cL_law 541 = .ok (.iload_n 3, 1) := by decide +kernel
theorem dL_law_542 : decode cL_law 542 = .ok (.iconst 2, 1) := by decide +kernel
theorem dL_law_543 : decode cL_law 543 = .ok (.iadd, 1) := by decide +kernel
theorem dL_law_544 : decode cL_law 544 = .ok (.iaload, 1) := by decide +kernel
theorem dL_law_545 : decode cL_law 545 = .ok (.invokevirtual 80, 3) := by decide +kernel
theorem dL_law_548 : decode cL_law 548 = .ok (.aload_n 2, 1) := by decide +kernel
theorem dL_law_549 : decode cL_law 549 = .ok (.aload_n 0, 1) := by decide +kernel
theorem dL_law_550 : decode cL_law 550 = .ok (.iload_n 3, 1) := by decide +kernel
theorem dL_law_551 : decode cL_law 551 = .ok (.iconst 1, 1) := by decide +kernel
theorem dL_law_552 : decode cL_law 552 = .ok (.iadd, 1) := by decide +kernel
theorem dL_law_553 : decode cL_law 553 = .ok (.iaload, 1) := by decide +kernel
theorem dL_law_554 : decode cL_law 554 = .ok (.aload_n 0, 1) := by decide +kernel
theorem dL_law_555 : decode cL_law 555 = .ok (.iload_n 3, 1) := by decide +kernel
theorem dL_law_556 : decode cL_law 556 = .ok (.iconst 2, 1) := by decide +kernel
theorem dL_law_557 : decode cL_law 557 = .ok (.iadd, 1) := by decide +kernel
theorem dL_law_558 : decode cL_law 558 = .ok (.iaload, 1) := by decide +kernel
theorem dL_law_559 : decode cL_law 559 = .ok (.invokevirtual 83, 3) := by decide +kernel
theorem dL_law_562 : decode cL_law 562 = .ok (.if_icmp .eq 262, 3) := by decide +kernel
theorem dL_law_565 : decode cL_law 565 = .ok (.iconst 0, 1) := by decide +kernel
theorem dL_law_566 : decode cL_law 566 = .ok (.ireturn, 1) := by decide +kernel
theorem dL_law_567 : decode cL_law 567 = .ok (.aload_n 1, 1) := by decide +kernel
theorem dL_law_568 : decode cL_law 568 = .ok (.aload_n 0, 1) := by decide +kernel
theorem dL_law_569 : decode cL_law 569 = .ok (.iload_n 3, 1) := by decide +kernel
theorem dL_law_570 : decode cL_law 570 = .ok (.iconst 1, 1) := by decide +kernel
theorem dL_law_571 : decode cL_law 571 = .ok (.iadd, 1) := by decide +kernel
theorem dL_law_572 : decode cL_law 572 = .ok (.iaload, 1) := by decide +kernel
theorem dL_law_573 : decode cL_law 573 = .ok (.aload_n 0, 1) := by decide +kernel
theorem dL_law_574 : decode cL_law 574 = .ok (.iload_n 3, 1) := by decide +kernel
theorem dL_law_575 : decode cL_law 575 = .ok (.iconst 2, 1) := by decide +kernel
theorem dL_law_576 : decode cL_law 576 = .ok (.iadd, 1) := by decide +kernel
theorem dL_law_577 : decode cL_law 577 = .ok (.iaload, 1) := by decide +kernel
theorem dL_law_578 : decode cL_law 578 = .ok (.aload_n 0, 1) := by decide +kernel
theorem dL_law_579 : decode cL_law 579 = .ok (.iload_n 3, 1) := by decide +kernel
theorem dL_law_580 : decode cL_law 580 = .ok (.iconst 3, 1) := by decide +kernel
theorem dL_law_581 : decode cL_law 581 = .ok (.iadd, 1) := by decide +kernel
theorem dL_law_582 : decode cL_law 582 = .ok (.iaload, 1) := by decide +kernel
theorem dL_law_583 : decode cL_law 583 = .ok (.aload_n 0, 1) := by decide +kernel
theorem dL_law_584 : decode cL_law 584 = .ok (.iload_n 3, 1) := by decide +kernel
theorem dL_law_585 : decode cL_law 585 = .ok (.iconst 4, 1) := by decide +kernel
theorem dL_law_586 : decode cL_law 586 = .ok (.iadd, 1) := by decide +kernel
theorem dL_law_587 : decode cL_law 587 = .ok (.iaload, 1) := by decide +kernel
theorem dL_law_588 : decode cL_law 588 = .ok (.invokevirtual 84, 3) := by decide +kernel
theorem dL_law_591 : decode cL_law 591 = .ok (.aload_n 2, 1) := by decide +kernel
theorem dL_law_592 : decode cL_law 592 = .ok (.aload_n 0, 1) := by decide +kernel
theorem dL_law_593 : decode cL_law 593 = .ok (.iload_n 3, 1) := by decide +kernel
theorem dL_law_594 : decode cL_law 594 = .ok (.iconst 1, 1) := by decide +kernel
theorem dL_law_595 : decode cL_law 595 = .ok (.iadd, 1) := by decide +kernel
theorem dL_law_596 : decode cL_law 596 = .ok (.iaload, 1) := by decide +kernel
theorem dL_law_597 : decode cL_law 597 = .ok (.aload_n 0, 1) := by decide +kernel
theorem dL_law_598 : decode cL_law 598 = .ok (.iload_n 3, 1) := by decide +kernel
theorem dL_law_599 : decode cL_law 599 = .ok (.iconst 2, 1) := by decide +kernel
theorem dL_law_600 : decode cL_law 600 = .ok (.iadd, 1) := by decide +kernel
theorem dL_law_601 : decode cL_law 601 = .ok (.iaload, 1) := by decide +kernel
theorem dL_law_602 : decode cL_law 602 = .ok (.aload_n 0, 1) := by decide +kernel
theorem dL_law_603 : decode cL_law 603 = .ok (.iload_n 3, 1) := by decide +kernel
theorem dL_law_604 : decode cL_law 604 = .ok (.iconst 3, 1) := by decide +kernel
theorem dL_law_605 : decode cL_law 605 = .ok (.iadd, 1) := by decide +kernel
theorem dL_law_606 : decode cL_law 606 = .ok (.iaload, 1) := by decide +kernel
theorem dL_law_607 : decode cL_law 607 = .ok (.aload_n 0, 1) := by decide +kernel
theorem dL_law_608 : decode cL_law 608 = .ok (.iload_n 3, 1) := by decide +kernel
theorem dL_law_609 : decode cL_law 609 = .ok (.iconst 4, 1) := by decide +kernel
theorem dL_law_610 : decode cL_law 610 = .ok (.iadd, 1) := by decide +kernel
theorem dL_law_611 : decode cL_law 611 = .ok (.iaload, 1) := by decide +kernel
theorem dL_law_612 : decode cL_law 612 = .ok (.invokevirtual 88, 3) := by decide +kernel
theorem dL_law_615 : decode cL_law 615 = .ok (.if_icmp .eq 209, 3) := by decide +kernel
theorem dL_law_618 : decode cL_law 618 = .ok (.iconst 0, 1) := by decide +kernel
theorem dL_law_619 : decode cL_law 619 = .ok (.ireturn, 1) := by decide +kernel
theorem dL_law_620 : decode cL_law 620 = .ok (.aload_n 1, 1) := by decide +kernel
theorem dL_law_621 : decode cL_law 621 = .ok (.aload_n 0, 1) := by decide +kernel
theorem dL_law_622 : decode cL_law 622 = .ok (.iload_n 3, 1) := by decide +kernel
theorem dL_law_623 : decode cL_law 623 = .ok (.iconst 1, 1) := by decide +kernel
theorem dL_law_624 : decode cL_law 624 = .ok (.iadd, 1) := by decide +kernel
theorem dL_law_625 : decode cL_law 625 = .ok (.iaload, 1) := by decide +kernel
theorem dL_law_626 : decode cL_law 626 = .ok (.aload_n 0, 1) := by decide +kernel
theorem dL_law_627 : decode cL_law 627 = .ok (.iload_n 3, 1) := by decide +kernel
theorem dL_law_628 : decode cL_law 628 = .ok (.iconst 2, 1) := by decide +kernel
theorem dL_law_629 : decode cL_law 629 = .ok (.iadd, 1) := by decide +kernel
theorem dL_law_630 : decode cL_law 630 = .ok (.iaload, 1) := by decide +kernel
theorem dL_law_631 : decode cL_law 631 = .ok (.ifCond .eq 7, 3) := by decide +kernel
theorem dL_law_634 : decode cL_law 634 = .ok (.iconst 1, 1) := by decide +kernel
theorem dL_law_635 : decode cL_law 635 = .ok (.goto 4, 3) := by decide +kernel
theorem dL_law_638 : decode cL_law 638 = .ok (.iconst 0, 1) := by decide +kernel
theorem dL_law_639 : decode cL_law 639 = .ok (.invokevirtual 89, 3) := by decide +kernel
theorem dL_law_642 : decode cL_law 642 = .ok (.aload_n 2, 1) := by decide +kernel
theorem dL_law_643 : decode cL_law 643 = .ok (.aload_n 0, 1) := by decide +kernel
theorem dL_law_644 : decode cL_law 644 = .ok (.iload_n 3, 1) := by decide +kernel
theorem dL_law_645 : decode cL_law 645 = .ok (.iconst 1, 1) := by decide +kernel
theorem dL_law_646 : decode cL_law 646 = .ok (.iadd, 1) := by decide +kernel
theorem dL_law_647 : decode cL_law 647 = .ok (.iaload, 1) := by decide +kernel
theorem dL_law_648 : decode cL_law 648 = .ok (.aload_n 0, 1) := by decide +kernel
theorem dL_law_649 : decode cL_law 649 = .ok (.iload_n 3, 1) := by decide +kernel
theorem dL_law_650 : decode cL_law 650 = .ok (.iconst 2, 1) := by decide +kernel
theorem dL_law_651 : decode cL_law 651 = .ok (.iadd, 1) := by decide +kernel
theorem dL_law_652 : decode cL_law 652 = .ok (.iaload, 1) := by decide +kernel
theorem dL_law_653 : decode cL_law 653 = .ok (.ifCond .eq 7, 3) := by decide +kernel
theorem dL_law_656 : decode cL_law 656 = .ok (.iconst 1, 1) := by decide +kernel
theorem dL_law_657 : decode cL_law 657 = .ok (.goto 4, 3) := by decide +kernel
theorem dL_law_660 : decode cL_law 660 = .ok (.iconst 0, 1) := by decide +kernel
theorem dL_law_661 : decode cL_law 661 = .ok (.invokevirtual 93, 3) := by decide +kernel
theorem dL_law_664 : decode cL_law 664 = .ok (.if_icmp .eq 160, 3) := by decide +kernel
theorem dL_law_667 : decode cL_law 667 = .ok (.iconst 0, 1) := by decide +kernel
theorem dL_law_668 : decode cL_law 668 = .ok (.ireturn, 1) := by decide +kernel
theorem dL_law_669 : decode cL_law 669 = .ok (.aload_n 1, 1) := by decide +kernel
theorem dL_law_670 : decode cL_law 670 = .ok (.invokevirtual 94, 3) := by decide +kernel
theorem dL_law_673 : decode cL_law 673 = .ok (.aload_n 2, 1) := by decide +kernel
theorem dL_law_674 : decode cL_law 674 = .ok (.invokevirtual 97, 3) := by decide +kernel
theorem dL_law_677 : decode cL_law 677 = .ok (.if_icmp .eq 147, 3) := by decide +kernel
theorem dL_law_680 : decode cL_law 680 = .ok (.iconst 0, 1) := by decide +kernel
theorem dL_law_681 : decode cL_law 681 = .ok (.ireturn, 1) := by decide +kernel
theorem dL_law_682 : decode cL_law 682 = .ok (.aload_n 1, 1) := by decide +kernel
theorem dL_law_683 : decode cL_law 683 = .ok (.aload_n 0, 1) := by decide +kernel
theorem dL_law_684 : decode cL_law 684 = .ok (.iload_n 3, 1) := by decide +kernel
theorem dL_law_685 : decode cL_law 685 = .ok (.iconst 1, 1) := by decide +kernel
theorem dL_law_686 : decode cL_law 686 = .ok (.iadd, 1) := by decide +kernel
theorem dL_law_687 : decode cL_law 687 = .ok (.iaload, 1) := by decide +kernel
theorem dL_law_688 : decode cL_law 688 = .ok (.invokevirtual 98, 3) := by decide +kernel
theorem dL_law_691 : decode cL_law 691 = .ok (.aload_n 2, 1) := by decide +kernel
theorem dL_law_692 : decode cL_law 692 = .ok (.aload_n 0, 1) := by decide +kernel
theorem dL_law_693 : decode cL_law 693 = .ok (.iload_n 3, 1) := by decide +kernel
theorem dL_law_694 : decode cL_law 694 = .ok (.iconst 1, 1) := by decide +kernel
theorem dL_law_695 : decode cL_law 695 = .ok (.iadd, 1) := by decide +kernel
theorem dL_law_696 : decode cL_law 696 = .ok (.iaload, 1) := by decide +kernel
theorem dL_law_697 : decode cL_law 697 = .ok (.invokevirtual 101, 3) := by decide +kernel
theorem dL_law_700 : decode cL_law 700 = .ok (.if_icmp .eq 124, 3) := by decide +kernel
theorem dL_law_703 : decode cL_law 703 = .ok (.iconst 0, 1) := by decide +kernel
theorem dL_law_704 : decode cL_law 704 = .ok (.ireturn, 1) := by decide +kernel
theorem dL_law_705 : decode cL_law 705 = .ok (.aload_n 1, 1) := by decide +kernel
theorem dL_law_706 : decode cL_law 706 = .ok (.invokevirtual 102, 3) := by decide +kernel
theorem dL_law_709 : decode cL_law 709 = .ok (.aload_n 2, 1) := by decide +kernel
theorem dL_law_710 : decode cL_law 710 = .ok (.invokevirtual 105, 3) := by decide +kernel
theorem dL_law_713 : decode cL_law 713 = .ok (.if_icmp .eq 111, 3) := by decide +kernel
theorem dL_law_716 : decode cL_law 716 = .ok (.iconst 0, 1) := by decide +kernel
theorem dL_law_717 : decode cL_law 717 = .ok (.ireturn, 1) := by decide +kernel
theorem dL_law_718 : decode cL_law 718 = .ok (.aload_n 1, 1) := by decide +kernel
theorem dL_law_719 : decode cL_law 719 = .ok (.aload_n 0, 1) := by decide +kernel
theorem dL_law_720 : decode cL_law 720 = .ok (.iload_n 3, 1) := by decide +kernel
theorem dL_law_721 : decode cL_law 721 = .ok (.iconst 1, 1) := by decide +kernel
theorem dL_law_722 : decode cL_law 722 = .ok (.iadd, 1) := by decide +kernel
theorem dL_law_723 : decode cL_law 723 = .ok (.iaload, 1) := by decide +kernel
theorem dL_law_724 : decode cL_law 724 = .ok (.aload_n 0, 1) := by decide +kernel
theorem dL_law_725 : decode cL_law 725 = .ok (.iload_n 3, 1) := by decide +kernel
theorem dL_law_726 : decode cL_law 726 = .ok (.iconst 2, 1) := by decide +kernel
theorem dL_law_727 : decode cL_law 727 = .ok (.iadd, 1) := by decide +kernel
theorem dL_law_728 : decode cL_law 728 = .ok (.iaload, 1) := by decide +kernel
theorem dL_law_729 : decode cL_law 729 = .ok (.aload_n 0, 1) := by decide +kernel
theorem dL_law_730 : decode cL_law 730 = .ok (.iload_n 3, 1) := by decide +kernel
theorem dL_law_731 : decode cL_law 731 = .ok (.iconst 3, 1) := by decide +kernel
theorem dL_law_732 : decode cL_law 732 = .ok (.iadd, 1) := by decide +kernel
theorem dL_law_733 : decode cL_law 733 = .ok (.iaload, 1) := by decide +kernel
theorem dL_law_734 : decode cL_law 734 = .ok (.invokevirtual 106, 3) := by decide +kernel
theorem dL_law_737 : decode cL_law 737 = .ok (.aload_n 2, 1) := by decide +kernel
theorem dL_law_738 : decode cL_law 738 = .ok (.aload_n 0, 1) := by decide +kernel
theorem dL_law_739 : decode cL_law 739 = .ok (.iload_n 3, 1) := by decide +kernel
theorem dL_law_740 : decode cL_law 740 = .ok (.iconst 1, 1) := by decide +kernel
theorem dL_law_741 : decode cL_law 741 = .ok (.iadd, 1) := by decide +kernel
theorem dL_law_742 : decode cL_law 742 = .ok (.iaload, 1) := by decide +kernel
theorem dL_law_743 : decode cL_law 743 = .ok (.aload_n 0, 1) := by decide +kernel
theorem dL_law_744 : decode cL_law 744 = .ok (.iload_n 3, 1) := by decide +kernel
theorem dL_law_745 : decode cL_law 745 = .ok (.iconst 2, 1) := by decide +kernel
theorem dL_law_746 : decode cL_law 746 = .ok (.iadd, 1) := by decide +kernel
theorem dL_law_747 : decode cL_law 747 = .ok (.iaload, 1) := by decide +kernel
theorem dL_law_748 : decode cL_law 748 = .ok (.aload_n 0, 1) := by decide +kernel
theorem dL_law_749 : decode cL_law 749 = .ok (.iload_n 3, 1) := by decide +kernel
theorem dL_law_750 : decode cL_law 750 = .ok (.iconst 3, 1) := by decide +kernel
theorem dL_law_751 : decode cL_law 751 = .ok (.iadd, 1) := by decide +kernel
theorem dL_law_752 : decode cL_law 752 = .ok (.iaload, 1) := by decide +kernel
theorem dL_law_753 : decode cL_law 753 = .ok (.invokevirtual 110, 3) := by decide +kernel
theorem dL_law_756 : decode cL_law 756 = .ok (.if_icmp .eq 68, 3) := by decide +kernel
theorem dL_law_759 : decode cL_law 759 = .ok (.iconst 0, 1) := by decide +kernel
theorem dL_law_760 : decode cL_law 760 = .ok (.ireturn, 1) := by decide +kernel
theorem dL_law_761 : decode cL_law 761 = .ok (.aload_n 1, 1) := by decide +kernel
theorem dL_law_762 : decode cL_law 762 = .ok (.invokevirtual 111, 3) := by decide +kernel
theorem dL_law_765 : decode cL_law 765 = .ok (.aload_n 2, 1) := by decide +kernel
theorem dL_law_766 : decode cL_law 766 = .ok (.invokevirtual 114, 3) := by decide +kernel
theorem dL_law_769 : decode cL_law 769 = .ok (.if_icmp .eq 55, 3) := by decide +kernel
theorem dL_law_772 : decode cL_law 772 = .ok (.iconst 0, 1) := by decide +kernel
theorem dL_law_773 : decode cL_law 773 = .ok (.ireturn, 1) := by decide +kernel
theorem dL_law_774 : decode cL_law 774 = .ok (.aload_n 1, 1) := by decide +kernel
theorem dL_law_775 : decode cL_law 775 = .ok (.invokevirtual 115, 3) := by decide +kernel
theorem dL_law_778 : decode cL_law 778 = .ok (.aload_n 2, 1) := by decide +kernel
theorem dL_law_779 : decode cL_law 779 = .ok (.invokevirtual 118, 3) := by decide +kernel
theorem dL_law_782 : decode cL_law 782 = .ok (.if_icmp .eq 42, 3) := by decide +kernel
theorem dL_law_785 : decode cL_law 785 = .ok (.iconst 0, 1) := by decide +kernel
theorem dL_law_786 : decode cL_law 786 = .ok (.ireturn, 1) := by decide +kernel
theorem dL_law_787 : decode cL_law 787 = .ok (.aload_n 1, 1) := by decide +kernel
theorem dL_law_788 : decode cL_law 788 = .ok (.aload_n 0, 1) := by decide +kernel
theorem dL_law_789 : decode cL_law 789 = .ok (.iload_n 3, 1) := by decide +kernel
theorem dL_law_790 : decode cL_law 790 = .ok (.iconst 1, 1) := by decide +kernel
theorem dL_law_791 : decode cL_law 791 = .ok (.iadd, 1) := by decide +kernel
theorem dL_law_792 : decode cL_law 792 = .ok (.iaload, 1) := by decide +kernel
theorem dL_law_793 : decode cL_law 793 = .ok (.invokevirtual 119, 3) := by decide +kernel
theorem dL_law_796 : decode cL_law 796 = .ok (.aload_n 2, 1) := by decide +kernel
theorem dL_law_797 : decode cL_law 797 = .ok (.aload_n 0, 1) := by decide +kernel
theorem dL_law_798 : decode cL_law 798 = .ok (.iload_n 3, 1) := by decide +kernel
theorem dL_law_799 : decode cL_law 799 = .ok (.iconst 1, 1) := by decide +kernel
theorem dL_law_800 : decode cL_law 800 = .ok (.iadd, 1) := by decide +kernel
theorem dL_law_801 : decode cL_law 801 = .ok (.iaload, 1) := by decide +kernel
theorem dL_law_802 : decode cL_law 802 = .ok (.invokevirtual 122, 3) := by decide +kernel
theorem dL_law_805 : decode cL_law 805 = .ok (.if_icmp .eq 19, 3) := by decide +kernel
theorem dL_law_808 : decode cL_law 808 = .ok (.iconst 0, 1) := by decide +kernel
theorem dL_law_809 : decode cL_law 809 = .ok (.ireturn, 1) := by decide +kernel
theorem dL_law_810 : decode cL_law 810 = .ok (.aload_n 1, 1) := by decide +kernel
theorem dL_law_811 : decode cL_law 811 = .ok (.invokevirtual 123, 3) := by decide +kernel
theorem dL_law_814 : decode cL_law 814 = .ok (.aload_n 2, 1) := by decide +kernel
theorem dL_law_815 : decode cL_law 815 = .ok (.invokevirtual 127, 3) := by decide +kernel
theorem dL_law_818 : decode cL_law 818 = .ok (.lcmp, 1) := by decide +kernel
theorem dL_law_819 : decode cL_law 819 = .ok (.ifCond .eq 5, 3) := by decide +kernel
theorem dL_law_822 : decode cL_law 822 = .ok (.iconst 0, 1) := by decide +kernel
theorem dL_law_823 : decode cL_law 823 = .ok (.ireturn, 1) := by decide +kernel
theorem dL_law_824 : decode cL_law 824 = .ok (.iinc 3 5, 3) := by decide +kernel
theorem dL_law_827 : decode cL_law 827 = .ok (.goto (-809), 3) := by decide +kernel
theorem dL_law_830 : decode cL_law 830 = .ok (.iconst 1, 1) := by decide +kernel
theorem dL_law_831 : decode cL_law 831 = .ok (.ireturn, 1) := by decide +kernel
end
section
abbrev WS : Type := Nat → Nat → Int32
abbrev MS : Type := (Nat → Nat → Int32) × Int64
def NF : Nat := 1000
def ups (X : WS) (c k : Nat) (v : Int32) : WS := fun c' => if c' = c then upd (X c) k v else X c'
def upw (X : WS) (c : Nat) (f : Nat → Int32) : WS := fun c' => if c' = c then f else X c'
def stp {α β : Type} (v : α) (k : α → β) : β := k v
theorem stp_use {α β : Type} {v y : α} {k : α → β} {o : β} (h : stp v k = o) (e : y = v) : k y = o := by subst e; exact h
def ixc {α : Type} (i : Int32) (n : Nat) (t : Option α) : Option α := if i < 0 ∨ n ≤ i.toNatClampNeg then none else t
theorem ixc_use {α : Type} {i : Int32} {n : Nat} {t : Option α} {o : α} (h : ixc i n t = some o) : vp_in i n ∧ t = some o := by
  unfold ixc at h
  by_cases c : i < 0 ∨ n ≤ i.toNatClampNeg
  · rw [if_pos c] at h; cases h
  · rw [if_neg c] at h; exact ⟨c, h⟩
def dvc {α : Type} (y : Int32) (t : Option α) : Option α := if y = 0 then none else t
theorem dvc_use {α : Type} {y : Int32} {t : Option α} {o : α} (h : dvc y t = some o) : ¬ y = 0 ∧ t = some o := by
  unfold dvc at h
  by_cases c : y = 0
  · rw [if_pos c] at h; cases h
  · rw [if_neg c] at h; exact ⟨c, h⟩
def zck {α : Type} (v : Int32) (t : Option α) : Option α := if v = 0 ∨ v = 1 then t else none
theorem zck_use {α : Type} {v : Int32} {t : Option α} {o : α} (h : zck v t = some o) : (v = 0 ∨ v = 1) ∧ t = some o := by
  unfold zck at h
  by_cases c : v = 0 ∨ v = 1
  · rw [if_pos c] at h; exact ⟨c, h⟩
  · rw [if_neg c] at h; cases h
def bnd2 {α β γ : Type} (o : Option (α × β)) (k : α → β → Option γ) : Option γ := o.bind (fun q => k q.1 q.2)
theorem bnd2_use {α β γ : Type} {o : Option (α × β)} {k : α → β → Option γ} {r : γ} (h : bnd2 o k = some r) : ∃ x y, o = some (x, y) ∧ k x y = some r := by
  obtain ⟨⟨x, y⟩, h1, h2⟩ := Option.bind_eq_some_iff.mp h
  exact ⟨x, y, h1, h2⟩
theorem ite_t {α : Type} {c : Prop} {h : Decidable c} {t e o : α} (hw : (@ite α c h t e) = o) (hc : c) : t = o := by rw [if_pos hc] at hw; exact hw
theorem ite_f {α : Type} {c : Prop} {h : Decidable c} {t e o : α} (hw : (@ite α c h t e) = o) (hc : ¬ c) : e = o := by rw [if_neg hc] at hw; exact hw
theorem nz {v : Int32} (h : v = 0 ∨ v = 1) : narrow .boolean (.int v) = .int v := by rcases h with rfl | rfl <;> rfl
theorem i32_ne {x k : Int32} {z : Int} (h : ¬ x = k) (hz : k.toInt = z) : x.toInt ≠ z := fun e => h (Int32.toInt_inj.mp (e.trans hz.symm))
def f_X1_add (X : WS) (p1 : Int32) : Option (Int32 × WS) := (if (X 1 1) < 12 then ixc (X 1 1) 12 (stp (ups X 2 (Int32.toNatClampNeg (X 1 1)) p1) (fun X3 => stp ((X3 1 1) + 1) (fun x4 => stp (ups X3 1 1 x4) (fun X5 => some ((X5 1 1), X5))))) else some ((-104), X))
def f_X3_letter (X : WS) (p1 : Int32) : Option (Int32 × WS) := (if p1 < 1 then some ((-102), X) else (if p1 ≤ 126 then bnd2 (f_X1_add X p1) (fun r3 X4 => some (r3, X4)) else some ((-102), X)))
def f_X4_in (p0 : Int64) (p2 : Int64) (p4 : Int64) : Option Int32 := (if (lg_cmp p0 p2) < 0 then some 0 else (if 0 < (lg_cmp p0 p4) then some 0 else some 1))
def f_X4_letter (X : MS) (p1 : Int32) : Option (Int32 × MS) := (f_X4_in (Int32.toInt64 p1) 1 126).bind (fun r1 => (if r1 = 0 then some ((-102), X) else (if (X.1 0 1) = 12 then some ((-104), X) else ixc (X.1 0 1) 12 (stp (ups X.1 1 (Int32.toNatClampNeg (X.1 0 1)) p1, X.2) (fun X5 => stp ((X5.1 0 1) + 1) (fun x6 => stp (ups X5.1 0 1 x6, X5.2) (fun X7 => some ((X7.1 0 1), X7))))))))
def f_X1_clear (X : WS)  : Option (Int32 × WS) := stp (X 1 1) (fun x1 => stp (ups X 1 1 0) (fun X2 => some (x1, X2)))
def f_X3_blank (X : WS)  : Option (Int32 × WS) := bnd2 (f_X1_clear X) (fun r1 X2 => some (r1, X2))
def f_X4_blank (X : MS)  : Option (Int32 × MS) := stp (X.1 0 1) (fun x1 => stp (ups X.1 0 1 0, X.2) (fun X2 => some (x1, X2)))
def f_X1_fits (p0 : Int32) (p1 : Int32) : Option Int32 := (if 6 ≤ p0 then (if p0 = 6 then (if p1 = 59 then some 1 else some 0) else (if p0 = 7 then (if p1 < 49 then some 0 else (if 57 < p1 then some 0 else some 1)) else (if p0 = 8 then (if p1 < 49 then some 0 else (if 53 < p1 then some 0 else some 1)) else some 0))) else (if p1 < 48 then some 0 else (if 57 < p1 then some 0 else some 1)))
def g_X1_firstWrong_2 (X : WS) : Nat → Int32 → Option Int32
  | 0, _ => none
  | n + 1, v1 => (if (X 1 1) ≤ v1 then some v1 else ixc v1 12 ((f_X1_fits v1 (X 2 (Int32.toNatClampNeg v1))).bind (fun r3 => (if r3 = 0 then some v1 else stp (v1 + 1) (fun x5 => g_X1_firstWrong_2 X n x5)))))
def f_X1_firstWrong (X : WS)  : Option Int32 := g_X1_firstWrong_2 X NF 0
def f_X3_fault (X : WS)  : Option Int32 := (f_X1_firstWrong X).bind (fun r1 => some r1)
def f_X4_isGood (p0 : Int32) (p1 : Int32) : Option Int32 := stp (p1 - 48) (fun x1 => (if p0 = 6 then (if p1 = 59 then some 1 else some 0) else (if 6 ≤ p0 then (if p0 = 7 then (f_X4_in (Int32.toInt64 x1) 1 9).bind (fun r8 => zck r8 (some r8)) else (if p0 = 8 then (f_X4_in (Int32.toInt64 x1) 1 5).bind (fun r6 => (if r6 = 0 then some 0 else some 1)) else some 0)) else (f_X4_in (Int32.toInt64 x1) 0 9).bind (fun r9 => zck r9 (some r9)))))
def g_X4_faultOf_2 (X : MS) : Nat → Int32 → Option Int32
  | 0, _ => none
  | n + 1, v1 => (if (X.1 0 1) ≤ v1 then some v1 else ixc v1 12 ((f_X4_isGood v1 (X.1 1 (Int32.toNatClampNeg v1))).bind (fun r3 => (if r3 = 0 then some v1 else stp (v1 + 1) (fun x5 => g_X4_faultOf_2 X n x5)))))
def f_X4_faultOf (X : MS)  : Option Int32 := g_X4_faultOf_2 X NF 0
def f_X4_fault (X : MS)  : Option Int32 := (f_X4_faultOf X).bind (fun r1 => some r1)
def f_X1_isTown (X : WS)  : Option Int32 := (if (X 1 1) = 9 then (f_X1_firstWrong X).bind (fun r2 => (if r2 = 9 then some 1 else some 0)) else some 0)
def f_X1_digit (X : WS) (p1 : Int32) : Option Int32 := (if p1 < 0 then some 0 else (if 12 ≤ p1 then some 0 else ixc p1 12 (some ((X 2 (Int32.toNatClampNeg p1)) - 48))))
def f_X2_dropTold (X : WS)  : Option (Int32 × WS) := stp (X 3 14) (fun x1 => stp (ups X 3 14 0) (fun X2 => stp (ups X2 3 15 0) (fun X3 => stp (ups X3 3 16 0) (fun X4 => some (x1, X4)))))
def g_X2_begin_2 : Nat → WS → Int32 → Option WS
  | 0, _, _ => none
  | n + 1, X, v2 => (if 6 ≤ v2 then (f_X1_digit X 7).bind (fun r2 => stp (ups X 3 8 r2) (fun X3 => stp (X3 3 8) (fun x4 => stp (ups X3 3 9 x4) (fun X5 => (f_X1_digit X5 8).bind (fun r6 => stp (ups X5 3 10 r6) (fun X7 => stp (ups X7 3 5 0) (fun X8 => stp (ups X8 3 6 0) (fun X9 => stp (ups X9 3 7 0) (fun X10 => stp (ups X10 3 11 0) (fun X11 => stp (ups X11 3 12 1) (fun X12 => stp (ups X12 3 13 1) (fun X13 => bnd2 (f_X2_dropTold X13) (fun r14 X15 => some X15))))))))))))) else (f_X1_digit X v2).bind (fun r16 => ixc v2 6 (stp (ups X 4 (Int32.toNatClampNeg v2) r16) (fun X18 => stp (v2 + 1) (fun x19 => g_X2_begin_2 n X18 x19)))))
def f_X2_begin (X : WS)  : Option WS := g_X2_begin_2 NF X 0
def g_X2_noiseInAll_4 (X : WS) : Nat → Int32 → Int32 → Option Int32
  | 0, _, _ => none
  | n + 1, v1, v2 => (if 6 ≤ v2 then some v1 else ixc v2 6 (stp (v1 + (X 4 (Int32.toNatClampNeg v2))) (fun x3 => stp (v2 + 1) (fun x4 => g_X2_noiseInAll_4 X n x3 x4))))
def f_X2_noiseInAll (X : WS)  : Option Int32 := g_X2_noiseInAll_4 X NF 0 0
def f_X3_town (X : WS)  : Option (Int32 × WS) := (f_X1_isTown X).bind (fun r1 => (if r1 = 0 then some ((-103), X) else (f_X2_begin X).bind (fun X3 => bnd2 (f_X1_clear X3) (fun r4 X5 => stp (ups X5 0 4 0) (fun X6 => stp ((X6 0 5) + 1) (fun x7 => stp (ups X6 0 5 x7) (fun X8 => (f_X2_noiseInAll X8).bind (fun r9 => some (r9, X8)))))))))
def g_X4_town_25 : Nat → MS → Int32 → Int32 → Option (Int32 × MS)
  | 0, _, _, _ => none
  | n + 1, X, v1, v2 => (if 6 ≤ v2 then stp ((X.1 1 (Int32.toNatClampNeg 7)) - 48) (fun x5 => stp (ups X.1 0 2 x5, X.2) (fun X6 => stp (X6.1 0 2) (fun x7 => stp (ups X6.1 0 3 x7, X6.2) (fun X8 => stp ((X8.1 1 (Int32.toNatClampNeg 8)) - 48) (fun x9 => stp (ups X8.1 0 4 x9, X8.2) (fun X10 => stp (ups X10.1 0 5 0, X10.2) (fun X11 => stp (ups X11.1 0 6 0, X11.2) (fun X12 => stp (ups X12.1 0 7 1, X12.2) (fun X13 => stp (ups X13.1 0 8 1, X13.2) (fun X14 => stp (ups X14.1 0 11 0, X14.2) (fun X15 => stp (ups X15.1 0 14 0, X15.2) (fun X16 => stp ((X16.1 0 9) + 1) (fun x17 => stp (ups X16.1 0 9 x17, X16.2) (fun X18 => stp (ups X18.1 0 1 0, X18.2) (fun X19 => some (v1, X19)))))))))))))))) else ixc v2 12 (stp ((X.1 1 (Int32.toNatClampNeg v2)) - 48) (fun x22 => ixc v2 6 (stp (ups X.1 2 (Int32.toNatClampNeg v2) x22, X.2) (fun X23 => ixc v2 6 (stp (v1 + (X23.1 2 (Int32.toNatClampNeg v2))) (fun x25 => stp (v2 + 1) (fun x26 => g_X4_town_25 n X23 x25 x26))))))))
def f_X4_town (X : MS)  : Option (Int32 × MS) := (if (X.1 0 1) = 9 then (f_X4_faultOf X).bind (fun r2 => (if 9 ≤ r2 then g_X4_town_25 NF X 0 0 else some ((-103), X))) else some ((-103), X))
def f_X3_hasTown (X : WS)  : Option Int32 := (if (X 0 5) ≤ 0 then some 0 else some 1)
def f_X3_isPlace (X : WS) (p1 : Int32) : Option Int32 := (f_X3_hasTown X).bind (fun r1 => (if r1 = 0 then some 0 else (if p1 < 0 then some 0 else (if 6 ≤ p1 then some 0 else some 1))))
def f_X3_noise (X : WS) (p1 : Int32) : Option Int32 := (f_X3_isPlace X p1).bind (fun r1 => (if r1 = 0 then some (-101) else ixc p1 6 (some (X 4 (Int32.toNatClampNeg p1)))))
def f_X4_lacks (X : MS)  : Option Int32 := (if (X.1 0 4) = 0 then some 1 else some 0)
def f_X4_isPlace (X : MS) (p1 : Int32) : Option Int32 := (f_X4_lacks X).bind (fun r1 => (if r1 = 0 then (f_X4_in (Int32.toInt64 p1) 0 5).bind (fun r3 => (if r3 = 0 then some 0 else some 1)) else some 0))
def f_X4_noise (X : MS) (p1 : Int32) : Option Int32 := (f_X4_isPlace X p1).bind (fun r1 => (if r1 = 0 then some (-101) else ixc p1 6 (some (X.1 2 (Int32.toNatClampNeg p1)))))
def f_X3_hum (X : WS) (p1 : Int32) (p2 : Int32) : Option (Int32 × WS) := (f_X3_isPlace X p1).bind (fun r1 => (if r1 = 0 then some ((-101), X) else (if p2 < 0 then some ((-102), X) else (if p2 ≤ 9 then ixc p1 6 (stp (X 4 (Int32.toNatClampNeg p1)) (fun x6 => ixc p1 6 (stp (ups X 4 (Int32.toNatClampNeg p1) p2) (fun X8 => some (x6, X8))))) else some ((-102), X)))))
def f_X4_hum (X : MS) (p1 : Int32) (p2 : Int32) : Option (Int32 × MS) := (f_X4_isPlace X p1).bind (fun r1 => (if r1 = 0 then some ((-101), X) else (f_X4_in (Int32.toInt64 p2) 0 9).bind (fun r3 => (if r3 = 0 then some ((-102), X) else ixc p1 6 (stp (X.1 2 (Int32.toNatClampNeg p1)) (fun x6 => ixc p1 6 (stp (ups X.1 2 (Int32.toNatClampNeg p1) p2, X.2) (fun X8 => some (x6, X8)))))))))
def f_X3_isKind (p0 : Int32) : Option Int32 := (if p0 < 0 then some 0 else (if 4 < p0 then some 0 else some 1))
def f_X2_loudNeeded (p0 : Int32) : Option Int32 := (if p0 = 1 then some 5 else (if p0 = 2 then some 3 else some 1))
def f_X2_loudRepeated (p0 : Int32) : Option Int32 := (if p0 = 3 then some 4 else (if p0 = 4 then some 7 else some 0))
def f_X2_settle (X : WS) (p1 : Int32) (p2 : Int32) : Option (Int32 × WS) := stp (X 3 5) (fun x1 => (if x1 < 6 then ixc x1 6 (stp (ups X 5 (Int32.toNatClampNeg x1) p1) (fun X4 => (f_X2_loudNeeded p1).bind (fun r5 => ixc x1 6 (stp (ups X4 6 (Int32.toNatClampNeg x1) r5) (fun X7 => (f_X2_loudRepeated p1).bind (fun r8 => ixc x1 6 (stp (ups X7 7 (Int32.toNatClampNeg x1) r8) (fun X10 => ixc x1 6 (stp (ups X10 8 (Int32.toNatClampNeg x1) p2) (fun X12 => (if p1 = 2 then stp ((X12 3 6) ||| (1 <<< (x1 &&& 31))) (fun x16 => stp (ups X12 3 6 x16) (fun X17 => stp ((X17 3 5) + 1) (fun x18 => stp (ups X17 3 5 x18) (fun X19 => some (x1, X19))))) else stp ((X12 3 5) + 1) (fun x14 => stp (ups X12 3 5 x14) (fun X15 => some (x1, X15)))))))))))))) else some ((-104), X)))
def f_X3_listener (X : WS) (p1 : Int32) (p2 : Int32) : Option (Int32 × WS) := (f_X3_isKind p1).bind (fun r1 => (if r1 = 0 then some ((-102), X) else (f_X3_isPlace X p2).bind (fun r3 => (if r3 = 0 then some ((-101), X) else bnd2 (f_X2_settle X p1 p2) (fun r5 X6 => some (r5, X6))))))
def f_X4_listener (X : MS) (p1 : Int32) (p2 : Int32) : Option (Int32 × MS) := (f_X4_in (Int32.toInt64 p1) 0 4).bind (fun r1 => (if r1 = 0 then some ((-102), X) else (f_X4_isPlace X p2).bind (fun r3 => (if r3 = 0 then some ((-101), X) else (if (X.1 0 11) = 6 then some ((-104), X) else ixc (2 * (X.1 0 11)) 12 (stp (ups X.1 3 (Int32.toNatClampNeg (2 * (X.1 0 11))) p1, X.2) (fun X7 => ixc ((2 * (X7.1 0 11)) + 1) 12 (stp (ups X7.1 3 (Int32.toNatClampNeg ((2 * (X7.1 0 11)) + 1)) p2, X7.2) (fun X9 => stp ((X9.1 0 11) + 1) (fun x10 => stp (ups X9.1 0 11 x10, X9.2) (fun X11 => some (((X11.1 0 11) - 1), X11))))))))))))
def f_X3_isListener (X : WS) (p1 : Int32) : Option Int32 := (if p1 < 0 then some 0 else (if (X 3 5) ≤ p1 then some 0 else some 1))
def f_X2_knowing (X : WS) (p1 : Int32) : Option Int32 := some (p1 &&& ((X 3 6) ^^^ (-1)))
def f_X3_bit (p0 : Int32) (p1 : Int32) : Option Int32 := some ((p0 >>> (p1 &&& 31)) &&& 1)
def f_X3_about (X : WS) (p1 : Int32) (p2 : Int32) : Option Int32 := (f_X3_isListener X p1).bind (fun r1 => (if r1 = 0 then some (-101) else (if p2 = 0 then ixc p1 6 (some (X 5 (Int32.toNatClampNeg p1))) else (if p2 = 1 then ixc p1 6 (some (X 8 (Int32.toNatClampNeg p1))) else (if p2 = 2 then (f_X2_knowing X (X 3 7)).bind (fun r8 => (f_X3_bit r8 p1).bind (fun r9 => some r9)) else (if p2 = 3 then (f_X3_bit (X 3 7) p1).bind (fun r11 => some r11) else (if p2 = 4 then ixc p1 6 (some (X 6 (Int32.toNatClampNeg p1))) else (if p2 = 5 then ixc p1 6 (some (X 7 (Int32.toNatClampNeg p1))) else some (-102)))))))))
def f_X4_isListener (X : MS) (p1 : Int32) : Option Int32 := (f_X4_in (Int32.toInt64 p1) 0 (Int32.toInt64 ((X.1 0 11) - 1))).bind (fun r1 => zck r1 (some r1))
def g_X4_knowing_4 (X : MS) (v1 : Int32) : Nat → Int32 → Int32 → Option Int32
  | 0, _, _ => none
  | n + 1, v2, v3 => (if (X.1 0 11) ≤ v3 then some v2 else ixc (2 * v3) 12 ((if (X.1 3 (Int32.toNatClampNeg (2 * v3))) = 2 then stp (v2 ||| 0) (fun x6 => stp (v3 + 1) (fun x7 => g_X4_knowing_4 X v1 n x6 x7)) else stp (v2 ||| (v1 &&& (1 <<< (v3 &&& 31)))) (fun x4 => stp (v3 + 1) (fun x5 => g_X4_knowing_4 X v1 n x4 x5)))))
def f_X4_knowing (X : MS) (p1 : Int32) : Option Int32 := g_X4_knowing_4 X p1 NF 0 0
def f_X4_needsOf (X : MS) (p1 : Int32) : Option Int32 := ixc (2 * p1) 12 ((if (X.1 3 (Int32.toNatClampNeg (2 * p1))) = 1 then some 5 else ixc (2 * p1) 12 ((if (X.1 3 (Int32.toNatClampNeg (2 * p1))) = 2 then some 3 else some 1))))
def f_X4_criesOf (X : MS) (p1 : Int32) : Option Int32 := ixc (2 * p1) 12 ((if (X.1 3 (Int32.toNatClampNeg (2 * p1))) = 3 then some 4 else ixc (2 * p1) 12 ((if (X.1 3 (Int32.toNatClampNeg (2 * p1))) = 4 then some 7 else some 0))))
def f_X4_listenerOf (X : MS) (p1 : Int32) (p2 : Int32) : Option Int32 := (if p2 = 0 then ixc ((2 * p1) + p2) 12 (some (X.1 3 (Int32.toNatClampNeg ((2 * p1) + p2)))) else (if p2 = 1 then ixc ((2 * p1) + p2) 12 (some (X.1 3 (Int32.toNatClampNeg ((2 * p1) + p2)))) else (if p2 = 2 then (f_X4_knowing X (X.1 0 6)).bind (fun r6 => some ((r6 >>> (p1 &&& 31)) &&& 1)) else (if p2 = 3 then some (((X.1 0 6) >>> (p1 &&& 31)) &&& 1) else (if p2 = 4 then (f_X4_needsOf X p1).bind (fun r9 => some r9) else (if p2 = 5 then (f_X4_criesOf X p1).bind (fun r11 => some r11) else some (-102)))))))
def f_X4_about (X : MS) (p1 : Int32) (p2 : Int32) : Option Int32 := (f_X4_isListener X p1).bind (fun r1 => (if r1 = 0 then some (-101) else (f_X4_listenerOf X p1 p2).bind (fun r3 => some r3)))
def f_X3_isOfKind (p0 : Int32) (p1 : Int32) : Option Int32 := (if p1 = 0 then some 1 else (if p0 = p1 then some 1 else (if p0 = 4 then (if p1 = 3 then some 1 else some 0) else some 0)))
def f_X3_as (X : WS) (p1 : Int32) (p2 : Int32) : Option Int32 := (f_X3_isListener X p1).bind (fun r1 => (if r1 = 0 then some (-101) else (f_X3_isKind p2).bind (fun r3 => (if r3 = 0 then some (-102) else ixc p1 6 ((f_X3_isOfKind (X 5 (Int32.toNatClampNeg p1)) p2).bind (fun r6 => (if r6 = 0 then some (-1) else some p1)))))))
def f_X4_as (X : MS) (p1 : Int32) (p2 : Int32) : Option Int32 := (f_X4_isListener X p1).bind (fun r1 => (if r1 = 0 then some (-101) else (f_X4_in (Int32.toInt64 p2) 0 4).bind (fun r3 => (if r3 = 0 then some (-102) else ixc (2 * p1) 12 (stp (X.1 3 (Int32.toNatClampNeg (2 * p1))) (fun x6 => (if p2 = 0 then some p1 else (if p2 = x6 then some p1 else (if p2 = 3 then (if x6 = 4 then some p1 else some (-1)) else some (-1))))))))))
def f_X3_move (X : WS) (p1 : Int32) (p2 : Int32) : Option (Int32 × WS) := (f_X3_isListener X p1).bind (fun r1 => (if r1 = 0 then some ((-101), X) else (f_X3_isPlace X p2).bind (fun r3 => (if r3 = 0 then some ((-101), X) else ixc p1 6 (stp (X 8 (Int32.toNatClampNeg p1)) (fun x6 => ixc p1 6 (stp (ups X 8 (Int32.toNatClampNeg p1) p2) (fun X8 => some (x6, X8)))))))))
def f_X4_move (X : MS) (p1 : Int32) (p2 : Int32) : Option (Int32 × MS) := (f_X4_isListener X p1).bind (fun r1 => (if r1 = 0 then some ((-101), X) else (f_X4_isPlace X p2).bind (fun r3 => (if r3 = 0 then some ((-101), X) else ixc ((2 * p1) + 1) 12 (stp (X.1 3 (Int32.toNatClampNeg ((2 * p1) + 1))) (fun x6 => ixc ((2 * p1) + 1) 12 (stp (ups X.1 3 (Int32.toNatClampNeg ((2 * p1) + 1)) p2, X.2) (fun X8 => some (x6, X8)))))))))
def f_X3_isLoud (p0 : Int32) : Option Int32 := (if p0 < 1 then some 0 else (if 9 < p0 then some 0 else some 1))
def g_X2_hearing_5 (X : WS) (v1 : Int32) (v2 : Int32) : Nat → Int32 → Int32 → Option Int32
  | 0, _, _ => none
  | n + 1, v3, v4 => (if (X 3 5) ≤ v4 then some v3 else ixc v4 6 (stp (X 8 (Int32.toNatClampNeg v4)) (fun x3 => (if v1 ≤ x3 then stp (x3 - v1) (fun x5 => ixc x3 6 (ixc v4 6 ((if ((v2 - (2 * x5)) - (X 4 (Int32.toNatClampNeg x3))) < (X 6 (Int32.toNatClampNeg v4)) then stp (v4 + 1) (fun x9 => g_X2_hearing_5 X v1 v2 n v3 x9) else stp (v3 ||| (1 <<< (v4 &&& 31))) (fun x10 => stp (v4 + 1) (fun x11 => g_X2_hearing_5 X v1 v2 n x10 x11)))))) else stp (v1 - x3) (fun x12 => ixc x3 6 (ixc v4 6 ((if ((v2 - (2 * x12)) - (X 4 (Int32.toNatClampNeg x3))) < (X 6 (Int32.toNatClampNeg v4)) then stp (v4 + 1) (fun x16 => g_X2_hearing_5 X v1 v2 n v3 x16) else stp (v3 ||| (1 <<< (v4 &&& 31))) (fun x17 => stp (v4 + 1) (fun x18 => g_X2_hearing_5 X v1 v2 n x17 x18))))))))))
def f_X2_hearing (X : WS) (p1 : Int32) (p2 : Int32) : Option Int32 := g_X2_hearing_5 X p1 p2 NF 0 0
def g_X2_repeatedBy_4 (X : WS) (v1 : Int32) : Nat → Int32 → Int32 → Option Int32
  | 0, _, _ => none
  | n + 1, v2, v3 => (if (X 3 5) ≤ v3 then some v2 else (if ((v1 >>> (v3 &&& 31)) &&& 1) = 1 then ixc v3 6 ((if (X 7 (Int32.toNatClampNeg v3)) ≤ 0 then stp (v3 + 1) (fun x6 => g_X2_repeatedBy_4 X v1 n v2 x6) else ixc v3 6 (ixc v3 6 ((f_X2_hearing X (X 8 (Int32.toNatClampNeg v3)) (X 7 (Int32.toNatClampNeg v3))).bind (fun r9 => stp (v2 ||| r9) (fun x10 => stp (v3 + 1) (fun x11 => g_X2_repeatedBy_4 X v1 n x10 x11))))))) else stp (v3 + 1) (fun x3 => g_X2_repeatedBy_4 X v1 n v2 x3)))
def f_X2_repeatedBy (X : WS) (p1 : Int32) : Option Int32 := g_X2_repeatedBy_4 X p1 NF 0 0
def g_X2_spread_26 (X : WS) (v4 : Int32) : Nat → Int32 → Int32 → Int32 → Option Int32
  | 0, _, _, _ => none
  | n + 1, v5, v6, v7 => (if (X 3 5) ≤ v7 then some v5 else (if v6 = 0 then some v5 else (f_X2_repeatedBy X v6).bind (fun r6 => stp (r6 &&& (v4 ^^^ (-1))) (fun x7 => stp (x7 &&& (v5 ^^^ (-1))) (fun x8 => stp (v5 ||| x7) (fun x9 => stp (v7 + 1) (fun x10 => g_X2_spread_26 X v4 n x9 x8 x10)))))))
def f_X2_spread (X : WS) (p1 : Int32) (p2 : Int32) (p3 : Int32) (p4 : Int32) : Option Int32 := (f_X2_hearing X p2 p3).bind (fun r1 => stp (p1 ||| (r1 &&& (p4 ^^^ (-1)))) (fun x2 => stp (x2 &&& (p1 ^^^ (-1))) (fun x3 => g_X2_spread_26 X p4 NF x2 x3 0)))
def f_J6_bitCount_0f7a4 (p0 : Int32) : Option Int32 := stp (p0 - ((UInt32.toInt32 (Int32.toUInt32 p0 >>> (Int32.toUInt32 1 &&& Int32.toUInt32 31))) &&& 1431655765)) (fun x1 => stp ((x1 &&& 858993459) + ((UInt32.toInt32 (Int32.toUInt32 x1 >>> (Int32.toUInt32 2 &&& Int32.toUInt32 31))) &&& 858993459)) (fun x2 => stp ((x2 + (UInt32.toInt32 (Int32.toUInt32 x2 >>> (Int32.toUInt32 4 &&& Int32.toUInt32 31)))) &&& 252645135) (fun x3 => stp (x3 + (UInt32.toInt32 (Int32.toUInt32 x3 >>> (Int32.toUInt32 8 &&& Int32.toUInt32 31)))) (fun x4 => stp (x4 + (UInt32.toInt32 (Int32.toUInt32 x4 >>> (Int32.toUInt32 16 &&& Int32.toUInt32 31)))) (fun x5 => some (x5 &&& 63))))))
def f_X2_proclaim (X : WS) (p1 : Int32) (p2 : Int32) : Option (Int32 × WS) := (f_X2_spread X (X 3 7) p1 p2 0).bind (fun r1 => (f_X2_knowing X (r1 &&& ((X 3 7) ^^^ (-1)))).bind (fun r2 => stp (ups X 3 7 r1) (fun X3 => stp ((X3 3 9) - 1) (fun x4 => stp (ups X3 3 9 x4) (fun X5 => stp ((X5 3 11) + 1) (fun x6 => stp (ups X5 3 11 x6) (fun X7 => (f_J6_bitCount_0f7a4 r2).bind (fun r8 => some (r8, X7)))))))))
def f_X3_cry (X : WS) (p1 : Int32) (p2 : Int32) : Option (Int32 × WS) := (f_X3_isPlace X p1).bind (fun r1 => (if r1 = 0 then some ((-101), X) else (f_X3_isLoud p2).bind (fun r3 => (if r3 = 0 then some ((-102), X) else (if p2 ≤ (X 3 9) then bnd2 (f_X2_proclaim X p1 p2) (fun r6 X7 => some (r6, X7)) else some ((-103), X))))))
def g_X4_ones_4 (v0 : Int32) : Nat → Int32 → Int32 → Option Int32
  | 0, _, _ => none
  | n + 1, v1, v2 => (if 6 ≤ v2 then some v1 else stp (v1 + ((v0 >>> (v2 &&& 31)) &&& 1)) (fun x2 => stp (v2 + 1) (fun x3 => g_X4_ones_4 v0 n x2 x3)))
def f_X4_ones (p0 : Int32) : Option Int32 := g_X4_ones_4 p0 NF 0 0
def f_X4_allListeners (X : MS)  : Option Int32 := some ((1 <<< ((X.1 0 11) &&& 31)) - 1)
def g_X4_hearing_6 (X : MS) (v1 : Int32) (v2 : Int32) (v3 : Int32) : Nat → Int32 → Int32 → Option Int32
  | 0, _, _ => none
  | n + 1, v4, v5 => (if (X.1 0 11) ≤ v5 then some v4 else ixc ((2 * v5) + 1) 12 (stp (X.1 3 (Int32.toNatClampNeg ((2 * v5) + 1))) (fun x3 => (if x3 ≤ v1 then stp (v1 - x3) (fun x5 => ixc x3 6 ((f_X4_needsOf X v5).bind (fun r7 => (if ((v2 - (2 * x5)) - (X.1 2 (Int32.toNatClampNeg x3))) < r7 then stp (v4 ||| 0) (fun x10 => stp (v5 + 1) (fun x11 => g_X4_hearing_6 X v1 v2 v3 n x10 x11)) else stp (v4 ||| (v3 &&& (1 <<< (v5 &&& 31)))) (fun x13 => stp (v5 + 1) (fun x14 => g_X4_hearing_6 X v1 v2 v3 n x13 x14)))))) else stp (x3 - v1) (fun x15 => ixc x3 6 ((f_X4_needsOf X v5).bind (fun r17 => (if ((v2 - (2 * x15)) - (X.1 2 (Int32.toNatClampNeg x3))) < r17 then stp (v4 ||| 0) (fun x20 => stp (v5 + 1) (fun x21 => g_X4_hearing_6 X v1 v2 v3 n x20 x21)) else stp (v4 ||| (v3 &&& (1 <<< (v5 &&& 31)))) (fun x23 => stp (v5 + 1) (fun x24 => g_X4_hearing_6 X v1 v2 v3 n x23 x24))))))))))
def f_X4_hearing (X : MS) (p1 : Int32) (p2 : Int32) (p3 : Int32) : Option Int32 := g_X4_hearing_6 X p1 p2 p3 NF 0 0
def g_X4_heardBy_30 (X : MS) (k16 : Int32 → Int32 → Option Int32) (v3 : Int32) : Nat → Int32 → Int32 → Int32 → Int32 → Option Int32
  | 0, _, _, _, _ => none
  | n + 1, v5, v6, v7, v8 => (if (X.1 0 11) ≤ v8 then k16 v7 v5 else (if ((v5 >>> (v8 &&& 31)) &&& 1) = 1 then (if ((v6 >>> (v8 &&& 31)) &&& 1) = 0 then (f_X4_criesOf X v8).bind (fun r13 => (if r13 ≤ 0 then stp (v7 ||| 0) (fun x16 => stp (v8 + 1) (fun x17 => g_X4_heardBy_30 X k16 v3 n v5 v6 x16 x17)) else ixc ((2 * v8) + 1) 12 ((f_X4_criesOf X v8).bind (fun r20 => (f_X4_hearing X (X.1 3 (Int32.toNatClampNeg ((2 * v8) + 1))) r20 v3).bind (fun r21 => stp (v7 ||| r21) (fun x22 => stp (v8 + 1) (fun x23 => g_X4_heardBy_30 X k16 v3 n v5 v6 x22 x23))))))) else stp (v7 ||| 0) (fun x11 => stp (v8 + 1) (fun x12 => g_X4_heardBy_30 X k16 v3 n v5 v6 x11 x12))) else stp (v7 ||| 0) (fun x7 => stp (v8 + 1) (fun x8 => g_X4_heardBy_30 X k16 v3 n v5 v6 x7 x8))))
def g_X4_heardBy_16 (X : MS) (v3 : Int32) : Nat → Int32 → Int32 → Option Int32
  | 0, _, _ => none
  | n + 1, v5, v6 => (if v6 = v5 then some v5 else g_X4_heardBy_30 X (g_X4_heardBy_16 X v3 n) v3 NF v5 v6 v5 0)
def f_X4_heardBy (X : MS) (p1 : Int32) (p2 : Int32) (p3 : Int32) (p4 : Int32) : Option Int32 := (f_X4_hearing X p1 p2 p3).bind (fun r1 => stp (p4 ||| r1) (fun x2 => g_X4_heardBy_16 X p3 NF x2 p4))
def f_X4_cry (X : MS) (p1 : Int32) (p2 : Int32) : Option (Int32 × MS) := (f_X4_isPlace X p1).bind (fun r1 => (if r1 = 0 then some ((-101), X) else (f_X4_in (Int32.toInt64 p2) 1 9).bind (fun r3 => (if r3 = 0 then some ((-102), X) else (if p2 ≤ (X.1 0 3) then (f_X4_knowing X (X.1 0 6)).bind (fun r6 => (f_X4_ones r6).bind (fun r7 => (f_X4_allListeners X).bind (fun r8 => (f_X4_heardBy X p1 p2 r8 (X.1 0 6)).bind (fun r9 => stp (ups X.1 0 6 r9, X.2) (fun X10 => stp ((X10.1 0 3) - 1) (fun x11 => stp (ups X10.1 0 3 x11, X10.2) (fun X12 => stp ((X12.1 0 5) + 1) (fun x13 => stp (ups X12.1 0 5 x13, X12.2) (fun X14 => (f_X4_knowing X14 (X14.1 0 6)).bind (fun r15 => (f_X4_ones r15).bind (fun r16 => some ((r16 - r7), X14)))))))))))) else some ((-103), X))))))
def f_X3_would (X : WS) (p1 : Int32) (p2 : Int32) : Option Int32 := (f_X3_isPlace X p1).bind (fun r1 => (if r1 = 0 then some (-101) else (f_X3_isLoud p2).bind (fun r3 => (if r3 = 0 then some (-102) else (f_X2_spread X (X 3 7) p1 p2 0).bind (fun r5 => (f_X2_knowing X r5).bind (fun r6 => some r6))))))
def f_X4_knowThen (X : MS) (p1 : Int32) (p2 : Int32) (p3 : Int32) : Option Int32 := (f_X4_allListeners X).bind (fun r1 => (f_X4_heardBy X p1 p2 r1 p3).bind (fun r2 => (f_X4_knowing X r2).bind (fun r3 => some r3)))
def f_X4_would (X : MS) (p1 : Int32) (p2 : Int32) : Option Int32 := (f_X4_isPlace X p1).bind (fun r1 => (if r1 = 0 then some (-101) else (f_X4_in (Int32.toInt64 p2) 1 9).bind (fun r3 => (if r3 = 0 then some (-102) else (f_X4_knowThen X p1 p2 (X.1 0 6)).bind (fun r5 => some r5)))))
def f_J9_min_7cf53 (p0 : Int32) (p1 : Int32) : Option Int32 := (if p1 < p0 then some p1 else some p0)
def f_X2_sweeten (X : WS)  : Option (Int32 × WS) := (f_J9_min_7cf53 9 ((X 3 9) + 2)).bind (fun r1 => stp (ups X 3 9 r1) (fun X2 => some ((X2 3 9), X2)))
def f_X3_honey (X : WS)  : Option (Int32 × WS) := (f_X3_hasTown X).bind (fun r1 => (if r1 = 0 then some ((-103), X) else bnd2 (f_X2_sweeten X) (fun r3 X4 => some (r3, X4))))
def f_X4_honey (X : MS)  : Option (Int32 × MS) := (f_X4_lacks X).bind (fun r1 => (if r1 = 0 then (if ((X.1 0 3) + 2) ≤ 9 then stp ((X.1 0 3) + 2) (fun x4 => stp (ups X.1 0 3 x4, X.2) (fun X5 => some ((X5.1 0 3), X5))) else stp (ups X.1 0 3 9, X.2) (fun X6 => some ((X6.1 0 3), X6))) else some ((-103), X)))
def f_X2_sleep (X : WS)  : Option (Int32 × WS) := stp ((X 3 13) + 1) (fun x1 => stp (ups X 3 13 x1) (fun X2 => stp (X2 3 8) (fun x3 => stp (ups X2 3 9 x3) (fun X4 => some ((X4 3 9), X4)))))
def f_X3_day (X : WS)  : Option (Int32 × WS) := (f_X3_hasTown X).bind (fun r1 => (if r1 = 0 then some ((-103), X) else bnd2 (f_X2_sleep X) (fun r3 X4 => some (r3, X4))))
def f_X4_day (X : MS)  : Option (Int32 × MS) := (f_X4_lacks X).bind (fun r1 => (if r1 = 0 then stp (X.1 0 2) (fun x3 => stp (ups X.1 0 3 x3, X.2) (fun X4 => stp ((X4.1 0 8) + 1) (fun x5 => stp (ups X4.1 0 8 x5, X4.2) (fun X6 => some ((X6.1 0 3), X6))))) else some ((-103), X)))
def f_X2_renew (X : WS)  : Option (Int32 × WS) := (if (X 3 11) < (X 3 10) then stp (ups X 3 7 0) (fun X2 => stp (ups X2 3 11 0) (fun X3 => stp ((X3 3 12) + 1) (fun x4 => stp (ups X3 3 12 x4) (fun X5 => some (0, X5))))) else stp (ups X 3 7 0) (fun X6 => stp (ups X6 3 11 0) (fun X7 => stp ((X7 3 12) + 1) (fun x8 => stp (ups X7 3 12 x8) (fun X9 => some (1, X9))))))
def f_X3_decree (X : WS)  : Option (Int32 × WS) := (f_X3_hasTown X).bind (fun r1 => (if r1 = 0 then some ((-103), X) else bnd2 (f_X2_renew X) (fun r3 X4 => some (r3, X4))))
def f_X4_decree (X : MS)  : Option (Int32 × MS) := (f_X4_lacks X).bind (fun r1 => (if r1 = 0 then (if (X.1 0 5) < (X.1 0 4) then stp (ups X.1 0 5 0, X.2) (fun X4 => stp (ups X4.1 0 6 0, X4.2) (fun X5 => stp ((X5.1 0 7) + 1) (fun x6 => stp (ups X5.1 0 7 x6, X5.2) (fun X7 => some (0, X7))))) else stp (ups X.1 0 5 0, X.2) (fun X8 => stp (ups X8.1 0 6 0, X8.2) (fun X9 => stp ((X9.1 0 7) + 1) (fun x10 => stp (ups X9.1 0 7 x10, X9.2) (fun X11 => some (1, X11)))))) else some ((-103), X)))
def g_X0_whisper_12 : Nat → WS → Int32 → Option WS
  | 0, _, _ => none
  | n + 1, X, v2 => (if 6 ≤ v2 then some X else (if (X 3 9) < 1 then some X else (f_X2_spread X (X 3 7) v2 1 0).bind (fun r5 => (f_X2_knowing X r5).bind (fun r6 => (f_J6_bitCount_0f7a4 r6).bind (fun r7 => (if (X 15 1) = (-1) then stp (ups X 15 1 v2) (fun X9 => stp (ups X9 15 2 r7) (fun X10 => stp (v2 + 1) (fun x11 => g_X0_whisper_12 n X10 x11))) else (if (X 15 2) ≤ r7 then stp (v2 + 1) (fun x13 => g_X0_whisper_12 n X x13) else stp (ups X 15 1 v2) (fun X14 => stp (ups X14 15 2 r7) (fun X15 => stp (v2 + 1) (fun x16 => g_X0_whisper_12 n X15 x16))))))))))
def f_X0_whisper (X : WS)  : Option WS := stp (ups X 15 1 (-1)) (fun X1 => stp (ups X1 15 2 (-1)) (fun X2 => g_X0_whisper_12 NF X2 0))
def f_X3_least (X : WS) (p1 : Int32) : Option (Int32 × WS) := (if p1 < 0 then some ((-102), X) else (if p1 ≤ 1 then (f_X3_hasTown X).bind (fun r3 => (if r3 = 0 then some ((-103), X) else (f_X0_whisper X).bind (fun X5 => (if p1 = 0 then some ((X5 15 1), X5) else some ((X5 15 2), X5))))) else some ((-102), X)))
def g_X4_leastOf_7 (X : MS) (v1 : Int32) : Nat → Int32 → Int32 → Int32 → Option Int32
  | 0, _, _, _ => none
  | n + 1, v2, v3, v4 => (if v4 < 0 then (if v1 = 0 then some v2 else some v3) else (if (X.1 0 3) ≤ 0 then (if v1 = 0 then some v2 else some v3) else (f_X4_knowThen X v4 1 (X.1 0 6)).bind (fun r5 => (f_X4_ones r5).bind (fun r6 => (if v3 = (-1) then (if v3 = (-1) then stp (v4 + (-1)) (fun x9 => g_X4_leastOf_7 X v1 n v4 r6 x9) else (if v3 ≤ r6 then stp (v4 + (-1)) (fun x11 => g_X4_leastOf_7 X v1 n v4 v3 x11) else stp (v4 + (-1)) (fun x12 => g_X4_leastOf_7 X v1 n v4 r6 x12))) else (if v3 < r6 then (if v3 = (-1) then stp (v4 + (-1)) (fun x15 => g_X4_leastOf_7 X v1 n v2 r6 x15) else (if v3 ≤ r6 then stp (v4 + (-1)) (fun x17 => g_X4_leastOf_7 X v1 n v2 v3 x17) else stp (v4 + (-1)) (fun x18 => g_X4_leastOf_7 X v1 n v2 r6 x18))) else (if v3 = (-1) then stp (v4 + (-1)) (fun x20 => g_X4_leastOf_7 X v1 n v4 r6 x20) else (if v3 ≤ r6 then stp (v4 + (-1)) (fun x22 => g_X4_leastOf_7 X v1 n v4 v3 x22) else stp (v4 + (-1)) (fun x23 => g_X4_leastOf_7 X v1 n v4 r6 x23)))))))))
def f_X4_leastOf (X : MS) (p1 : Int32) : Option Int32 := g_X4_leastOf_7 X p1 NF (-1) (-1) 5
def f_X4_least (X : MS) (p1 : Int32) : Option Int32 := (f_X4_in (Int32.toInt64 p1) 0 1).bind (fun r1 => (if r1 = 0 then some (-102) else (f_X4_lacks X).bind (fun r3 => (if r3 = 0 then (f_X4_leastOf X p1).bind (fun r5 => some r5) else some (-103)))))
def f_X2_everyone (X : WS)  : Option Int32 := some ((1 <<< ((X 3 5) &&& 31)) - 1)
def g_X0_planFrom_48 (X : WS) (rec : Int32 → Int32 → Int32 → Int32 → Option Int32) (v1 : Int32) (v2 : Int32) (v3 : Int32) (v4 : Int32) (v5 : Int32) : Nat → Int32 → Option Int32
  | 0, _ => none
  | n + 1, v6 => (if 6 ≤ v6 then some (-1) else (f_X2_spread X v2 v6 v5 0).bind (fun r8 => (rec v1 r8 (v3 + 1) v4).bind (fun r9 => (if r9 = (-1) then stp (v6 + 1) (fun x11 => g_X0_planFrom_48 X rec v1 v2 v3 v4 v5 n x11) else some ((r9 <<< (3 &&& 31)) ||| v6)))))
def f_X0_planFrom (X : WS) : Nat → Int32 → Int32 → Int32 → Int32 → Option Int32
  | 0, _, _, _, _ => none
  | n + 1, p1, p2, p3, p4 => (if p4 ≤ p3 then (f_X2_knowing X p2).bind (fun r2 => (if (p1 &&& (r2 ^^^ (-1))) = 0 then some 0 else some (-1))) else (if p3 < 3 then stp ((X 3 9) - p3) (fun x5 => (if 1 ≤ x5 then g_X0_planFrom_48 X (f_X0_planFrom X n) p1 p2 p3 p4 x5 NF 0 else some (-1))) else (f_X2_knowing X p2).bind (fun r12 => (if (p1 &&& (r12 ^^^ (-1))) = 0 then some 0 else some (-1)))))
def g_X0_coverPlan_2 (X : WS) (v1 : Int32) : Nat → Int32 → Option Int32
  | 0, _ => none
  | n + 1, v2 => (if 3 < v2 then some (-1) else (f_X0_planFrom X 10 v1 (X 3 7) 0 v2).bind (fun r2 => (if r2 = (-1) then stp (v2 + 1) (fun x4 => g_X0_coverPlan_2 X v1 n x4) else some ((r2 <<< (2 &&& 31)) ||| v2))))
def f_X0_coverPlan (X : WS) (p1 : Int32) : Option Int32 := g_X0_coverPlan_2 X p1 NF 0
def f_X0_partOfPlan (p0 : Int32) (p1 : Int32) : Option Int32 := (if 0 ≤ p0 then stp (p0 &&& 3) (fun x2 => (if p1 = 0 then some x2 else stp (p1 - 10) (fun x4 => (if x4 < 0 then some (-1) else (if x4 < x2 then some ((p0 >>> ((2 + (3 * x4)) &&& 31)) &&& 7) else some (-1)))))) else some p0)
def f_X3_cover (X : WS) (p1 : Int32) (p2 : Int32) : Option Int32 := (if p2 = 0 then (if p1 < 0 then some (-102) else (f_X2_everyone X).bind (fun r3 => (if r3 < p1 then some (-102) else (f_X3_hasTown X).bind (fun r6 => (if r6 = 0 then some (-103) else (f_X0_coverPlan X p1).bind (fun r8 => (f_X0_partOfPlan r8 p2).bind (fun r9 => some r9))))))) else (if p2 < 10 then (if p1 < 0 then some (-102) else (f_X2_everyone X).bind (fun r12 => (if r12 < p1 then some (-102) else some (-102)))) else (if 12 < p2 then (if p1 < 0 then some (-102) else (f_X2_everyone X).bind (fun r17 => (if r17 < p1 then some (-102) else some (-102)))) else (if p1 < 0 then some (-102) else (f_X2_everyone X).bind (fun r21 => (if r21 < p1 then some (-102) else (f_X3_hasTown X).bind (fun r24 => (if r24 = 0 then some (-103) else (f_X0_coverPlan X p1).bind (fun r26 => (f_X0_partOfPlan r26 p2).bind (fun r27 => some r27))))))))))
def g_X4_isCovered_47 (v1 : Int32) (v2 : Int32) : Nat → MS → Int32 → Int32 → Option (Int32 × MS)
  | 0, _, _, _ => none
  | n + 1, X, v5, v6 => (if v2 ≤ v6 then (f_X4_knowing X v5).bind (fun r5 => (if (v1 &&& (r5 ^^^ (-1))) = 0 then some (1, X) else some (0, X))) else ixc v6 3 ((f_X4_allListeners X).bind (fun r8 => (f_X4_heardBy X (X.1 4 (Int32.toNatClampNeg v6)) ((X.1 0 3) - v6) r8 v5).bind (fun r9 => stp (v6 + 1) (fun x10 => g_X4_isCovered_47 v1 v2 n X r9 x10)))))
def g_X4_isCovered_8 (v1 : Int32) (v2 : Int32) : Nat → MS → Int32 → Int32 → Option (Int32 × MS)
  | 0, _, _, _ => none
  | n + 1, X, v4, v5 => (if v5 < 0 then stp (X.1 0 6) (fun x3 => g_X4_isCovered_47 v1 v2 NF X x3 0) else stp (v4 - v4 / 6 * 6) (fun x12 => ixc v5 3 (stp (ups X.1 4 (Int32.toNatClampNeg v5) x12, X.2) (fun X13 => stp (v4 / 6) (fun x14 => stp (v5 + (-1)) (fun x15 => g_X4_isCovered_8 v1 v2 n X13 x14 x15))))))
def f_X4_isCovered (X : MS) (p1 : Int32) (p2 : Int32) (p3 : Int32) : Option (Int32 × MS) := stp (p2 - 1) (fun x1 => g_X4_isCovered_8 p1 p2 NF X p3 x1)
def g_X4_coverOf_23 (k5 : MS → Int32 → Int32 → Option (Int32 × MS)) (v1 : Int32) (v2 : Int32) : Nat → MS → Int32 → Int32 → Int32 → Option (Int32 × MS)
  | 0, _, _, _, _ => none
  | n + 1, X, v3, v4, v5 => (if v3 ≤ v5 then stp (v3 * 6) (fun x4 => stp (v4 + 1) (fun x5 => k5 X x4 x5)) else bnd2 (f_X4_isCovered X v1 v4 v5) (fun r6 X7 => (if r6 = 0 then stp (v5 + 1) (fun x9 => g_X4_coverOf_23 k5 v1 v2 n X7 v3 v4 x9) else (if v2 = 0 then some (v4, X7) else (if v4 ≤ (v2 - 10) then some ((-1), X7) else ixc (v2 - 10) 3 (some ((X7.1 4 (Int32.toNatClampNeg (v2 - 10))), X7)))))))
def g_X4_coverOf_5 (v1 : Int32) (v2 : Int32) : Nat → MS → Int32 → Int32 → Option (Int32 × MS)
  | 0, _, _, _ => none
  | n + 1, X, v3, v4 => (if 4 ≤ v4 then some ((-1), X) else (if (X.1 0 3) < v4 then some ((-1), X) else g_X4_coverOf_23 (g_X4_coverOf_5 v1 v2 n) v1 v2 NF X v3 v4 0))
def f_X4_coverOf (X : MS) (p1 : Int32) (p2 : Int32) : Option (Int32 × MS) := g_X4_coverOf_5 p1 p2 NF X 1 0
def f_X4_cover (X : MS) (p1 : Int32) (p2 : Int32) : Option (Int32 × MS) := (f_X4_allListeners X).bind (fun r1 => (f_X4_in (Int32.toInt64 p1) 0 (Int32.toInt64 r1)).bind (fun r2 => (if r2 = 0 then some ((-102), X) else (if p2 = 0 then (f_X4_lacks X).bind (fun r5 => (if r5 = 0 then bnd2 (f_X4_coverOf X p1 p2) (fun r7 X8 => some (r7, X8)) else some ((-103), X))) else (f_X4_in (Int32.toInt64 p2) 10 12).bind (fun r9 => (if r9 = 0 then some ((-102), X) else (f_X4_lacks X).bind (fun r11 => (if r11 = 0 then bnd2 (f_X4_coverOf X p1 p2) (fun r13 X14 => some (r13, X14)) else some ((-103), X)))))))))
def f_X0_learns (X : WS) (p1 : Int32) (p2 : Int32) (p3 : Int32) (p4 : Int32) : Option Int32 := (f_X2_spread X 0 p2 p3 p4).bind (fun r1 => (f_X2_knowing X r1).bind (fun r2 => (if ((r2 >>> (p1 &&& 31)) &&& 1) = 1 then some 1 else some 0)))
def g_X0_sentAway_12 (X : WS) (v1 : Int32) (v2 : Int32) (v3 : Int32) (v5 : Int32) : Nat → Int32 → Int32 → Option Int32
  | 0, _, _ => none
  | n + 1, v4, v6 => (if v5 < v6 then some v4 else (if ((v6 >>> (v1 &&& 31)) &&& 1) = 0 then (if v4 = (-1) then (f_X0_learns X v1 v2 v3 v6).bind (fun r17 => (if r17 = 0 then stp (v6 + 1) (fun x20 => g_X0_sentAway_12 X v1 v2 v3 v5 n v6 x20) else stp (v6 + 1) (fun x19 => g_X0_sentAway_12 X v1 v2 v3 v5 n v4 x19))) else (f_J6_bitCount_0f7a4 v6).bind (fun r21 => (f_J6_bitCount_0f7a4 v4).bind (fun r22 => (if r22 ≤ r21 then stp (v6 + 1) (fun x26 => g_X0_sentAway_12 X v1 v2 v3 v5 n v4 x26) else (f_X0_learns X v1 v2 v3 v6).bind (fun r29 => (if r29 = 0 then stp (v6 + 1) (fun x32 => g_X0_sentAway_12 X v1 v2 v3 v5 n v6 x32) else stp (v6 + 1) (fun x31 => g_X0_sentAway_12 X v1 v2 v3 v5 n v4 x31))))))) else (if v4 = (-1) then stp (v6 + 1) (fun x6 => g_X0_sentAway_12 X v1 v2 v3 v5 n v4 x6) else (f_J6_bitCount_0f7a4 v6).bind (fun r7 => (f_J6_bitCount_0f7a4 v4).bind (fun r8 => (if r8 ≤ r7 then stp (v6 + 1) (fun x11 => g_X0_sentAway_12 X v1 v2 v3 v5 n v4 x11) else stp (v6 + 1) (fun x13 => g_X0_sentAway_12 X v1 v2 v3 v5 n v4 x13)))))))
def f_X0_sentAway (X : WS) (p1 : Int32) (p2 : Int32) (p3 : Int32) : Option Int32 := (f_X2_everyone X).bind (fun r1 => g_X0_sentAway_12 X p1 p2 p3 r1 NF (-1) 0)
def f_X3_howMany (p0 : Int32) : Option Int32 := (if 0 ≤ p0 then (f_J6_bitCount_0f7a4 p0).bind (fun r2 => some r2) else some p0)
def f_X3_hush (X : WS) (p1 : Int32) (p2 : Int32) (p3 : Int32) (p4 : Int32) : Option Int32 := (f_X3_isListener X p1).bind (fun r1 => (if r1 = 0 then some (-101) else (f_X3_isPlace X p2).bind (fun r3 => (if r3 = 0 then some (-101) else (f_X3_isLoud p3).bind (fun r5 => (if r5 = 0 then some (-102) else (if p4 < 0 then some (-102) else (if p4 ≤ 1 then (f_X0_sentAway X p1 p2 p3).bind (fun r9 => (if p4 = 0 then (f_X3_howMany r9).bind (fun r11 => some r11) else some r9)) else some (-102)))))))))
def g_X4_hushOf_6 (X : MS) (v1 : Int32) (v2 : Int32) (v3 : Int32) : Nat → Int32 → Int32 → Option Int32
  | 0, _, _ => none
  | n + 1, v4, v5 => (f_X4_allListeners X).bind (fun r1 => (if r1 < v5 then some v4 else (if ((v5 >>> (v1 &&& 31)) &&& 1) = 0 then (if v4 = (-1) then (f_X4_allListeners X).bind (fun r9 => (f_X4_heardBy X v2 v3 (r9 &&& (v5 ^^^ (-1))) 0).bind (fun r10 => (f_X4_knowing X r10).bind (fun r12 => (if ((r12 >>> (v1 &&& 31)) &&& 1) = 0 then stp (v5 + 1) (fun x15 => g_X4_hushOf_6 X v1 v2 v3 n v5 x15) else stp (v5 + 1) (fun x14 => g_X4_hushOf_6 X v1 v2 v3 n v4 x14))))) else (f_X4_ones v5).bind (fun r16 => (f_X4_ones v4).bind (fun r17 => (if r17 ≤ r16 then (f_X4_allListeners X).bind (fun r19 => (f_X4_heardBy X v2 v3 (r19 &&& (v5 ^^^ (-1))) 0).bind (fun r20 => stp (v5 + 1) (fun x22 => g_X4_hushOf_6 X v1 v2 v3 n v4 x22))) else (f_X4_allListeners X).bind (fun r23 => (f_X4_heardBy X v2 v3 (r23 &&& (v5 ^^^ (-1))) 0).bind (fun r24 => (f_X4_knowing X r24).bind (fun r26 => (if ((r26 >>> (v1 &&& 31)) &&& 1) = 0 then stp (v5 + 1) (fun x29 => g_X4_hushOf_6 X v1 v2 v3 n v5 x29) else stp (v5 + 1) (fun x28 => g_X4_hushOf_6 X v1 v2 v3 n v4 x28))))))))) else (f_X4_allListeners X).bind (fun r4 => (f_X4_heardBy X v2 v3 (r4 &&& (v5 ^^^ (-1))) 0).bind (fun r5 => stp (v5 + 1) (fun x7 => g_X4_hushOf_6 X v1 v2 v3 n v4 x7))))))
def f_X4_hushOf (X : MS) (p1 : Int32) (p2 : Int32) (p3 : Int32) : Option Int32 := g_X4_hushOf_6 X p1 p2 p3 NF (-1) 0
def f_X4_tellHush (X : MS) (p1 : Int32) (p2 : Int32) (p3 : Int32) (p4 : Int32) : Option Int32 := (f_X4_hushOf X p1 p2 p3).bind (fun r1 => (if r1 = (-1) then some r1 else (if p4 = 1 then some r1 else (f_X4_ones r1).bind (fun r4 => some r4))))
def f_X4_hush (X : MS) (p1 : Int32) (p2 : Int32) (p3 : Int32) (p4 : Int32) : Option Int32 := (f_X4_isListener X p1).bind (fun r1 => (if r1 = 0 then some (-101) else (f_X4_isPlace X p2).bind (fun r3 => (if r3 = 0 then some (-101) else (f_X4_in (Int32.toInt64 p3) 1 9).bind (fun r5 => (if r5 = 0 then some (-102) else (f_X4_in (Int32.toInt64 p4) 0 1).bind (fun r7 => (if r7 = 0 then some (-102) else (f_X4_tellHush X p1 p2 p3 p4).bind (fun r9 => some r9)))))))))
def f_X2_note (X : WS) (p1 : Int32) (p2 : Int32) : Option (Int32 × WS) := (if p2 = 0 then stp ((X 3 16) ||| (1 <<< (p1 &&& 31))) (fun x2 => stp (ups X 3 16 x2) (fun X3 => stp ((X3 3 14) + 1) (fun x4 => stp (ups X3 3 14 x4) (fun X5 => some ((X5 3 14), X5))))) else stp ((X 3 15) ||| (1 <<< (p1 &&& 31))) (fun x6 => stp (ups X 3 15 x6) (fun X7 => stp ((X7 3 14) + 1) (fun x8 => stp (ups X7 3 14 x8) (fun X9 => some ((X9 3 14), X9))))))
def f_X3_tell (X : WS) (p1 : Int32) (p2 : Int32) : Option (Int32 × WS) := (f_X3_isListener X p1).bind (fun r1 => (if r1 = 0 then some ((-101), X) else (if (X 3 14) < 8 then bnd2 (f_X2_note X p1 p2) (fun r4 X5 => some (r4, X5)) else some ((-104), X))))
def f_X4_tell (X : MS) (p1 : Int32) (p2 : Int32) : Option (Int32 × MS) := (f_X4_isListener X p1).bind (fun r1 => (if r1 = 0 then some ((-101), X) else (if (X.1 0 14) = 8 then some ((-104), X) else ixc (2 * (X.1 0 14)) 16 (stp (ups X.1 5 (Int32.toNatClampNeg (2 * (X.1 0 14))) p1, X.2) (fun X5 => (if p2 = 0 then ixc ((2 * (X5.1 0 14)) + 1) 16 (stp (ups X5.1 5 (Int32.toNatClampNeg ((2 * (X5.1 0 14)) + 1)) 0, X5.2) (fun X8 => stp ((X8.1 0 14) + 1) (fun x9 => stp (ups X8.1 0 14 x9, X8.2) (fun X10 => some ((X10.1 0 14), X10))))) else ixc ((2 * (X5.1 0 14)) + 1) 16 (stp (ups X5.1 5 (Int32.toNatClampNeg ((2 * (X5.1 0 14)) + 1)) 1, X5.2) (fun X12 => stp ((X12.1 0 14) + 1) (fun x13 => stp (ups X12.1 0 14 x13, X12.2) (fun X14 => some ((X14.1 0 14), X14)))))))))))
def f_X3_forget (X : WS)  : Option (Int32 × WS) := bnd2 (f_X2_dropTold X) (fun r1 X2 => some (r1, X2))
def f_X4_forget (X : MS)  : Option (Int32 × MS) := stp (X.1 0 14) (fun x1 => stp (ups X.1 0 14 0, X.2) (fun X2 => some (x1, X2)))
def f_X2_isAsTold (X : WS) (p1 : Int32) : Option Int32 := (if ((X 3 15) &&& (p1 ^^^ (-1))) = 0 then (if ((X 3 16) &&& p1) = 0 then some 1 else some 0) else some 0)
def g_X0_tally_2 (v1 : Int32) : Nat → WS → Int32 → Option WS
  | 0, _, _ => none
  | n + 1, X, v2 => (if 6 ≤ v2 then some X else ixc v2 6 (stp ((X 16 (Int32.toNatClampNeg v2)) + ((v1 >>> (v2 &&& 31)) &&& 1)) (fun x4 => ixc v2 6 (stp (ups X 16 (Int32.toNatClampNeg v2) x4) (fun X5 => stp (v2 + 1) (fun x6 => g_X0_tally_2 v1 n X5 x6))))))
def f_X0_tally (X : WS) (p1 : Int32) : Option WS := g_X0_tally_2 p1 NF X 0
def g_X0_seek_41 (k33 : WS → Int32 → Option WS) : Nat → WS → Int32 → Int32 → Option WS
  | 0, _, _, _ => none
  | n + 1, X, v2, v3 => (if 9 < v3 then stp (v2 + 1) (fun x6 => k33 X x6) else (f_X2_spread X 0 v2 v3 0).bind (fun r7 => (f_X2_knowing X r7).bind (fun r8 => (f_X2_isAsTold X r8).bind (fun r9 => (if r9 = 0 then stp (v3 + 1) (fun x11 => g_X0_seek_41 k33 n X v2 x11) else (if (X 15 3) = 0 then stp ((10 * v2) + v3) (fun x19 => stp (ups X 15 4 x19) (fun X20 => stp ((X20 15 3) + 1) (fun x21 => stp (ups X20 15 3 x21) (fun X22 => (f_X0_tally X22 r8).bind (fun X23 => stp (v3 + 1) (fun x24 => g_X0_seek_41 k33 n X23 v2 x24)))))) else stp (X 15 4) (fun x13 => stp (ups X 15 4 x13) (fun X14 => stp ((X14 15 3) + 1) (fun x15 => stp (ups X14 15 3 x15) (fun X16 => (f_X0_tally X16 r8).bind (fun X17 => stp (v3 + 1) (fun x18 => g_X0_seek_41 k33 n X17 v2 x18))))))))))))
def g_X0_seek_33 : Nat → WS → Int32 → Option WS
  | 0, _, _ => none
  | n + 1, X, v2 => (if 6 ≤ v2 then some X else g_X0_seek_41 (g_X0_seek_33 n) NF X v2 1)
def g_X0_seek_12 : Nat → WS → Int32 → Option WS
  | 0, _, _ => none
  | n + 1, X, v2 => (if 6 ≤ v2 then g_X0_seek_33 NF X 0 else ixc v2 6 (stp (ups X 16 (Int32.toNatClampNeg v2) 0) (fun X26 => stp (v2 + 1) (fun x27 => g_X0_seek_12 n X26 x27))))
def f_X0_seek (X : WS)  : Option WS := stp (ups X 15 3 0) (fun X1 => stp (ups X1 15 4 (-1)) (fun X2 => g_X0_seek_12 NF X2 0))
def f_X3_where (X : WS) (p1 : Int32) : Option (Int32 × WS) := (if p1 < 0 then some ((-102), X) else (if p1 ≤ 1 then (f_X3_hasTown X).bind (fun r3 => (if r3 = 0 then some ((-103), X) else (f_X0_seek X).bind (fun X5 => (if p1 = 0 then some ((X5 15 3), X5) else some ((X5 15 4), X5))))) else some ((-102), X)))
def g_X4_isTold_19 (X : MS) (v2 : Int32) : Nat → Int32 → Int32 → Option Int32
  | 0, _, _ => none
  | n + 1, v3, v4 => (if (X.1 0 14) ≤ v4 then zck v3 (some v3) else (if v3 = 0 then stp (v4 + 1) (fun x4 => g_X4_isTold_19 X v2 n 0 x4) else ixc (2 * v4) 16 (ixc ((2 * v4) + 1) 16 ((if ((v2 >>> ((X.1 5 (Int32.toNatClampNeg (2 * v4))) &&& 31)) &&& 1) = (X.1 5 (Int32.toNatClampNeg ((2 * v4) + 1))) then stp (v4 + 1) (fun x9 => g_X4_isTold_19 X v2 n 1 x9) else stp (v4 + 1) (fun x8 => g_X4_isTold_19 X v2 n 0 x8))))))
def f_X4_isTold (X : MS) (p1 : Int32) : Option Int32 := (f_X4_knowThen X (p1 / 10) (p1 - p1 / 10 * 10) 0).bind (fun r1 => g_X4_isTold_19 X r1 NF 1 0)
def g_X4_whereOf_8 (X : MS) (v1 : Int32) : Nat → Int32 → Int32 → Int32 → Option Int32
  | 0, _, _, _ => none
  | n + 1, v2, v3, v4 => (if v4 ≤ 0 then (if v1 = 0 then some v2 else some v3) else (if (v4 - v4 / 10 * 10) ≤ 0 then stp (v4 + (-1)) (fun x4 => g_X4_whereOf_8 X v1 n v2 v3 x4) else (f_X4_isTold X v4).bind (fun r5 => (if r5 = 0 then stp (v4 + (-1)) (fun x7 => g_X4_whereOf_8 X v1 n v2 v3 x7) else stp (v2 + 1) (fun x8 => stp (v4 + (-1)) (fun x9 => g_X4_whereOf_8 X v1 n x8 v4 x9))))))
def f_X4_whereOf (X : MS) (p1 : Int32) : Option Int32 := g_X4_whereOf_8 X p1 NF 0 (-1) 59
def f_X4_where (X : MS) (p1 : Int32) : Option Int32 := (f_X4_in (Int32.toInt64 p1) 0 1).bind (fun r1 => (if r1 = 0 then some (-102) else (f_X4_lacks X).bind (fun r3 => (if r3 = 0 then (f_X4_whereOf X p1).bind (fun r5 => some r5) else some (-103)))))
def f_J9_max_7cf53 (p0 : Int32) (p1 : Int32) : Option Int32 := (if p0 < p1 then some p1 else some p0)
def g_X0_bestAsked_10 (X : WS) (v1 : Int32) : Nat → Int32 → Int32 → Int32 → Option Int32
  | 0, _, _, _ => none
  | n + 1, v2, v3, v4 => (if v1 ≤ v4 then some v2 else (if 6 ≤ v4 then some v2 else (if (X 15 3) ≤ 0 then some v2 else ixc v4 6 (ixc v4 6 ((f_J9_max_7cf53 (X 16 (Int32.toNatClampNeg v4)) ((X 15 3) - (X 16 (Int32.toNatClampNeg v4)))).bind (fun r7 => (if v2 = (-1) then stp (v4 + 1) (fun x9 => g_X0_bestAsked_10 X v1 n v4 r7 x9) else (if v3 ≤ r7 then stp (v4 + 1) (fun x11 => g_X0_bestAsked_10 X v1 n v2 v3 x11) else stp (v4 + 1) (fun x12 => g_X0_bestAsked_10 X v1 n v4 r7 x12)))))))))
def f_X0_bestAsked (X : WS) (p1 : Int32) : Option Int32 := stp (X 15 3) (fun x1 => g_X0_bestAsked_10 X p1 NF (-1) x1 0)
def f_X3_ask (X : WS)  : Option (Int32 × WS) := (f_X3_hasTown X).bind (fun r1 => (if r1 = 0 then some ((-103), X) else (f_X0_seek X).bind (fun X3 => (f_X0_bestAsked X3 (X3 3 5)).bind (fun r4 => some (r4, X3)))))
def g_X4_askOf_33 (X : MS) (k14 : Int32 → Int32 → Int32 → Option Int32) (v1 : Int32) : Nat → Int32 → Int32 → Int32 → Int32 → Int32 → Option Int32
  | 0, _, _, _, _, _ => none
  | n + 1, v2, v3, v4, v5, v6 => (if 60 ≤ v6 then (if v5 ≤ (v1 - v5) then stp (v1 - v5) (fun x6 => (if v3 ≤ x6 then (if v3 ≤ x6 then stp (v4 + 1) (fun x9 => k14 v2 v3 x9) else stp (v4 + 1) (fun x10 => k14 v2 x6 x10)) else (if v3 ≤ x6 then stp (v4 + 1) (fun x12 => k14 v4 v3 x12) else stp (v4 + 1) (fun x13 => k14 v4 x6 x13)))) else (if v3 ≤ v5 then (if v3 ≤ v5 then stp (v4 + 1) (fun x16 => k14 v2 v3 x16) else stp (v4 + 1) (fun x17 => k14 v2 v5 x17)) else (if v3 ≤ v5 then stp (v4 + 1) (fun x19 => k14 v4 v3 x19) else stp (v4 + 1) (fun x20 => k14 v4 v5 x20)))) else (if (v6 - v6 / 10 * 10) ≤ 0 then stp (v5 + 0) (fun x23 => stp (v6 + 1) (fun x24 => g_X4_askOf_33 X k14 v1 n v2 v3 v4 x23 x24)) else (f_X4_isTold X v6).bind (fun r25 => (if r25 = 0 then stp (v5 + 0) (fun x28 => stp (v6 + 1) (fun x29 => g_X4_askOf_33 X k14 v1 n v2 v3 v4 x28 x29)) else (f_X4_knowThen X (v6 / 10) (v6 - v6 / 10 * 10) 0).bind (fun r31 => stp (v5 + ((r31 >>> (v4 &&& 31)) &&& 1)) (fun x32 => stp (v6 + 1) (fun x33 => g_X4_askOf_33 X k14 v1 n v2 v3 v4 x32 x33)))))))
def g_X4_askOf_14 (X : MS) (v1 : Int32) : Nat → Int32 → Int32 → Int32 → Option Int32
  | 0, _, _, _ => none
  | n + 1, v2, v3, v4 => (if (X.1 0 11) ≤ v4 then some v2 else (if v1 ≤ 0 then some v2 else g_X4_askOf_33 X (g_X4_askOf_14 X v1 n) v1 NF v2 v3 v4 0 1))
def f_X4_askOf (X : MS)  : Option Int32 := (f_X4_whereOf X 0).bind (fun r1 => g_X4_askOf_14 X r1 NF (-1) 99 0)
def f_X4_ask (X : MS)  : Option Int32 := (f_X4_lacks X).bind (fun r1 => (if r1 = 0 then (f_X4_askOf X).bind (fun r3 => some r3) else some (-103)))
def f_X0_draw (X : WS) (p1 : Int32) : Option (Int32 × WS) := stp (Int64.toInt32 (((1103515245 * (Int32.toInt64 (X 15 7))) + 12345) &&& 2147483647)) (fun x1 => stp (ups X 15 7 x1) (fun X2 => (if p1 ≤ 0 then some (0, X2) else dvc p1 (some ((((X2 15 7) / 65536) - ((X2 15 7) / 65536) / p1 * p1), X2)))))
def g_X0_live_18 (v2 : Int32) : Nat → WS → Int32 → Option WS
  | 0, _, _ => none
  | n + 1, X, v4 => (if v2 ≤ v4 then some X else bnd2 (f_X0_draw X 6) (fun r5 X6 => bnd2 (f_X0_draw X6 9) (fun r7 X8 => stp (1 + r7) (fun x9 => (f_X2_spread X8 0 r5 x9 0).bind (fun r10 => (f_X2_knowing X8 r10).bind (fun r11 => (f_J6_bitCount_0f7a4 r11).bind (fun r12 => stp (ups X8 15 6 r12) (fun X13 => stp ((X13 15 5) + (X13 15 6)) (fun x14 => stp (ups X13 15 5 x14) (fun X15 => stp (v4 + 1) (fun x16 => g_X0_live_18 v2 n X15 x16)))))))))))
def f_X0_live (X : WS) (p2 : Int32) (p3 : Int32) : Option WS := stp (ups X 15 5 0) (fun X1 => stp (ups X1 15 6 0) (fun X2 => stp (ups X2 15 7 p3) (fun X3 => g_X0_live_18 p2 NF X3 0)))
def f_X3_days (X : WS) (p1 : Int32) (p2 : Int32) (p3 : Int32) : Option (Int32 × WS) := (if p1 < 1 then some ((-102), X) else (if 60 < p1 then some ((-102), X) else (if p2 < 0 then some ((-102), X) else (if p3 < 0 then some ((-102), X) else (if p3 ≤ 2 then (f_X3_hasTown X).bind (fun r6 => (if r6 = 0 then some ((-103), X) else (f_X0_live X p1 p2).bind (fun X8 => (if p3 = 0 then some ((X8 15 5), X8) else (if p3 = 1 then some ((X8 15 6), X8) else some ((X8 15 7), X8)))))) else some ((-102), X))))))
def f_X4_draw (X : MS) (p1 : Int32) : Option (Int32 × MS) := stp (Int64.toInt32 (((1103515245 * (Int32.toInt64 (X.1 0 16))) + 12345) &&& 2147483647)) (fun x1 => stp (ups X.1 0 16 x1, X.2) (fun X2 => dvc p1 (some ((((X2.1 0 16) / 65536) - ((X2.1 0 16) / 65536) / p1 * p1), X2))))
def g_X4_days_55 (v1 : Int32) (v3 : Int32) : Nat → MS → Int32 → Int32 → Int32 → Option (Int32 × MS)
  | 0, _, _, _, _ => none
  | n + 1, X, v4, v5, v6 => (if v1 ≤ v6 then (if v3 = 0 then some (v4, X) else (if v3 = 1 then some (v5, X) else some ((X.1 0 16), X))) else bnd2 (f_X4_draw X 6) (fun r12 X13 => bnd2 (f_X4_draw X13 9) (fun r14 X15 => (f_X4_knowThen X15 r12 (r14 + 1) 0).bind (fun r16 => (f_X4_ones r16).bind (fun r17 => stp (v4 + r17) (fun x18 => stp (v6 + 1) (fun x19 => g_X4_days_55 v1 v3 n X15 x18 r17 x19)))))))
def f_X4_days (X : MS) (p1 : Int32) (p2 : Int32) (p3 : Int32) : Option (Int32 × MS) := (f_X4_in (Int32.toInt64 p1) 1 60).bind (fun r1 => (if r1 = 0 then some ((-102), X) else (if p2 < 0 then some ((-102), X) else (f_X4_in (Int32.toInt64 p3) 0 2).bind (fun r4 => (if r4 = 0 then some ((-102), X) else (f_X4_lacks X).bind (fun r6 => (if r6 = 0 then stp (ups X.1 0 16 p2, X.2) (fun X8 => g_X4_days_55 p1 p3 NF X8 0 0 0) else some ((-103), X))))))))
def f_X2_copy_9_3 (X : WS)  : Option WS := stp (upw X 10 (va_cpy (X 4) (X 10) (Int32.toNatClampNeg 0) (Int32.toNatClampNeg 0) (Int32.toNatClampNeg 6))) (fun X1 => stp (upw X1 11 (va_cpy (X1 5) (X1 11) (Int32.toNatClampNeg 0) (Int32.toNatClampNeg 0) (Int32.toNatClampNeg 6))) (fun X2 => stp (upw X2 12 (va_cpy (X2 6) (X2 12) (Int32.toNatClampNeg 0) (Int32.toNatClampNeg 0) (Int32.toNatClampNeg 6))) (fun X3 => stp (upw X3 13 (va_cpy (X3 7) (X3 13) (Int32.toNatClampNeg 0) (Int32.toNatClampNeg 0) (Int32.toNatClampNeg 6))) (fun X4 => stp (upw X4 14 (va_cpy (X4 8) (X4 14) (Int32.toNatClampNeg 0) (Int32.toNatClampNeg 0) (Int32.toNatClampNeg 6))) (fun X5 => stp (X5 3 5) (fun x6 => stp (ups X5 9 5 x6) (fun X7 => stp (X7 3 6) (fun x8 => stp (ups X7 9 6 x8) (fun X9 => stp (X9 3 7) (fun x10 => stp (ups X9 9 7 x10) (fun X11 => stp (X11 3 8) (fun x12 => stp (ups X11 9 8 x12) (fun X13 => stp (X13 3 9) (fun x14 => stp (ups X13 9 9 x14) (fun X15 => stp (X15 3 10) (fun x16 => stp (ups X15 9 10 x16) (fun X17 => stp (X17 3 11) (fun x18 => stp (ups X17 9 11 x18) (fun X19 => stp (X19 3 12) (fun x20 => stp (ups X19 9 12 x20) (fun X21 => stp (X21 3 13) (fun x22 => stp (ups X21 9 13 x22) (fun X23 => stp (X23 3 14) (fun x24 => stp (ups X23 9 14 x24) (fun X25 => stp (X25 3 15) (fun x26 => stp (ups X25 9 15 x26) (fun X27 => stp (X27 3 16) (fun x28 => stp (ups X27 9 16 x28) (fun X29 => some X29)))))))))))))))))))))))))))))
def f_X3_image (X : WS)  : Option (Int32 × WS) := (f_X3_hasTown X).bind (fun r1 => (if r1 = 0 then some ((-103), X) else (f_X2_copy_9_3 X).bind (fun X3 => stp (ups X3 0 4 1) (fun X4 => some ((X4 3 12), X4)))))
def g_X4_copy_3_6_2 : Nat → MS → Int32 → Option MS
  | 0, _, _ => none
  | n + 1, X, v2 => (if 12 ≤ v2 then some X else ixc v2 12 (stp (X.1 3 (Int32.toNatClampNeg v2)) (fun x4 => ixc v2 12 (stp (ups X.1 6 (Int32.toNatClampNeg v2) x4, X.2) (fun X5 => stp (v2 + 1) (fun x6 => g_X4_copy_3_6_2 n X5 x6))))))
def f_X4_copy_3_6 (X : MS)  : Option MS := g_X4_copy_3_6_2 NF X 0
def g_X4_copy_5_7_2 : Nat → MS → Int32 → Option MS
  | 0, _, _ => none
  | n + 1, X, v2 => (if 16 ≤ v2 then some X else ixc v2 16 (stp (X.1 5 (Int32.toNatClampNeg v2)) (fun x4 => ixc v2 16 (stp (ups X.1 7 (Int32.toNatClampNeg v2) x4, X.2) (fun X5 => stp (v2 + 1) (fun x6 => g_X4_copy_5_7_2 n X5 x6))))))
def f_X4_copy_5_7 (X : MS)  : Option MS := g_X4_copy_5_7_2 NF X 0
def g_X4_copy_2_8_2 : Nat → MS → Int32 → Option MS
  | 0, _, _ => none
  | n + 1, X, v2 => (if 6 ≤ v2 then some X else ixc v2 6 (stp (X.1 2 (Int32.toNatClampNeg v2)) (fun x4 => ixc v2 6 (stp (ups X.1 8 (Int32.toNatClampNeg v2) x4, X.2) (fun X5 => stp (v2 + 1) (fun x6 => g_X4_copy_2_8_2 n X5 x6))))))
def f_X4_copy_2_8 (X : MS)  : Option MS := g_X4_copy_2_8_2 NF X 0
def f_X4_image (X : MS)  : Option (Int32 × MS) := (f_X4_lacks X).bind (fun r1 => (if r1 = 0 then (f_X4_copy_3_6 X).bind (fun X3 => (f_X4_copy_5_7 X3).bind (fun X4 => (f_X4_copy_2_8 X4).bind (fun X5 => stp (X5.1 0 11) (fun x6 => stp (ups X5.1 0 18 x6, X5.2) (fun X7 => stp (X7.1 0 3) (fun x8 => stp (ups X7.1 0 19 x8, X7.2) (fun X9 => stp (X9.1 0 5) (fun x10 => stp (ups X9.1 0 20 x10, X9.2) (fun X11 => stp (X11.1 0 6) (fun x12 => stp (ups X11.1 0 21 x12, X11.2) (fun X13 => stp (X13.1 0 7) (fun x14 => stp (ups X13.1 0 22 x14, X13.2) (fun X15 => stp (X15.1 0 8) (fun x16 => stp (ups X15.1 0 23 x16, X15.2) (fun X17 => stp (X17.1 0 14) (fun x18 => stp (ups X17.1 0 24 x18, X17.2) (fun X19 => stp (X19.1 0 9) (fun x20 => stp (ups X19.1 0 17 x20, X19.2) (fun X21 => some ((X21.1 0 7), X21)))))))))))))))))))) else some ((-103), X)))
def f_X2_copy_3_9 (X : WS)  : Option WS := stp (upw X 4 (va_cpy (X 10) (X 4) (Int32.toNatClampNeg 0) (Int32.toNatClampNeg 0) (Int32.toNatClampNeg 6))) (fun X1 => stp (upw X1 5 (va_cpy (X1 11) (X1 5) (Int32.toNatClampNeg 0) (Int32.toNatClampNeg 0) (Int32.toNatClampNeg 6))) (fun X2 => stp (upw X2 6 (va_cpy (X2 12) (X2 6) (Int32.toNatClampNeg 0) (Int32.toNatClampNeg 0) (Int32.toNatClampNeg 6))) (fun X3 => stp (upw X3 7 (va_cpy (X3 13) (X3 7) (Int32.toNatClampNeg 0) (Int32.toNatClampNeg 0) (Int32.toNatClampNeg 6))) (fun X4 => stp (upw X4 8 (va_cpy (X4 14) (X4 8) (Int32.toNatClampNeg 0) (Int32.toNatClampNeg 0) (Int32.toNatClampNeg 6))) (fun X5 => stp (X5 9 5) (fun x6 => stp (ups X5 3 5 x6) (fun X7 => stp (X7 9 6) (fun x8 => stp (ups X7 3 6 x8) (fun X9 => stp (X9 9 7) (fun x10 => stp (ups X9 3 7 x10) (fun X11 => stp (X11 9 8) (fun x12 => stp (ups X11 3 8 x12) (fun X13 => stp (X13 9 9) (fun x14 => stp (ups X13 3 9 x14) (fun X15 => stp (X15 9 10) (fun x16 => stp (ups X15 3 10 x16) (fun X17 => stp (X17 9 11) (fun x18 => stp (ups X17 3 11 x18) (fun X19 => stp (X19 9 12) (fun x20 => stp (ups X19 3 12 x20) (fun X21 => stp (X21 9 13) (fun x22 => stp (ups X21 3 13 x22) (fun X23 => stp (X23 9 14) (fun x24 => stp (ups X23 3 14 x24) (fun X25 => stp (X25 9 15) (fun x26 => stp (ups X25 3 15 x26) (fun X27 => stp (X27 9 16) (fun x28 => stp (ups X27 3 16 x28) (fun X29 => some X29)))))))))))))))))))))))))))))
def f_X3_restore (X : WS)  : Option (Int32 × WS) := (if (X 0 4) = 0 then some ((-103), X) else (f_X2_copy_3_9 X).bind (fun X2 => some ((X2 3 12), X2)))
def g_X4_copy_6_3_2 : Nat → MS → Int32 → Option MS
  | 0, _, _ => none
  | n + 1, X, v2 => (if 12 ≤ v2 then some X else ixc v2 12 (stp (X.1 6 (Int32.toNatClampNeg v2)) (fun x4 => ixc v2 12 (stp (ups X.1 3 (Int32.toNatClampNeg v2) x4, X.2) (fun X5 => stp (v2 + 1) (fun x6 => g_X4_copy_6_3_2 n X5 x6))))))
def f_X4_copy_6_3 (X : MS)  : Option MS := g_X4_copy_6_3_2 NF X 0
def g_X4_copy_7_5_2 : Nat → MS → Int32 → Option MS
  | 0, _, _ => none
  | n + 1, X, v2 => (if 16 ≤ v2 then some X else ixc v2 16 (stp (X.1 7 (Int32.toNatClampNeg v2)) (fun x4 => ixc v2 16 (stp (ups X.1 5 (Int32.toNatClampNeg v2) x4, X.2) (fun X5 => stp (v2 + 1) (fun x6 => g_X4_copy_7_5_2 n X5 x6))))))
def f_X4_copy_7_5 (X : MS)  : Option MS := g_X4_copy_7_5_2 NF X 0
def g_X4_copy_8_2_2 : Nat → MS → Int32 → Option MS
  | 0, _, _ => none
  | n + 1, X, v2 => (if 6 ≤ v2 then some X else ixc v2 6 (stp (X.1 8 (Int32.toNatClampNeg v2)) (fun x4 => ixc v2 6 (stp (ups X.1 2 (Int32.toNatClampNeg v2) x4, X.2) (fun X5 => stp (v2 + 1) (fun x6 => g_X4_copy_8_2_2 n X5 x6))))))
def f_X4_copy_8_2 (X : MS)  : Option MS := g_X4_copy_8_2_2 NF X 0
def f_X4_restore (X : MS)  : Option (Int32 × MS) := (if (X.1 0 17) = (X.1 0 9) then (f_X4_copy_6_3 X).bind (fun X2 => (f_X4_copy_7_5 X2).bind (fun X3 => (f_X4_copy_8_2 X3).bind (fun X4 => stp (X4.1 0 18) (fun x5 => stp (ups X4.1 0 11 x5, X4.2) (fun X6 => stp (X6.1 0 19) (fun x7 => stp (ups X6.1 0 3 x7, X6.2) (fun X8 => stp (X8.1 0 20) (fun x9 => stp (ups X8.1 0 5 x9, X8.2) (fun X10 => stp (X10.1 0 21) (fun x11 => stp (ups X10.1 0 6 x11, X10.2) (fun X12 => stp (X12.1 0 22) (fun x13 => stp (ups X12.1 0 7 x13, X12.2) (fun X14 => stp (X14.1 0 23) (fun x15 => stp (ups X14.1 0 8 x15, X14.2) (fun X16 => stp (X16.1 0 24) (fun x17 => stp (ups X16.1 0 14 x17, X16.2) (fun X18 => some ((X18.1 0 7), X18)))))))))))))))))) else some ((-103), X))
def f_X3_count (X : WS) (p1 : Int32) : Option Int32 := (if p1 = 0 then some (X 3 5) else (if p1 = 1 then some (X 3 9) else (if p1 = 2 then some (X 3 10) else (if p1 = 3 then some (X 3 11) else (if p1 = 4 then (f_X2_knowing X (X 3 7)).bind (fun r6 => (f_J6_bitCount_0f7a4 r6).bind (fun r7 => some r7)) else (if p1 = 5 then some (X 3 12) else (if p1 = 6 then some (X 3 13) else (if p1 = 7 then some (X 3 14) else (if p1 = 8 then some (X 1 1) else (if p1 = 9 then some (X 0 5) else some (-102)))))))))))
def f_X4_countOf (X : MS) (p1 : Int32) : Option Int32 := (if p1 = 0 then some (X.1 0 11) else (if p1 = 1 then some (X.1 0 3) else (if p1 = 2 then some (X.1 0 4) else (if p1 = 3 then some (X.1 0 5) else (if p1 = 4 then (f_X4_knowing X (X.1 0 6)).bind (fun r6 => (f_X4_ones r6).bind (fun r7 => some r7)) else (if p1 = 5 then some (X.1 0 7) else (if p1 = 6 then some (X.1 0 8) else (if p1 = 7 then some (X.1 0 14) else (if p1 = 8 then some (X.1 0 1) else (if p1 = 9 then some (X.1 0 9) else some (-102)))))))))))
def f_X4_count (X : MS) (p1 : Int32) : Option Int32 := (f_X4_countOf X p1).bind (fun r1 => some r1)
def f_X3_fold (p0 : Int64) (p2 : Int64) : Option Int64 := some ((31 * p0) + p2)
def g_X3_foldListeners_20 (X : WS) (k5 : Int64 → Int32 → Option Int64) : Nat → Int64 → Int32 → Int32 → Option Int64
  | 0, _, _, _ => none
  | n + 1, v3, v5, v6 => (if 5 < v6 then (f_X0_sentAway X v5 2 9).bind (fun r3 => (f_X3_howMany r3).bind (fun r4 => (f_X3_fold v3 (Int32.toInt64 r4)).bind (fun r5 => (f_X3_fold r5 (Int32.toInt64 r3)).bind (fun r6 => stp (v5 + 1) (fun x7 => k5 r6 x7))))) else (f_X3_about X v5 v6).bind (fun r8 => (f_X3_fold v3 (Int32.toInt64 r8)).bind (fun r9 => stp (v6 + 1) (fun x10 => g_X3_foldListeners_20 X k5 n r9 v5 x10))))
def g_X3_foldListeners_5 (X : WS) : Nat → Int64 → Int32 → Option Int64
  | 0, _, _ => none
  | n + 1, v3, v5 => (if (X 3 5) ≤ v5 then some v3 else g_X3_foldListeners_20 X (g_X3_foldListeners_5 X n) NF v3 v5 0)
def f_X3_foldListeners (X : WS) (p1 : Int64) : Option Int64 := g_X3_foldListeners_5 X NF p1 0
def g_X3_foldPlaces_5 (X : WS) : Nat → Int64 → Int32 → Option Int64
  | 0, _, _ => none
  | n + 1, v3, v5 => (if 6 ≤ v5 then some v3 else (f_X3_noise X v5).bind (fun r2 => (f_X3_fold v3 (Int32.toInt64 r2)).bind (fun r3 => (f_X3_would X v5 5).bind (fun r4 => (f_X3_fold r3 (Int32.toInt64 r4)).bind (fun r5 => stp (v5 + 1) (fun x6 => g_X3_foldPlaces_5 X n r5 x6))))))
def f_X3_foldPlaces (X : WS) (p1 : Int64) : Option Int64 := g_X3_foldPlaces_5 X NF p1 0
def g_X3_foldQuestions_52 (v5 : Int32) : Nat → WS → Int64 → Int32 → Option (Int64 × WS)
  | 0, _, _, _ => none
  | n + 1, X, v3, v6 => (if 12 < v6 then bnd2 (f_X3_where X 0) (fun r12 X13 => (f_X3_fold v3 (Int32.toInt64 r12)).bind (fun r14 => bnd2 (f_X3_where X13 1) (fun r15 X16 => (f_X3_fold r14 (Int32.toInt64 r15)).bind (fun r17 => bnd2 (f_X3_ask X16) (fun r18 X19 => (f_X3_fold r17 (Int32.toInt64 r18)).bind (fun r20 => some (r20, X19))))))) else (f_X0_partOfPlan v5 v6).bind (fun r21 => (f_X3_fold v3 (Int32.toInt64 r21)).bind (fun r22 => stp (v6 + 1) (fun x23 => g_X3_foldQuestions_52 v5 n X r22 x23))))
def f_X3_foldQuestions (X : WS) (p1 : Int64) : Option (Int64 × WS) := bnd2 (f_X3_least X 0) (fun r1 X2 => (f_X3_fold p1 (Int32.toInt64 r1)).bind (fun r3 => bnd2 (f_X3_least X2 1) (fun r4 X5 => (f_X3_fold r3 (Int32.toInt64 r4)).bind (fun r6 => (f_X2_everyone X5).bind (fun r7 => (f_X0_coverPlan X5 r7).bind (fun r8 => (f_X0_partOfPlan r8 0).bind (fun r9 => (f_X3_fold r6 (Int32.toInt64 r9)).bind (fun r10 => g_X3_foldQuestions_52 r8 NF X5 r10 10))))))))
def g_X3_digest_61 : Nat → WS → Int64 → Int32 → Option (Int64 × WS)
  | 0, _, _, _ => none
  | n + 1, X, v1, v3 => (if 9 < v3 then some (v1, X) else (f_X3_count X v3).bind (fun r6 => (f_X3_fold v1 (Int32.toInt64 r6)).bind (fun r7 => stp (v3 + 1) (fun x8 => g_X3_digest_61 n X r7 x8))))
def g_X3_digest_27 : Nat → WS → Int64 → Int32 → Option (Int64 × WS)
  | 0, _, _, _ => none
  | n + 1, X, v1, v3 => (if (X 1 1) ≤ v3 then g_X3_digest_61 NF X v1 0 else ixc v3 12 ((f_X3_fold v1 (Int32.toInt64 (X 2 (Int32.toNatClampNeg v3)))).bind (fun r10 => stp (v3 + 1) (fun x11 => g_X3_digest_27 n X r10 x11))))
def f_X3_digest (X : WS)  : Option (Int64 × WS) := (f_X3_foldListeners X 1009).bind (fun r1 => (f_X3_hasTown X).bind (fun r2 => (if r2 = 0 then g_X3_digest_27 NF X r1 0 else (f_X3_foldPlaces X r1).bind (fun r12 => bnd2 (f_X3_foldQuestions X r12) (fun r13 X14 => g_X3_digest_27 NF X14 r13 0)))))
def f_X4_say (X : MS) (p1 : Int64) : Option MS := stp ((31 * X.2) + p1) (fun x1 => stp (X.1, x1) (fun X2 => some X2))
def g_X4_sayTown_77 : Nat → MS → Int32 → Option MS
  | 0, _, _ => none
  | n + 1, X, v1 => (if 13 ≤ v1 then (f_X4_whereOf X 0).bind (fun r11 => (f_X4_say X (Int32.toInt64 r11)).bind (fun X12 => (f_X4_whereOf X12 1).bind (fun r13 => (f_X4_say X12 (Int32.toInt64 r13)).bind (fun X14 => (f_X4_askOf X14).bind (fun r15 => (f_X4_say X14 (Int32.toInt64 r15)).bind (fun X16 => some X16)))))) else (f_X4_allListeners X).bind (fun r17 => bnd2 (f_X4_coverOf X r17 v1) (fun r18 X19 => (f_X4_say X19 (Int32.toInt64 r18)).bind (fun X20 => stp (v1 + 1) (fun x21 => g_X4_sayTown_77 n X20 x21)))))
def g_X4_sayTown_2 : Nat → MS → Int32 → Option MS
  | 0, _, _ => none
  | n + 1, X, v1 => (if 6 ≤ v1 then (f_X4_leastOf X 0).bind (fun r2 => (f_X4_say X (Int32.toInt64 r2)).bind (fun X3 => (f_X4_leastOf X3 1).bind (fun r4 => (f_X4_say X3 (Int32.toInt64 r4)).bind (fun X5 => (f_X4_allListeners X5).bind (fun r6 => bnd2 (f_X4_coverOf X5 r6 0) (fun r7 X8 => (f_X4_say X8 (Int32.toInt64 r7)).bind (fun X9 => g_X4_sayTown_77 NF X9 10))))))) else ixc v1 6 ((f_X4_say X (Int32.toInt64 (X.1 2 (Int32.toNatClampNeg v1)))).bind (fun X23 => (f_X4_knowThen X23 v1 5 (X23.1 0 6)).bind (fun r24 => (f_X4_say X23 (Int32.toInt64 r24)).bind (fun X25 => stp (v1 + 1) (fun x26 => g_X4_sayTown_2 n X25 x26))))))
def f_X4_sayTown (X : MS)  : Option MS := g_X4_sayTown_2 NF X 0
def g_X4_digest_116 : Nat → MS → Int32 → Option (Int64 × MS)
  | 0, _, _ => none
  | n + 1, X, v1 => (if 10 ≤ v1 then some (X.2, X) else (f_X4_countOf X v1).bind (fun r7 => (f_X4_say X (Int32.toInt64 r7)).bind (fun X8 => stp (v1 + 1) (fun x9 => g_X4_digest_116 n X8 x9))))
def g_X4_digest_89 : Nat → MS → Int32 → Option (Int64 × MS)
  | 0, _, _ => none
  | n + 1, X, v1 => (if (X.1 0 1) ≤ v1 then g_X4_digest_116 NF X 0 else ixc v1 12 ((f_X4_say X (Int32.toInt64 (X.1 1 (Int32.toNatClampNeg v1)))).bind (fun X11 => stp (v1 + 1) (fun x12 => g_X4_digest_89 n X11 x12))))
def g_X4_digest_19 (k9 : MS → Int32 → Option (Int64 × MS)) : Nat → MS → Int32 → Int32 → Option (Int64 × MS)
  | 0, _, _, _ => none
  | n + 1, X, v1, v2 => (if 6 ≤ v2 then (f_X4_tellHush X v1 2 9 0).bind (fun r15 => (f_X4_say X (Int32.toInt64 r15)).bind (fun X16 => (f_X4_tellHush X16 v1 2 9 1).bind (fun r17 => (f_X4_say X16 (Int32.toInt64 r17)).bind (fun X18 => stp (v1 + 1) (fun x19 => k9 X18 x19))))) else (f_X4_listenerOf X v1 v2).bind (fun r20 => (f_X4_say X (Int32.toInt64 r20)).bind (fun X21 => stp (v2 + 1) (fun x22 => g_X4_digest_19 k9 n X21 v1 x22))))
def g_X4_digest_9 : Nat → MS → Int32 → Option (Int64 × MS)
  | 0, _, _ => none
  | n + 1, X, v1 => (if (X.1 0 11) ≤ v1 then (f_X4_lacks X).bind (fun r3 => (if r3 = 0 then (f_X4_sayTown X).bind (fun X13 => g_X4_digest_89 NF X13 0) else g_X4_digest_89 NF X 0)) else g_X4_digest_19 (g_X4_digest_9 n) NF X v1 0)
def f_X4_digest (X : MS)  : Option (Int64 × MS) := stp (X.1, 1009) (fun X1 => g_X4_digest_9 NF X1 0)
end
section
abbrev classes : List vw_C := [(RX0, TX0, 8), (RX1, TX1, 2), (RX2, TX2, 17), (RX3, TX3, 6), (RX4, TX4, 29)]
def wl (a : Nat → Nat) (cA : ClassId) (X : WS) : va_W := [(a 0, .inr (3, [.ref (a 1), .ref (a 3), .ref (a 9), .ref (a 15), .int (X 0 4), .int (X 0 5)])), (a 1, .inr (1, [.ref (a 2), .int (X 1 1)])), (a 2, .inl (cA, 12, .inl (X 2))), (a 3, .inr (2, [.ref (a 4), .ref (a 5), .ref (a 6), .ref (a 7), .ref (a 8), .int (X 3 5), .int (X 3 6), .int (X 3 7), .int (X 3 8), .int (X 3 9), .int (X 3 10), .int (X 3 11), .int (X 3 12), .int (X 3 13), .int (X 3 14), .int (X 3 15), .int (X 3 16)])), (a 4, .inl (cA, 6, .inl (X 4))), (a 5, .inl (cA, 6, .inl (X 5))), (a 6, .inl (cA, 6, .inl (X 6))), (a 7, .inl (cA, 6, .inl (X 7))), (a 8, .inl (cA, 6, .inl (X 8))), (a 9, .inr (2, [.ref (a 10), .ref (a 11), .ref (a 12), .ref (a 13), .ref (a 14), .int (X 9 5), .int (X 9 6), .int (X 9 7), .int (X 9 8), .int (X 9 9), .int (X 9 10), .int (X 9 11), .int (X 9 12), .int (X 9 13), .int (X 9 14), .int (X 9 15), .int (X 9 16)])), (a 10, .inl (cA, 6, .inl (X 10))), (a 11, .inl (cA, 6, .inl (X 11))), (a 12, .inl (cA, 6, .inl (X 12))), (a 13, .inl (cA, 6, .inl (X 13))), (a 14, .inl (cA, 6, .inl (X 14))), (a 15, .inr (0, [.ref (a 16), .int (X 15 1), .int (X 15 2), .int (X 15 3), .int (X 15 4), .int (X 15 5), .int (X 15 6), .int (X 15 7)])), (a 16, .inl (cA, 6, .inl (X 16)))]
def wm (a : Nat → Nat) (cA : ClassId) (X : MS) : va_W := [(a 0, .inr (4, [.ref (a 1), .int (X.1 0 1), .int (X.1 0 2), .int (X.1 0 3), .int (X.1 0 4), .int (X.1 0 5), .int (X.1 0 6), .int (X.1 0 7), .int (X.1 0 8), .int (X.1 0 9), .ref (a 2), .int (X.1 0 11), .ref (a 3), .ref (a 4), .int (X.1 0 14), .ref (a 5), .int (X.1 0 16), .int (X.1 0 17), .int (X.1 0 18), .int (X.1 0 19), .int (X.1 0 20), .int (X.1 0 21), .int (X.1 0 22), .int (X.1 0 23), .int (X.1 0 24), .ref (a 6), .ref (a 7), .ref (a 8), .long X.2])), (a 1, .inl (cA, 12, .inl (X.1 1))), (a 2, .inl (cA, 6, .inl (X.1 2))), (a 3, .inl (cA, 12, .inl (X.1 3))), (a 4, .inl (cA, 3, .inl (X.1 4))), (a 5, .inl (cA, 16, .inl (X.1 5))), (a 6, .inl (cA, 12, .inl (X.1 6))), (a 7, .inl (cA, 16, .inl (X.1 7))), (a 8, .inl (cA, 6, .inl (X.1 8)))]
theorem va_D.same {A : Nat → Prop} {w1 w2 : va_W} (h : va_D A w1) (e : w1.map (fun q => q.1) = w2.map (fun q => q.1)) : va_D A w2 := by
  have at' : ∀ (k : Nat) (q : Nat × va_E), w2[k]? = some q → ∃ q', w1[k]? = some q' ∧ q'.1 = q.1 := by
    intro k q hq
    have h1 : (w1.map (fun q => q.1))[k]? = some q.1 := by rw [e, List.getElem?_map, hq]; rfl
    rw [List.getElem?_map] at h1
    cases hi : w1[k]? with
    | none => rw [hi] at h1; cases h1
    | some q' => rw [hi] at h1; exact ⟨q', rfl, Option.some.inj h1⟩
  refine ⟨fun i j p q hp hq hpq => ?_, fun k q hq => ?_⟩
  · obtain ⟨p', h1, h2⟩ := at' i p hp
    obtain ⟨q', h3, h4⟩ := at' j q hq
    exact h.1 i j p' q' h1 h3 (by rw [h2, h4]; exact hpq)
  · obtain ⟨q', h1, h2⟩ := at' k q hq
    rw [← h2]; exact h.2 k q' h1
theorem wlD {A : Nat → Prop} {a : Nat → Nat} {cA : ClassId} {X X' : WS} (h : va_D A (wl a cA X)) : va_D A (wl a cA X') := h.same rfl
theorem wmD {A : Nat → Prop} {a : Nat → Nat} {cA : ClassId} {X X' : MS} (h : va_D A (wm a cA X)) : va_D A (wm a cA X') := h.same rfl
abbrev NT : Type := String × Nat × String × String × String × String
def nwt : List NT := [("PaidToWhisper", 231, "PaidToWhisper$Page", "letters", "[I", "PaidToWhisper"), ("PaidToWhisper", 216, "PaidToWhisper$Page", "length", "I", "PaidToWhisper"), ("PaidToWhisper", 67, "PaidToWhisper$Town", "noise", "[I", "PaidToWhisper"), ("PaidToWhisper", 81, "PaidToWhisper$Town", "kinds", "[I", "PaidToWhisper"), ("PaidToWhisper", 96, "PaidToWhisper$Town", "needs", "[I", "PaidToWhisper"), ("PaidToWhisper", 99, "PaidToWhisper$Town", "repeats", "[I", "PaidToWhisper"), ("PaidToWhisper", 84, "PaidToWhisper$Town", "places", "[I", "PaidToWhisper"), ("PaidToWhisper", 177, "PaidToWhisper$Town", "listeners", "I", "PaidToWhisper"), ("PaidToWhisper$Inquiry", 27, "PaidToWhisper$Town", "heard", "I", "PaidToWhisper"), ("PaidToWhisper", 87, "PaidToWhisper$Town", "heard", "I", "PaidToWhisper"), ("PaidToWhisper$Inquiry", 22, "PaidToWhisper$Town", "voice", "I", "PaidToWhisper"), ("PaidToWhisper", 109, "PaidToWhisper$Town", "voice", "I", "PaidToWhisper"), ("PaidToWhisper", 202, "PaidToWhisper$Town", "law", "I", "PaidToWhisper"), ("PaidToWhisper", 205, "PaidToWhisper$Town", "cries", "I", "PaidToWhisper"), ("PaidToWhisper", 199, "PaidToWhisper$Town", "decrees", "I", "PaidToWhisper"), ("PaidToWhisper", 213, "PaidToWhisper$Town", "days", "I", "PaidToWhisper"), ("PaidToWhisper", 158, "PaidToWhisper$Town", "told", "I", "PaidToWhisper"), ("PaidToWhisper", 135, "PaidToWhisper$Inquiry", "quietest", "I", "PaidToWhisper"), ("PaidToWhisper", 138, "PaidToWhisper$Inquiry", "fewest", "I", "PaidToWhisper"), ("PaidToWhisper", 171, "PaidToWhisper$Inquiry", "found", "I", "PaidToWhisper"), ("PaidToWhisper", 174, "PaidToWhisper$Inquiry", "first", "I", "PaidToWhisper"), ("PaidToWhisper", 187, "PaidToWhisper$Inquiry", "together", "I", "PaidToWhisper"), ("PaidToWhisper", 190, "PaidToWhisper$Inquiry", "last", "I", "PaidToWhisper"), ("PaidToWhisper", 193, "PaidToWhisper$Inquiry", "seed", "I", "PaidToWhisper")]
theorem nk_58 : (("PaidToWhisper", 231, "PaidToWhisper$Page", "letters", "[I", "PaidToWhisper") : NT) ∈ nwt := by decide +kernel
theorem nk_60 : (("PaidToWhisper", 216, "PaidToWhisper$Page", "length", "I", "PaidToWhisper") : NT) ∈ nwt := by decide +kernel
theorem nk_74 : (("PaidToWhisper", 67, "PaidToWhisper$Town", "noise", "[I", "PaidToWhisper") : NT) ∈ nwt := by decide +kernel
theorem nk_76 : (("PaidToWhisper", 81, "PaidToWhisper$Town", "kinds", "[I", "PaidToWhisper") : NT) ∈ nwt := by decide +kernel
theorem nk_78 : (("PaidToWhisper", 96, "PaidToWhisper$Town", "needs", "[I", "PaidToWhisper") : NT) ∈ nwt := by decide +kernel
theorem nk_80 : (("PaidToWhisper", 99, "PaidToWhisper$Town", "repeats", "[I", "PaidToWhisper") : NT) ∈ nwt := by decide +kernel
theorem nk_82 : (("PaidToWhisper", 84, "PaidToWhisper$Town", "places", "[I", "PaidToWhisper") : NT) ∈ nwt := by decide +kernel
theorem nk_84 : (("PaidToWhisper", 177, "PaidToWhisper$Town", "listeners", "I", "PaidToWhisper") : NT) ∈ nwt := by decide +kernel
theorem nk_86 : (("PaidToWhisper$Inquiry", 27, "PaidToWhisper$Town", "heard", "I", "PaidToWhisper") : NT) ∈ nwt := by decide +kernel
theorem nk_88 : (("PaidToWhisper", 87, "PaidToWhisper$Town", "heard", "I", "PaidToWhisper") : NT) ∈ nwt := by decide +kernel
theorem nk_90 : (("PaidToWhisper$Inquiry", 22, "PaidToWhisper$Town", "voice", "I", "PaidToWhisper") : NT) ∈ nwt := by decide +kernel
theorem nk_92 : (("PaidToWhisper", 109, "PaidToWhisper$Town", "voice", "I", "PaidToWhisper") : NT) ∈ nwt := by decide +kernel
theorem nk_94 : (("PaidToWhisper", 202, "PaidToWhisper$Town", "law", "I", "PaidToWhisper") : NT) ∈ nwt := by decide +kernel
theorem nk_96 : (("PaidToWhisper", 205, "PaidToWhisper$Town", "cries", "I", "PaidToWhisper") : NT) ∈ nwt := by decide +kernel
theorem nk_98 : (("PaidToWhisper", 199, "PaidToWhisper$Town", "decrees", "I", "PaidToWhisper") : NT) ∈ nwt := by decide +kernel
theorem nk_100 : (("PaidToWhisper", 213, "PaidToWhisper$Town", "days", "I", "PaidToWhisper") : NT) ∈ nwt := by decide +kernel
theorem nk_102 : (("PaidToWhisper", 158, "PaidToWhisper$Town", "told", "I", "PaidToWhisper") : NT) ∈ nwt := by decide +kernel
theorem nk_148 : (("PaidToWhisper", 135, "PaidToWhisper$Inquiry", "quietest", "I", "PaidToWhisper") : NT) ∈ nwt := by decide +kernel
theorem nk_150 : (("PaidToWhisper", 138, "PaidToWhisper$Inquiry", "fewest", "I", "PaidToWhisper") : NT) ∈ nwt := by decide +kernel
theorem nk_152 : (("PaidToWhisper", 171, "PaidToWhisper$Inquiry", "found", "I", "PaidToWhisper") : NT) ∈ nwt := by decide +kernel
theorem nk_154 : (("PaidToWhisper", 174, "PaidToWhisper$Inquiry", "first", "I", "PaidToWhisper") : NT) ∈ nwt := by decide +kernel
theorem nk_156 : (("PaidToWhisper", 187, "PaidToWhisper$Inquiry", "together", "I", "PaidToWhisper") : NT) ∈ nwt := by decide +kernel
theorem nk_158 : (("PaidToWhisper", 190, "PaidToWhisper$Inquiry", "last", "I", "PaidToWhisper") : NT) ∈ nwt := by decide +kernel
theorem nk_160 : (("PaidToWhisper", 193, "PaidToWhisper$Inquiry", "seed", "I", "PaidToWhisper") : NT) ∈ nwt := by decide +kernel
def nwc (q : NT) : Cond := .fieldLinkNest q.1 q.2.1 q.2.2.1 q.2.2.2.1 q.2.2.2.2.1 q.2.2.2.2.2
def nst (U : State) : Prop := ∀ q ∈ nwt, va_Nw (nwc q) U
theorem nst.warm {s U : State} (hW : s.WarmedH U.vm) (h : nst s) : nst U := fun q hq => va_Nw.warmF hW (h q hq)
theorem nst.same {u U : State} (e : u.vm = U.vm) (h : nst u) : nst U := fun q hq => va_Nw.same rfl e (h q hq)
def Pc0 (av : List Value) : Array Value → State → Prop := va_Pc av (fun _ => True)
def PcX (dC : Nat → ClassId) (dI : Nat → Nat → Nat) (a : Nat → Nat) (cA : ClassId) (X : WS) (av : List Value) : Array Value → State → Prop := va_Pc av (fun U => va_P (dC, dI) classes (wl a cA X) U.heap ∧ va_K (dC, dI) classes [(cA, .int)] U ∧ nst U)
def PcXD (dC : Nat → ClassId) (dI : Nat → Nat → Nat) (A : Nat → Prop) (a : Nat → Nat) (cA : ClassId) (X : WS) (av : List Value) : Array Value → State → Prop := va_Pc av (fun U => va_P (dC, dI) classes (wl a cA X) U.heap ∧ va_K (dC, dI) classes [(cA, .int)] U ∧ nst U ∧ va_D A (wl a cA X))
def PcM (dC : Nat → ClassId) (dI : Nat → Nat → Nat) (a : Nat → Nat) (cA : ClassId) (X : MS) (av : List Value) : Array Value → State → Prop := va_Pc av (fun U => va_P (dC, dI) classes (wm a cA X) U.heap ∧ va_K (dC, dI) classes [(cA, .int)] U)
def PcMD (dC : Nat → ClassId) (dI : Nat → Nat → Nat) (A : Nat → Prop) (a : Nat → Nat) (cA : ClassId) (X : MS) (av : List Value) : Array Value → State → Prop := va_Pc av (fun U => va_P (dC, dI) classes (wm a cA X) U.heap ∧ va_K (dC, dI) classes [(cA, .int)] U ∧ va_D A (wm a cA X))
theorem bl0 {av : List Value} : FrameBlind (Pc0 av) := fun _ _ _ _ q => q
theorem blX {dC : Nat → ClassId} {dI : Nat → Nat → Nat} {a : Nat → Nat} {cA : ClassId} {X : WS} {av : List Value} : FrameBlind (PcX dC dI a cA X av) := fun a U g mk q => by obtain ⟨q0, qP, qK, qN⟩ := q; exact ⟨q0, qP, va_K.moved (u := U) (U := U.calling g mk a) (Vm.Alike.refl U.vm) qK, nst.same (u := U) (U := U.calling g mk a) rfl qN⟩
theorem blXD {dC : Nat → ClassId} {dI : Nat → Nat → Nat} {A : Nat → Prop} {a : Nat → Nat} {cA : ClassId} {X : WS} {av : List Value} : FrameBlind (PcXD dC dI A a cA X av) := fun a U g mk q => by obtain ⟨q0, qP, qK, qN, qD⟩ := q; exact ⟨q0, qP, va_K.moved (u := U) (U := U.calling g mk a) (Vm.Alike.refl U.vm) qK, nst.same (u := U) (U := U.calling g mk a) rfl qN, qD⟩
theorem blM {dC : Nat → ClassId} {dI : Nat → Nat → Nat} {a : Nat → Nat} {cA : ClassId} {X : MS} {av : List Value} : FrameBlind (PcM dC dI a cA X av) := fun a U g mk q => by obtain ⟨q0, qP, qK⟩ := q; exact ⟨q0, qP, va_K.moved (u := U) (U := U.calling g mk a) (Vm.Alike.refl U.vm) qK⟩
theorem blMD {dC : Nat → ClassId} {dI : Nat → Nat → Nat} {A : Nat → Prop} {a : Nat → Nat} {cA : ClassId} {X : MS} {av : List Value} : FrameBlind (PcMD dC dI A a cA X av) := fun a U g mk q => by obtain ⟨q0, qP, qK, qD⟩ := q; exact ⟨q0, qP, va_K.moved (u := U) (U := U.calling g mk a) (Vm.Alike.refl U.vm) qK, qD⟩
end
section
set_option maxHeartbeats 4000000 in
set_option maxRecDepth 100000 in
theorem c_X1_add (l : Launch) (dC : Nat → ClassId) (dI : Nat → Nat → Nat) (A : Nat → Prop) (a : Nat → Nat) (cA : ClassId) (X : WS) (p1 : Int32) (out : (Int32 × WS)) (hw : f_X1_add X p1 = some out) : Met l yX1_add (.code yX1_add cX1_add 2 (some .int) :: lw_g) ({ frames := 0, cells := 0, slots := 0, locals := 0 }) (PcXD dC dI A a cA X [.ref (a 1), .int p1]) (va_Qi (fun (r_ : Int32) (X_ : WS) => out = (r_, X_)) (fun X_ t => va_P (dC, dI) classes (wl a cA X_) t.heap ∧ va_K (dC, dI) classes [(cA, .int)] t) A) 0 0 (A) := by
  unfold f_X1_add at hw
  refine Met.ofW (cc := cX1_add) (maxL := 2) (ret := (some .int)) (by decide) rfl ?_
  intro p e s m args below meth c s₁ B hml hv
  obtain ⟨rfl, hP, hK, hN, hD0⟩ := hv
  have hx := B.exec
  have hb := B.bytes
  have hr := B.returns
  have hts0 := atoms_spec (ws := (.code yX1_add cX1_add 2 (some .int) :: lw_g)) B.pre
  have hts : ∀ w ∈ lw_g, w.before (([.ref (a 1), .int p1] : List Value).toArray) s = true := fun w h => hts0 w (List.mem_cons_of_mem _ h)
  clear hts0
  have hown : s.vm.findClass RX1 = some m.cls := findClass_of_methodNamed B.named
  have hlocks := B.notSynchronized
  have hret : ∀ (pc : Nat) (ls : Array Slot) (v : Int32) (X_ : WS) (H : Heap) (locs : List Loc), (v, X_) = out → va_P (dC, dI) classes (wl a cA X_) H → va_S A s.heap H locs → decode cX1_add pc = .ok (.ireturn, 1) → W p l e ({ frames := 0, cells := 0, slots := 0, locals := 0 }) s m (([.ref (a 1), .int p1] : List Value).toArray) below meth c H locs 0 0 (MQ below (va_Qi (fun (r_ : Int32) (X_ : WS) => out = (r_, X_)) (fun X_ t => va_P (dC, dI) classes (wl a cA X_) t.heap ∧ va_K (dC, dI) classes [(cA, .int)] t) A) (([.ref (a 1), .int p1] : List Value).toArray) s 0 0 (A)) (F0 m pc ls [.int v]) := fun pc ls v X_ H locs hv hP hS hd => W.iret hx hb hr (fun t ht hW => ⟨⟨v, X_, rfl, hv.symm, by rw [ht]; exact hP, va_K.moved hW.alike hK⟩, hS.F ht⟩) hS.2.2 hd
  show W p l e ({ frames := 0, cells := 0, slots := 0, locals := 0 }) s m (([.ref (a 1), .int p1] : List Value).toArray) below meth c s.heap [] 0 0 (MQ below (va_Qi (fun (r_ : Int32) (X_ : WS) => out = (r_, X_)) (fun X_ t => va_P (dC, dI) classes (wl a cA X_) t.heap ∧ va_K (dC, dI) classes [(cA, .int)] t) A) (([.ref (a 1), .int p1] : List Value).toArray) s 0 0 (A)) (entryFrame m (([.ref (a 1), .int p1] : List Value).toArray) 2)
  generalize MQ below (va_Qi (fun (r_ : Int32) (X_ : WS) => out = (r_, X_)) (fun X_ t => va_P (dC, dI) classes (wl a cA X_) t.heap ∧ va_K (dC, dI) classes [(cA, .int)] t) A) (([.ref (a 1), .int p1] : List Value).toArray) s 0 0 (A) = Q at hret ⊢
  have hS : va_S A s.heap s.heap [] := va_S.rf
  have hl := lv_entry ([.ref (a 1), .int p1]) (n := 2) (Nat.le_of_ble_eq_true rfl)
  rw [lg_entry_eq]
  generalize (lg_sl ([.ref (a 1), .int p1]) ++ List.replicate (2 - (lg_sl ([.ref (a 1), .int p1])).length) Slot.unset).toArray = ls at hl ⊢
  have hl : lv_has ls 2 [(0, .ref (a 1)), (1, .int p1)] := hl
  refine lv_aload_n hx hb dX1_add_0 rfl (lv_at hl 0 rfl) ?_
  refine va_get (D := (dC, dI)) (ci := 1) (v := .int (X 1 1)) (C := RX1) (T := TX1) (N := 2) hx hb hts iX1 hown hK hP 1 rfl rfl 1 (by decide) (hts _ wd_59) (fun _ h9 => h9) rfl dX1_add_1 ?_
  refine lv_bipush (v := 12) hx hb dX1_add_4 (by decide) ?_
  refine lv_icmp_lt (tgt := 12) hx hb dX1_add_6 (by decide) (fun c1 => ?_) (fun c1 => ?_)
  · have hw := ite_t hw c1
    refine lv_aload_n hx hb dX1_add_12 rfl (lv_at hl 0 rfl) ?_
    refine va_get (D := (dC, dI)) (ci := 1) (v := .ref (a 2)) (C := RX1) (T := TX1) (N := 2) hx hb hts iX1 hown hK hP 1 rfl rfl 0 (by decide) (hts _ wd_57) (fun _ h9 => h9) rfl dX1_add_13 ?_
    refine lv_aload_n hx hb dX1_add_16 rfl (lv_at hl 0 rfl) ?_
    refine va_get (D := (dC, dI)) (ci := 1) (v := .int (X 1 1)) (C := RX1) (T := TX1) (N := 2) hx hb hts iX1 hown hK hP 1 rfl rfl 1 (by decide) (hts _ wd_59) (fun _ h9 => h9) rfl dX1_add_17 ?_
    refine lv_iload_n hx hb dX1_add_20 rfl (lv_at hl 1 rfl) ?_
    obtain ⟨h2, hw⟩ := ixc_use hw
    refine va_iast hx hb hK hP (wlD hD0) hS 2 0 rfl rfl h2 dX1_add_21 (fun H locs hP hD_ hS => ?_)
    obtain ⟨X3, eX3⟩ : ∃ y : WS, y = (ups X 2 (Int32.toNatClampNeg (X 1 1)) p1) := ⟨_, rfl⟩
    have hw := stp_use hw eX3
    have hP : va_P (dC, dI) classes (wl a cA X3) H := by rw [eX3]; exact hP
    refine lv_aload_n hx hb dX1_add_22 rfl (lv_at hl 0 rfl) ?_
    refine lv_dup hx hb dX1_add_23 rfl ?_
    refine va_get (D := (dC, dI)) (ci := 1) (v := .int (X3 1 1)) (C := RX1) (T := TX1) (N := 2) hx hb hts iX1 hown hK hP 1 rfl rfl 1 (by decide) (hts _ wd_59) (fun _ h9 => h9) rfl dX1_add_24 ?_
    refine lv_iconst (v := 1) hx hb dX1_add_27 (by decide) ?_
    refine lv_iadd hx hb dX1_add_28 ?_
    refine lv_topi (fun x4 ex4 => ?_)
    have hw := stp_use hw ex4
    refine va_put (D := (dC, dI)) (ci := 1) (v := .int x4) (ty := .int) (C := RX1) (T := TX1) (N := 2) hx hb hts iX1 tyX1 tyX1_ok nmX1 hown hK hP (wlD hD0) hS 1 rfl rfl 1 (by decide) (hts _ wd_59) (fun _ h9 => h9) rfl (by decide +kernel) rfl rfl (Nat.le_of_ble_eq_true rfl) dX1_add_29 (fun H locs hP hD_ hS => ?_)
    obtain ⟨X5, eX5⟩ : ∃ y : WS, y = (ups X3 1 1 x4) := ⟨_, rfl⟩
    have hw := stp_use hw eX5
    have hP : va_P (dC, dI) classes (wl a cA X5) H := by rw [eX5]; exact hP
    refine lv_aload_n hx hb dX1_add_32 rfl (lv_at hl 0 rfl) ?_
    refine va_get (D := (dC, dI)) (ci := 1) (v := .int (X5 1 1)) (C := RX1) (T := TX1) (N := 2) hx hb hts iX1 hown hK hP 1 rfl rfl 1 (by decide) (hts _ wd_59) (fun _ h9 => h9) rfl dX1_add_33 ?_
    exact hret _ _ _ _ _ _ (Option.some.inj hw) hP hS dX1_add_36
  · have hw := ite_f hw c1
    refine lv_bipush (v := (-104)) hx hb dX1_add_9 (by decide) ?_
    exact hret _ _ _ _ _ _ (Option.some.inj hw) hP hS dX1_add_11
set_option maxHeartbeats 4000000 in
set_option maxRecDepth 100000 in
theorem c_X3_letter (l : Launch) (dC : Nat → ClassId) (dI : Nat → Nat → Nat) (A : Nat → Prop) (a : Nat → Nat) (cA : ClassId) (X : WS) (p1 : Int32) (out : (Int32 × WS)) (hw : f_X3_letter X p1 = some out) : Met l yX3_letter (.code yX3_letter cX3_letter 2 (some .int) :: lw_g) ({ frames := 1, cells := 0, slots := 0, locals := 21 }) (PcXD dC dI A a cA X [.ref (a 0), .int p1]) (va_Qi (fun (r_ : Int32) (X_ : WS) => out = (r_, X_)) (fun X_ t => va_P (dC, dI) classes (wl a cA X_) t.heap ∧ va_K (dC, dI) classes [(cA, .int)] t) A) 0 0 (A) := by
  unfold f_X3_letter at hw
  refine Met.ofW (cc := cX3_letter) (maxL := 2) (ret := (some .int)) (by decide) rfl ?_
  intro p e s m args below meth c s₁ B hml hv
  obtain ⟨rfl, hP, hK, hN, hD0⟩ := hv
  have hx := B.exec
  have hb := B.bytes
  have hr := B.returns
  have hts0 := atoms_spec (ws := (.code yX3_letter cX3_letter 2 (some .int) :: lw_g)) B.pre
  have hts : ∀ w ∈ lw_g, w.before (([.ref (a 0), .int p1] : List Value).toArray) s = true := fun w h => hts0 w (List.mem_cons_of_mem _ h)
  clear hts0
  have hown : s.vm.findClass RX3 = some m.cls := findClass_of_methodNamed B.named
  have hlocks := B.notSynchronized
  have hret : ∀ (pc : Nat) (ls : Array Slot) (v : Int32) (X_ : WS) (H : Heap) (locs : List Loc), (v, X_) = out → va_P (dC, dI) classes (wl a cA X_) H → va_S A s.heap H locs → decode cX3_letter pc = .ok (.ireturn, 1) → W p l e ({ frames := 1, cells := 0, slots := 0, locals := 21 }) s m (([.ref (a 0), .int p1] : List Value).toArray) below meth c H locs 0 0 (MQ below (va_Qi (fun (r_ : Int32) (X_ : WS) => out = (r_, X_)) (fun X_ t => va_P (dC, dI) classes (wl a cA X_) t.heap ∧ va_K (dC, dI) classes [(cA, .int)] t) A) (([.ref (a 0), .int p1] : List Value).toArray) s 0 0 (A)) (F0 m pc ls [.int v]) := fun pc ls v X_ H locs hv hP hS hd => W.iret hx hb hr (fun t ht hW => ⟨⟨v, X_, rfl, hv.symm, by rw [ht]; exact hP, va_K.moved hW.alike hK⟩, hS.F ht⟩) hS.2.2 hd
  show W p l e ({ frames := 1, cells := 0, slots := 0, locals := 21 }) s m (([.ref (a 0), .int p1] : List Value).toArray) below meth c s.heap [] 0 0 (MQ below (va_Qi (fun (r_ : Int32) (X_ : WS) => out = (r_, X_)) (fun X_ t => va_P (dC, dI) classes (wl a cA X_) t.heap ∧ va_K (dC, dI) classes [(cA, .int)] t) A) (([.ref (a 0), .int p1] : List Value).toArray) s 0 0 (A)) (entryFrame m (([.ref (a 0), .int p1] : List Value).toArray) 2)
  generalize MQ below (va_Qi (fun (r_ : Int32) (X_ : WS) => out = (r_, X_)) (fun X_ t => va_P (dC, dI) classes (wl a cA X_) t.heap ∧ va_K (dC, dI) classes [(cA, .int)] t) A) (([.ref (a 0), .int p1] : List Value).toArray) s 0 0 (A) = Q at hret ⊢
  have hS : va_S A s.heap s.heap [] := va_S.rf
  have hl := lv_entry ([.ref (a 0), .int p1]) (n := 2) (Nat.le_of_ble_eq_true rfl)
  rw [lg_entry_eq]
  generalize (lg_sl ([.ref (a 0), .int p1]) ++ List.replicate (2 - (lg_sl ([.ref (a 0), .int p1])).length) Slot.unset).toArray = ls at hl ⊢
  have hl : lv_has ls 2 [(0, .ref (a 0)), (1, .int p1)] := hl
  refine lv_iload_n hx hb dX3_letter_0 rfl (lv_at hl 1 rfl) ?_
  refine lv_iconst (v := 1) hx hb dX3_letter_1 (by decide) ?_
  refine lv_icmp_lt (tgt := 11) hx hb dX3_letter_2 (by decide) (fun c1 => ?_) (fun c1 => ?_)
  · have hw := ite_t hw c1
    refine lv_bipush (v := (-102)) hx hb dX3_letter_11 (by decide) ?_
    exact hret _ _ _ _ _ _ (Option.some.inj hw) hP hS dX3_letter_13
  · have hw := ite_f hw c1
    refine lv_iload_n hx hb dX3_letter_5 rfl (lv_at hl 1 rfl) ?_
    refine lv_bipush (v := 126) hx hb dX3_letter_6 (by decide) ?_
    refine lv_icmp_le (tgt := 14) hx hb dX3_letter_8 (by decide) (fun c2 => ?_) (fun c2 => ?_)
    · have hw := ite_t hw c2
      refine lv_aload_n hx hb dX3_letter_14 rfl (lv_at hl 0 rfl) ?_
      refine va_get (D := (dC, dI)) (ci := 3) (v := .ref (a 1)) (C := RX3) (T := TX3) (N := 6) hx hb hts iX3 hown hK hP 0 rfl rfl 0 (by decide) (hts _ wd_178) (fun _ h9 => h9) rfl dX3_letter_15 ?_
      refine lv_iload_n hx hb dX3_letter_18 rfl (lv_at hl 1 rfl) ?_
      obtain ⟨r3, X4, er3, hw⟩ := bnd2_use hw
      refine va_calli (va_runV (As := [.int p1]) (rest := []) ⟨hx, hb, hml, hown, hts⟩ (c_X1_add l dC dI A a cA X p1 (r3, X4) er3) ⟨callB_of 1 hts gd_X1_add rfl rfl rfl (hts _ wd_36) (hts _ wd_201) hd_X1_add ⟨Nat.le_of_ble_eq_true rfl, Nat.le_of_ble_eq_true rfl⟩, hts _ wd_202, hts _ wd_203⟩ ⟨blXD, va_recv hK hP (ci := 1) (q0 := 1) rfl rfl, fun U hU hW => ⟨rfl, by rw [hU]; exact hP, va_K.moved hW.alike hK, nst.warm hW hN, wlD hD0⟩⟩ rfl rfl hl.1 rfl (lv_room (Nat.le_of_ble_eq_true rfl)) dX3_letter_19 ⟨Nat.zero_le _, Nat.zero_le _⟩) hS (fun _ _ h => h) (fun _ h => h) (fun r_ u_ t_ H1 locs1 ht hvm hp_ hB hz1 hk1 hS1 => ?_)
      obtain ⟨q1_, q2_⟩ := Prod.mk.inj hp_
      subst q1_
      subst q2_
      obtain ⟨hP1, hK1⟩ := hB
      rw [ht] at hP1
      have hP := hP1
      have hS := hS1
      exact hret _ _ _ _ _ _ (Option.some.inj hw) hP hS dX3_letter_22
    · have hw := ite_f hw c2
      refine lv_bipush (v := (-102)) hx hb dX3_letter_11 (by decide) ?_
      exact hret _ _ _ _ _ _ (Option.some.inj hw) hP hS dX3_letter_13
set_option maxHeartbeats 4000000 in
set_option maxRecDepth 100000 in
theorem c_X4_in (l : Launch) (p0 : Int64) (p2 : Int64) (p4 : Int64) (out : Int32) (hw : f_X4_in p0 p2 p4 = some out) : Met l yX4_in (.code yX4_in cX4_in 6 (some .boolean) :: lw_g) ({ frames := 0, cells := 0, slots := 0, locals := 0 }) (Pc0 [.long p0, .long p2, .long p4]) (vp_Si (fun r_ => r_ = out)) 0 0 (fun _ => False) := by
  unfold f_X4_in at hw
  refine Met.ofW (cc := cX4_in) (maxL := 6) (ret := (some .boolean)) (by decide) rfl ?_
  intro p e s m args below meth c s₁ B hml hv
  obtain ⟨rfl, -⟩ := hv
  have hx := B.exec
  have hb := B.bytes
  have hr := B.returns
  have hts0 := atoms_spec (ws := (.code yX4_in cX4_in 6 (some .boolean) :: lw_g)) B.pre
  have hts : ∀ w ∈ lw_g, w.before (([.long p0, .long p2, .long p4] : List Value).toArray) s = true := fun w h => hts0 w (List.mem_cons_of_mem _ h)
  clear hts0
  have hown : s.vm.findClass RX4 = some m.cls := findClass_of_methodNamed B.named
  have hlocks := B.notSynchronized
  have hret : ∀ (pc : Nat) (ls : Array Slot) (v : Int32), v = out → (hz : narrow .boolean (.int v) = .int v) → decode cX4_in pc = .ok (.ireturn, 1) → W p l e ({ frames := 0, cells := 0, slots := 0, locals := 0 }) s m (([.long p0, .long p2, .long p4] : List Value).toArray) below meth c s.heap [] 0 0 (MQ below (vp_Si (fun r_ => r_ = out)) (([.long p0, .long p2, .long p4] : List Value).toArray) s 0 0 (fun _ => False)) (F0 m pc ls [.int v]) := fun pc ls v hv hz hd => W.zret hx hb hr hz (fun t ht hW => ⟨v, rfl, hv, ht⟩) (fun q hq => absurd hq List.not_mem_nil) hd
  show W p l e ({ frames := 0, cells := 0, slots := 0, locals := 0 }) s m (([.long p0, .long p2, .long p4] : List Value).toArray) below meth c s.heap [] 0 0 (MQ below (vp_Si (fun r_ => r_ = out)) (([.long p0, .long p2, .long p4] : List Value).toArray) s 0 0 (fun _ => False)) (entryFrame m (([.long p0, .long p2, .long p4] : List Value).toArray) 6)
  generalize MQ below (vp_Si (fun r_ => r_ = out)) (([.long p0, .long p2, .long p4] : List Value).toArray) s 0 0 (fun _ => False) = Q at hret ⊢
  have hl := lv_entry ([.long p0, .long p2, .long p4]) (n := 6) (Nat.le_of_ble_eq_true rfl)
  rw [lg_entry_eq]
  generalize (lg_sl ([.long p0, .long p2, .long p4]) ++ List.replicate (6 - (lg_sl ([.long p0, .long p2, .long p4])).length) Slot.unset).toArray = ls at hl ⊢
  have hl : lv_has ls 6 [(0, .long p0), (2, .long p2), (4, .long p4)] := hl
  refine lv_lload_n hx hb dX4_in_0 rfl (lv_at hl 0 rfl) ?_
  refine lv_lload_n hx hb dX4_in_1 rfl (lv_at hl 1 rfl) ?_
  refine W.lcmp hx hb dX4_in_2 ?_
  refine lv_if_lt (tgt := 17) hx hb dX4_in_3 (by decide) (fun c1 => ?_) (fun c1 => ?_)
  · have hw := ite_t hw c1
    refine lv_iconst (v := 0) hx hb dX4_in_17 (by decide) ?_
    exact hret _ _ _ (Option.some.inj hw) rfl dX4_in_18
  · have hw := ite_f hw c1
    refine lv_lload_n hx hb dX4_in_6 rfl (lv_at hl 0 rfl) ?_
    refine lv_lload hx hb dX4_in_7 (lv_at hl 2 rfl) ?_
    refine W.lcmp hx hb dX4_in_9 ?_
    refine lv_if_gt (tgt := 17) hx hb dX4_in_10 (by decide) (fun c2 => ?_) (fun c2 => ?_)
    · have hw := ite_t hw c2
      refine lv_iconst (v := 0) hx hb dX4_in_17 (by decide) ?_
      exact hret _ _ _ (Option.some.inj hw) rfl dX4_in_18
    · have hw := ite_f hw c2
      refine lv_iconst (v := 1) hx hb dX4_in_13 (by decide) ?_
      refine lv_goto (tgt := 18) hx hb dX4_in_14 (by decide) ?_
      exact hret _ _ _ (Option.some.inj hw) rfl dX4_in_18
set_option maxHeartbeats 4000000 in
set_option maxRecDepth 100000 in
theorem c_X4_letter (l : Launch) (dC : Nat → ClassId) (dI : Nat → Nat → Nat) (A : Nat → Prop) (a : Nat → Nat) (cA : ClassId) (X : MS) (p1 : Int32) (out : (Int32 × MS)) (hw : f_X4_letter X p1 = some out) : Met l yX4_letter (.code yX4_letter cX4_letter 2 (some .int) :: lw_g) ({ frames := 1, cells := 0, slots := 0, locals := 25 }) (PcMD dC dI A a cA X [.ref (a 0), .int p1]) (va_Qi (fun (r_ : Int32) (X_ : MS) => out = (r_, X_)) (fun X_ t => va_P (dC, dI) classes (wm a cA X_) t.heap ∧ va_K (dC, dI) classes [(cA, .int)] t) A) 0 0 (A) := by
  unfold f_X4_letter at hw
  refine Met.ofW (cc := cX4_letter) (maxL := 2) (ret := (some .int)) (by decide) rfl ?_
  intro p e s m args below meth c s₁ B hml hv
  obtain ⟨rfl, hP, hK, hD0⟩ := hv
  have hx := B.exec
  have hb := B.bytes
  have hr := B.returns
  have hts0 := atoms_spec (ws := (.code yX4_letter cX4_letter 2 (some .int) :: lw_g)) B.pre
  have hts : ∀ w ∈ lw_g, w.before (([.ref (a 0), .int p1] : List Value).toArray) s = true := fun w h => hts0 w (List.mem_cons_of_mem _ h)
  clear hts0
  have hown : s.vm.findClass RX4 = some m.cls := findClass_of_methodNamed B.named
  have hlocks := B.notSynchronized
  have hret : ∀ (pc : Nat) (ls : Array Slot) (v : Int32) (X_ : MS) (H : Heap) (locs : List Loc), (v, X_) = out → va_P (dC, dI) classes (wm a cA X_) H → va_S A s.heap H locs → decode cX4_letter pc = .ok (.ireturn, 1) → W p l e ({ frames := 1, cells := 0, slots := 0, locals := 25 }) s m (([.ref (a 0), .int p1] : List Value).toArray) below meth c H locs 0 0 (MQ below (va_Qi (fun (r_ : Int32) (X_ : MS) => out = (r_, X_)) (fun X_ t => va_P (dC, dI) classes (wm a cA X_) t.heap ∧ va_K (dC, dI) classes [(cA, .int)] t) A) (([.ref (a 0), .int p1] : List Value).toArray) s 0 0 (A)) (F0 m pc ls [.int v]) := fun pc ls v X_ H locs hv hP hS hd => W.iret hx hb hr (fun t ht hW => ⟨⟨v, X_, rfl, hv.symm, by rw [ht]; exact hP, va_K.moved hW.alike hK⟩, hS.F ht⟩) hS.2.2 hd
  show W p l e ({ frames := 1, cells := 0, slots := 0, locals := 25 }) s m (([.ref (a 0), .int p1] : List Value).toArray) below meth c s.heap [] 0 0 (MQ below (va_Qi (fun (r_ : Int32) (X_ : MS) => out = (r_, X_)) (fun X_ t => va_P (dC, dI) classes (wm a cA X_) t.heap ∧ va_K (dC, dI) classes [(cA, .int)] t) A) (([.ref (a 0), .int p1] : List Value).toArray) s 0 0 (A)) (entryFrame m (([.ref (a 0), .int p1] : List Value).toArray) 2)
  generalize MQ below (va_Qi (fun (r_ : Int32) (X_ : MS) => out = (r_, X_)) (fun X_ t => va_P (dC, dI) classes (wm a cA X_) t.heap ∧ va_K (dC, dI) classes [(cA, .int)] t) A) (([.ref (a 0), .int p1] : List Value).toArray) s 0 0 (A) = Q at hret ⊢
  have hS : va_S A s.heap s.heap [] := va_S.rf
  have hl := lv_entry ([.ref (a 0), .int p1]) (n := 2) (Nat.le_of_ble_eq_true rfl)
  rw [lg_entry_eq]
  generalize (lg_sl ([.ref (a 0), .int p1]) ++ List.replicate (2 - (lg_sl ([.ref (a 0), .int p1])).length) Slot.unset).toArray = ls at hl ⊢
  have hl : lv_has ls 2 [(0, .ref (a 0)), (1, .int p1)] := hl
  refine lv_iload_n hx hb dX4_letter_0 rfl (lv_at hl 1 rfl) ?_
  refine lv_i2l hx hb dX4_letter_1 rfl ?_
  refine lv_lconst (v := 1) hx hb dX4_letter_2 (by decide) ?_
  refine lv_ldc2 hx hb hown (hts _ wd_614) dX4_letter_3 ?_
  obtain ⟨r1, er1, hw⟩ := Option.bind_eq_some_iff.mp hw
  refine vp_callSi (va_runS (As := [.long (Int32.toInt64 p1), .long 1, .long 126]) (rest := []) ⟨hx, hb, hml, hown, hts⟩ (c_X4_in l (Int32.toInt64 p1) 1 126 r1 er1) ⟨callB_of 3 hts gd_X4_in rfl rfl rfl (hts _ wd_39) (hts _ wd_615) hd_X4_in ⟨Nat.le_of_ble_eq_true rfl, Nat.le_of_ble_eq_true rfl⟩, hts _ wd_616⟩ ⟨bl0, fun U hU hW => ⟨rfl, trivial⟩⟩ rfl rfl hl.1 rfl (lv_room (Nat.le_of_ble_eq_true rfl)) dX4_letter_6 ⟨Nat.zero_le _, Nat.zero_le _⟩).run (fun r_ e_ => ?_)
  subst r_
  refine lv_if_ne (tgt := 15) hx hb dX4_letter_9 (by decide) (fun c2 => ?_) (fun c2 => ?_)
  · have hw := ite_f hw c2
    refine lv_aload_n hx hb dX4_letter_15 rfl (lv_at hl 0 rfl) ?_
    refine va_get (D := (dC, dI)) (ci := 4) (v := .int (X.1 0 1)) (C := RX4) (T := TX4) (N := 29) hx hb hts iX4 hown hK hP 0 rfl rfl 1 (by decide) (hts _ wd_523) (fun _ h9 => h9) rfl dX4_letter_16 ?_
    refine lv_bipush (v := 12) hx hb dX4_letter_19 (by decide) ?_
    refine lv_icmp_ne (tgt := 27) hx hb dX4_letter_21 (by decide) (fun c3 => ?_) (fun c3 => ?_)
    · have hw := ite_f hw c3
      refine lv_aload_n hx hb dX4_letter_27 rfl (lv_at hl 0 rfl) ?_
      refine va_get (D := (dC, dI)) (ci := 4) (v := .ref (a 1)) (C := RX4) (T := TX4) (N := 29) hx hb hts iX4 hown hK hP 0 rfl rfl 0 (by decide) (hts _ wd_522) (fun _ h9 => h9) rfl dX4_letter_28 ?_
      refine lv_aload_n hx hb dX4_letter_31 rfl (lv_at hl 0 rfl) ?_
      refine va_get (D := (dC, dI)) (ci := 4) (v := .int (X.1 0 1)) (C := RX4) (T := TX4) (N := 29) hx hb hts iX4 hown hK hP 0 rfl rfl 1 (by decide) (hts _ wd_523) (fun _ h9 => h9) rfl dX4_letter_32 ?_
      refine lv_iload_n hx hb dX4_letter_35 rfl (lv_at hl 1 rfl) ?_
      obtain ⟨h4, hw⟩ := ixc_use hw
      refine va_iast hx hb hK hP (wmD hD0) hS 1 0 rfl rfl h4 dX4_letter_36 (fun H locs hP hD_ hS => ?_)
      obtain ⟨X5, eX5⟩ : ∃ y : MS, y = (ups X.1 1 (Int32.toNatClampNeg (X.1 0 1)) p1, X.2) := ⟨_, rfl⟩
      have hw := stp_use hw eX5
      have hP : va_P (dC, dI) classes (wm a cA X5) H := by rw [eX5]; exact hP
      refine lv_aload_n hx hb dX4_letter_37 rfl (lv_at hl 0 rfl) ?_
      refine lv_dup hx hb dX4_letter_38 rfl ?_
      refine va_get (D := (dC, dI)) (ci := 4) (v := .int (X5.1 0 1)) (C := RX4) (T := TX4) (N := 29) hx hb hts iX4 hown hK hP 0 rfl rfl 1 (by decide) (hts _ wd_523) (fun _ h9 => h9) rfl dX4_letter_39 ?_
      refine lv_iconst (v := 1) hx hb dX4_letter_42 (by decide) ?_
      refine lv_iadd hx hb dX4_letter_43 ?_
      refine lv_topi (fun x6 ex6 => ?_)
      have hw := stp_use hw ex6
      refine va_put (D := (dC, dI)) (ci := 4) (v := .int x6) (ty := .int) (C := RX4) (T := TX4) (N := 29) hx hb hts iX4 tyX4 tyX4_ok nmX4 hown hK hP (wmD hD0) hS 0 rfl rfl 1 (by decide) (hts _ wd_523) (fun _ h9 => h9) rfl (by decide +kernel) rfl rfl (Nat.le_of_ble_eq_true rfl) dX4_letter_44 (fun H locs hP hD_ hS => ?_)
      obtain ⟨X7, eX7⟩ : ∃ y : MS, y = (ups X5.1 0 1 x6, X5.2) := ⟨_, rfl⟩
      have hw := stp_use hw eX7
      have hP : va_P (dC, dI) classes (wm a cA X7) H := by rw [eX7]; exact hP
      refine lv_aload_n hx hb dX4_letter_47 rfl (lv_at hl 0 rfl) ?_
      refine va_get (D := (dC, dI)) (ci := 4) (v := .int (X7.1 0 1)) (C := RX4) (T := TX4) (N := 29) hx hb hts iX4 hown hK hP 0 rfl rfl 1 (by decide) (hts _ wd_523) (fun _ h9 => h9) rfl dX4_letter_48 ?_
      exact hret _ _ _ _ _ _ (Option.some.inj hw) hP hS dX4_letter_51
    · have hw := ite_t hw c3
      refine lv_bipush (v := (-104)) hx hb dX4_letter_24 (by decide) ?_
      exact hret _ _ _ _ _ _ (Option.some.inj hw) hP hS dX4_letter_26
  · have hw := ite_t hw c2
    refine lv_bipush (v := (-102)) hx hb dX4_letter_12 (by decide) ?_
    exact hret _ _ _ _ _ _ (Option.some.inj hw) hP hS dX4_letter_14
set_option maxHeartbeats 4000000 in
set_option maxRecDepth 100000 in
theorem c_X1_clear (l : Launch) (dC : Nat → ClassId) (dI : Nat → Nat → Nat) (A : Nat → Prop) (a : Nat → Nat) (cA : ClassId) (X : WS) (out : (Int32 × WS)) (hw : f_X1_clear X = some out) : Met l yX1_clear (.code yX1_clear cX1_clear 2 (some .int) :: lw_g) ({ frames := 0, cells := 0, slots := 0, locals := 0 }) (PcXD dC dI A a cA X [.ref (a 1)]) (va_Qi (fun (r_ : Int32) (X_ : WS) => out = (r_, X_)) (fun X_ t => va_P (dC, dI) classes (wl a cA X_) t.heap ∧ va_K (dC, dI) classes [(cA, .int)] t) A) 0 0 (A) := by
  unfold f_X1_clear at hw
  refine Met.ofW (cc := cX1_clear) (maxL := 2) (ret := (some .int)) (by decide) rfl ?_
  intro p e s m args below meth c s₁ B hml hv
  obtain ⟨rfl, hP, hK, hN, hD0⟩ := hv
  have hx := B.exec
  have hb := B.bytes
  have hr := B.returns
  have hts0 := atoms_spec (ws := (.code yX1_clear cX1_clear 2 (some .int) :: lw_g)) B.pre
  have hts : ∀ w ∈ lw_g, w.before (([.ref (a 1)] : List Value).toArray) s = true := fun w h => hts0 w (List.mem_cons_of_mem _ h)
  clear hts0
  have hown : s.vm.findClass RX1 = some m.cls := findClass_of_methodNamed B.named
  have hlocks := B.notSynchronized
  have hret : ∀ (pc : Nat) (ls : Array Slot) (v : Int32) (X_ : WS) (H : Heap) (locs : List Loc), (v, X_) = out → va_P (dC, dI) classes (wl a cA X_) H → va_S A s.heap H locs → decode cX1_clear pc = .ok (.ireturn, 1) → W p l e ({ frames := 0, cells := 0, slots := 0, locals := 0 }) s m (([.ref (a 1)] : List Value).toArray) below meth c H locs 0 0 (MQ below (va_Qi (fun (r_ : Int32) (X_ : WS) => out = (r_, X_)) (fun X_ t => va_P (dC, dI) classes (wl a cA X_) t.heap ∧ va_K (dC, dI) classes [(cA, .int)] t) A) (([.ref (a 1)] : List Value).toArray) s 0 0 (A)) (F0 m pc ls [.int v]) := fun pc ls v X_ H locs hv hP hS hd => W.iret hx hb hr (fun t ht hW => ⟨⟨v, X_, rfl, hv.symm, by rw [ht]; exact hP, va_K.moved hW.alike hK⟩, hS.F ht⟩) hS.2.2 hd
  show W p l e ({ frames := 0, cells := 0, slots := 0, locals := 0 }) s m (([.ref (a 1)] : List Value).toArray) below meth c s.heap [] 0 0 (MQ below (va_Qi (fun (r_ : Int32) (X_ : WS) => out = (r_, X_)) (fun X_ t => va_P (dC, dI) classes (wl a cA X_) t.heap ∧ va_K (dC, dI) classes [(cA, .int)] t) A) (([.ref (a 1)] : List Value).toArray) s 0 0 (A)) (entryFrame m (([.ref (a 1)] : List Value).toArray) 2)
  generalize MQ below (va_Qi (fun (r_ : Int32) (X_ : WS) => out = (r_, X_)) (fun X_ t => va_P (dC, dI) classes (wl a cA X_) t.heap ∧ va_K (dC, dI) classes [(cA, .int)] t) A) (([.ref (a 1)] : List Value).toArray) s 0 0 (A) = Q at hret ⊢
  have hS : va_S A s.heap s.heap [] := va_S.rf
  have hl := lv_entry ([.ref (a 1)]) (n := 2) (Nat.le_of_ble_eq_true rfl)
  rw [lg_entry_eq]
  generalize (lg_sl ([.ref (a 1)]) ++ List.replicate (2 - (lg_sl ([.ref (a 1)])).length) Slot.unset).toArray = ls at hl ⊢
  have hl : lv_has ls 2 [(0, .ref (a 1))] := hl
  refine lv_aload_n hx hb dX1_clear_0 rfl (lv_at hl 0 rfl) ?_
  refine va_get (D := (dC, dI)) (ci := 1) (v := .int (X 1 1)) (C := RX1) (T := TX1) (N := 2) hx hb hts iX1 hown hK hP 1 rfl rfl 1 (by decide) (hts _ wd_59) (fun _ h9 => h9) rfl dX1_clear_1 ?_
  refine lv_topi (fun x1 ex1 => ?_)
  have hw := stp_use hw ex1
  refine lv_istore_n (lv' := [(1, .int x1), (0, .ref (a 1))]) hx hb dX1_clear_4 rfl hl (by decide) rfl (fun ls hl => ?_)
  refine lv_aload_n hx hb dX1_clear_5 rfl (lv_at hl 1 rfl) ?_
  refine lv_iconst (v := 0) hx hb dX1_clear_6 (by decide) ?_
  refine va_put (D := (dC, dI)) (ci := 1) (v := .int 0) (ty := .int) (C := RX1) (T := TX1) (N := 2) hx hb hts iX1 tyX1 tyX1_ok nmX1 hown hK hP (wlD hD0) hS 1 rfl rfl 1 (by decide) (hts _ wd_59) (fun _ h9 => h9) rfl (by decide +kernel) rfl rfl (Nat.le_of_ble_eq_true rfl) dX1_clear_7 (fun H locs hP hD_ hS => ?_)
  obtain ⟨X2, eX2⟩ : ∃ y : WS, y = (ups X 1 1 0) := ⟨_, rfl⟩
  have hw := stp_use hw eX2
  have hP : va_P (dC, dI) classes (wl a cA X2) H := by rw [eX2]; exact hP
  refine lv_iload_n hx hb dX1_clear_10 rfl (lv_at hl 0 rfl) ?_
  exact hret _ _ _ _ _ _ (Option.some.inj hw) hP hS dX1_clear_11
set_option maxHeartbeats 4000000 in
set_option maxRecDepth 100000 in
theorem c_X3_blank (l : Launch) (dC : Nat → ClassId) (dI : Nat → Nat → Nat) (A : Nat → Prop) (a : Nat → Nat) (cA : ClassId) (X : WS) (out : (Int32 × WS)) (hw : f_X3_blank X = some out) : Met l yX3_blank (.code yX3_blank cX3_blank 1 (some .int) :: lw_g) ({ frames := 1, cells := 0, slots := 0, locals := 21 }) (PcXD dC dI A a cA X [.ref (a 0)]) (va_Qi (fun (r_ : Int32) (X_ : WS) => out = (r_, X_)) (fun X_ t => va_P (dC, dI) classes (wl a cA X_) t.heap ∧ va_K (dC, dI) classes [(cA, .int)] t) A) 0 0 (A) := by
  unfold f_X3_blank at hw
  refine Met.ofW (cc := cX3_blank) (maxL := 1) (ret := (some .int)) (by decide) rfl ?_
  intro p e s m args below meth c s₁ B hml hv
  obtain ⟨rfl, hP, hK, hN, hD0⟩ := hv
  have hx := B.exec
  have hb := B.bytes
  have hr := B.returns
  have hts0 := atoms_spec (ws := (.code yX3_blank cX3_blank 1 (some .int) :: lw_g)) B.pre
  have hts : ∀ w ∈ lw_g, w.before (([.ref (a 0)] : List Value).toArray) s = true := fun w h => hts0 w (List.mem_cons_of_mem _ h)
  clear hts0
  have hown : s.vm.findClass RX3 = some m.cls := findClass_of_methodNamed B.named
  have hlocks := B.notSynchronized
  have hret : ∀ (pc : Nat) (ls : Array Slot) (v : Int32) (X_ : WS) (H : Heap) (locs : List Loc), (v, X_) = out → va_P (dC, dI) classes (wl a cA X_) H → va_S A s.heap H locs → decode cX3_blank pc = .ok (.ireturn, 1) → W p l e ({ frames := 1, cells := 0, slots := 0, locals := 21 }) s m (([.ref (a 0)] : List Value).toArray) below meth c H locs 0 0 (MQ below (va_Qi (fun (r_ : Int32) (X_ : WS) => out = (r_, X_)) (fun X_ t => va_P (dC, dI) classes (wl a cA X_) t.heap ∧ va_K (dC, dI) classes [(cA, .int)] t) A) (([.ref (a 0)] : List Value).toArray) s 0 0 (A)) (F0 m pc ls [.int v]) := fun pc ls v X_ H locs hv hP hS hd => W.iret hx hb hr (fun t ht hW => ⟨⟨v, X_, rfl, hv.symm, by rw [ht]; exact hP, va_K.moved hW.alike hK⟩, hS.F ht⟩) hS.2.2 hd
  show W p l e ({ frames := 1, cells := 0, slots := 0, locals := 21 }) s m (([.ref (a 0)] : List Value).toArray) below meth c s.heap [] 0 0 (MQ below (va_Qi (fun (r_ : Int32) (X_ : WS) => out = (r_, X_)) (fun X_ t => va_P (dC, dI) classes (wl a cA X_) t.heap ∧ va_K (dC, dI) classes [(cA, .int)] t) A) (([.ref (a 0)] : List Value).toArray) s 0 0 (A)) (entryFrame m (([.ref (a 0)] : List Value).toArray) 1)
  generalize MQ below (va_Qi (fun (r_ : Int32) (X_ : WS) => out = (r_, X_)) (fun X_ t => va_P (dC, dI) classes (wl a cA X_) t.heap ∧ va_K (dC, dI) classes [(cA, .int)] t) A) (([.ref (a 0)] : List Value).toArray) s 0 0 (A) = Q at hret ⊢
  have hS : va_S A s.heap s.heap [] := va_S.rf
  have hl := lv_entry ([.ref (a 0)]) (n := 1) (Nat.le_of_ble_eq_true rfl)
  rw [lg_entry_eq]
  generalize (lg_sl ([.ref (a 0)]) ++ List.replicate (1 - (lg_sl ([.ref (a 0)])).length) Slot.unset).toArray = ls at hl ⊢
  have hl : lv_has ls 1 [(0, .ref (a 0))] := hl
  refine lv_aload_n hx hb dX3_blank_0 rfl (lv_at hl 0 rfl) ?_
  refine va_get (D := (dC, dI)) (ci := 3) (v := .ref (a 1)) (C := RX3) (T := TX3) (N := 6) hx hb hts iX3 hown hK hP 0 rfl rfl 0 (by decide) (hts _ wd_178) (fun _ h9 => h9) rfl dX3_blank_1 ?_
  obtain ⟨r1, X2, er1, hw⟩ := bnd2_use hw
  refine va_calli (va_runV (As := []) (rest := []) ⟨hx, hb, hml, hown, hts⟩ (c_X1_clear l dC dI A a cA X (r1, X2) er1) ⟨callB_of 0 hts gd_X1_clear rfl rfl rfl (hts _ wd_36) (hts _ wd_209) hd_X1_clear ⟨Nat.le_of_ble_eq_true rfl, Nat.le_of_ble_eq_true rfl⟩, hts _ wd_210, hts _ wd_211⟩ ⟨blXD, va_recv hK hP (ci := 1) (q0 := 1) rfl rfl, fun U hU hW => ⟨rfl, by rw [hU]; exact hP, va_K.moved hW.alike hK, nst.warm hW hN, wlD hD0⟩⟩ rfl rfl hl.1 rfl (lv_room (Nat.le_of_ble_eq_true rfl)) dX3_blank_4 ⟨Nat.zero_le _, Nat.zero_le _⟩) hS (fun _ _ h => h) (fun _ h => h) (fun r_ u_ t_ H1 locs1 ht hvm hp_ hB hz1 hk1 hS1 => ?_)
  obtain ⟨q1_, q2_⟩ := Prod.mk.inj hp_
  subst q1_
  subst q2_
  obtain ⟨hP1, hK1⟩ := hB
  rw [ht] at hP1
  have hP := hP1
  have hS := hS1
  exact hret _ _ _ _ _ _ (Option.some.inj hw) hP hS dX3_blank_7
set_option maxHeartbeats 4000000 in
set_option maxRecDepth 100000 in
theorem c_X4_blank (l : Launch) (dC : Nat → ClassId) (dI : Nat → Nat → Nat) (A : Nat → Prop) (a : Nat → Nat) (cA : ClassId) (X : MS) (out : (Int32 × MS)) (hw : f_X4_blank X = some out) : Met l yX4_blank (.code yX4_blank cX4_blank 2 (some .int) :: lw_g) ({ frames := 0, cells := 0, slots := 0, locals := 0 }) (PcMD dC dI A a cA X [.ref (a 0)]) (va_Qi (fun (r_ : Int32) (X_ : MS) => out = (r_, X_)) (fun X_ t => va_P (dC, dI) classes (wm a cA X_) t.heap ∧ va_K (dC, dI) classes [(cA, .int)] t) A) 0 0 (A) := by
  unfold f_X4_blank at hw
  refine Met.ofW (cc := cX4_blank) (maxL := 2) (ret := (some .int)) (by decide) rfl ?_
  intro p e s m args below meth c s₁ B hml hv
  obtain ⟨rfl, hP, hK, hD0⟩ := hv
  have hx := B.exec
  have hb := B.bytes
  have hr := B.returns
  have hts0 := atoms_spec (ws := (.code yX4_blank cX4_blank 2 (some .int) :: lw_g)) B.pre
  have hts : ∀ w ∈ lw_g, w.before (([.ref (a 0)] : List Value).toArray) s = true := fun w h => hts0 w (List.mem_cons_of_mem _ h)
  clear hts0
  have hown : s.vm.findClass RX4 = some m.cls := findClass_of_methodNamed B.named
  have hlocks := B.notSynchronized
  have hret : ∀ (pc : Nat) (ls : Array Slot) (v : Int32) (X_ : MS) (H : Heap) (locs : List Loc), (v, X_) = out → va_P (dC, dI) classes (wm a cA X_) H → va_S A s.heap H locs → decode cX4_blank pc = .ok (.ireturn, 1) → W p l e ({ frames := 0, cells := 0, slots := 0, locals := 0 }) s m (([.ref (a 0)] : List Value).toArray) below meth c H locs 0 0 (MQ below (va_Qi (fun (r_ : Int32) (X_ : MS) => out = (r_, X_)) (fun X_ t => va_P (dC, dI) classes (wm a cA X_) t.heap ∧ va_K (dC, dI) classes [(cA, .int)] t) A) (([.ref (a 0)] : List Value).toArray) s 0 0 (A)) (F0 m pc ls [.int v]) := fun pc ls v X_ H locs hv hP hS hd => W.iret hx hb hr (fun t ht hW => ⟨⟨v, X_, rfl, hv.symm, by rw [ht]; exact hP, va_K.moved hW.alike hK⟩, hS.F ht⟩) hS.2.2 hd
  show W p l e ({ frames := 0, cells := 0, slots := 0, locals := 0 }) s m (([.ref (a 0)] : List Value).toArray) below meth c s.heap [] 0 0 (MQ below (va_Qi (fun (r_ : Int32) (X_ : MS) => out = (r_, X_)) (fun X_ t => va_P (dC, dI) classes (wm a cA X_) t.heap ∧ va_K (dC, dI) classes [(cA, .int)] t) A) (([.ref (a 0)] : List Value).toArray) s 0 0 (A)) (entryFrame m (([.ref (a 0)] : List Value).toArray) 2)
  generalize MQ below (va_Qi (fun (r_ : Int32) (X_ : MS) => out = (r_, X_)) (fun X_ t => va_P (dC, dI) classes (wm a cA X_) t.heap ∧ va_K (dC, dI) classes [(cA, .int)] t) A) (([.ref (a 0)] : List Value).toArray) s 0 0 (A) = Q at hret ⊢
  have hS : va_S A s.heap s.heap [] := va_S.rf
  have hl := lv_entry ([.ref (a 0)]) (n := 2) (Nat.le_of_ble_eq_true rfl)
  rw [lg_entry_eq]
  generalize (lg_sl ([.ref (a 0)]) ++ List.replicate (2 - (lg_sl ([.ref (a 0)])).length) Slot.unset).toArray = ls at hl ⊢
  have hl : lv_has ls 2 [(0, .ref (a 0))] := hl
  refine lv_aload_n hx hb dX4_blank_0 rfl (lv_at hl 0 rfl) ?_
  refine va_get (D := (dC, dI)) (ci := 4) (v := .int (X.1 0 1)) (C := RX4) (T := TX4) (N := 29) hx hb hts iX4 hown hK hP 0 rfl rfl 1 (by decide) (hts _ wd_523) (fun _ h9 => h9) rfl dX4_blank_1 ?_
  refine lv_topi (fun x1 ex1 => ?_)
  have hw := stp_use hw ex1
  refine lv_istore_n (lv' := [(1, .int x1), (0, .ref (a 0))]) hx hb dX4_blank_4 rfl hl (by decide) rfl (fun ls hl => ?_)
  refine lv_aload_n hx hb dX4_blank_5 rfl (lv_at hl 1 rfl) ?_
  refine lv_iconst (v := 0) hx hb dX4_blank_6 (by decide) ?_
  refine va_put (D := (dC, dI)) (ci := 4) (v := .int 0) (ty := .int) (C := RX4) (T := TX4) (N := 29) hx hb hts iX4 tyX4 tyX4_ok nmX4 hown hK hP (wmD hD0) hS 0 rfl rfl 1 (by decide) (hts _ wd_523) (fun _ h9 => h9) rfl (by decide +kernel) rfl rfl (Nat.le_of_ble_eq_true rfl) dX4_blank_7 (fun H locs hP hD_ hS => ?_)
  obtain ⟨X2, eX2⟩ : ∃ y : MS, y = (ups X.1 0 1 0, X.2) := ⟨_, rfl⟩
  have hw := stp_use hw eX2
  have hP : va_P (dC, dI) classes (wm a cA X2) H := by rw [eX2]; exact hP
  refine lv_iload_n hx hb dX4_blank_10 rfl (lv_at hl 0 rfl) ?_
  exact hret _ _ _ _ _ _ (Option.some.inj hw) hP hS dX4_blank_11
set_option maxHeartbeats 4000000 in
set_option maxRecDepth 100000 in
theorem c_X1_fits (l : Launch) (p0 : Int32) (p1 : Int32) (out : Int32) (hw : f_X1_fits p0 p1 = some out) : Met l yX1_fits (.code yX1_fits cX1_fits 2 (some .boolean) :: lw_g) ({ frames := 0, cells := 0, slots := 0, locals := 0 }) (Pc0 [.int p0, .int p1]) (vp_Si (fun r_ => r_ = out)) 0 0 (fun _ => False) := by
  unfold f_X1_fits at hw
  refine Met.ofW (cc := cX1_fits) (maxL := 2) (ret := (some .boolean)) (by decide) rfl ?_
  intro p e s m args below meth c s₁ B hml hv
  obtain ⟨rfl, -⟩ := hv
  have hx := B.exec
  have hb := B.bytes
  have hr := B.returns
  have hts0 := atoms_spec (ws := (.code yX1_fits cX1_fits 2 (some .boolean) :: lw_g)) B.pre
  have hts : ∀ w ∈ lw_g, w.before (([.int p0, .int p1] : List Value).toArray) s = true := fun w h => hts0 w (List.mem_cons_of_mem _ h)
  clear hts0
  have hown : s.vm.findClass RX1 = some m.cls := findClass_of_methodNamed B.named
  have hlocks := B.notSynchronized
  have hret : ∀ (pc : Nat) (ls : Array Slot) (v : Int32), v = out → (hz : narrow .boolean (.int v) = .int v) → decode cX1_fits pc = .ok (.ireturn, 1) → W p l e ({ frames := 0, cells := 0, slots := 0, locals := 0 }) s m (([.int p0, .int p1] : List Value).toArray) below meth c s.heap [] 0 0 (MQ below (vp_Si (fun r_ => r_ = out)) (([.int p0, .int p1] : List Value).toArray) s 0 0 (fun _ => False)) (F0 m pc ls [.int v]) := fun pc ls v hv hz hd => W.zret hx hb hr hz (fun t ht hW => ⟨v, rfl, hv, ht⟩) (fun q hq => absurd hq List.not_mem_nil) hd
  show W p l e ({ frames := 0, cells := 0, slots := 0, locals := 0 }) s m (([.int p0, .int p1] : List Value).toArray) below meth c s.heap [] 0 0 (MQ below (vp_Si (fun r_ => r_ = out)) (([.int p0, .int p1] : List Value).toArray) s 0 0 (fun _ => False)) (entryFrame m (([.int p0, .int p1] : List Value).toArray) 2)
  generalize MQ below (vp_Si (fun r_ => r_ = out)) (([.int p0, .int p1] : List Value).toArray) s 0 0 (fun _ => False) = Q at hret ⊢
  have hl := lv_entry ([.int p0, .int p1]) (n := 2) (Nat.le_of_ble_eq_true rfl)
  rw [lg_entry_eq]
  generalize (lg_sl ([.int p0, .int p1]) ++ List.replicate (2 - (lg_sl ([.int p0, .int p1])).length) Slot.unset).toArray = ls at hl ⊢
  have hl : lv_has ls 2 [(0, .int p0), (1, .int p1)] := hl
  refine lv_iload_n hx hb dX1_fits_0 rfl (lv_at hl 0 rfl) ?_
  refine lv_bipush (v := 6) hx hb dX1_fits_1 (by decide) ?_
  refine lv_icmp_ge (tgt := 24) hx hb dX1_fits_3 (by decide) (fun c1 => ?_) (fun c1 => ?_)
  · have hw := ite_t hw c1
    refine lv_iload_n hx hb dX1_fits_24 rfl (lv_at hl 0 rfl) ?_
    by_cases c2 : p0 = 6
    · have hw := ite_t hw c2
      refine lv_tableIn (off := 27) (tgt := 52) hx hb dX1_fits_25 (by rw [c2]; decide) (by rw [c2]; decide) (by rw [c2]; rfl) (by decide) ?_
      refine lv_iload_n hx hb dX1_fits_52 rfl (lv_at hl 1 rfl) ?_
      refine lv_bipush (v := 59) hx hb dX1_fits_53 (by decide) ?_
      refine lv_icmp_ne (tgt := 62) hx hb dX1_fits_55 (by decide) (fun c3 => ?_) (fun c3 => ?_)
      · have hw := ite_f hw c3
        refine lv_iconst (v := 0) hx hb dX1_fits_62 (by decide) ?_
        exact hret _ _ _ (Option.some.inj hw) rfl dX1_fits_63
      · have hw := ite_t hw c3
        refine lv_iconst (v := 1) hx hb dX1_fits_58 (by decide) ?_
        refine lv_goto (tgt := 63) hx hb dX1_fits_59 (by decide) ?_
        exact hret _ _ _ (Option.some.inj hw) rfl dX1_fits_63
    have hw := ite_f hw c2
    by_cases c4 : p0 = 7
    · have hw := ite_t hw c4
      refine lv_tableIn (off := 39) (tgt := 64) hx hb dX1_fits_25 (by rw [c4]; decide) (by rw [c4]; decide) (by rw [c4]; rfl) (by decide) ?_
      refine lv_iload_n hx hb dX1_fits_64 rfl (lv_at hl 1 rfl) ?_
      refine lv_bipush (v := 49) hx hb dX1_fits_65 (by decide) ?_
      refine lv_icmp_lt (tgt := 80) hx hb dX1_fits_67 (by decide) (fun c5 => ?_) (fun c5 => ?_)
      · have hw := ite_t hw c5
        refine lv_iconst (v := 0) hx hb dX1_fits_80 (by decide) ?_
        exact hret _ _ _ (Option.some.inj hw) rfl dX1_fits_81
      · have hw := ite_f hw c5
        refine lv_iload_n hx hb dX1_fits_70 rfl (lv_at hl 1 rfl) ?_
        refine lv_bipush (v := 57) hx hb dX1_fits_71 (by decide) ?_
        refine lv_icmp_gt (tgt := 80) hx hb dX1_fits_73 (by decide) (fun c6 => ?_) (fun c6 => ?_)
        · have hw := ite_t hw c6
          refine lv_iconst (v := 0) hx hb dX1_fits_80 (by decide) ?_
          exact hret _ _ _ (Option.some.inj hw) rfl dX1_fits_81
        · have hw := ite_f hw c6
          refine lv_iconst (v := 1) hx hb dX1_fits_76 (by decide) ?_
          refine lv_goto (tgt := 81) hx hb dX1_fits_77 (by decide) ?_
          exact hret _ _ _ (Option.some.inj hw) rfl dX1_fits_81
    have hw := ite_f hw c4
    by_cases c7 : p0 = 8
    · have hw := ite_t hw c7
      refine lv_tableIn (off := 57) (tgt := 82) hx hb dX1_fits_25 (by rw [c7]; decide) (by rw [c7]; decide) (by rw [c7]; rfl) (by decide) ?_
      refine lv_iload_n hx hb dX1_fits_82 rfl (lv_at hl 1 rfl) ?_
      refine lv_bipush (v := 49) hx hb dX1_fits_83 (by decide) ?_
      refine lv_icmp_lt (tgt := 98) hx hb dX1_fits_85 (by decide) (fun c8 => ?_) (fun c8 => ?_)
      · have hw := ite_t hw c8
        refine lv_iconst (v := 0) hx hb dX1_fits_98 (by decide) ?_
        exact hret _ _ _ (Option.some.inj hw) rfl dX1_fits_99
      · have hw := ite_f hw c8
        refine lv_iload_n hx hb dX1_fits_88 rfl (lv_at hl 1 rfl) ?_
        refine lv_bipush (v := 53) hx hb dX1_fits_89 (by decide) ?_
        refine lv_icmp_gt (tgt := 98) hx hb dX1_fits_91 (by decide) (fun c9 => ?_) (fun c9 => ?_)
        · have hw := ite_t hw c9
          refine lv_iconst (v := 0) hx hb dX1_fits_98 (by decide) ?_
          exact hret _ _ _ (Option.some.inj hw) rfl dX1_fits_99
        · have hw := ite_f hw c9
          refine lv_iconst (v := 1) hx hb dX1_fits_94 (by decide) ?_
          refine lv_goto (tgt := 99) hx hb dX1_fits_95 (by decide) ?_
          exact hret _ _ _ (Option.some.inj hw) rfl dX1_fits_99
    have hw := ite_f hw c7
    refine lv_tableOut (tgt := 100) hx hb dX1_fits_25 (by have qc2 := i32_ne c2 (z := 6) (by decide); have qc4 := i32_ne c4 (z := 7) (by decide); have qc7 := i32_ne c7 (z := 8) (by decide); omega) (by decide) ?_
    refine lv_iconst (v := 0) hx hb dX1_fits_100 (by decide) ?_
    exact hret _ _ _ (Option.some.inj hw) rfl dX1_fits_101
  · have hw := ite_f hw c1
    refine lv_iload_n hx hb dX1_fits_6 rfl (lv_at hl 1 rfl) ?_
    refine lv_bipush (v := 48) hx hb dX1_fits_7 (by decide) ?_
    refine lv_icmp_lt (tgt := 22) hx hb dX1_fits_9 (by decide) (fun c10 => ?_) (fun c10 => ?_)
    · have hw := ite_t hw c10
      refine lv_iconst (v := 0) hx hb dX1_fits_22 (by decide) ?_
      exact hret _ _ _ (Option.some.inj hw) rfl dX1_fits_23
    · have hw := ite_f hw c10
      refine lv_iload_n hx hb dX1_fits_12 rfl (lv_at hl 1 rfl) ?_
      refine lv_bipush (v := 57) hx hb dX1_fits_13 (by decide) ?_
      refine lv_icmp_gt (tgt := 22) hx hb dX1_fits_15 (by decide) (fun c11 => ?_) (fun c11 => ?_)
      · have hw := ite_t hw c11
        refine lv_iconst (v := 0) hx hb dX1_fits_22 (by decide) ?_
        exact hret _ _ _ (Option.some.inj hw) rfl dX1_fits_23
      · have hw := ite_f hw c11
        refine lv_iconst (v := 1) hx hb dX1_fits_18 (by decide) ?_
        refine lv_goto (tgt := 23) hx hb dX1_fits_19 (by decide) ?_
        exact hret _ _ _ (Option.some.inj hw) rfl dX1_fits_23
set_option maxHeartbeats 4000000 in
set_option maxRecDepth 100000 in
theorem c_X1_firstWrong (l : Launch) (dC : Nat → ClassId) (dI : Nat → Nat → Nat) (a : Nat → Nat) (cA : ClassId) (X : WS) (out : Int32) (hw : f_X1_firstWrong X = some out) : Met l yX1_firstWrong (.code yX1_firstWrong cX1_firstWrong 2 (some .int) :: lw_g) ({ frames := 1, cells := 0, slots := 0, locals := 21 }) (PcX dC dI a cA X [.ref (a 1)]) (vp_Si (fun r_ => r_ = out)) 0 0 (fun _ => False) := by
  unfold f_X1_firstWrong at hw
  refine Met.ofW (cc := cX1_firstWrong) (maxL := 2) (ret := (some .int)) (by decide) rfl ?_
  intro p e s m args below meth c s₁ B hml hv
  obtain ⟨rfl, hP, hK, hN⟩ := hv
  have hx := B.exec
  have hb := B.bytes
  have hr := B.returns
  have hts0 := atoms_spec (ws := (.code yX1_firstWrong cX1_firstWrong 2 (some .int) :: lw_g)) B.pre
  have hts : ∀ w ∈ lw_g, w.before (([.ref (a 1)] : List Value).toArray) s = true := fun w h => hts0 w (List.mem_cons_of_mem _ h)
  clear hts0
  have hown : s.vm.findClass RX1 = some m.cls := findClass_of_methodNamed B.named
  have hlocks := B.notSynchronized
  have hret : ∀ (pc : Nat) (ls : Array Slot) (v : Int32), v = out → decode cX1_firstWrong pc = .ok (.ireturn, 1) → W p l e ({ frames := 1, cells := 0, slots := 0, locals := 21 }) s m (([.ref (a 1)] : List Value).toArray) below meth c s.heap [] 0 0 (MQ below (vp_Si (fun r_ => r_ = out)) (([.ref (a 1)] : List Value).toArray) s 0 0 (fun _ => False)) (F0 m pc ls [.int v]) := fun pc ls v hv hd => W.iret hx hb hr (fun t ht hW => ⟨v, rfl, hv, ht⟩) (fun q hq => absurd hq List.not_mem_nil) hd
  show W p l e ({ frames := 1, cells := 0, slots := 0, locals := 21 }) s m (([.ref (a 1)] : List Value).toArray) below meth c s.heap [] 0 0 (MQ below (vp_Si (fun r_ => r_ = out)) (([.ref (a 1)] : List Value).toArray) s 0 0 (fun _ => False)) (entryFrame m (([.ref (a 1)] : List Value).toArray) 2)
  generalize MQ below (vp_Si (fun r_ => r_ = out)) (([.ref (a 1)] : List Value).toArray) s 0 0 (fun _ => False) = Q at hret ⊢
  have L2 : ∀ n : Nat, ∀ (v1 : Int32), g_X1_firstWrong_2 X n v1 = some out → ∀ ls : Array Slot, lv_has ls 2 [(0, .ref (a 1)), (1, .int v1)] → W p l e ({ frames := 1, cells := 0, slots := 0, locals := 21 }) s m (([.ref (a 1)] : List Value).toArray) below meth c s.heap [] 0 0 Q (F0 m 2 ls []) := by
    intro n
    induction n with
    | zero =>
      intro v1 hw
      rw [g_X1_firstWrong_2] at hw
      cases hw
    | succ n ih =>
      intro v1 hw ls hl
      rw [g_X1_firstWrong_2] at hw
      refine lv_iload_n hx hb dX1_firstWrong_2 rfl (lv_at hl 1 rfl) ?_
      refine lv_aload_n hx hb dX1_firstWrong_3 rfl (lv_at hl 0 rfl) ?_
      refine va_get (D := (dC, dI)) (ci := 1) (v := .int (X 1 1)) (C := RX1) (T := TX1) (N := 2) hx hb hts iX1 hown hK hP 1 rfl rfl 1 (by decide) (hts _ wd_59) (fun _ h9 => h9) rfl dX1_firstWrong_4 ?_
      refine lv_icmp_ge (tgt := 29) hx hb dX1_firstWrong_7 (by decide) (fun c1 => ?_) (fun c1 => ?_)
      · have hw := ite_t hw c1
        refine lv_iload_n hx hb dX1_firstWrong_29 rfl (lv_at hl 1 rfl) ?_
        exact hret _ _ _ (Option.some.inj hw) dX1_firstWrong_30
      · have hw := ite_f hw c1
        refine lv_iload_n hx hb dX1_firstWrong_10 rfl (lv_at hl 1 rfl) ?_
        refine lv_aload_n hx hb dX1_firstWrong_11 rfl (lv_at hl 0 rfl) ?_
        refine va_get (D := (dC, dI)) (ci := 1) (v := .ref (a 2)) (C := RX1) (T := TX1) (N := 2) hx hb hts iX1 hown hK hP 1 rfl rfl 0 (by decide) (hts _ wd_57) (fun _ h9 => h9) rfl dX1_firstWrong_12 ?_
        refine lv_iload_n hx hb dX1_firstWrong_15 rfl (lv_at hl 1 rfl) ?_
        obtain ⟨h2, hw⟩ := ixc_use hw
        refine va_iald hx hb hK hP 2 0 rfl rfl h2 dX1_firstWrong_16 ?_
        obtain ⟨r3, er3, hw⟩ := Option.bind_eq_some_iff.mp hw
        refine vp_callSi (va_runS (As := [.int v1, .int (X 2 (Int32.toNatClampNeg v1))]) (rest := []) ⟨hx, hb, hml, hown, hts⟩ (c_X1_fits l v1 (X 2 (Int32.toNatClampNeg v1)) r3 er3) ⟨callB_of 2 hts gd_X1_fits rfl rfl rfl (hts _ wd_36) (hts _ wd_221) hd_X1_fits ⟨Nat.le_of_ble_eq_true rfl, Nat.le_of_ble_eq_true rfl⟩, hts _ wd_222⟩ ⟨bl0, fun U hU hW => ⟨rfl, trivial⟩⟩ rfl rfl hl.1 rfl (lv_room (Nat.le_of_ble_eq_true rfl)) dX1_firstWrong_17 ⟨Nat.zero_le _, Nat.zero_le _⟩).run (fun r_ e_ => ?_)
        subst r_
        refine lv_if_eq (tgt := 29) hx hb dX1_firstWrong_20 (by decide) (fun c4 => ?_) (fun c4 => ?_)
        · have hw := ite_t hw c4
          refine lv_iload_n hx hb dX1_firstWrong_29 rfl (lv_at hl 1 rfl) ?_
          exact hret _ _ _ (Option.some.inj hw) dX1_firstWrong_30
        · have hw := ite_f hw c4
          obtain ⟨x5, ex5⟩ : ∃ y : Int32, y = (v1 + 1) := ⟨_, rfl⟩
          have hw := stp_use hw ex5
          refine lv_iinc (v := x5) (lv' := [(1, .int x5), (0, .ref (a 1))]) hx hb dX1_firstWrong_23 hl (k := 1) rfl (by rw [ex5]; rfl) (by decide) rfl (fun ls hl => ?_)
          refine lv_goto (tgt := 2) hx hb dX1_firstWrong_26 (by decide) ?_
          exact ih x5 hw ls (lv_sub hl [1, 0] rfl)
  have hl := lv_entry ([.ref (a 1)]) (n := 2) (Nat.le_of_ble_eq_true rfl)
  rw [lg_entry_eq]
  generalize (lg_sl ([.ref (a 1)]) ++ List.replicate (2 - (lg_sl ([.ref (a 1)])).length) Slot.unset).toArray = ls at hl ⊢
  have hl : lv_has ls 2 [(0, .ref (a 1))] := hl
  refine lv_iconst (v := 0) hx hb dX1_firstWrong_0 (by decide) ?_
  refine lv_istore_n (lv' := [(1, .int 0), (0, .ref (a 1))]) hx hb dX1_firstWrong_1 rfl hl (by decide) rfl (fun ls hl => ?_)
  exact L2 NF 0 hw ls (lv_sub hl [1, 0] rfl)
set_option maxHeartbeats 4000000 in
set_option maxRecDepth 100000 in
theorem c_X3_fault (l : Launch) (dC : Nat → ClassId) (dI : Nat → Nat → Nat) (a : Nat → Nat) (cA : ClassId) (X : WS) (out : Int32) (hw : f_X3_fault X = some out) : Met l yX3_fault (.code yX3_fault cX3_fault 1 (some .int) :: lw_g) ({ frames := 2, cells := 0, slots := 0, locals := 42 }) (PcX dC dI a cA X [.ref (a 0)]) (vp_Si (fun r_ => r_ = out)) 0 0 (fun _ => False) := by
  unfold f_X3_fault at hw
  refine Met.ofW (cc := cX3_fault) (maxL := 1) (ret := (some .int)) (by decide) rfl ?_
  intro p e s m args below meth c s₁ B hml hv
  obtain ⟨rfl, hP, hK, hN⟩ := hv
  have hx := B.exec
  have hb := B.bytes
  have hr := B.returns
  have hts0 := atoms_spec (ws := (.code yX3_fault cX3_fault 1 (some .int) :: lw_g)) B.pre
  have hts : ∀ w ∈ lw_g, w.before (([.ref (a 0)] : List Value).toArray) s = true := fun w h => hts0 w (List.mem_cons_of_mem _ h)
  clear hts0
  have hown : s.vm.findClass RX3 = some m.cls := findClass_of_methodNamed B.named
  have hlocks := B.notSynchronized
  have hret : ∀ (pc : Nat) (ls : Array Slot) (v : Int32), v = out → decode cX3_fault pc = .ok (.ireturn, 1) → W p l e ({ frames := 2, cells := 0, slots := 0, locals := 42 }) s m (([.ref (a 0)] : List Value).toArray) below meth c s.heap [] 0 0 (MQ below (vp_Si (fun r_ => r_ = out)) (([.ref (a 0)] : List Value).toArray) s 0 0 (fun _ => False)) (F0 m pc ls [.int v]) := fun pc ls v hv hd => W.iret hx hb hr (fun t ht hW => ⟨v, rfl, hv, ht⟩) (fun q hq => absurd hq List.not_mem_nil) hd
  show W p l e ({ frames := 2, cells := 0, slots := 0, locals := 42 }) s m (([.ref (a 0)] : List Value).toArray) below meth c s.heap [] 0 0 (MQ below (vp_Si (fun r_ => r_ = out)) (([.ref (a 0)] : List Value).toArray) s 0 0 (fun _ => False)) (entryFrame m (([.ref (a 0)] : List Value).toArray) 1)
  generalize MQ below (vp_Si (fun r_ => r_ = out)) (([.ref (a 0)] : List Value).toArray) s 0 0 (fun _ => False) = Q at hret ⊢
  have hl := lv_entry ([.ref (a 0)]) (n := 1) (Nat.le_of_ble_eq_true rfl)
  rw [lg_entry_eq]
  generalize (lg_sl ([.ref (a 0)]) ++ List.replicate (1 - (lg_sl ([.ref (a 0)])).length) Slot.unset).toArray = ls at hl ⊢
  have hl : lv_has ls 1 [(0, .ref (a 0))] := hl
  refine lv_aload_n hx hb dX3_fault_0 rfl (lv_at hl 0 rfl) ?_
  refine va_get (D := (dC, dI)) (ci := 3) (v := .ref (a 1)) (C := RX3) (T := TX3) (N := 6) hx hb hts iX3 hown hK hP 0 rfl rfl 0 (by decide) (hts _ wd_178) (fun _ h9 => h9) rfl dX3_fault_1 ?_
  obtain ⟨r1, er1, hw⟩ := Option.bind_eq_some_iff.mp hw
  refine vp_callSi (va_runV (As := []) (rest := []) ⟨hx, hb, hml, hown, hts⟩ (c_X1_firstWrong l dC dI a cA X r1 er1) ⟨callB_of 0 hts gd_X1_firstWrong rfl rfl rfl (hts _ wd_36) (hts _ wd_217) hd_X1_firstWrong ⟨Nat.le_of_ble_eq_true rfl, Nat.le_of_ble_eq_true rfl⟩, hts _ wd_218, hts _ wd_219⟩ ⟨blX, va_recv hK hP (ci := 1) (q0 := 1) rfl rfl, fun U hU hW => ⟨rfl, by rw [hU]; exact hP, va_K.moved hW.alike hK, nst.warm hW hN⟩⟩ rfl rfl hl.1 rfl (lv_room (Nat.le_of_ble_eq_true rfl)) dX3_fault_4 ⟨Nat.zero_le _, Nat.zero_le _⟩).run (fun r_ e_ => ?_)
  subst r_
  exact hret _ _ _ (Option.some.inj hw) dX3_fault_7
set_option maxHeartbeats 4000000 in
set_option maxRecDepth 100000 in
theorem c_X4_isGood (l : Launch) (p0 : Int32) (p1 : Int32) (out : Int32) (hw : f_X4_isGood p0 p1 = some out) : Met l yX4_isGood (.code yX4_isGood cX4_isGood 3 (some .boolean) :: lw_g) ({ frames := 1, cells := 0, slots := 0, locals := 25 }) (Pc0 [.int p0, .int p1]) (vp_Si (fun r_ => r_ = out)) 0 0 (fun _ => False) := by
  unfold f_X4_isGood at hw
  refine Met.ofW (cc := cX4_isGood) (maxL := 3) (ret := (some .boolean)) (by decide) rfl ?_
  intro p e s m args below meth c s₁ B hml hv
  obtain ⟨rfl, -⟩ := hv
  have hx := B.exec
  have hb := B.bytes
  have hr := B.returns
  have hts0 := atoms_spec (ws := (.code yX4_isGood cX4_isGood 3 (some .boolean) :: lw_g)) B.pre
  have hts : ∀ w ∈ lw_g, w.before (([.int p0, .int p1] : List Value).toArray) s = true := fun w h => hts0 w (List.mem_cons_of_mem _ h)
  clear hts0
  have hown : s.vm.findClass RX4 = some m.cls := findClass_of_methodNamed B.named
  have hlocks := B.notSynchronized
  have hret : ∀ (pc : Nat) (ls : Array Slot) (v : Int32), v = out → (hz : narrow .boolean (.int v) = .int v) → decode cX4_isGood pc = .ok (.ireturn, 1) → W p l e ({ frames := 1, cells := 0, slots := 0, locals := 25 }) s m (([.int p0, .int p1] : List Value).toArray) below meth c s.heap [] 0 0 (MQ below (vp_Si (fun r_ => r_ = out)) (([.int p0, .int p1] : List Value).toArray) s 0 0 (fun _ => False)) (F0 m pc ls [.int v]) := fun pc ls v hv hz hd => W.zret hx hb hr hz (fun t ht hW => ⟨v, rfl, hv, ht⟩) (fun q hq => absurd hq List.not_mem_nil) hd
  show W p l e ({ frames := 1, cells := 0, slots := 0, locals := 25 }) s m (([.int p0, .int p1] : List Value).toArray) below meth c s.heap [] 0 0 (MQ below (vp_Si (fun r_ => r_ = out)) (([.int p0, .int p1] : List Value).toArray) s 0 0 (fun _ => False)) (entryFrame m (([.int p0, .int p1] : List Value).toArray) 3)
  generalize MQ below (vp_Si (fun r_ => r_ = out)) (([.int p0, .int p1] : List Value).toArray) s 0 0 (fun _ => False) = Q at hret ⊢
  have hl := lv_entry ([.int p0, .int p1]) (n := 3) (Nat.le_of_ble_eq_true rfl)
  rw [lg_entry_eq]
  generalize (lg_sl ([.int p0, .int p1]) ++ List.replicate (3 - (lg_sl ([.int p0, .int p1])).length) Slot.unset).toArray = ls at hl ⊢
  have hl : lv_has ls 3 [(0, .int p0), (1, .int p1)] := hl
  refine lv_iload_n hx hb dX4_isGood_0 rfl (lv_at hl 1 rfl) ?_
  refine lv_bipush (v := 48) hx hb dX4_isGood_1 (by decide) ?_
  refine lv_isub hx hb dX4_isGood_3 ?_
  refine lv_topi (fun x1 ex1 => ?_)
  have hw := stp_use hw ex1
  refine lv_istore_n (lv' := [(2, .int x1), (0, .int p0), (1, .int p1)]) hx hb dX4_isGood_4 rfl hl (by decide) rfl (fun ls hl => ?_)
  refine lv_iload_n hx hb dX4_isGood_5 rfl (lv_at hl 1 rfl) ?_
  refine lv_bipush (v := 6) hx hb dX4_isGood_6 (by decide) ?_
  refine lv_icmp_ne (tgt := 23) hx hb dX4_isGood_8 (by decide) (fun c2 => ?_) (fun c2 => ?_)
  · have hw := ite_f hw c2
    refine lv_iload_n hx hb dX4_isGood_23 rfl (lv_at hl 1 rfl) ?_
    refine lv_bipush (v := 6) hx hb dX4_isGood_24 (by decide) ?_
    refine lv_icmp_ge (tgt := 41) hx hb dX4_isGood_26 (by decide) (fun c3 => ?_) (fun c3 => ?_)
    · have hw := ite_t hw c3
      refine lv_iload_n hx hb dX4_isGood_41 rfl (lv_at hl 1 rfl) ?_
      refine lv_bipush (v := 7) hx hb dX4_isGood_42 (by decide) ?_
      refine lv_icmp_ne (tgt := 59) hx hb dX4_isGood_44 (by decide) (fun c4 => ?_) (fun c4 => ?_)
      · have hw := ite_f hw c4
        refine lv_iload_n hx hb dX4_isGood_59 rfl (lv_at hl 1 rfl) ?_
        refine lv_bipush (v := 8) hx hb dX4_isGood_60 (by decide) ?_
        refine lv_icmp_ne (tgt := 81) hx hb dX4_isGood_62 (by decide) (fun c5 => ?_) (fun c5 => ?_)
        · have hw := ite_f hw c5
          refine lv_iconst (v := 0) hx hb dX4_isGood_81 (by decide) ?_
          exact hret _ _ _ (Option.some.inj hw) rfl dX4_isGood_82
        · have hw := ite_t hw c5
          refine lv_iload_n hx hb dX4_isGood_65 rfl (lv_at hl 0 rfl) ?_
          refine lv_i2l hx hb dX4_isGood_66 rfl ?_
          refine lv_lconst (v := 1) hx hb dX4_isGood_67 (by decide) ?_
          refine lv_ldc2 hx hb hown (hts _ wd_634) dX4_isGood_68 ?_
          obtain ⟨r6, er6, hw⟩ := Option.bind_eq_some_iff.mp hw
          refine vp_callSi (va_runS (As := [.long (Int32.toInt64 x1), .long 1, .long 5]) (rest := []) ⟨hx, hb, hml, hown, hts⟩ (c_X4_in l (Int32.toInt64 x1) 1 5 r6 er6) ⟨callB_of 3 hts gd_X4_in rfl rfl rfl (hts _ wd_39) (hts _ wd_615) hd_X4_in ⟨Nat.le_of_ble_eq_true rfl, Nat.le_of_ble_eq_true rfl⟩, hts _ wd_616⟩ ⟨bl0, fun U hU hW => ⟨rfl, trivial⟩⟩ rfl rfl hl.1 rfl (lv_room (Nat.le_of_ble_eq_true rfl)) dX4_isGood_71 ⟨Nat.zero_le _, Nat.zero_le _⟩).run (fun r_ e_ => ?_)
          subst r_
          refine lv_if_eq (tgt := 81) hx hb dX4_isGood_74 (by decide) (fun c7 => ?_) (fun c7 => ?_)
          · have hw := ite_t hw c7
            refine lv_iconst (v := 0) hx hb dX4_isGood_81 (by decide) ?_
            exact hret _ _ _ (Option.some.inj hw) rfl dX4_isGood_82
          · have hw := ite_f hw c7
            refine lv_iconst (v := 1) hx hb dX4_isGood_77 (by decide) ?_
            refine lv_goto (tgt := 82) hx hb dX4_isGood_78 (by decide) ?_
            exact hret _ _ _ (Option.some.inj hw) rfl dX4_isGood_82
      · have hw := ite_t hw c4
        refine lv_iload_n hx hb dX4_isGood_47 rfl (lv_at hl 0 rfl) ?_
        refine lv_i2l hx hb dX4_isGood_48 rfl ?_
        refine lv_lconst (v := 1) hx hb dX4_isGood_49 (by decide) ?_
        refine lv_ldc2 hx hb hown (hts _ wd_633) dX4_isGood_50 ?_
        obtain ⟨r8, er8, hw⟩ := Option.bind_eq_some_iff.mp hw
        refine vp_callSi (va_runS (As := [.long (Int32.toInt64 x1), .long 1, .long 9]) (rest := []) ⟨hx, hb, hml, hown, hts⟩ (c_X4_in l (Int32.toInt64 x1) 1 9 r8 er8) ⟨callB_of 3 hts gd_X4_in rfl rfl rfl (hts _ wd_39) (hts _ wd_615) hd_X4_in ⟨Nat.le_of_ble_eq_true rfl, Nat.le_of_ble_eq_true rfl⟩, hts _ wd_616⟩ ⟨bl0, fun U hU hW => ⟨rfl, trivial⟩⟩ rfl rfl hl.1 rfl (lv_room (Nat.le_of_ble_eq_true rfl)) dX4_isGood_53 ⟨Nat.zero_le _, Nat.zero_le _⟩).run (fun r_ e_ => ?_)
        subst r_
        refine lv_goto (tgt := 82) hx hb dX4_isGood_56 (by decide) ?_
        obtain ⟨hz_, hw⟩ := zck_use hw
        exact hret _ _ _ (Option.some.inj hw) (nz hz_) dX4_isGood_82
    · have hw := ite_f hw c3
      refine lv_iload_n hx hb dX4_isGood_29 rfl (lv_at hl 0 rfl) ?_
      refine lv_i2l hx hb dX4_isGood_30 rfl ?_
      refine lv_lconst (v := 0) hx hb dX4_isGood_31 (by decide) ?_
      refine lv_ldc2 hx hb hown (hts _ wd_633) dX4_isGood_32 ?_
      obtain ⟨r9, er9, hw⟩ := Option.bind_eq_some_iff.mp hw
      refine vp_callSi (va_runS (As := [.long (Int32.toInt64 x1), .long 0, .long 9]) (rest := []) ⟨hx, hb, hml, hown, hts⟩ (c_X4_in l (Int32.toInt64 x1) 0 9 r9 er9) ⟨callB_of 3 hts gd_X4_in rfl rfl rfl (hts _ wd_39) (hts _ wd_615) hd_X4_in ⟨Nat.le_of_ble_eq_true rfl, Nat.le_of_ble_eq_true rfl⟩, hts _ wd_616⟩ ⟨bl0, fun U hU hW => ⟨rfl, trivial⟩⟩ rfl rfl hl.1 rfl (lv_room (Nat.le_of_ble_eq_true rfl)) dX4_isGood_35 ⟨Nat.zero_le _, Nat.zero_le _⟩).run (fun r_ e_ => ?_)
      subst r_
      refine lv_goto (tgt := 82) hx hb dX4_isGood_38 (by decide) ?_
      obtain ⟨hz_, hw⟩ := zck_use hw
      exact hret _ _ _ (Option.some.inj hw) (nz hz_) dX4_isGood_82
  · have hw := ite_t hw c2
    refine lv_iload_n hx hb dX4_isGood_11 rfl (lv_at hl 2 rfl) ?_
    refine lv_bipush (v := 59) hx hb dX4_isGood_12 (by decide) ?_
    refine lv_icmp_ne (tgt := 21) hx hb dX4_isGood_14 (by decide) (fun c10 => ?_) (fun c10 => ?_)
    · have hw := ite_f hw c10
      refine lv_iconst (v := 0) hx hb dX4_isGood_21 (by decide) ?_
      exact hret _ _ _ (Option.some.inj hw) rfl dX4_isGood_22
    · have hw := ite_t hw c10
      refine lv_iconst (v := 1) hx hb dX4_isGood_17 (by decide) ?_
      refine lv_goto (tgt := 22) hx hb dX4_isGood_18 (by decide) ?_
      exact hret _ _ _ (Option.some.inj hw) rfl dX4_isGood_22
set_option maxHeartbeats 4000000 in
set_option maxRecDepth 100000 in
theorem c_X4_faultOf (l : Launch) (dC : Nat → ClassId) (dI : Nat → Nat → Nat) (a : Nat → Nat) (cA : ClassId) (X : MS) (out : Int32) (hw : f_X4_faultOf X = some out) : Met l yX4_faultOf (.code yX4_faultOf cX4_faultOf 2 (some .int) :: lw_g) ({ frames := 2, cells := 0, slots := 0, locals := 47 }) (PcM dC dI a cA X [.ref (a 0)]) (vp_Si (fun r_ => r_ = out)) 0 0 (fun _ => False) := by
  unfold f_X4_faultOf at hw
  refine Met.ofW (cc := cX4_faultOf) (maxL := 2) (ret := (some .int)) (by decide) rfl ?_
  intro p e s m args below meth c s₁ B hml hv
  obtain ⟨rfl, hP, hK⟩ := hv
  have hx := B.exec
  have hb := B.bytes
  have hr := B.returns
  have hts0 := atoms_spec (ws := (.code yX4_faultOf cX4_faultOf 2 (some .int) :: lw_g)) B.pre
  have hts : ∀ w ∈ lw_g, w.before (([.ref (a 0)] : List Value).toArray) s = true := fun w h => hts0 w (List.mem_cons_of_mem _ h)
  clear hts0
  have hown : s.vm.findClass RX4 = some m.cls := findClass_of_methodNamed B.named
  have hlocks := B.notSynchronized
  have hret : ∀ (pc : Nat) (ls : Array Slot) (v : Int32), v = out → decode cX4_faultOf pc = .ok (.ireturn, 1) → W p l e ({ frames := 2, cells := 0, slots := 0, locals := 47 }) s m (([.ref (a 0)] : List Value).toArray) below meth c s.heap [] 0 0 (MQ below (vp_Si (fun r_ => r_ = out)) (([.ref (a 0)] : List Value).toArray) s 0 0 (fun _ => False)) (F0 m pc ls [.int v]) := fun pc ls v hv hd => W.iret hx hb hr (fun t ht hW => ⟨v, rfl, hv, ht⟩) (fun q hq => absurd hq List.not_mem_nil) hd
  show W p l e ({ frames := 2, cells := 0, slots := 0, locals := 47 }) s m (([.ref (a 0)] : List Value).toArray) below meth c s.heap [] 0 0 (MQ below (vp_Si (fun r_ => r_ = out)) (([.ref (a 0)] : List Value).toArray) s 0 0 (fun _ => False)) (entryFrame m (([.ref (a 0)] : List Value).toArray) 2)
  generalize MQ below (vp_Si (fun r_ => r_ = out)) (([.ref (a 0)] : List Value).toArray) s 0 0 (fun _ => False) = Q at hret ⊢
  have L2 : ∀ n : Nat, ∀ (v1 : Int32), g_X4_faultOf_2 X n v1 = some out → ∀ ls : Array Slot, lv_has ls 2 [(0, .ref (a 0)), (1, .int v1)] → W p l e ({ frames := 2, cells := 0, slots := 0, locals := 47 }) s m (([.ref (a 0)] : List Value).toArray) below meth c s.heap [] 0 0 Q (F0 m 2 ls []) := by
    intro n
    induction n with
    | zero =>
      intro v1 hw
      rw [g_X4_faultOf_2] at hw
      cases hw
    | succ n ih =>
      intro v1 hw ls hl
      rw [g_X4_faultOf_2] at hw
      refine lv_iload_n hx hb dX4_faultOf_2 rfl (lv_at hl 1 rfl) ?_
      refine lv_aload_n hx hb dX4_faultOf_3 rfl (lv_at hl 0 rfl) ?_
      refine va_get (D := (dC, dI)) (ci := 4) (v := .int (X.1 0 1)) (C := RX4) (T := TX4) (N := 29) hx hb hts iX4 hown hK hP 0 rfl rfl 1 (by decide) (hts _ wd_523) (fun _ h9 => h9) rfl dX4_faultOf_4 ?_
      refine lv_icmp_ge (tgt := 29) hx hb dX4_faultOf_7 (by decide) (fun c1 => ?_) (fun c1 => ?_)
      · have hw := ite_t hw c1
        refine lv_iload_n hx hb dX4_faultOf_29 rfl (lv_at hl 1 rfl) ?_
        exact hret _ _ _ (Option.some.inj hw) dX4_faultOf_30
      · have hw := ite_f hw c1
        refine lv_iload_n hx hb dX4_faultOf_10 rfl (lv_at hl 1 rfl) ?_
        refine lv_aload_n hx hb dX4_faultOf_11 rfl (lv_at hl 0 rfl) ?_
        refine va_get (D := (dC, dI)) (ci := 4) (v := .ref (a 1)) (C := RX4) (T := TX4) (N := 29) hx hb hts iX4 hown hK hP 0 rfl rfl 0 (by decide) (hts _ wd_522) (fun _ h9 => h9) rfl dX4_faultOf_12 ?_
        refine lv_iload_n hx hb dX4_faultOf_15 rfl (lv_at hl 1 rfl) ?_
        obtain ⟨h2, hw⟩ := ixc_use hw
        refine va_iald hx hb hK hP 1 0 rfl rfl h2 dX4_faultOf_16 ?_
        obtain ⟨r3, er3, hw⟩ := Option.bind_eq_some_iff.mp hw
        refine vp_callSi (va_runS (As := [.int v1, .int (X.1 1 (Int32.toNatClampNeg v1))]) (rest := []) ⟨hx, hb, hml, hown, hts⟩ (c_X4_isGood l v1 (X.1 1 (Int32.toNatClampNeg v1)) r3 er3) ⟨callB_of 2 hts gd_X4_isGood rfl rfl rfl (hts _ wd_39) (hts _ wd_630) hd_X4_isGood ⟨Nat.le_of_ble_eq_true rfl, Nat.le_of_ble_eq_true rfl⟩, hts _ wd_631⟩ ⟨bl0, fun U hU hW => ⟨rfl, trivial⟩⟩ rfl rfl hl.1 rfl (lv_room (Nat.le_of_ble_eq_true rfl)) dX4_faultOf_17 ⟨Nat.zero_le _, Nat.zero_le _⟩).run (fun r_ e_ => ?_)
        subst r_
        refine lv_if_eq (tgt := 29) hx hb dX4_faultOf_20 (by decide) (fun c4 => ?_) (fun c4 => ?_)
        · have hw := ite_t hw c4
          refine lv_iload_n hx hb dX4_faultOf_29 rfl (lv_at hl 1 rfl) ?_
          exact hret _ _ _ (Option.some.inj hw) dX4_faultOf_30
        · have hw := ite_f hw c4
          obtain ⟨x5, ex5⟩ : ∃ y : Int32, y = (v1 + 1) := ⟨_, rfl⟩
          have hw := stp_use hw ex5
          refine lv_iinc (v := x5) (lv' := [(1, .int x5), (0, .ref (a 0))]) hx hb dX4_faultOf_23 hl (k := 1) rfl (by rw [ex5]; rfl) (by decide) rfl (fun ls hl => ?_)
          refine lv_goto (tgt := 2) hx hb dX4_faultOf_26 (by decide) ?_
          exact ih x5 hw ls (lv_sub hl [1, 0] rfl)
  have hl := lv_entry ([.ref (a 0)]) (n := 2) (Nat.le_of_ble_eq_true rfl)
  rw [lg_entry_eq]
  generalize (lg_sl ([.ref (a 0)]) ++ List.replicate (2 - (lg_sl ([.ref (a 0)])).length) Slot.unset).toArray = ls at hl ⊢
  have hl : lv_has ls 2 [(0, .ref (a 0))] := hl
  refine lv_iconst (v := 0) hx hb dX4_faultOf_0 (by decide) ?_
  refine lv_istore_n (lv' := [(1, .int 0), (0, .ref (a 0))]) hx hb dX4_faultOf_1 rfl hl (by decide) rfl (fun ls hl => ?_)
  exact L2 NF 0 hw ls (lv_sub hl [1, 0] rfl)
set_option maxHeartbeats 4000000 in
set_option maxRecDepth 100000 in
theorem c_X4_fault (l : Launch) (dC : Nat → ClassId) (dI : Nat → Nat → Nat) (a : Nat → Nat) (cA : ClassId) (X : MS) (out : Int32) (hw : f_X4_fault X = some out) : Met l yX4_fault (.code yX4_fault cX4_fault 1 (some .int) :: lw_g) ({ frames := 3, cells := 0, slots := 0, locals := 68 }) (PcM dC dI a cA X [.ref (a 0)]) (vp_Si (fun r_ => r_ = out)) 0 0 (fun _ => False) := by
  unfold f_X4_fault at hw
  refine Met.ofW (cc := cX4_fault) (maxL := 1) (ret := (some .int)) (by decide) rfl ?_
  intro p e s m args below meth c s₁ B hml hv
  obtain ⟨rfl, hP, hK⟩ := hv
  have hx := B.exec
  have hb := B.bytes
  have hr := B.returns
  have hts0 := atoms_spec (ws := (.code yX4_fault cX4_fault 1 (some .int) :: lw_g)) B.pre
  have hts : ∀ w ∈ lw_g, w.before (([.ref (a 0)] : List Value).toArray) s = true := fun w h => hts0 w (List.mem_cons_of_mem _ h)
  clear hts0
  have hown : s.vm.findClass RX4 = some m.cls := findClass_of_methodNamed B.named
  have hlocks := B.notSynchronized
  have hret : ∀ (pc : Nat) (ls : Array Slot) (v : Int32), v = out → decode cX4_fault pc = .ok (.ireturn, 1) → W p l e ({ frames := 3, cells := 0, slots := 0, locals := 68 }) s m (([.ref (a 0)] : List Value).toArray) below meth c s.heap [] 0 0 (MQ below (vp_Si (fun r_ => r_ = out)) (([.ref (a 0)] : List Value).toArray) s 0 0 (fun _ => False)) (F0 m pc ls [.int v]) := fun pc ls v hv hd => W.iret hx hb hr (fun t ht hW => ⟨v, rfl, hv, ht⟩) (fun q hq => absurd hq List.not_mem_nil) hd
  show W p l e ({ frames := 3, cells := 0, slots := 0, locals := 68 }) s m (([.ref (a 0)] : List Value).toArray) below meth c s.heap [] 0 0 (MQ below (vp_Si (fun r_ => r_ = out)) (([.ref (a 0)] : List Value).toArray) s 0 0 (fun _ => False)) (entryFrame m (([.ref (a 0)] : List Value).toArray) 1)
  generalize MQ below (vp_Si (fun r_ => r_ = out)) (([.ref (a 0)] : List Value).toArray) s 0 0 (fun _ => False) = Q at hret ⊢
  have hl := lv_entry ([.ref (a 0)]) (n := 1) (Nat.le_of_ble_eq_true rfl)
  rw [lg_entry_eq]
  generalize (lg_sl ([.ref (a 0)]) ++ List.replicate (1 - (lg_sl ([.ref (a 0)])).length) Slot.unset).toArray = ls at hl ⊢
  have hl : lv_has ls 1 [(0, .ref (a 0))] := hl
  refine lv_aload_n hx hb dX4_fault_0 rfl (lv_at hl 0 rfl) ?_
  obtain ⟨r1, er1, hw⟩ := Option.bind_eq_some_iff.mp hw
  refine vp_callSi (va_runV (As := []) (rest := []) ⟨hx, hb, hml, hown, hts⟩ (c_X4_faultOf l dC dI a cA X r1 er1) ⟨callB_of 0 hts gd_X4_faultOf rfl rfl rfl (hts _ wd_39) (hts _ wd_626) hd_X4_faultOf ⟨Nat.le_of_ble_eq_true rfl, Nat.le_of_ble_eq_true rfl⟩, hts _ wd_628, hts _ wd_10⟩ ⟨blM, va_recv hK hP (ci := 4) (q0 := 0) rfl rfl, fun U hU hW => ⟨rfl, by rw [hU]; exact hP, va_K.moved hW.alike hK⟩⟩ rfl rfl hl.1 rfl (lv_room (Nat.le_of_ble_eq_true rfl)) dX4_fault_1 ⟨Nat.zero_le _, Nat.zero_le _⟩).run (fun r_ e_ => ?_)
  subst r_
  exact hret _ _ _ (Option.some.inj hw) dX4_fault_4
set_option maxHeartbeats 4000000 in
set_option maxRecDepth 100000 in
theorem c_X1_isTown (l : Launch) (dC : Nat → ClassId) (dI : Nat → Nat → Nat) (a : Nat → Nat) (cA : ClassId) (X : WS) (out : Int32) (hw : f_X1_isTown X = some out) : Met l yX1_isTown (.code yX1_isTown cX1_isTown 1 (some .boolean) :: lw_g) ({ frames := 2, cells := 0, slots := 0, locals := 42 }) (PcX dC dI a cA X [.ref (a 1)]) (vp_Si (fun r_ => r_ = out)) 0 0 (fun _ => False) := by
  unfold f_X1_isTown at hw
  refine Met.ofW (cc := cX1_isTown) (maxL := 1) (ret := (some .boolean)) (by decide) rfl ?_
  intro p e s m args below meth c s₁ B hml hv
  obtain ⟨rfl, hP, hK, hN⟩ := hv
  have hx := B.exec
  have hb := B.bytes
  have hr := B.returns
  have hts0 := atoms_spec (ws := (.code yX1_isTown cX1_isTown 1 (some .boolean) :: lw_g)) B.pre
  have hts : ∀ w ∈ lw_g, w.before (([.ref (a 1)] : List Value).toArray) s = true := fun w h => hts0 w (List.mem_cons_of_mem _ h)
  clear hts0
  have hown : s.vm.findClass RX1 = some m.cls := findClass_of_methodNamed B.named
  have hlocks := B.notSynchronized
  have hret : ∀ (pc : Nat) (ls : Array Slot) (v : Int32), v = out → (hz : narrow .boolean (.int v) = .int v) → decode cX1_isTown pc = .ok (.ireturn, 1) → W p l e ({ frames := 2, cells := 0, slots := 0, locals := 42 }) s m (([.ref (a 1)] : List Value).toArray) below meth c s.heap [] 0 0 (MQ below (vp_Si (fun r_ => r_ = out)) (([.ref (a 1)] : List Value).toArray) s 0 0 (fun _ => False)) (F0 m pc ls [.int v]) := fun pc ls v hv hz hd => W.zret hx hb hr hz (fun t ht hW => ⟨v, rfl, hv, ht⟩) (fun q hq => absurd hq List.not_mem_nil) hd
  show W p l e ({ frames := 2, cells := 0, slots := 0, locals := 42 }) s m (([.ref (a 1)] : List Value).toArray) below meth c s.heap [] 0 0 (MQ below (vp_Si (fun r_ => r_ = out)) (([.ref (a 1)] : List Value).toArray) s 0 0 (fun _ => False)) (entryFrame m (([.ref (a 1)] : List Value).toArray) 1)
  generalize MQ below (vp_Si (fun r_ => r_ = out)) (([.ref (a 1)] : List Value).toArray) s 0 0 (fun _ => False) = Q at hret ⊢
  have hl := lv_entry ([.ref (a 1)]) (n := 1) (Nat.le_of_ble_eq_true rfl)
  rw [lg_entry_eq]
  generalize (lg_sl ([.ref (a 1)]) ++ List.replicate (1 - (lg_sl ([.ref (a 1)])).length) Slot.unset).toArray = ls at hl ⊢
  have hl : lv_has ls 1 [(0, .ref (a 1))] := hl
  refine lv_aload_n hx hb dX1_isTown_0 rfl (lv_at hl 0 rfl) ?_
  refine va_get (D := (dC, dI)) (ci := 1) (v := .int (X 1 1)) (C := RX1) (T := TX1) (N := 2) hx hb hts iX1 hown hK hP 1 rfl rfl 1 (by decide) (hts _ wd_59) (fun _ h9 => h9) rfl dX1_isTown_1 ?_
  refine lv_bipush (v := 9) hx hb dX1_isTown_4 (by decide) ?_
  refine lv_icmp_ne (tgt := 22) hx hb dX1_isTown_6 (by decide) (fun c1 => ?_) (fun c1 => ?_)
  · have hw := ite_f hw c1
    refine lv_iconst (v := 0) hx hb dX1_isTown_22 (by decide) ?_
    exact hret _ _ _ (Option.some.inj hw) rfl dX1_isTown_23
  · have hw := ite_t hw c1
    refine lv_aload_n hx hb dX1_isTown_9 rfl (lv_at hl 0 rfl) ?_
    obtain ⟨r2, er2, hw⟩ := Option.bind_eq_some_iff.mp hw
    refine vp_callSi (va_runV (As := []) (rest := []) ⟨hx, hb, hml, hown, hts⟩ (c_X1_firstWrong l dC dI a cA X r2 er2) ⟨callB_of 0 hts gd_X1_firstWrong rfl rfl rfl (hts _ wd_36) (hts _ wd_232) hd_X1_firstWrong ⟨Nat.le_of_ble_eq_true rfl, Nat.le_of_ble_eq_true rfl⟩, hts _ wd_218, hts _ wd_219⟩ ⟨blX, va_recv hK hP (ci := 1) (q0 := 1) rfl rfl, fun U hU hW => ⟨rfl, by rw [hU]; exact hP, va_K.moved hW.alike hK, nst.warm hW hN⟩⟩ rfl rfl hl.1 rfl (lv_room (Nat.le_of_ble_eq_true rfl)) dX1_isTown_10 ⟨Nat.zero_le _, Nat.zero_le _⟩).run (fun r_ e_ => ?_)
    subst r_
    refine lv_bipush (v := 9) hx hb dX1_isTown_13 (by decide) ?_
    refine lv_icmp_ne (tgt := 22) hx hb dX1_isTown_15 (by decide) (fun c3 => ?_) (fun c3 => ?_)
    · have hw := ite_f hw c3
      refine lv_iconst (v := 0) hx hb dX1_isTown_22 (by decide) ?_
      exact hret _ _ _ (Option.some.inj hw) rfl dX1_isTown_23
    · have hw := ite_t hw c3
      refine lv_iconst (v := 1) hx hb dX1_isTown_18 (by decide) ?_
      refine lv_goto (tgt := 23) hx hb dX1_isTown_19 (by decide) ?_
      exact hret _ _ _ (Option.some.inj hw) rfl dX1_isTown_23
set_option maxHeartbeats 4000000 in
set_option maxRecDepth 100000 in
theorem c_X1_digit (l : Launch) (dC : Nat → ClassId) (dI : Nat → Nat → Nat) (a : Nat → Nat) (cA : ClassId) (X : WS) (p1 : Int32) (out : Int32) (hw : f_X1_digit X p1 = some out) : Met l yX1_digit (.code yX1_digit cX1_digit 2 (some .int) :: lw_g) ({ frames := 0, cells := 0, slots := 0, locals := 0 }) (PcX dC dI a cA X [.ref (a 1), .int p1]) (vp_Si (fun r_ => r_ = out)) 0 0 (fun _ => False) := by
  unfold f_X1_digit at hw
  refine Met.ofW (cc := cX1_digit) (maxL := 2) (ret := (some .int)) (by decide) rfl ?_
  intro p e s m args below meth c s₁ B hml hv
  obtain ⟨rfl, hP, hK, hN⟩ := hv
  have hx := B.exec
  have hb := B.bytes
  have hr := B.returns
  have hts0 := atoms_spec (ws := (.code yX1_digit cX1_digit 2 (some .int) :: lw_g)) B.pre
  have hts : ∀ w ∈ lw_g, w.before (([.ref (a 1), .int p1] : List Value).toArray) s = true := fun w h => hts0 w (List.mem_cons_of_mem _ h)
  clear hts0
  have hown : s.vm.findClass RX1 = some m.cls := findClass_of_methodNamed B.named
  have hlocks := B.notSynchronized
  have hret : ∀ (pc : Nat) (ls : Array Slot) (v : Int32), v = out → decode cX1_digit pc = .ok (.ireturn, 1) → W p l e ({ frames := 0, cells := 0, slots := 0, locals := 0 }) s m (([.ref (a 1), .int p1] : List Value).toArray) below meth c s.heap [] 0 0 (MQ below (vp_Si (fun r_ => r_ = out)) (([.ref (a 1), .int p1] : List Value).toArray) s 0 0 (fun _ => False)) (F0 m pc ls [.int v]) := fun pc ls v hv hd => W.iret hx hb hr (fun t ht hW => ⟨v, rfl, hv, ht⟩) (fun q hq => absurd hq List.not_mem_nil) hd
  show W p l e ({ frames := 0, cells := 0, slots := 0, locals := 0 }) s m (([.ref (a 1), .int p1] : List Value).toArray) below meth c s.heap [] 0 0 (MQ below (vp_Si (fun r_ => r_ = out)) (([.ref (a 1), .int p1] : List Value).toArray) s 0 0 (fun _ => False)) (entryFrame m (([.ref (a 1), .int p1] : List Value).toArray) 2)
  generalize MQ below (vp_Si (fun r_ => r_ = out)) (([.ref (a 1), .int p1] : List Value).toArray) s 0 0 (fun _ => False) = Q at hret ⊢
  have hl := lv_entry ([.ref (a 1), .int p1]) (n := 2) (Nat.le_of_ble_eq_true rfl)
  rw [lg_entry_eq]
  generalize (lg_sl ([.ref (a 1), .int p1]) ++ List.replicate (2 - (lg_sl ([.ref (a 1), .int p1])).length) Slot.unset).toArray = ls at hl ⊢
  have hl : lv_has ls 2 [(0, .ref (a 1)), (1, .int p1)] := hl
  refine lv_iload_n hx hb dX1_digit_0 rfl (lv_at hl 1 rfl) ?_
  refine lv_if_lt (tgt := 22) hx hb dX1_digit_1 (by decide) (fun c1 => ?_) (fun c1 => ?_)
  · have hw := ite_t hw c1
    refine lv_iconst (v := 0) hx hb dX1_digit_22 (by decide) ?_
    exact hret _ _ _ (Option.some.inj hw) dX1_digit_23
  · have hw := ite_f hw c1
    refine lv_iload_n hx hb dX1_digit_4 rfl (lv_at hl 1 rfl) ?_
    refine lv_bipush (v := 12) hx hb dX1_digit_5 (by decide) ?_
    refine lv_icmp_ge (tgt := 22) hx hb dX1_digit_7 (by decide) (fun c2 => ?_) (fun c2 => ?_)
    · have hw := ite_t hw c2
      refine lv_iconst (v := 0) hx hb dX1_digit_22 (by decide) ?_
      exact hret _ _ _ (Option.some.inj hw) dX1_digit_23
    · have hw := ite_f hw c2
      refine lv_aload_n hx hb dX1_digit_10 rfl (lv_at hl 0 rfl) ?_
      refine va_get (D := (dC, dI)) (ci := 1) (v := .ref (a 2)) (C := RX1) (T := TX1) (N := 2) hx hb hts iX1 hown hK hP 1 rfl rfl 0 (by decide) (hts _ wd_57) (fun _ h9 => h9) rfl dX1_digit_11 ?_
      refine lv_iload_n hx hb dX1_digit_14 rfl (lv_at hl 1 rfl) ?_
      obtain ⟨h3, hw⟩ := ixc_use hw
      refine va_iald hx hb hK hP 2 0 rfl rfl h3 dX1_digit_15 ?_
      refine lv_bipush (v := 48) hx hb dX1_digit_16 (by decide) ?_
      refine lv_isub hx hb dX1_digit_18 ?_
      refine lv_goto (tgt := 23) hx hb dX1_digit_19 (by decide) ?_
      exact hret _ _ _ (Option.some.inj hw) dX1_digit_23
set_option maxHeartbeats 4000000 in
set_option maxRecDepth 100000 in
theorem c_X2_dropTold (l : Launch) (dC : Nat → ClassId) (dI : Nat → Nat → Nat) (A : Nat → Prop) (a : Nat → Nat) (cA : ClassId) (X : WS) (out : (Int32 × WS)) (hw : f_X2_dropTold X = some out) : Met l yX2_dropTold (.code yX2_dropTold cX2_dropTold 2 (some .int) :: lw_g) ({ frames := 0, cells := 0, slots := 0, locals := 0 }) (PcXD dC dI A a cA X [.ref (a 3)]) (va_Qi (fun (r_ : Int32) (X_ : WS) => out = (r_, X_)) (fun X_ t => va_P (dC, dI) classes (wl a cA X_) t.heap ∧ va_K (dC, dI) classes [(cA, .int)] t) A) 0 0 (A) := by
  unfold f_X2_dropTold at hw
  refine Met.ofW (cc := cX2_dropTold) (maxL := 2) (ret := (some .int)) (by decide) rfl ?_
  intro p e s m args below meth c s₁ B hml hv
  obtain ⟨rfl, hP, hK, hN, hD0⟩ := hv
  have hx := B.exec
  have hb := B.bytes
  have hr := B.returns
  have hts0 := atoms_spec (ws := (.code yX2_dropTold cX2_dropTold 2 (some .int) :: lw_g)) B.pre
  have hts : ∀ w ∈ lw_g, w.before (([.ref (a 3)] : List Value).toArray) s = true := fun w h => hts0 w (List.mem_cons_of_mem _ h)
  clear hts0
  have hown : s.vm.findClass RX2 = some m.cls := findClass_of_methodNamed B.named
  have hlocks := B.notSynchronized
  have hret : ∀ (pc : Nat) (ls : Array Slot) (v : Int32) (X_ : WS) (H : Heap) (locs : List Loc), (v, X_) = out → va_P (dC, dI) classes (wl a cA X_) H → va_S A s.heap H locs → decode cX2_dropTold pc = .ok (.ireturn, 1) → W p l e ({ frames := 0, cells := 0, slots := 0, locals := 0 }) s m (([.ref (a 3)] : List Value).toArray) below meth c H locs 0 0 (MQ below (va_Qi (fun (r_ : Int32) (X_ : WS) => out = (r_, X_)) (fun X_ t => va_P (dC, dI) classes (wl a cA X_) t.heap ∧ va_K (dC, dI) classes [(cA, .int)] t) A) (([.ref (a 3)] : List Value).toArray) s 0 0 (A)) (F0 m pc ls [.int v]) := fun pc ls v X_ H locs hv hP hS hd => W.iret hx hb hr (fun t ht hW => ⟨⟨v, X_, rfl, hv.symm, by rw [ht]; exact hP, va_K.moved hW.alike hK⟩, hS.F ht⟩) hS.2.2 hd
  show W p l e ({ frames := 0, cells := 0, slots := 0, locals := 0 }) s m (([.ref (a 3)] : List Value).toArray) below meth c s.heap [] 0 0 (MQ below (va_Qi (fun (r_ : Int32) (X_ : WS) => out = (r_, X_)) (fun X_ t => va_P (dC, dI) classes (wl a cA X_) t.heap ∧ va_K (dC, dI) classes [(cA, .int)] t) A) (([.ref (a 3)] : List Value).toArray) s 0 0 (A)) (entryFrame m (([.ref (a 3)] : List Value).toArray) 2)
  generalize MQ below (va_Qi (fun (r_ : Int32) (X_ : WS) => out = (r_, X_)) (fun X_ t => va_P (dC, dI) classes (wl a cA X_) t.heap ∧ va_K (dC, dI) classes [(cA, .int)] t) A) (([.ref (a 3)] : List Value).toArray) s 0 0 (A) = Q at hret ⊢
  have hS : va_S A s.heap s.heap [] := va_S.rf
  have hl := lv_entry ([.ref (a 3)]) (n := 2) (Nat.le_of_ble_eq_true rfl)
  rw [lg_entry_eq]
  generalize (lg_sl ([.ref (a 3)]) ++ List.replicate (2 - (lg_sl ([.ref (a 3)])).length) Slot.unset).toArray = ls at hl ⊢
  have hl : lv_has ls 2 [(0, .ref (a 3))] := hl
  refine lv_aload_n hx hb dX2_dropTold_0 rfl (lv_at hl 0 rfl) ?_
  refine va_get (D := (dC, dI)) (ci := 2) (v := .int (X 3 14)) (C := RX2) (T := TX2) (N := 17) hx hb hts iX2 hown hK hP 3 rfl rfl 14 (by decide) (hts _ wd_101) (fun _ h9 => h9) rfl dX2_dropTold_1 ?_
  refine lv_topi (fun x1 ex1 => ?_)
  have hw := stp_use hw ex1
  refine lv_istore_n (lv' := [(1, .int x1), (0, .ref (a 3))]) hx hb dX2_dropTold_4 rfl hl (by decide) rfl (fun ls hl => ?_)
  refine lv_aload_n hx hb dX2_dropTold_5 rfl (lv_at hl 1 rfl) ?_
  refine lv_iconst (v := 0) hx hb dX2_dropTold_6 (by decide) ?_
  refine va_put (D := (dC, dI)) (ci := 2) (v := .int 0) (ty := .int) (C := RX2) (T := TX2) (N := 17) hx hb hts iX2 tyX2 tyX2_ok nmX2 hown hK hP (wlD hD0) hS 3 rfl rfl 14 (by decide) (hts _ wd_101) (fun _ h9 => h9) rfl (by decide +kernel) rfl rfl (Nat.le_of_ble_eq_true rfl) dX2_dropTold_7 (fun H locs hP hD_ hS => ?_)
  obtain ⟨X2, eX2⟩ : ∃ y : WS, y = (ups X 3 14 0) := ⟨_, rfl⟩
  have hw := stp_use hw eX2
  have hP : va_P (dC, dI) classes (wl a cA X2) H := by rw [eX2]; exact hP
  refine lv_aload_n hx hb dX2_dropTold_10 rfl (lv_at hl 1 rfl) ?_
  refine lv_iconst (v := 0) hx hb dX2_dropTold_11 (by decide) ?_
  refine va_put (D := (dC, dI)) (ci := 2) (v := .int 0) (ty := .int) (C := RX2) (T := TX2) (N := 17) hx hb hts iX2 tyX2 tyX2_ok nmX2 hown hK hP (wlD hD0) hS 3 rfl rfl 15 (by decide) (hts _ wd_103) (fun _ h9 => h9) rfl (by decide +kernel) rfl rfl (Nat.le_of_ble_eq_true rfl) dX2_dropTold_12 (fun H locs hP hD_ hS => ?_)
  obtain ⟨X3, eX3⟩ : ∃ y : WS, y = (ups X2 3 15 0) := ⟨_, rfl⟩
  have hw := stp_use hw eX3
  have hP : va_P (dC, dI) classes (wl a cA X3) H := by rw [eX3]; exact hP
  refine lv_aload_n hx hb dX2_dropTold_15 rfl (lv_at hl 1 rfl) ?_
  refine lv_iconst (v := 0) hx hb dX2_dropTold_16 (by decide) ?_
  refine va_put (D := (dC, dI)) (ci := 2) (v := .int 0) (ty := .int) (C := RX2) (T := TX2) (N := 17) hx hb hts iX2 tyX2 tyX2_ok nmX2 hown hK hP (wlD hD0) hS 3 rfl rfl 16 (by decide) (hts _ wd_104) (fun _ h9 => h9) rfl (by decide +kernel) rfl rfl (Nat.le_of_ble_eq_true rfl) dX2_dropTold_17 (fun H locs hP hD_ hS => ?_)
  obtain ⟨X4, eX4⟩ : ∃ y : WS, y = (ups X3 3 16 0) := ⟨_, rfl⟩
  have hw := stp_use hw eX4
  have hP : va_P (dC, dI) classes (wl a cA X4) H := by rw [eX4]; exact hP
  refine lv_iload_n hx hb dX2_dropTold_20 rfl (lv_at hl 0 rfl) ?_
  exact hret _ _ _ _ _ _ (Option.some.inj hw) hP hS dX2_dropTold_21
set_option maxHeartbeats 4000000 in
set_option maxRecDepth 100000 in
theorem c_X2_begin (l : Launch) (dC : Nat → ClassId) (dI : Nat → Nat → Nat) (A : Nat → Prop) (a : Nat → Nat) (cA : ClassId) (X : WS) (out : WS) (hw : f_X2_begin X = some out) : Met l yX2_begin (.code yX2_begin cX2_begin 3 none :: lw_g) ({ frames := 1, cells := 0, slots := 0, locals := 21 }) (PcXD dC dI A a cA X [.ref (a 3), .ref (a 1)]) (va_Qv (fun X_ : WS => out = X_) (fun X_ t => va_P (dC, dI) classes (wl a cA X_) t.heap ∧ va_K (dC, dI) classes [(cA, .int)] t) A) 0 0 (A) := by
  unfold f_X2_begin at hw
  refine Met.ofW (cc := cX2_begin) (maxL := 3) (ret := none) (by decide) rfl ?_
  intro p e s m args below meth c s₁ B hml hv
  obtain ⟨rfl, hP, hK, hN, hD0⟩ := hv
  have hx := B.exec
  have hb := B.bytes
  have hr := B.returns
  have hts0 := atoms_spec (ws := (.code yX2_begin cX2_begin 3 none :: lw_g)) B.pre
  have hts : ∀ w ∈ lw_g, w.before (([.ref (a 3), .ref (a 1)] : List Value).toArray) s = true := fun w h => hts0 w (List.mem_cons_of_mem _ h)
  clear hts0
  have hown : s.vm.findClass RX2 = some m.cls := findClass_of_methodNamed B.named
  have hlocks := B.notSynchronized
  have hret : ∀ (pc : Nat) (ls : Array Slot) (X_ : WS) (H : Heap) (locs : List Loc), X_ = out → va_P (dC, dI) classes (wl a cA X_) H → va_S A s.heap H locs → decode cX2_begin pc = .ok (.return_, 1) → W p l e ({ frames := 1, cells := 0, slots := 0, locals := 21 }) s m (([.ref (a 3), .ref (a 1)] : List Value).toArray) below meth c H locs 0 0 (MQ below (va_Qv (fun X_ : WS => out = X_) (fun X_ t => va_P (dC, dI) classes (wl a cA X_) t.heap ∧ va_K (dC, dI) classes [(cA, .int)] t) A) (([.ref (a 3), .ref (a 1)] : List Value).toArray) s 0 0 (A)) (F0 m pc ls []) := fun pc ls X_ H locs hv hP hS hd => W.vret hx hb hr (fun t ht hW => ⟨⟨X_, rfl, hv.symm, by rw [ht]; exact hP, va_K.moved hW.alike hK⟩, hS.F ht⟩) hS.2.2 hd
  show W p l e ({ frames := 1, cells := 0, slots := 0, locals := 21 }) s m (([.ref (a 3), .ref (a 1)] : List Value).toArray) below meth c s.heap [] 0 0 (MQ below (va_Qv (fun X_ : WS => out = X_) (fun X_ t => va_P (dC, dI) classes (wl a cA X_) t.heap ∧ va_K (dC, dI) classes [(cA, .int)] t) A) (([.ref (a 3), .ref (a 1)] : List Value).toArray) s 0 0 (A)) (entryFrame m (([.ref (a 3), .ref (a 1)] : List Value).toArray) 3)
  generalize MQ below (va_Qv (fun X_ : WS => out = X_) (fun X_ t => va_P (dC, dI) classes (wl a cA X_) t.heap ∧ va_K (dC, dI) classes [(cA, .int)] t) A) (([.ref (a 3), .ref (a 1)] : List Value).toArray) s 0 0 (A) = Q at hret ⊢
  have hS : va_S A s.heap s.heap [] := va_S.rf
  have L2 : ∀ n : Nat, ∀ (X : WS), ∀ (v2 : Int32), g_X2_begin_2 n X v2 = some out → ∀ (H : Heap) (locs : List Loc), va_P (dC, dI) classes (wl a cA X) H → va_S A s.heap H locs → ∀ ls : Array Slot, lv_has ls 3 [(0, .ref (a 3)), (1, .ref (a 1)), (2, .int v2)] → W p l e ({ frames := 1, cells := 0, slots := 0, locals := 21 }) s m (([.ref (a 3), .ref (a 1)] : List Value).toArray) below meth c H locs 0 0 Q (F0 m 2 ls []) := by
    intro n
    induction n with
    | zero =>
      intro X v2 hw
      rw [g_X2_begin_2] at hw
      cases hw
    | succ n ih =>
      intro X v2 hw H locs hP hS ls hl
      rw [g_X2_begin_2] at hw
      refine lv_iload_n hx hb dX2_begin_2 rfl (lv_at hl 2 rfl) ?_
      refine lv_bipush (v := 6) hx hb dX2_begin_3 (by decide) ?_
      refine lv_icmp_ge (tgt := 25) hx hb dX2_begin_5 (by decide) (fun c1 => ?_) (fun c1 => ?_)
      · have hw := ite_t hw c1
        refine lv_aload_n hx hb dX2_begin_25 rfl (lv_at hl 0 rfl) ?_
        refine lv_aload_n hx hb dX2_begin_26 rfl (lv_at hl 1 rfl) ?_
        refine lv_bipush (v := 7) hx hb dX2_begin_27 (by decide) ?_
        obtain ⟨r2, er2, hw⟩ := Option.bind_eq_some_iff.mp hw
        refine vp_callSi (va_runV (As := [.int 7]) (rest := [.ref (a 3)]) ⟨hx, hb, hml, hown, hts⟩ (c_X1_digit l dC dI a cA X 7 r2 er2) ⟨callB_of 1 hts gd_X1_digit rfl rfl rfl (hts _ wd_36) (hts _ wd_237) hd_X1_digit ⟨Nat.le_of_ble_eq_true rfl, Nat.le_of_ble_eq_true rfl⟩, hts _ wd_238, hts _ wd_239⟩ ⟨blX, va_recv hK hP (ci := 1) (q0 := 1) rfl rfl, fun U hU hW => ⟨rfl, by rw [hU]; exact hP, va_K.moved hW.alike hK, nst.warm hW hN⟩⟩ rfl rfl hl.1 rfl (lv_room (Nat.le_of_ble_eq_true rfl)) dX2_begin_29 ⟨Nat.zero_le _, Nat.zero_le _⟩).run (fun r_ e_ => ?_)
        subst r_
        refine va_put (D := (dC, dI)) (ci := 2) (v := .int r2) (ty := .int) (C := RX2) (T := TX2) (N := 17) hx hb hts iX2 tyX2 tyX2_ok nmX2 hown hK hP (wlD hD0) hS 3 rfl rfl 8 (by decide) (hts _ wd_89) (fun _ h9 => h9) rfl (by decide +kernel) rfl rfl (Nat.le_of_ble_eq_true rfl) dX2_begin_32 (fun H locs hP hD_ hS => ?_)
        obtain ⟨X3, eX3⟩ : ∃ y : WS, y = (ups X 3 8 r2) := ⟨_, rfl⟩
        have hw := stp_use hw eX3
        have hP : va_P (dC, dI) classes (wl a cA X3) H := by rw [eX3]; exact hP
        refine lv_aload_n hx hb dX2_begin_35 rfl (lv_at hl 0 rfl) ?_
        refine lv_aload_n hx hb dX2_begin_36 rfl (lv_at hl 0 rfl) ?_
        refine va_get (D := (dC, dI)) (ci := 2) (v := .int (X3 3 8)) (C := RX2) (T := TX2) (N := 17) hx hb hts iX2 hown hK hP 3 rfl rfl 8 (by decide) (hts _ wd_89) (fun _ h9 => h9) rfl dX2_begin_37 ?_
        refine lv_topi (fun x4 ex4 => ?_)
        have hw := stp_use hw ex4
        refine va_put (D := (dC, dI)) (ci := 2) (v := .int x4) (ty := .int) (C := RX2) (T := TX2) (N := 17) hx hb hts iX2 tyX2 tyX2_ok nmX2 hown hK hP (wlD hD0) hS 3 rfl rfl 9 (by decide) (hts _ wd_91) (fun _ h9 => h9) rfl (by decide +kernel) rfl rfl (Nat.le_of_ble_eq_true rfl) dX2_begin_40 (fun H locs hP hD_ hS => ?_)
        obtain ⟨X5, eX5⟩ : ∃ y : WS, y = (ups X3 3 9 x4) := ⟨_, rfl⟩
        have hw := stp_use hw eX5
        have hP : va_P (dC, dI) classes (wl a cA X5) H := by rw [eX5]; exact hP
        refine lv_aload_n hx hb dX2_begin_43 rfl (lv_at hl 0 rfl) ?_
        refine lv_aload_n hx hb dX2_begin_44 rfl (lv_at hl 1 rfl) ?_
        refine lv_bipush (v := 8) hx hb dX2_begin_45 (by decide) ?_
        obtain ⟨r6, er6, hw⟩ := Option.bind_eq_some_iff.mp hw
        refine vp_callSi (va_runV (As := [.int 8]) (rest := [.ref (a 3)]) ⟨hx, hb, hml, hown, hts⟩ (c_X1_digit l dC dI a cA X5 8 r6 er6) ⟨callB_of 1 hts gd_X1_digit rfl rfl rfl (hts _ wd_36) (hts _ wd_237) hd_X1_digit ⟨Nat.le_of_ble_eq_true rfl, Nat.le_of_ble_eq_true rfl⟩, hts _ wd_238, hts _ wd_239⟩ ⟨blX, va_recv hK hP (ci := 1) (q0 := 1) rfl rfl, fun U hU hW => ⟨rfl, by rw [hU]; exact hP, va_K.moved hW.alike hK, nst.warm hW hN⟩⟩ rfl rfl hl.1 rfl (lv_room (Nat.le_of_ble_eq_true rfl)) dX2_begin_47 ⟨Nat.zero_le _, Nat.zero_le _⟩).run (fun r_ e_ => ?_)
        subst r_
        refine va_put (D := (dC, dI)) (ci := 2) (v := .int r6) (ty := .int) (C := RX2) (T := TX2) (N := 17) hx hb hts iX2 tyX2 tyX2_ok nmX2 hown hK hP (wlD hD0) hS 3 rfl rfl 10 (by decide) (hts _ wd_93) (fun _ h9 => h9) rfl (by decide +kernel) rfl rfl (Nat.le_of_ble_eq_true rfl) dX2_begin_50 (fun H locs hP hD_ hS => ?_)
        obtain ⟨X7, eX7⟩ : ∃ y : WS, y = (ups X5 3 10 r6) := ⟨_, rfl⟩
        have hw := stp_use hw eX7
        have hP : va_P (dC, dI) classes (wl a cA X7) H := by rw [eX7]; exact hP
        refine lv_aload_n hx hb dX2_begin_53 rfl (lv_at hl 0 rfl) ?_
        refine lv_iconst (v := 0) hx hb dX2_begin_54 (by decide) ?_
        refine va_put (D := (dC, dI)) (ci := 2) (v := .int 0) (ty := .int) (C := RX2) (T := TX2) (N := 17) hx hb hts iX2 tyX2 tyX2_ok nmX2 hown hK hP (wlD hD0) hS 3 rfl rfl 5 (by decide) (hts _ wd_83) (fun _ h9 => h9) rfl (by decide +kernel) rfl rfl (Nat.le_of_ble_eq_true rfl) dX2_begin_55 (fun H locs hP hD_ hS => ?_)
        obtain ⟨X8, eX8⟩ : ∃ y : WS, y = (ups X7 3 5 0) := ⟨_, rfl⟩
        have hw := stp_use hw eX8
        have hP : va_P (dC, dI) classes (wl a cA X8) H := by rw [eX8]; exact hP
        refine lv_aload_n hx hb dX2_begin_58 rfl (lv_at hl 0 rfl) ?_
        refine lv_iconst (v := 0) hx hb dX2_begin_59 (by decide) ?_
        refine va_put (D := (dC, dI)) (ci := 2) (v := .int 0) (ty := .int) (C := RX2) (T := TX2) (N := 17) hx hb hts iX2 tyX2 tyX2_ok nmX2 hown hK hP (wlD hD0) hS 3 rfl rfl 6 (by decide) (hts _ wd_85) (fun _ h9 => h9) rfl (by decide +kernel) rfl rfl (Nat.le_of_ble_eq_true rfl) dX2_begin_60 (fun H locs hP hD_ hS => ?_)
        obtain ⟨X9, eX9⟩ : ∃ y : WS, y = (ups X8 3 6 0) := ⟨_, rfl⟩
        have hw := stp_use hw eX9
        have hP : va_P (dC, dI) classes (wl a cA X9) H := by rw [eX9]; exact hP
        refine lv_aload_n hx hb dX2_begin_63 rfl (lv_at hl 0 rfl) ?_
        refine lv_iconst (v := 0) hx hb dX2_begin_64 (by decide) ?_
        refine va_put (D := (dC, dI)) (ci := 2) (v := .int 0) (ty := .int) (C := RX2) (T := TX2) (N := 17) hx hb hts iX2 tyX2 tyX2_ok nmX2 hown hK hP (wlD hD0) hS 3 rfl rfl 7 (by decide) (hts _ wd_87) (fun _ h9 => h9) rfl (by decide +kernel) rfl rfl (Nat.le_of_ble_eq_true rfl) dX2_begin_65 (fun H locs hP hD_ hS => ?_)
        obtain ⟨X10, eX10⟩ : ∃ y : WS, y = (ups X9 3 7 0) := ⟨_, rfl⟩
        have hw := stp_use hw eX10
        have hP : va_P (dC, dI) classes (wl a cA X10) H := by rw [eX10]; exact hP
        refine lv_aload_n hx hb dX2_begin_68 rfl (lv_at hl 0 rfl) ?_
        refine lv_iconst (v := 0) hx hb dX2_begin_69 (by decide) ?_
        refine va_put (D := (dC, dI)) (ci := 2) (v := .int 0) (ty := .int) (C := RX2) (T := TX2) (N := 17) hx hb hts iX2 tyX2 tyX2_ok nmX2 hown hK hP (wlD hD0) hS 3 rfl rfl 11 (by decide) (hts _ wd_95) (fun _ h9 => h9) rfl (by decide +kernel) rfl rfl (Nat.le_of_ble_eq_true rfl) dX2_begin_70 (fun H locs hP hD_ hS => ?_)
        obtain ⟨X11, eX11⟩ : ∃ y : WS, y = (ups X10 3 11 0) := ⟨_, rfl⟩
        have hw := stp_use hw eX11
        have hP : va_P (dC, dI) classes (wl a cA X11) H := by rw [eX11]; exact hP
        refine lv_aload_n hx hb dX2_begin_73 rfl (lv_at hl 0 rfl) ?_
        refine lv_iconst (v := 1) hx hb dX2_begin_74 (by decide) ?_
        refine va_put (D := (dC, dI)) (ci := 2) (v := .int 1) (ty := .int) (C := RX2) (T := TX2) (N := 17) hx hb hts iX2 tyX2 tyX2_ok nmX2 hown hK hP (wlD hD0) hS 3 rfl rfl 12 (by decide) (hts _ wd_97) (fun _ h9 => h9) rfl (by decide +kernel) rfl rfl (Nat.le_of_ble_eq_true rfl) dX2_begin_75 (fun H locs hP hD_ hS => ?_)
        obtain ⟨X12, eX12⟩ : ∃ y : WS, y = (ups X11 3 12 1) := ⟨_, rfl⟩
        have hw := stp_use hw eX12
        have hP : va_P (dC, dI) classes (wl a cA X12) H := by rw [eX12]; exact hP
        refine lv_aload_n hx hb dX2_begin_78 rfl (lv_at hl 0 rfl) ?_
        refine lv_iconst (v := 1) hx hb dX2_begin_79 (by decide) ?_
        refine va_put (D := (dC, dI)) (ci := 2) (v := .int 1) (ty := .int) (C := RX2) (T := TX2) (N := 17) hx hb hts iX2 tyX2 tyX2_ok nmX2 hown hK hP (wlD hD0) hS 3 rfl rfl 13 (by decide) (hts _ wd_99) (fun _ h9 => h9) rfl (by decide +kernel) rfl rfl (Nat.le_of_ble_eq_true rfl) dX2_begin_80 (fun H locs hP hD_ hS => ?_)
        obtain ⟨X13, eX13⟩ : ∃ y : WS, y = (ups X12 3 13 1) := ⟨_, rfl⟩
        have hw := stp_use hw eX13
        have hP : va_P (dC, dI) classes (wl a cA X13) H := by rw [eX13]; exact hP
        refine lv_aload_n hx hb dX2_begin_83 rfl (lv_at hl 0 rfl) ?_
        obtain ⟨r14, X15, er14, hw⟩ := bnd2_use hw
        refine va_calli (va_runV (As := []) (rest := []) ⟨hx, hb, hml, hown, hts⟩ (c_X2_dropTold l dC dI A a cA X13 (r14, X15) er14) ⟨callB_of 0 hts gd_X2_dropTold rfl rfl rfl (hts _ wd_37) (hts _ wd_241) hd_X2_dropTold ⟨Nat.le_of_ble_eq_true rfl, Nat.le_of_ble_eq_true rfl⟩, hts _ wd_242, hts _ wd_243⟩ ⟨blXD, va_recv hK hP (ci := 2) (q0 := 3) rfl rfl, fun U hU hW => ⟨rfl, by rw [hU]; exact hP, va_K.moved hW.alike hK, nst.warm hW hN, wlD hD0⟩⟩ rfl rfl hl.1 rfl (lv_room (Nat.le_of_ble_eq_true rfl)) dX2_begin_84 ⟨Nat.zero_le _, Nat.zero_le _⟩) hS (fun _ _ h => h) (fun _ h => h) (fun r_ u_ t_ H1 locs1 ht hvm hp_ hB hz1 hk1 hS1 => ?_)
        obtain ⟨q1_, q2_⟩ := Prod.mk.inj hp_
        subst q1_
        subst q2_
        obtain ⟨hP1, hK1⟩ := hB
        rw [ht] at hP1
        have hP := hP1
        have hS := hS1
        refine lv_pop hx hb dX2_begin_87 rfl ?_
        exact hret _ _ _ _ _ (Option.some.inj hw) hP hS dX2_begin_88
      · have hw := ite_f hw c1
        refine lv_aload_n hx hb dX2_begin_8 rfl (lv_at hl 0 rfl) ?_
        refine va_get (D := (dC, dI)) (ci := 2) (v := .ref (a 4)) (C := RX2) (T := TX2) (N := 17) hx hb hts iX2 hown hK hP 3 rfl rfl 0 (by decide) (hts _ wd_73) (fun _ h9 => h9) rfl dX2_begin_9 ?_
        refine lv_iload_n hx hb dX2_begin_12 rfl (lv_at hl 2 rfl) ?_
        refine lv_aload_n hx hb dX2_begin_13 rfl (lv_at hl 1 rfl) ?_
        refine lv_iload_n hx hb dX2_begin_14 rfl (lv_at hl 2 rfl) ?_
        obtain ⟨r16, er16, hw⟩ := Option.bind_eq_some_iff.mp hw
        refine vp_callSi (va_runV (As := [.int v2]) (rest := [.int v2, .ref (a 4)]) ⟨hx, hb, hml, hown, hts⟩ (c_X1_digit l dC dI a cA X v2 r16 er16) ⟨callB_of 1 hts gd_X1_digit rfl rfl rfl (hts _ wd_36) (hts _ wd_237) hd_X1_digit ⟨Nat.le_of_ble_eq_true rfl, Nat.le_of_ble_eq_true rfl⟩, hts _ wd_238, hts _ wd_239⟩ ⟨blX, va_recv hK hP (ci := 1) (q0 := 1) rfl rfl, fun U hU hW => ⟨rfl, by rw [hU]; exact hP, va_K.moved hW.alike hK, nst.warm hW hN⟩⟩ rfl rfl hl.1 rfl (lv_room (Nat.le_of_ble_eq_true rfl)) dX2_begin_15 ⟨Nat.zero_le _, Nat.zero_le _⟩).run (fun r_ e_ => ?_)
        subst r_
        obtain ⟨h17, hw⟩ := ixc_use hw
        refine va_iast hx hb hK hP (wlD hD0) hS 4 0 rfl rfl h17 dX2_begin_18 (fun H locs hP hD_ hS => ?_)
        obtain ⟨X18, eX18⟩ : ∃ y : WS, y = (ups X 4 (Int32.toNatClampNeg v2) r16) := ⟨_, rfl⟩
        have hw := stp_use hw eX18
        have hP : va_P (dC, dI) classes (wl a cA X18) H := by rw [eX18]; exact hP
        obtain ⟨x19, ex19⟩ : ∃ y : Int32, y = (v2 + 1) := ⟨_, rfl⟩
        have hw := stp_use hw ex19
        refine lv_iinc (v := x19) (lv' := [(2, .int x19), (0, .ref (a 3)), (1, .ref (a 1))]) hx hb dX2_begin_19 hl (k := 2) rfl (by rw [ex19]; rfl) (by decide) rfl (fun ls hl => ?_)
        refine lv_goto (tgt := 2) hx hb dX2_begin_22 (by decide) ?_
        exact ih X18 x19 hw _ _ hP hS ls (lv_sub hl [1, 2, 0] rfl)
  have hl := lv_entry ([.ref (a 3), .ref (a 1)]) (n := 3) (Nat.le_of_ble_eq_true rfl)
  rw [lg_entry_eq]
  generalize (lg_sl ([.ref (a 3), .ref (a 1)]) ++ List.replicate (3 - (lg_sl ([.ref (a 3), .ref (a 1)])).length) Slot.unset).toArray = ls at hl ⊢
  have hl : lv_has ls 3 [(0, .ref (a 3)), (1, .ref (a 1))] := hl
  refine lv_iconst (v := 0) hx hb dX2_begin_0 (by decide) ?_
  refine lv_istore_n (lv' := [(2, .int 0), (0, .ref (a 3)), (1, .ref (a 1))]) hx hb dX2_begin_1 rfl hl (by decide) rfl (fun ls hl => ?_)
  exact L2 NF X 0 hw _ _ hP hS ls (lv_sub hl [1, 2, 0] rfl)
set_option maxHeartbeats 4000000 in
set_option maxRecDepth 100000 in
theorem c_X2_noiseInAll (l : Launch) (dC : Nat → ClassId) (dI : Nat → Nat → Nat) (a : Nat → Nat) (cA : ClassId) (X : WS) (out : Int32) (hw : f_X2_noiseInAll X = some out) : Met l yX2_noiseInAll (.code yX2_noiseInAll cX2_noiseInAll 3 (some .int) :: lw_g) ({ frames := 0, cells := 0, slots := 0, locals := 0 }) (PcX dC dI a cA X [.ref (a 3)]) (vp_Si (fun r_ => r_ = out)) 0 0 (fun _ => False) := by
  unfold f_X2_noiseInAll at hw
  refine Met.ofW (cc := cX2_noiseInAll) (maxL := 3) (ret := (some .int)) (by decide) rfl ?_
  intro p e s m args below meth c s₁ B hml hv
  obtain ⟨rfl, hP, hK, hN⟩ := hv
  have hx := B.exec
  have hb := B.bytes
  have hr := B.returns
  have hts0 := atoms_spec (ws := (.code yX2_noiseInAll cX2_noiseInAll 3 (some .int) :: lw_g)) B.pre
  have hts : ∀ w ∈ lw_g, w.before (([.ref (a 3)] : List Value).toArray) s = true := fun w h => hts0 w (List.mem_cons_of_mem _ h)
  clear hts0
  have hown : s.vm.findClass RX2 = some m.cls := findClass_of_methodNamed B.named
  have hlocks := B.notSynchronized
  have hret : ∀ (pc : Nat) (ls : Array Slot) (v : Int32), v = out → decode cX2_noiseInAll pc = .ok (.ireturn, 1) → W p l e ({ frames := 0, cells := 0, slots := 0, locals := 0 }) s m (([.ref (a 3)] : List Value).toArray) below meth c s.heap [] 0 0 (MQ below (vp_Si (fun r_ => r_ = out)) (([.ref (a 3)] : List Value).toArray) s 0 0 (fun _ => False)) (F0 m pc ls [.int v]) := fun pc ls v hv hd => W.iret hx hb hr (fun t ht hW => ⟨v, rfl, hv, ht⟩) (fun q hq => absurd hq List.not_mem_nil) hd
  show W p l e ({ frames := 0, cells := 0, slots := 0, locals := 0 }) s m (([.ref (a 3)] : List Value).toArray) below meth c s.heap [] 0 0 (MQ below (vp_Si (fun r_ => r_ = out)) (([.ref (a 3)] : List Value).toArray) s 0 0 (fun _ => False)) (entryFrame m (([.ref (a 3)] : List Value).toArray) 3)
  generalize MQ below (vp_Si (fun r_ => r_ = out)) (([.ref (a 3)] : List Value).toArray) s 0 0 (fun _ => False) = Q at hret ⊢
  have L4 : ∀ n : Nat, ∀ (v1 : Int32), ∀ (v2 : Int32), g_X2_noiseInAll_4 X n v1 v2 = some out → ∀ ls : Array Slot, lv_has ls 3 [(0, .ref (a 3)), (1, .int v1), (2, .int v2)] → W p l e ({ frames := 0, cells := 0, slots := 0, locals := 0 }) s m (([.ref (a 3)] : List Value).toArray) below meth c s.heap [] 0 0 Q (F0 m 4 ls []) := by
    intro n
    induction n with
    | zero =>
      intro v1 v2 hw
      rw [g_X2_noiseInAll_4] at hw
      cases hw
    | succ n ih =>
      intro v1 v2 hw ls hl
      rw [g_X2_noiseInAll_4] at hw
      refine lv_iload_n hx hb dX2_noiseInAll_4 rfl (lv_at hl 2 rfl) ?_
      refine lv_bipush (v := 6) hx hb dX2_noiseInAll_5 (by decide) ?_
      refine lv_icmp_ge (tgt := 25) hx hb dX2_noiseInAll_7 (by decide) (fun c1 => ?_) (fun c1 => ?_)
      · have hw := ite_t hw c1
        refine lv_iload_n hx hb dX2_noiseInAll_25 rfl (lv_at hl 1 rfl) ?_
        exact hret _ _ _ (Option.some.inj hw) dX2_noiseInAll_26
      · have hw := ite_f hw c1
        refine lv_iload_n hx hb dX2_noiseInAll_10 rfl (lv_at hl 1 rfl) ?_
        refine lv_aload_n hx hb dX2_noiseInAll_11 rfl (lv_at hl 0 rfl) ?_
        refine va_get (D := (dC, dI)) (ci := 2) (v := .ref (a 4)) (C := RX2) (T := TX2) (N := 17) hx hb hts iX2 hown hK hP 3 rfl rfl 0 (by decide) (hts _ wd_73) (fun _ h9 => h9) rfl dX2_noiseInAll_12 ?_
        refine lv_iload_n hx hb dX2_noiseInAll_15 rfl (lv_at hl 2 rfl) ?_
        obtain ⟨h2, hw⟩ := ixc_use hw
        refine va_iald hx hb hK hP 4 0 rfl rfl h2 dX2_noiseInAll_16 ?_
        refine lv_iadd hx hb dX2_noiseInAll_17 ?_
        refine lv_topi (fun x3 ex3 => ?_)
        have hw := stp_use hw ex3
        refine lv_istore_n (lv' := [(1, .int x3), (0, .ref (a 3)), (2, .int v2)]) hx hb dX2_noiseInAll_18 rfl hl (by decide) rfl (fun ls hl => ?_)
        obtain ⟨x4, ex4⟩ : ∃ y : Int32, y = (v2 + 1) := ⟨_, rfl⟩
        have hw := stp_use hw ex4
        refine lv_iinc (v := x4) (lv' := [(2, .int x4), (1, .int x3), (0, .ref (a 3))]) hx hb dX2_noiseInAll_19 hl (k := 2) rfl (by rw [ex4]; rfl) (by decide) rfl (fun ls hl => ?_)
        refine lv_goto (tgt := 4) hx hb dX2_noiseInAll_22 (by decide) ?_
        exact ih x3 x4 hw ls (lv_sub hl [2, 1, 0] rfl)
  have hl := lv_entry ([.ref (a 3)]) (n := 3) (Nat.le_of_ble_eq_true rfl)
  rw [lg_entry_eq]
  generalize (lg_sl ([.ref (a 3)]) ++ List.replicate (3 - (lg_sl ([.ref (a 3)])).length) Slot.unset).toArray = ls at hl ⊢
  have hl : lv_has ls 3 [(0, .ref (a 3))] := hl
  refine lv_iconst (v := 0) hx hb dX2_noiseInAll_0 (by decide) ?_
  refine lv_istore_n (lv' := [(1, .int 0), (0, .ref (a 3))]) hx hb dX2_noiseInAll_1 rfl hl (by decide) rfl (fun ls hl => ?_)
  refine lv_iconst (v := 0) hx hb dX2_noiseInAll_2 (by decide) ?_
  refine lv_istore_n (lv' := [(2, .int 0), (1, .int 0), (0, .ref (a 3))]) hx hb dX2_noiseInAll_3 rfl hl (by decide) rfl (fun ls hl => ?_)
  exact L4 NF 0 0 hw ls (lv_sub hl [2, 1, 0] rfl)
set_option maxHeartbeats 4000000 in
set_option maxRecDepth 100000 in
theorem c_X3_town (l : Launch) (dC : Nat → ClassId) (dI : Nat → Nat → Nat) (A : Nat → Prop) (a : Nat → Nat) (cA : ClassId) (X : WS) (out : (Int32 × WS)) (hw : f_X3_town X = some out) : Met l yX3_town (.code yX3_town cX3_town 1 (some .int) :: lw_g) ({ frames := 3, cells := 0, slots := 0, locals := 62 }) (PcXD dC dI A a cA X [.ref (a 0)]) (va_Qi (fun (r_ : Int32) (X_ : WS) => out = (r_, X_)) (fun X_ t => va_P (dC, dI) classes (wl a cA X_) t.heap ∧ va_K (dC, dI) classes [(cA, .int)] t) A) 0 0 (A) := by
  unfold f_X3_town at hw
  refine Met.ofW (cc := cX3_town) (maxL := 1) (ret := (some .int)) (by decide) rfl ?_
  intro p e s m args below meth c s₁ B hml hv
  obtain ⟨rfl, hP, hK, hN, hD0⟩ := hv
  have hx := B.exec
  have hb := B.bytes
  have hr := B.returns
  have hts0 := atoms_spec (ws := (.code yX3_town cX3_town 1 (some .int) :: lw_g)) B.pre
  have hts : ∀ w ∈ lw_g, w.before (([.ref (a 0)] : List Value).toArray) s = true := fun w h => hts0 w (List.mem_cons_of_mem _ h)
  clear hts0
  have hown : s.vm.findClass RX3 = some m.cls := findClass_of_methodNamed B.named
  have hlocks := B.notSynchronized
  have hret : ∀ (pc : Nat) (ls : Array Slot) (v : Int32) (X_ : WS) (H : Heap) (locs : List Loc), (v, X_) = out → va_P (dC, dI) classes (wl a cA X_) H → va_S A s.heap H locs → decode cX3_town pc = .ok (.ireturn, 1) → W p l e ({ frames := 3, cells := 0, slots := 0, locals := 62 }) s m (([.ref (a 0)] : List Value).toArray) below meth c H locs 0 0 (MQ below (va_Qi (fun (r_ : Int32) (X_ : WS) => out = (r_, X_)) (fun X_ t => va_P (dC, dI) classes (wl a cA X_) t.heap ∧ va_K (dC, dI) classes [(cA, .int)] t) A) (([.ref (a 0)] : List Value).toArray) s 0 0 (A)) (F0 m pc ls [.int v]) := fun pc ls v X_ H locs hv hP hS hd => W.iret hx hb hr (fun t ht hW => ⟨⟨v, X_, rfl, hv.symm, by rw [ht]; exact hP, va_K.moved hW.alike hK⟩, hS.F ht⟩) hS.2.2 hd
  show W p l e ({ frames := 3, cells := 0, slots := 0, locals := 62 }) s m (([.ref (a 0)] : List Value).toArray) below meth c s.heap [] 0 0 (MQ below (va_Qi (fun (r_ : Int32) (X_ : WS) => out = (r_, X_)) (fun X_ t => va_P (dC, dI) classes (wl a cA X_) t.heap ∧ va_K (dC, dI) classes [(cA, .int)] t) A) (([.ref (a 0)] : List Value).toArray) s 0 0 (A)) (entryFrame m (([.ref (a 0)] : List Value).toArray) 1)
  generalize MQ below (va_Qi (fun (r_ : Int32) (X_ : WS) => out = (r_, X_)) (fun X_ t => va_P (dC, dI) classes (wl a cA X_) t.heap ∧ va_K (dC, dI) classes [(cA, .int)] t) A) (([.ref (a 0)] : List Value).toArray) s 0 0 (A) = Q at hret ⊢
  have hS : va_S A s.heap s.heap [] := va_S.rf
  have hl := lv_entry ([.ref (a 0)]) (n := 1) (Nat.le_of_ble_eq_true rfl)
  rw [lg_entry_eq]
  generalize (lg_sl ([.ref (a 0)]) ++ List.replicate (1 - (lg_sl ([.ref (a 0)])).length) Slot.unset).toArray = ls at hl ⊢
  have hl : lv_has ls 1 [(0, .ref (a 0))] := hl
  refine lv_aload_n hx hb dX3_town_0 rfl (lv_at hl 0 rfl) ?_
  refine va_get (D := (dC, dI)) (ci := 3) (v := .ref (a 1)) (C := RX3) (T := TX3) (N := 6) hx hb hts iX3 hown hK hP 0 rfl rfl 0 (by decide) (hts _ wd_178) (fun _ h9 => h9) rfl dX3_town_1 ?_
  obtain ⟨r1, er1, hw⟩ := Option.bind_eq_some_iff.mp hw
  refine vp_callSi (va_runV (As := []) (rest := []) ⟨hx, hb, hml, hown, hts⟩ (c_X1_isTown l dC dI a cA X r1 er1) ⟨callB_of 0 hts gd_X1_isTown rfl rfl rfl (hts _ wd_36) (hts _ wd_228) hd_X1_isTown ⟨Nat.le_of_ble_eq_true rfl, Nat.le_of_ble_eq_true rfl⟩, hts _ wd_229, hts _ wd_230⟩ ⟨blX, va_recv hK hP (ci := 1) (q0 := 1) rfl rfl, fun U hU hW => ⟨rfl, by rw [hU]; exact hP, va_K.moved hW.alike hK, nst.warm hW hN⟩⟩ rfl rfl hl.1 rfl (lv_room (Nat.le_of_ble_eq_true rfl)) dX3_town_4 ⟨Nat.zero_le _, Nat.zero_le _⟩).run (fun r_ e_ => ?_)
  subst r_
  refine lv_if_ne (tgt := 13) hx hb dX3_town_7 (by decide) (fun c2 => ?_) (fun c2 => ?_)
  · have hw := ite_f hw c2
    refine lv_aload_n hx hb dX3_town_13 rfl (lv_at hl 0 rfl) ?_
    refine va_get (D := (dC, dI)) (ci := 3) (v := .ref (a 3)) (C := RX3) (T := TX3) (N := 6) hx hb hts iX3 hown hK hP 0 rfl rfl 1 (by decide) (hts _ wd_179) (fun _ h9 => h9) rfl dX3_town_14 ?_
    refine lv_aload_n hx hb dX3_town_17 rfl (lv_at hl 0 rfl) ?_
    refine va_get (D := (dC, dI)) (ci := 3) (v := .ref (a 1)) (C := RX3) (T := TX3) (N := 6) hx hb hts iX3 hown hK hP 0 rfl rfl 0 (by decide) (hts _ wd_178) (fun _ h9 => h9) rfl dX3_town_18 ?_
    obtain ⟨X3, eX3, hw⟩ := Option.bind_eq_some_iff.mp hw
    refine va_callv (va_runV (As := [.ref (a 1)]) (rest := []) ⟨hx, hb, hml, hown, hts⟩ (c_X2_begin l dC dI A a cA X X3 eX3) ⟨callB_of 1 hts gd_X2_begin rfl rfl rfl (hts _ wd_37) (hts _ wd_233) hd_X2_begin ⟨Nat.le_of_ble_eq_true rfl, Nat.le_of_ble_eq_true rfl⟩, hts _ wd_234, hts _ wd_235⟩ ⟨blXD, va_recv hK hP (ci := 2) (q0 := 3) rfl rfl, fun U hU hW => ⟨rfl, by rw [hU]; exact hP, va_K.moved hW.alike hK, nst.warm hW hN, wlD hD0⟩⟩ rfl rfl hl.1 rfl (lv_room (Nat.le_of_ble_eq_true rfl)) dX3_town_21 ⟨Nat.zero_le _, Nat.zero_le _⟩) hS (fun _ _ h => h) (fun _ h => h) (fun u_ t_ H1 locs1 ht hvm hp_ hB hz1 hk1 hS1 => ?_)
    subst hp_
    obtain ⟨hP1, hK1⟩ := hB
    rw [ht] at hP1
    have hP := hP1
    have hS := hS1
    refine lv_aload_n hx hb dX3_town_24 rfl (lv_at hl 0 rfl) ?_
    refine va_get (D := (dC, dI)) (ci := 3) (v := .ref (a 1)) (C := RX3) (T := TX3) (N := 6) hx hb hts iX3 hown hK hP 0 rfl rfl 0 (by decide) (hts _ wd_178) (fun _ h9 => h9) rfl dX3_town_25 ?_
    obtain ⟨r4, X5, er4, hw⟩ := bnd2_use hw
    refine va_calli (va_runV (As := []) (rest := []) ⟨hx, hb, hml, hown, hts⟩ (c_X1_clear l dC dI A a cA X3 (r4, X5) er4) ⟨callB_of 0 hts gd_X1_clear rfl rfl rfl (hts _ wd_36) (hts _ wd_209) hd_X1_clear ⟨Nat.le_of_ble_eq_true rfl, Nat.le_of_ble_eq_true rfl⟩, hts _ wd_210, hts _ wd_211⟩ ⟨blXD, va_recv hK hP (ci := 1) (q0 := 1) rfl rfl, fun U hU hW => ⟨rfl, by rw [hU]; exact hP, va_K.moved hW.alike hK, nst.warm hW hN, wlD hD0⟩⟩ rfl rfl hl.1 rfl (lv_room (Nat.le_of_ble_eq_true rfl)) dX3_town_28 ⟨Nat.zero_le _, Nat.zero_le _⟩) hS (fun _ _ h => h) (fun _ h => h) (fun r_ u_ t_ H1 locs1 ht hvm hp_ hB hz1 hk1 hS1 => ?_)
    obtain ⟨q1_, q2_⟩ := Prod.mk.inj hp_
    subst q1_
    subst q2_
    obtain ⟨hP1, hK1⟩ := hB
    rw [ht] at hP1
    have hP := hP1
    have hS := hS1
    refine lv_pop hx hb dX3_town_31 rfl ?_
    refine lv_aload_n hx hb dX3_town_32 rfl (lv_at hl 0 rfl) ?_
    refine lv_iconst (v := 0) hx hb dX3_town_33 (by decide) ?_
    refine va_put (D := (dC, dI)) (ci := 3) (v := .int 0) (ty := .boolean) (C := RX3) (T := TX3) (N := 6) hx hb hts iX3 tyX3 tyX3_ok nmX3 hown hK hP (wlD hD0) hS 0 rfl rfl 4 (by decide) (hts _ wd_182) (fun _ h9 => h9) rfl (by decide +kernel) rfl rfl (Nat.le_of_ble_eq_true rfl) dX3_town_34 (fun H locs hP hD_ hS => ?_)
    obtain ⟨X6, eX6⟩ : ∃ y : WS, y = (ups X5 0 4 0) := ⟨_, rfl⟩
    have hw := stp_use hw eX6
    have hP : va_P (dC, dI) classes (wl a cA X6) H := by rw [eX6]; exact hP
    refine lv_aload_n hx hb dX3_town_37 rfl (lv_at hl 0 rfl) ?_
    refine lv_dup hx hb dX3_town_38 rfl ?_
    refine va_get (D := (dC, dI)) (ci := 3) (v := .int (X6 0 5)) (C := RX3) (T := TX3) (N := 6) hx hb hts iX3 hown hK hP 0 rfl rfl 5 (by decide) (hts _ wd_183) (fun _ h9 => h9) rfl dX3_town_39 ?_
    refine lv_iconst (v := 1) hx hb dX3_town_42 (by decide) ?_
    refine lv_iadd hx hb dX3_town_43 ?_
    refine lv_topi (fun x7 ex7 => ?_)
    have hw := stp_use hw ex7
    refine va_put (D := (dC, dI)) (ci := 3) (v := .int x7) (ty := .int) (C := RX3) (T := TX3) (N := 6) hx hb hts iX3 tyX3 tyX3_ok nmX3 hown hK hP (wlD hD0) hS 0 rfl rfl 5 (by decide) (hts _ wd_183) (fun _ h9 => h9) rfl (by decide +kernel) rfl rfl (Nat.le_of_ble_eq_true rfl) dX3_town_44 (fun H locs hP hD_ hS => ?_)
    obtain ⟨X8, eX8⟩ : ∃ y : WS, y = (ups X6 0 5 x7) := ⟨_, rfl⟩
    have hw := stp_use hw eX8
    have hP : va_P (dC, dI) classes (wl a cA X8) H := by rw [eX8]; exact hP
    refine lv_aload_n hx hb dX3_town_47 rfl (lv_at hl 0 rfl) ?_
    refine va_get (D := (dC, dI)) (ci := 3) (v := .ref (a 3)) (C := RX3) (T := TX3) (N := 6) hx hb hts iX3 hown hK hP 0 rfl rfl 1 (by decide) (hts _ wd_179) (fun _ h9 => h9) rfl dX3_town_48 ?_
    obtain ⟨r9, er9, hw⟩ := Option.bind_eq_some_iff.mp hw
    refine vp_callSi (va_runV (As := []) (rest := []) ⟨hx, hb, hml, hown, hts⟩ (c_X2_noiseInAll l dC dI a cA X8 r9 er9) ⟨callB_of 0 hts gd_X2_noiseInAll rfl rfl rfl (hts _ wd_37) (hts _ wd_245) hd_X2_noiseInAll ⟨Nat.le_of_ble_eq_true rfl, Nat.le_of_ble_eq_true rfl⟩, hts _ wd_246, hts _ wd_247⟩ ⟨blX, va_recv hK hP (ci := 2) (q0 := 3) rfl rfl, fun U hU hW => ⟨rfl, by rw [hU]; exact hP, va_K.moved hW.alike hK, nst.warm hW hN⟩⟩ rfl rfl hl.1 rfl (lv_room (Nat.le_of_ble_eq_true rfl)) dX3_town_51 ⟨Nat.zero_le _, Nat.zero_le _⟩).run (fun r_ e_ => ?_)
    subst r_
    exact hret _ _ _ _ _ _ (Option.some.inj hw) hP hS dX3_town_54
  · have hw := ite_t hw c2
    refine lv_bipush (v := (-103)) hx hb dX3_town_10 (by decide) ?_
    exact hret _ _ _ _ _ _ (Option.some.inj hw) hP hS dX3_town_12
set_option maxHeartbeats 4000000 in
set_option maxRecDepth 100000 in
theorem c_X4_town (l : Launch) (dC : Nat → ClassId) (dI : Nat → Nat → Nat) (A : Nat → Prop) (a : Nat → Nat) (cA : ClassId) (X : MS) (out : (Int32 × MS)) (hw : f_X4_town X = some out) : Met l yX4_town (.code yX4_town cX4_town 3 (some .int) :: lw_g) ({ frames := 3, cells := 0, slots := 0, locals := 68 }) (PcMD dC dI A a cA X [.ref (a 0)]) (va_Qi (fun (r_ : Int32) (X_ : MS) => out = (r_, X_)) (fun X_ t => va_P (dC, dI) classes (wm a cA X_) t.heap ∧ va_K (dC, dI) classes [(cA, .int)] t) A) 0 0 (A) := by
  unfold f_X4_town at hw
  refine Met.ofW (cc := cX4_town) (maxL := 3) (ret := (some .int)) (by decide) rfl ?_
  intro p e s m args below meth c s₁ B hml hv
  obtain ⟨rfl, hP, hK, hD0⟩ := hv
  have hx := B.exec
  have hb := B.bytes
  have hr := B.returns
  have hts0 := atoms_spec (ws := (.code yX4_town cX4_town 3 (some .int) :: lw_g)) B.pre
  have hts : ∀ w ∈ lw_g, w.before (([.ref (a 0)] : List Value).toArray) s = true := fun w h => hts0 w (List.mem_cons_of_mem _ h)
  clear hts0
  have hown : s.vm.findClass RX4 = some m.cls := findClass_of_methodNamed B.named
  have hlocks := B.notSynchronized
  have hret : ∀ (pc : Nat) (ls : Array Slot) (v : Int32) (X_ : MS) (H : Heap) (locs : List Loc), (v, X_) = out → va_P (dC, dI) classes (wm a cA X_) H → va_S A s.heap H locs → decode cX4_town pc = .ok (.ireturn, 1) → W p l e ({ frames := 3, cells := 0, slots := 0, locals := 68 }) s m (([.ref (a 0)] : List Value).toArray) below meth c H locs 0 0 (MQ below (va_Qi (fun (r_ : Int32) (X_ : MS) => out = (r_, X_)) (fun X_ t => va_P (dC, dI) classes (wm a cA X_) t.heap ∧ va_K (dC, dI) classes [(cA, .int)] t) A) (([.ref (a 0)] : List Value).toArray) s 0 0 (A)) (F0 m pc ls [.int v]) := fun pc ls v X_ H locs hv hP hS hd => W.iret hx hb hr (fun t ht hW => ⟨⟨v, X_, rfl, hv.symm, by rw [ht]; exact hP, va_K.moved hW.alike hK⟩, hS.F ht⟩) hS.2.2 hd
  show W p l e ({ frames := 3, cells := 0, slots := 0, locals := 68 }) s m (([.ref (a 0)] : List Value).toArray) below meth c s.heap [] 0 0 (MQ below (va_Qi (fun (r_ : Int32) (X_ : MS) => out = (r_, X_)) (fun X_ t => va_P (dC, dI) classes (wm a cA X_) t.heap ∧ va_K (dC, dI) classes [(cA, .int)] t) A) (([.ref (a 0)] : List Value).toArray) s 0 0 (A)) (entryFrame m (([.ref (a 0)] : List Value).toArray) 3)
  generalize MQ below (va_Qi (fun (r_ : Int32) (X_ : MS) => out = (r_, X_)) (fun X_ t => va_P (dC, dI) classes (wm a cA X_) t.heap ∧ va_K (dC, dI) classes [(cA, .int)] t) A) (([.ref (a 0)] : List Value).toArray) s 0 0 (A) = Q at hret ⊢
  have hS : va_S A s.heap s.heap [] := va_S.rf
  have L25 : ∀ n : Nat, ∀ (X : MS), ∀ (v1 : Int32), ∀ (v2 : Int32), g_X4_town_25 n X v1 v2 = some out → ∀ (H : Heap) (locs : List Loc), va_P (dC, dI) classes (wm a cA X) H → va_S A s.heap H locs → ∀ ls : Array Slot, lv_has ls 3 [(0, .ref (a 0)), (1, .int v1), (2, .int v2)] → W p l e ({ frames := 3, cells := 0, slots := 0, locals := 68 }) s m (([.ref (a 0)] : List Value).toArray) below meth c H locs 0 0 Q (F0 m 25 ls []) := by
    intro n
    induction n with
    | zero =>
      intro X v1 v2 hw
      rw [g_X4_town_25] at hw
      cases hw
    | succ n ih =>
      intro X v1 v2 hw H locs hP hS ls hl
      rw [g_X4_town_25] at hw
      refine lv_iload_n hx hb dX4_town_25 rfl (lv_at hl 2 rfl) ?_
      refine lv_bipush (v := 6) hx hb dX4_town_26 (by decide) ?_
      refine lv_icmp_ge (tgt := 61) hx hb dX4_town_28 (by decide) (fun c4 => ?_) (fun c4 => ?_)
      · have hw := ite_t hw c4
        refine lv_aload_n hx hb dX4_town_61 rfl (lv_at hl 0 rfl) ?_
        refine lv_aload_n hx hb dX4_town_62 rfl (lv_at hl 0 rfl) ?_
        refine va_get (D := (dC, dI)) (ci := 4) (v := .ref (a 1)) (C := RX4) (T := TX4) (N := 29) hx hb hts iX4 hown hK hP 0 rfl rfl 0 (by decide) (hts _ wd_522) (fun _ h9 => h9) rfl dX4_town_63 ?_
        refine lv_bipush (v := 7) hx hb dX4_town_66 (by decide) ?_
        refine va_iald hx hb hK hP 1 0 rfl rfl (show vp_in 7 12 by unfold vp_in; decide) dX4_town_68 ?_
        refine lv_bipush (v := 48) hx hb dX4_town_69 (by decide) ?_
        refine lv_isub hx hb dX4_town_71 ?_
        refine lv_topi (fun x5 ex5 => ?_)
        have hw := stp_use hw ex5
        refine va_put (D := (dC, dI)) (ci := 4) (v := .int x5) (ty := .int) (C := RX4) (T := TX4) (N := 29) hx hb hts iX4 tyX4 tyX4_ok nmX4 hown hK hP (wmD hD0) hS 0 rfl rfl 2 (by decide) (hts _ wd_524) (fun _ h9 => h9) rfl (by decide +kernel) rfl rfl (Nat.le_of_ble_eq_true rfl) dX4_town_72 (fun H locs hP hD_ hS => ?_)
        obtain ⟨X6, eX6⟩ : ∃ y : MS, y = (ups X.1 0 2 x5, X.2) := ⟨_, rfl⟩
        have hw := stp_use hw eX6
        have hP : va_P (dC, dI) classes (wm a cA X6) H := by rw [eX6]; exact hP
        refine lv_aload_n hx hb dX4_town_75 rfl (lv_at hl 0 rfl) ?_
        refine lv_aload_n hx hb dX4_town_76 rfl (lv_at hl 0 rfl) ?_
        refine va_get (D := (dC, dI)) (ci := 4) (v := .int (X6.1 0 2)) (C := RX4) (T := TX4) (N := 29) hx hb hts iX4 hown hK hP 0 rfl rfl 2 (by decide) (hts _ wd_524) (fun _ h9 => h9) rfl dX4_town_77 ?_
        refine lv_topi (fun x7 ex7 => ?_)
        have hw := stp_use hw ex7
        refine va_put (D := (dC, dI)) (ci := 4) (v := .int x7) (ty := .int) (C := RX4) (T := TX4) (N := 29) hx hb hts iX4 tyX4 tyX4_ok nmX4 hown hK hP (wmD hD0) hS 0 rfl rfl 3 (by decide) (hts _ wd_525) (fun _ h9 => h9) rfl (by decide +kernel) rfl rfl (Nat.le_of_ble_eq_true rfl) dX4_town_80 (fun H locs hP hD_ hS => ?_)
        obtain ⟨X8, eX8⟩ : ∃ y : MS, y = (ups X6.1 0 3 x7, X6.2) := ⟨_, rfl⟩
        have hw := stp_use hw eX8
        have hP : va_P (dC, dI) classes (wm a cA X8) H := by rw [eX8]; exact hP
        refine lv_aload_n hx hb dX4_town_83 rfl (lv_at hl 0 rfl) ?_
        refine lv_aload_n hx hb dX4_town_84 rfl (lv_at hl 0 rfl) ?_
        refine va_get (D := (dC, dI)) (ci := 4) (v := .ref (a 1)) (C := RX4) (T := TX4) (N := 29) hx hb hts iX4 hown hK hP 0 rfl rfl 0 (by decide) (hts _ wd_522) (fun _ h9 => h9) rfl dX4_town_85 ?_
        refine lv_bipush (v := 8) hx hb dX4_town_88 (by decide) ?_
        refine va_iald hx hb hK hP 1 0 rfl rfl (show vp_in 8 12 by unfold vp_in; decide) dX4_town_90 ?_
        refine lv_bipush (v := 48) hx hb dX4_town_91 (by decide) ?_
        refine lv_isub hx hb dX4_town_93 ?_
        refine lv_topi (fun x9 ex9 => ?_)
        have hw := stp_use hw ex9
        refine va_put (D := (dC, dI)) (ci := 4) (v := .int x9) (ty := .int) (C := RX4) (T := TX4) (N := 29) hx hb hts iX4 tyX4 tyX4_ok nmX4 hown hK hP (wmD hD0) hS 0 rfl rfl 4 (by decide) (hts _ wd_526) (fun _ h9 => h9) rfl (by decide +kernel) rfl rfl (Nat.le_of_ble_eq_true rfl) dX4_town_94 (fun H locs hP hD_ hS => ?_)
        obtain ⟨X10, eX10⟩ : ∃ y : MS, y = (ups X8.1 0 4 x9, X8.2) := ⟨_, rfl⟩
        have hw := stp_use hw eX10
        have hP : va_P (dC, dI) classes (wm a cA X10) H := by rw [eX10]; exact hP
        refine lv_aload_n hx hb dX4_town_97 rfl (lv_at hl 0 rfl) ?_
        refine lv_iconst (v := 0) hx hb dX4_town_98 (by decide) ?_
        refine va_put (D := (dC, dI)) (ci := 4) (v := .int 0) (ty := .int) (C := RX4) (T := TX4) (N := 29) hx hb hts iX4 tyX4 tyX4_ok nmX4 hown hK hP (wmD hD0) hS 0 rfl rfl 5 (by decide) (hts _ wd_527) (fun _ h9 => h9) rfl (by decide +kernel) rfl rfl (Nat.le_of_ble_eq_true rfl) dX4_town_99 (fun H locs hP hD_ hS => ?_)
        obtain ⟨X11, eX11⟩ : ∃ y : MS, y = (ups X10.1 0 5 0, X10.2) := ⟨_, rfl⟩
        have hw := stp_use hw eX11
        have hP : va_P (dC, dI) classes (wm a cA X11) H := by rw [eX11]; exact hP
        refine lv_aload_n hx hb dX4_town_102 rfl (lv_at hl 0 rfl) ?_
        refine lv_iconst (v := 0) hx hb dX4_town_103 (by decide) ?_
        refine va_put (D := (dC, dI)) (ci := 4) (v := .int 0) (ty := .int) (C := RX4) (T := TX4) (N := 29) hx hb hts iX4 tyX4 tyX4_ok nmX4 hown hK hP (wmD hD0) hS 0 rfl rfl 6 (by decide) (hts _ wd_528) (fun _ h9 => h9) rfl (by decide +kernel) rfl rfl (Nat.le_of_ble_eq_true rfl) dX4_town_104 (fun H locs hP hD_ hS => ?_)
        obtain ⟨X12, eX12⟩ : ∃ y : MS, y = (ups X11.1 0 6 0, X11.2) := ⟨_, rfl⟩
        have hw := stp_use hw eX12
        have hP : va_P (dC, dI) classes (wm a cA X12) H := by rw [eX12]; exact hP
        refine lv_aload_n hx hb dX4_town_107 rfl (lv_at hl 0 rfl) ?_
        refine lv_iconst (v := 1) hx hb dX4_town_108 (by decide) ?_
        refine va_put (D := (dC, dI)) (ci := 4) (v := .int 1) (ty := .int) (C := RX4) (T := TX4) (N := 29) hx hb hts iX4 tyX4 tyX4_ok nmX4 hown hK hP (wmD hD0) hS 0 rfl rfl 7 (by decide) (hts _ wd_529) (fun _ h9 => h9) rfl (by decide +kernel) rfl rfl (Nat.le_of_ble_eq_true rfl) dX4_town_109 (fun H locs hP hD_ hS => ?_)
        obtain ⟨X13, eX13⟩ : ∃ y : MS, y = (ups X12.1 0 7 1, X12.2) := ⟨_, rfl⟩
        have hw := stp_use hw eX13
        have hP : va_P (dC, dI) classes (wm a cA X13) H := by rw [eX13]; exact hP
        refine lv_aload_n hx hb dX4_town_112 rfl (lv_at hl 0 rfl) ?_
        refine lv_iconst (v := 1) hx hb dX4_town_113 (by decide) ?_
        refine va_put (D := (dC, dI)) (ci := 4) (v := .int 1) (ty := .int) (C := RX4) (T := TX4) (N := 29) hx hb hts iX4 tyX4 tyX4_ok nmX4 hown hK hP (wmD hD0) hS 0 rfl rfl 8 (by decide) (hts _ wd_530) (fun _ h9 => h9) rfl (by decide +kernel) rfl rfl (Nat.le_of_ble_eq_true rfl) dX4_town_114 (fun H locs hP hD_ hS => ?_)
        obtain ⟨X14, eX14⟩ : ∃ y : MS, y = (ups X13.1 0 8 1, X13.2) := ⟨_, rfl⟩
        have hw := stp_use hw eX14
        have hP : va_P (dC, dI) classes (wm a cA X14) H := by rw [eX14]; exact hP
        refine lv_aload_n hx hb dX4_town_117 rfl (lv_at hl 0 rfl) ?_
        refine lv_iconst (v := 0) hx hb dX4_town_118 (by decide) ?_
        refine va_put (D := (dC, dI)) (ci := 4) (v := .int 0) (ty := .int) (C := RX4) (T := TX4) (N := 29) hx hb hts iX4 tyX4 tyX4_ok nmX4 hown hK hP (wmD hD0) hS 0 rfl rfl 11 (by decide) (hts _ wd_533) (fun _ h9 => h9) rfl (by decide +kernel) rfl rfl (Nat.le_of_ble_eq_true rfl) dX4_town_119 (fun H locs hP hD_ hS => ?_)
        obtain ⟨X15, eX15⟩ : ∃ y : MS, y = (ups X14.1 0 11 0, X14.2) := ⟨_, rfl⟩
        have hw := stp_use hw eX15
        have hP : va_P (dC, dI) classes (wm a cA X15) H := by rw [eX15]; exact hP
        refine lv_aload_n hx hb dX4_town_122 rfl (lv_at hl 0 rfl) ?_
        refine lv_iconst (v := 0) hx hb dX4_town_123 (by decide) ?_
        refine va_put (D := (dC, dI)) (ci := 4) (v := .int 0) (ty := .int) (C := RX4) (T := TX4) (N := 29) hx hb hts iX4 tyX4 tyX4_ok nmX4 hown hK hP (wmD hD0) hS 0 rfl rfl 14 (by decide) (hts _ wd_536) (fun _ h9 => h9) rfl (by decide +kernel) rfl rfl (Nat.le_of_ble_eq_true rfl) dX4_town_124 (fun H locs hP hD_ hS => ?_)
        obtain ⟨X16, eX16⟩ : ∃ y : MS, y = (ups X15.1 0 14 0, X15.2) := ⟨_, rfl⟩
        have hw := stp_use hw eX16
        have hP : va_P (dC, dI) classes (wm a cA X16) H := by rw [eX16]; exact hP
        refine lv_aload_n hx hb dX4_town_127 rfl (lv_at hl 0 rfl) ?_
        refine lv_dup hx hb dX4_town_128 rfl ?_
        refine va_get (D := (dC, dI)) (ci := 4) (v := .int (X16.1 0 9)) (C := RX4) (T := TX4) (N := 29) hx hb hts iX4 hown hK hP 0 rfl rfl 9 (by decide) (hts _ wd_531) (fun _ h9 => h9) rfl dX4_town_129 ?_
        refine lv_iconst (v := 1) hx hb dX4_town_132 (by decide) ?_
        refine lv_iadd hx hb dX4_town_133 ?_
        refine lv_topi (fun x17 ex17 => ?_)
        have hw := stp_use hw ex17
        refine va_put (D := (dC, dI)) (ci := 4) (v := .int x17) (ty := .int) (C := RX4) (T := TX4) (N := 29) hx hb hts iX4 tyX4 tyX4_ok nmX4 hown hK hP (wmD hD0) hS 0 rfl rfl 9 (by decide) (hts _ wd_531) (fun _ h9 => h9) rfl (by decide +kernel) rfl rfl (Nat.le_of_ble_eq_true rfl) dX4_town_134 (fun H locs hP hD_ hS => ?_)
        obtain ⟨X18, eX18⟩ : ∃ y : MS, y = (ups X16.1 0 9 x17, X16.2) := ⟨_, rfl⟩
        have hw := stp_use hw eX18
        have hP : va_P (dC, dI) classes (wm a cA X18) H := by rw [eX18]; exact hP
        refine lv_aload_n hx hb dX4_town_137 rfl (lv_at hl 0 rfl) ?_
        refine lv_iconst (v := 0) hx hb dX4_town_138 (by decide) ?_
        refine va_put (D := (dC, dI)) (ci := 4) (v := .int 0) (ty := .int) (C := RX4) (T := TX4) (N := 29) hx hb hts iX4 tyX4 tyX4_ok nmX4 hown hK hP (wmD hD0) hS 0 rfl rfl 1 (by decide) (hts _ wd_523) (fun _ h9 => h9) rfl (by decide +kernel) rfl rfl (Nat.le_of_ble_eq_true rfl) dX4_town_139 (fun H locs hP hD_ hS => ?_)
        obtain ⟨X19, eX19⟩ : ∃ y : MS, y = (ups X18.1 0 1 0, X18.2) := ⟨_, rfl⟩
        have hw := stp_use hw eX19
        have hP : va_P (dC, dI) classes (wm a cA X19) H := by rw [eX19]; exact hP
        refine lv_iload_n hx hb dX4_town_142 rfl (lv_at hl 1 rfl) ?_
        exact hret _ _ _ _ _ _ (Option.some.inj hw) hP hS dX4_town_143
      · have hw := ite_f hw c4
        refine lv_aload_n hx hb dX4_town_31 rfl (lv_at hl 0 rfl) ?_
        refine va_get (D := (dC, dI)) (ci := 4) (v := .ref (a 2)) (C := RX4) (T := TX4) (N := 29) hx hb hts iX4 hown hK hP 0 rfl rfl 10 (by decide) (hts _ wd_532) (fun _ h9 => h9) rfl dX4_town_32 ?_
        refine lv_iload_n hx hb dX4_town_35 rfl (lv_at hl 2 rfl) ?_
        refine lv_aload_n hx hb dX4_town_36 rfl (lv_at hl 0 rfl) ?_
        refine va_get (D := (dC, dI)) (ci := 4) (v := .ref (a 1)) (C := RX4) (T := TX4) (N := 29) hx hb hts iX4 hown hK hP 0 rfl rfl 0 (by decide) (hts _ wd_522) (fun _ h9 => h9) rfl dX4_town_37 ?_
        refine lv_iload_n hx hb dX4_town_40 rfl (lv_at hl 2 rfl) ?_
        obtain ⟨h20, hw⟩ := ixc_use hw
        refine va_iald hx hb hK hP 1 0 rfl rfl h20 dX4_town_41 ?_
        refine lv_bipush (v := 48) hx hb dX4_town_42 (by decide) ?_
        refine lv_isub hx hb dX4_town_44 ?_
        refine lv_topi (fun x22 ex22 => ?_)
        have hw := stp_use hw ex22
        obtain ⟨h21, hw⟩ := ixc_use hw
        refine va_iast hx hb hK hP (wmD hD0) hS 2 0 rfl rfl h21 dX4_town_45 (fun H locs hP hD_ hS => ?_)
        obtain ⟨X23, eX23⟩ : ∃ y : MS, y = (ups X.1 2 (Int32.toNatClampNeg v2) x22, X.2) := ⟨_, rfl⟩
        have hw := stp_use hw eX23
        have hP : va_P (dC, dI) classes (wm a cA X23) H := by rw [eX23]; exact hP
        refine lv_iload_n hx hb dX4_town_46 rfl (lv_at hl 1 rfl) ?_
        refine lv_aload_n hx hb dX4_town_47 rfl (lv_at hl 0 rfl) ?_
        refine va_get (D := (dC, dI)) (ci := 4) (v := .ref (a 2)) (C := RX4) (T := TX4) (N := 29) hx hb hts iX4 hown hK hP 0 rfl rfl 10 (by decide) (hts _ wd_532) (fun _ h9 => h9) rfl dX4_town_48 ?_
        refine lv_iload_n hx hb dX4_town_51 rfl (lv_at hl 2 rfl) ?_
        obtain ⟨h24, hw⟩ := ixc_use hw
        refine va_iald hx hb hK hP 2 0 rfl rfl h24 dX4_town_52 ?_
        refine lv_iadd hx hb dX4_town_53 ?_
        refine lv_topi (fun x25 ex25 => ?_)
        have hw := stp_use hw ex25
        refine lv_istore_n (lv' := [(1, .int x25), (0, .ref (a 0)), (2, .int v2)]) hx hb dX4_town_54 rfl hl (by decide) rfl (fun ls hl => ?_)
        obtain ⟨x26, ex26⟩ : ∃ y : Int32, y = (v2 + 1) := ⟨_, rfl⟩
        have hw := stp_use hw ex26
        refine lv_iinc (v := x26) (lv' := [(2, .int x26), (1, .int x25), (0, .ref (a 0))]) hx hb dX4_town_55 hl (k := 2) rfl (by rw [ex26]; rfl) (by decide) rfl (fun ls hl => ?_)
        refine lv_goto (tgt := 25) hx hb dX4_town_58 (by decide) ?_
        exact ih X23 x25 x26 hw _ _ hP hS ls (lv_sub hl [2, 1, 0] rfl)
  have hl := lv_entry ([.ref (a 0)]) (n := 3) (Nat.le_of_ble_eq_true rfl)
  rw [lg_entry_eq]
  generalize (lg_sl ([.ref (a 0)]) ++ List.replicate (3 - (lg_sl ([.ref (a 0)])).length) Slot.unset).toArray = ls at hl ⊢
  have hl : lv_has ls 3 [(0, .ref (a 0))] := hl
  refine lv_aload_n hx hb dX4_town_0 rfl (lv_at hl 0 rfl) ?_
  refine va_get (D := (dC, dI)) (ci := 4) (v := .int (X.1 0 1)) (C := RX4) (T := TX4) (N := 29) hx hb hts iX4 hown hK hP 0 rfl rfl 1 (by decide) (hts _ wd_523) (fun _ h9 => h9) rfl dX4_town_1 ?_
  refine lv_bipush (v := 9) hx hb dX4_town_4 (by decide) ?_
  refine lv_icmp_ne (tgt := 18) hx hb dX4_town_6 (by decide) (fun c1 => ?_) (fun c1 => ?_)
  · have hw := ite_f hw c1
    refine lv_bipush (v := (-103)) hx hb dX4_town_18 (by decide) ?_
    exact hret _ _ _ _ _ _ (Option.some.inj hw) hP hS dX4_town_20
  · have hw := ite_t hw c1
    refine lv_aload_n hx hb dX4_town_9 rfl (lv_at hl 0 rfl) ?_
    obtain ⟨r2, er2, hw⟩ := Option.bind_eq_some_iff.mp hw
    refine vp_callSi (va_runV (As := []) (rest := []) ⟨hx, hb, hml, hown, hts⟩ (c_X4_faultOf l dC dI a cA X r2 er2) ⟨callB_of 0 hts gd_X4_faultOf rfl rfl rfl (hts _ wd_39) (hts _ wd_626) hd_X4_faultOf ⟨Nat.le_of_ble_eq_true rfl, Nat.le_of_ble_eq_true rfl⟩, hts _ wd_628, hts _ wd_10⟩ ⟨blM, va_recv hK hP (ci := 4) (q0 := 0) rfl rfl, fun U hU hW => ⟨rfl, by rw [hU]; exact hP, va_K.moved hW.alike hK⟩⟩ rfl rfl hl.1 rfl (lv_room (Nat.le_of_ble_eq_true rfl)) dX4_town_10 ⟨Nat.zero_le _, Nat.zero_le _⟩).run (fun r_ e_ => ?_)
    subst r_
    refine lv_bipush (v := 9) hx hb dX4_town_13 (by decide) ?_
    refine lv_icmp_ge (tgt := 21) hx hb dX4_town_15 (by decide) (fun c3 => ?_) (fun c3 => ?_)
    · have hw := ite_t hw c3
      refine lv_iconst (v := 0) hx hb dX4_town_21 (by decide) ?_
      refine lv_istore_n (lv' := [(1, .int 0), (0, .ref (a 0))]) hx hb dX4_town_22 rfl hl (by decide) rfl (fun ls hl => ?_)
      refine lv_iconst (v := 0) hx hb dX4_town_23 (by decide) ?_
      refine lv_istore_n (lv' := [(2, .int 0), (1, .int 0), (0, .ref (a 0))]) hx hb dX4_town_24 rfl hl (by decide) rfl (fun ls hl => ?_)
      exact L25 NF X 0 0 hw _ _ hP hS ls (lv_sub hl [2, 1, 0] rfl)
    · have hw := ite_f hw c3
      refine lv_bipush (v := (-103)) hx hb dX4_town_18 (by decide) ?_
      exact hret _ _ _ _ _ _ (Option.some.inj hw) hP hS dX4_town_20
set_option maxHeartbeats 4000000 in
set_option maxRecDepth 100000 in
theorem c_X3_hasTown (l : Launch) (dC : Nat → ClassId) (dI : Nat → Nat → Nat) (a : Nat → Nat) (cA : ClassId) (X : WS) (out : Int32) (hw : f_X3_hasTown X = some out) : Met l yX3_hasTown (.code yX3_hasTown cX3_hasTown 1 (some .boolean) :: lw_g) ({ frames := 0, cells := 0, slots := 0, locals := 0 }) (PcX dC dI a cA X [.ref (a 0)]) (vp_Si (fun r_ => r_ = out)) 0 0 (fun _ => False) := by
  unfold f_X3_hasTown at hw
  refine Met.ofW (cc := cX3_hasTown) (maxL := 1) (ret := (some .boolean)) (by decide) rfl ?_
  intro p e s m args below meth c s₁ B hml hv
  obtain ⟨rfl, hP, hK, hN⟩ := hv
  have hx := B.exec
  have hb := B.bytes
  have hr := B.returns
  have hts0 := atoms_spec (ws := (.code yX3_hasTown cX3_hasTown 1 (some .boolean) :: lw_g)) B.pre
  have hts : ∀ w ∈ lw_g, w.before (([.ref (a 0)] : List Value).toArray) s = true := fun w h => hts0 w (List.mem_cons_of_mem _ h)
  clear hts0
  have hown : s.vm.findClass RX3 = some m.cls := findClass_of_methodNamed B.named
  have hlocks := B.notSynchronized
  have hret : ∀ (pc : Nat) (ls : Array Slot) (v : Int32), v = out → (hz : narrow .boolean (.int v) = .int v) → decode cX3_hasTown pc = .ok (.ireturn, 1) → W p l e ({ frames := 0, cells := 0, slots := 0, locals := 0 }) s m (([.ref (a 0)] : List Value).toArray) below meth c s.heap [] 0 0 (MQ below (vp_Si (fun r_ => r_ = out)) (([.ref (a 0)] : List Value).toArray) s 0 0 (fun _ => False)) (F0 m pc ls [.int v]) := fun pc ls v hv hz hd => W.zret hx hb hr hz (fun t ht hW => ⟨v, rfl, hv, ht⟩) (fun q hq => absurd hq List.not_mem_nil) hd
  show W p l e ({ frames := 0, cells := 0, slots := 0, locals := 0 }) s m (([.ref (a 0)] : List Value).toArray) below meth c s.heap [] 0 0 (MQ below (vp_Si (fun r_ => r_ = out)) (([.ref (a 0)] : List Value).toArray) s 0 0 (fun _ => False)) (entryFrame m (([.ref (a 0)] : List Value).toArray) 1)
  generalize MQ below (vp_Si (fun r_ => r_ = out)) (([.ref (a 0)] : List Value).toArray) s 0 0 (fun _ => False) = Q at hret ⊢
  have hl := lv_entry ([.ref (a 0)]) (n := 1) (Nat.le_of_ble_eq_true rfl)
  rw [lg_entry_eq]
  generalize (lg_sl ([.ref (a 0)]) ++ List.replicate (1 - (lg_sl ([.ref (a 0)])).length) Slot.unset).toArray = ls at hl ⊢
  have hl : lv_has ls 1 [(0, .ref (a 0))] := hl
  refine lv_aload_n hx hb dX3_hasTown_0 rfl (lv_at hl 0 rfl) ?_
  refine va_get (D := (dC, dI)) (ci := 3) (v := .int (X 0 5)) (C := RX3) (T := TX3) (N := 6) hx hb hts iX3 hown hK hP 0 rfl rfl 5 (by decide) (hts _ wd_183) (fun _ h9 => h9) rfl dX3_hasTown_1 ?_
  refine lv_if_le (tgt := 11) hx hb dX3_hasTown_4 (by decide) (fun c1 => ?_) (fun c1 => ?_)
  · have hw := ite_t hw c1
    refine lv_iconst (v := 0) hx hb dX3_hasTown_11 (by decide) ?_
    exact hret _ _ _ (Option.some.inj hw) rfl dX3_hasTown_12
  · have hw := ite_f hw c1
    refine lv_iconst (v := 1) hx hb dX3_hasTown_7 (by decide) ?_
    refine lv_goto (tgt := 12) hx hb dX3_hasTown_8 (by decide) ?_
    exact hret _ _ _ (Option.some.inj hw) rfl dX3_hasTown_12
set_option maxHeartbeats 4000000 in
set_option maxRecDepth 100000 in
theorem c_X3_isPlace (l : Launch) (dC : Nat → ClassId) (dI : Nat → Nat → Nat) (a : Nat → Nat) (cA : ClassId) (X : WS) (p1 : Int32) (out : Int32) (hw : f_X3_isPlace X p1 = some out) : Met l yX3_isPlace (.code yX3_isPlace cX3_isPlace 2 (some .boolean) :: lw_g) ({ frames := 1, cells := 0, slots := 0, locals := 20 }) (PcX dC dI a cA X [.ref (a 0), .int p1]) (vp_Si (fun r_ => r_ = out)) 0 0 (fun _ => False) := by
  unfold f_X3_isPlace at hw
  refine Met.ofW (cc := cX3_isPlace) (maxL := 2) (ret := (some .boolean)) (by decide) rfl ?_
  intro p e s m args below meth c s₁ B hml hv
  obtain ⟨rfl, hP, hK, hN⟩ := hv
  have hx := B.exec
  have hb := B.bytes
  have hr := B.returns
  have hts0 := atoms_spec (ws := (.code yX3_isPlace cX3_isPlace 2 (some .boolean) :: lw_g)) B.pre
  have hts : ∀ w ∈ lw_g, w.before (([.ref (a 0), .int p1] : List Value).toArray) s = true := fun w h => hts0 w (List.mem_cons_of_mem _ h)
  clear hts0
  have hown : s.vm.findClass RX3 = some m.cls := findClass_of_methodNamed B.named
  have hlocks := B.notSynchronized
  have hret : ∀ (pc : Nat) (ls : Array Slot) (v : Int32), v = out → (hz : narrow .boolean (.int v) = .int v) → decode cX3_isPlace pc = .ok (.ireturn, 1) → W p l e ({ frames := 1, cells := 0, slots := 0, locals := 20 }) s m (([.ref (a 0), .int p1] : List Value).toArray) below meth c s.heap [] 0 0 (MQ below (vp_Si (fun r_ => r_ = out)) (([.ref (a 0), .int p1] : List Value).toArray) s 0 0 (fun _ => False)) (F0 m pc ls [.int v]) := fun pc ls v hv hz hd => W.zret hx hb hr hz (fun t ht hW => ⟨v, rfl, hv, ht⟩) (fun q hq => absurd hq List.not_mem_nil) hd
  show W p l e ({ frames := 1, cells := 0, slots := 0, locals := 20 }) s m (([.ref (a 0), .int p1] : List Value).toArray) below meth c s.heap [] 0 0 (MQ below (vp_Si (fun r_ => r_ = out)) (([.ref (a 0), .int p1] : List Value).toArray) s 0 0 (fun _ => False)) (entryFrame m (([.ref (a 0), .int p1] : List Value).toArray) 2)
  generalize MQ below (vp_Si (fun r_ => r_ = out)) (([.ref (a 0), .int p1] : List Value).toArray) s 0 0 (fun _ => False) = Q at hret ⊢
  have hl := lv_entry ([.ref (a 0), .int p1]) (n := 2) (Nat.le_of_ble_eq_true rfl)
  rw [lg_entry_eq]
  generalize (lg_sl ([.ref (a 0), .int p1]) ++ List.replicate (2 - (lg_sl ([.ref (a 0), .int p1])).length) Slot.unset).toArray = ls at hl ⊢
  have hl : lv_has ls 2 [(0, .ref (a 0)), (1, .int p1)] := hl
  refine lv_aload_n hx hb dX3_isPlace_0 rfl (lv_at hl 0 rfl) ?_
  obtain ⟨r1, er1, hw⟩ := Option.bind_eq_some_iff.mp hw
  refine vp_callSi (va_runV (As := []) (rest := []) ⟨hx, hb, hml, hown, hts⟩ (c_X3_hasTown l dC dI a cA X r1 er1) ⟨callB_of 0 hts gd_X3_hasTown rfl rfl rfl (hts _ wd_35) (hts _ wd_257) hd_X3_hasTown ⟨Nat.le_of_ble_eq_true rfl, Nat.le_of_ble_eq_true rfl⟩, hts _ wd_259, hts _ wd_1⟩ ⟨blX, va_recv hK hP (ci := 3) (q0 := 0) rfl rfl, fun U hU hW => ⟨rfl, by rw [hU]; exact hP, va_K.moved hW.alike hK, nst.warm hW hN⟩⟩ rfl rfl hl.1 rfl (lv_room (Nat.le_of_ble_eq_true rfl)) dX3_isPlace_1 ⟨Nat.zero_le _, Nat.zero_le _⟩).run (fun r_ e_ => ?_)
  subst r_
  refine lv_if_eq (tgt := 21) hx hb dX3_isPlace_4 (by decide) (fun c2 => ?_) (fun c2 => ?_)
  · have hw := ite_t hw c2
    refine lv_iconst (v := 0) hx hb dX3_isPlace_21 (by decide) ?_
    exact hret _ _ _ (Option.some.inj hw) rfl dX3_isPlace_22
  · have hw := ite_f hw c2
    refine lv_iload_n hx hb dX3_isPlace_7 rfl (lv_at hl 1 rfl) ?_
    refine lv_if_lt (tgt := 21) hx hb dX3_isPlace_8 (by decide) (fun c3 => ?_) (fun c3 => ?_)
    · have hw := ite_t hw c3
      refine lv_iconst (v := 0) hx hb dX3_isPlace_21 (by decide) ?_
      exact hret _ _ _ (Option.some.inj hw) rfl dX3_isPlace_22
    · have hw := ite_f hw c3
      refine lv_iload_n hx hb dX3_isPlace_11 rfl (lv_at hl 1 rfl) ?_
      refine lv_bipush (v := 6) hx hb dX3_isPlace_12 (by decide) ?_
      refine lv_icmp_ge (tgt := 21) hx hb dX3_isPlace_14 (by decide) (fun c4 => ?_) (fun c4 => ?_)
      · have hw := ite_t hw c4
        refine lv_iconst (v := 0) hx hb dX3_isPlace_21 (by decide) ?_
        exact hret _ _ _ (Option.some.inj hw) rfl dX3_isPlace_22
      · have hw := ite_f hw c4
        refine lv_iconst (v := 1) hx hb dX3_isPlace_17 (by decide) ?_
        refine lv_goto (tgt := 22) hx hb dX3_isPlace_18 (by decide) ?_
        exact hret _ _ _ (Option.some.inj hw) rfl dX3_isPlace_22
end
section
set_option maxHeartbeats 4000000 in
set_option maxRecDepth 100000 in
theorem c_X3_noise (l : Launch) (dC : Nat → ClassId) (dI : Nat → Nat → Nat) (a : Nat → Nat) (cA : ClassId) (X : WS) (p1 : Int32) (out : Int32) (hw : f_X3_noise X p1 = some out) : Met l yX3_noise (.code yX3_noise cX3_noise 2 (some .int) :: lw_g) ({ frames := 2, cells := 0, slots := 0, locals := 41 }) (PcX dC dI a cA X [.ref (a 0), .int p1]) (vp_Si (fun r_ => r_ = out)) 0 0 (fun _ => False) := by
  unfold f_X3_noise at hw
  refine Met.ofW (cc := cX3_noise) (maxL := 2) (ret := (some .int)) (by decide) rfl ?_
  intro p e s m args below meth c s₁ B hml hv
  obtain ⟨rfl, hP, hK, hN⟩ := hv
  have hx := B.exec
  have hb := B.bytes
  have hr := B.returns
  have hts0 := atoms_spec (ws := (.code yX3_noise cX3_noise 2 (some .int) :: lw_g)) B.pre
  have hts : ∀ w ∈ lw_g, w.before (([.ref (a 0), .int p1] : List Value).toArray) s = true := fun w h => hts0 w (List.mem_cons_of_mem _ h)
  clear hts0
  have hown : s.vm.findClass RX3 = some m.cls := findClass_of_methodNamed B.named
  have hlocks := B.notSynchronized
  have hret : ∀ (pc : Nat) (ls : Array Slot) (v : Int32), v = out → decode cX3_noise pc = .ok (.ireturn, 1) → W p l e ({ frames := 2, cells := 0, slots := 0, locals := 41 }) s m (([.ref (a 0), .int p1] : List Value).toArray) below meth c s.heap [] 0 0 (MQ below (vp_Si (fun r_ => r_ = out)) (([.ref (a 0), .int p1] : List Value).toArray) s 0 0 (fun _ => False)) (F0 m pc ls [.int v]) := fun pc ls v hv hd => W.iret hx hb hr (fun t ht hW => ⟨v, rfl, hv, ht⟩) (fun q hq => absurd hq List.not_mem_nil) hd
  show W p l e ({ frames := 2, cells := 0, slots := 0, locals := 41 }) s m (([.ref (a 0), .int p1] : List Value).toArray) below meth c s.heap [] 0 0 (MQ below (vp_Si (fun r_ => r_ = out)) (([.ref (a 0), .int p1] : List Value).toArray) s 0 0 (fun _ => False)) (entryFrame m (([.ref (a 0), .int p1] : List Value).toArray) 2)
  generalize MQ below (vp_Si (fun r_ => r_ = out)) (([.ref (a 0), .int p1] : List Value).toArray) s 0 0 (fun _ => False) = Q at hret ⊢
  have hl := lv_entry ([.ref (a 0), .int p1]) (n := 2) (Nat.le_of_ble_eq_true rfl)
  rw [lg_entry_eq]
  generalize (lg_sl ([.ref (a 0), .int p1]) ++ List.replicate (2 - (lg_sl ([.ref (a 0), .int p1])).length) Slot.unset).toArray = ls at hl ⊢
  have hl : lv_has ls 2 [(0, .ref (a 0)), (1, .int p1)] := hl
  refine lv_aload_n hx hb dX3_noise_0 rfl (lv_at hl 0 rfl) ?_
  refine lv_iload_n hx hb dX3_noise_1 rfl (lv_at hl 1 rfl) ?_
  obtain ⟨r1, er1, hw⟩ := Option.bind_eq_some_iff.mp hw
  refine vp_callSi (va_runV (As := [.int p1]) (rest := []) ⟨hx, hb, hml, hown, hts⟩ (c_X3_isPlace l dC dI a cA X p1 r1 er1) ⟨callB_of 1 hts gd_X3_isPlace rfl rfl rfl (hts _ wd_35) (hts _ wd_253) hd_X3_isPlace ⟨Nat.le_of_ble_eq_true rfl, Nat.le_of_ble_eq_true rfl⟩, hts _ wd_255, hts _ wd_0⟩ ⟨blX, va_recv hK hP (ci := 3) (q0 := 0) rfl rfl, fun U hU hW => ⟨rfl, by rw [hU]; exact hP, va_K.moved hW.alike hK, nst.warm hW hN⟩⟩ rfl rfl hl.1 rfl (lv_room (Nat.le_of_ble_eq_true rfl)) dX3_noise_2 ⟨Nat.zero_le _, Nat.zero_le _⟩).run (fun r_ e_ => ?_)
  subst r_
  refine lv_if_eq (tgt := 20) hx hb dX3_noise_5 (by decide) (fun c2 => ?_) (fun c2 => ?_)
  · have hw := ite_t hw c2
    refine lv_bipush (v := (-101)) hx hb dX3_noise_20 (by decide) ?_
    exact hret _ _ _ (Option.some.inj hw) dX3_noise_22
  · have hw := ite_f hw c2
    refine lv_aload_n hx hb dX3_noise_8 rfl (lv_at hl 0 rfl) ?_
    refine va_get (D := (dC, dI)) (ci := 3) (v := .ref (a 3)) (C := RX3) (T := TX3) (N := 6) hx hb hts iX3 hown hK hP 0 rfl rfl 1 (by decide) (hts _ wd_179) (fun _ h9 => h9) rfl dX3_noise_9 ?_
    refine va_getN (D := (dC, dI)) (ci := 2) (v := .ref (a 4)) (C := RX2) (T := TX2) (N := 17) hx hb hts iX2 hown hK hP 3 rfl rfl 0 (by decide) (va_Nw.use rfl (hN _ nk_74)) (fun _ h9 => h9) rfl dX3_noise_12 ?_
    refine lv_iload_n hx hb dX3_noise_15 rfl (lv_at hl 1 rfl) ?_
    obtain ⟨h3, hw⟩ := ixc_use hw
    refine va_iald hx hb hK hP 4 0 rfl rfl h3 dX3_noise_16 ?_
    refine lv_goto (tgt := 22) hx hb dX3_noise_17 (by decide) ?_
    exact hret _ _ _ (Option.some.inj hw) dX3_noise_22
set_option maxHeartbeats 4000000 in
set_option maxRecDepth 100000 in
theorem c_X4_lacks (l : Launch) (dC : Nat → ClassId) (dI : Nat → Nat → Nat) (a : Nat → Nat) (cA : ClassId) (X : MS) (out : Int32) (hw : f_X4_lacks X = some out) : Met l yX4_lacks (.code yX4_lacks cX4_lacks 1 (some .boolean) :: lw_g) ({ frames := 0, cells := 0, slots := 0, locals := 0 }) (PcM dC dI a cA X [.ref (a 0)]) (vp_Si (fun r_ => r_ = out)) 0 0 (fun _ => False) := by
  unfold f_X4_lacks at hw
  refine Met.ofW (cc := cX4_lacks) (maxL := 1) (ret := (some .boolean)) (by decide) rfl ?_
  intro p e s m args below meth c s₁ B hml hv
  obtain ⟨rfl, hP, hK⟩ := hv
  have hx := B.exec
  have hb := B.bytes
  have hr := B.returns
  have hts0 := atoms_spec (ws := (.code yX4_lacks cX4_lacks 1 (some .boolean) :: lw_g)) B.pre
  have hts : ∀ w ∈ lw_g, w.before (([.ref (a 0)] : List Value).toArray) s = true := fun w h => hts0 w (List.mem_cons_of_mem _ h)
  clear hts0
  have hown : s.vm.findClass RX4 = some m.cls := findClass_of_methodNamed B.named
  have hlocks := B.notSynchronized
  have hret : ∀ (pc : Nat) (ls : Array Slot) (v : Int32), v = out → (hz : narrow .boolean (.int v) = .int v) → decode cX4_lacks pc = .ok (.ireturn, 1) → W p l e ({ frames := 0, cells := 0, slots := 0, locals := 0 }) s m (([.ref (a 0)] : List Value).toArray) below meth c s.heap [] 0 0 (MQ below (vp_Si (fun r_ => r_ = out)) (([.ref (a 0)] : List Value).toArray) s 0 0 (fun _ => False)) (F0 m pc ls [.int v]) := fun pc ls v hv hz hd => W.zret hx hb hr hz (fun t ht hW => ⟨v, rfl, hv, ht⟩) (fun q hq => absurd hq List.not_mem_nil) hd
  show W p l e ({ frames := 0, cells := 0, slots := 0, locals := 0 }) s m (([.ref (a 0)] : List Value).toArray) below meth c s.heap [] 0 0 (MQ below (vp_Si (fun r_ => r_ = out)) (([.ref (a 0)] : List Value).toArray) s 0 0 (fun _ => False)) (entryFrame m (([.ref (a 0)] : List Value).toArray) 1)
  generalize MQ below (vp_Si (fun r_ => r_ = out)) (([.ref (a 0)] : List Value).toArray) s 0 0 (fun _ => False) = Q at hret ⊢
  have hl := lv_entry ([.ref (a 0)]) (n := 1) (Nat.le_of_ble_eq_true rfl)
  rw [lg_entry_eq]
  generalize (lg_sl ([.ref (a 0)]) ++ List.replicate (1 - (lg_sl ([.ref (a 0)])).length) Slot.unset).toArray = ls at hl ⊢
  have hl : lv_has ls 1 [(0, .ref (a 0))] := hl
  refine lv_aload_n hx hb dX4_lacks_0 rfl (lv_at hl 0 rfl) ?_
  refine va_get (D := (dC, dI)) (ci := 4) (v := .int (X.1 0 4)) (C := RX4) (T := TX4) (N := 29) hx hb hts iX4 hown hK hP 0 rfl rfl 4 (by decide) (hts _ wd_526) (fun _ h9 => h9) rfl dX4_lacks_1 ?_
  refine lv_if_ne (tgt := 11) hx hb dX4_lacks_4 (by decide) (fun c1 => ?_) (fun c1 => ?_)
  · have hw := ite_f hw c1
    refine lv_iconst (v := 0) hx hb dX4_lacks_11 (by decide) ?_
    exact hret _ _ _ (Option.some.inj hw) rfl dX4_lacks_12
  · have hw := ite_t hw c1
    refine lv_iconst (v := 1) hx hb dX4_lacks_7 (by decide) ?_
    refine lv_goto (tgt := 12) hx hb dX4_lacks_8 (by decide) ?_
    exact hret _ _ _ (Option.some.inj hw) rfl dX4_lacks_12
set_option maxHeartbeats 4000000 in
set_option maxRecDepth 100000 in
theorem c_X4_isPlace (l : Launch) (dC : Nat → ClassId) (dI : Nat → Nat → Nat) (a : Nat → Nat) (cA : ClassId) (X : MS) (p1 : Int32) (out : Int32) (hw : f_X4_isPlace X p1 = some out) : Met l yX4_isPlace (.code yX4_isPlace cX4_isPlace 2 (some .boolean) :: lw_g) ({ frames := 1, cells := 0, slots := 0, locals := 25 }) (PcM dC dI a cA X [.ref (a 0), .int p1]) (vp_Si (fun r_ => r_ = out)) 0 0 (fun _ => False) := by
  unfold f_X4_isPlace at hw
  refine Met.ofW (cc := cX4_isPlace) (maxL := 2) (ret := (some .boolean)) (by decide) rfl ?_
  intro p e s m args below meth c s₁ B hml hv
  obtain ⟨rfl, hP, hK⟩ := hv
  have hx := B.exec
  have hb := B.bytes
  have hr := B.returns
  have hts0 := atoms_spec (ws := (.code yX4_isPlace cX4_isPlace 2 (some .boolean) :: lw_g)) B.pre
  have hts : ∀ w ∈ lw_g, w.before (([.ref (a 0), .int p1] : List Value).toArray) s = true := fun w h => hts0 w (List.mem_cons_of_mem _ h)
  clear hts0
  have hown : s.vm.findClass RX4 = some m.cls := findClass_of_methodNamed B.named
  have hlocks := B.notSynchronized
  have hret : ∀ (pc : Nat) (ls : Array Slot) (v : Int32), v = out → (hz : narrow .boolean (.int v) = .int v) → decode cX4_isPlace pc = .ok (.ireturn, 1) → W p l e ({ frames := 1, cells := 0, slots := 0, locals := 25 }) s m (([.ref (a 0), .int p1] : List Value).toArray) below meth c s.heap [] 0 0 (MQ below (vp_Si (fun r_ => r_ = out)) (([.ref (a 0), .int p1] : List Value).toArray) s 0 0 (fun _ => False)) (F0 m pc ls [.int v]) := fun pc ls v hv hz hd => W.zret hx hb hr hz (fun t ht hW => ⟨v, rfl, hv, ht⟩) (fun q hq => absurd hq List.not_mem_nil) hd
  show W p l e ({ frames := 1, cells := 0, slots := 0, locals := 25 }) s m (([.ref (a 0), .int p1] : List Value).toArray) below meth c s.heap [] 0 0 (MQ below (vp_Si (fun r_ => r_ = out)) (([.ref (a 0), .int p1] : List Value).toArray) s 0 0 (fun _ => False)) (entryFrame m (([.ref (a 0), .int p1] : List Value).toArray) 2)
  generalize MQ below (vp_Si (fun r_ => r_ = out)) (([.ref (a 0), .int p1] : List Value).toArray) s 0 0 (fun _ => False) = Q at hret ⊢
  have hl := lv_entry ([.ref (a 0), .int p1]) (n := 2) (Nat.le_of_ble_eq_true rfl)
  rw [lg_entry_eq]
  generalize (lg_sl ([.ref (a 0), .int p1]) ++ List.replicate (2 - (lg_sl ([.ref (a 0), .int p1])).length) Slot.unset).toArray = ls at hl ⊢
  have hl : lv_has ls 2 [(0, .ref (a 0)), (1, .int p1)] := hl
  refine lv_aload_n hx hb dX4_isPlace_0 rfl (lv_at hl 0 rfl) ?_
  obtain ⟨r1, er1, hw⟩ := Option.bind_eq_some_iff.mp hw
  refine vp_callSi (va_runV (As := []) (rest := []) ⟨hx, hb, hml, hown, hts⟩ (c_X4_lacks l dC dI a cA X r1 er1) ⟨callB_of 0 hts gd_X4_lacks rfl rfl rfl (hts _ wd_39) (hts _ wd_647) hd_X4_lacks ⟨Nat.le_of_ble_eq_true rfl, Nat.le_of_ble_eq_true rfl⟩, hts _ wd_649, hts _ wd_12⟩ ⟨blM, va_recv hK hP (ci := 4) (q0 := 0) rfl rfl, fun U hU hW => ⟨rfl, by rw [hU]; exact hP, va_K.moved hW.alike hK⟩⟩ rfl rfl hl.1 rfl (lv_room (Nat.le_of_ble_eq_true rfl)) dX4_isPlace_1 ⟨Nat.zero_le _, Nat.zero_le _⟩).run (fun r_ e_ => ?_)
  subst r_
  refine lv_if_ne (tgt := 23) hx hb dX4_isPlace_4 (by decide) (fun c2 => ?_) (fun c2 => ?_)
  · have hw := ite_f hw c2
    refine lv_iconst (v := 0) hx hb dX4_isPlace_23 (by decide) ?_
    exact hret _ _ _ (Option.some.inj hw) rfl dX4_isPlace_24
  · have hw := ite_t hw c2
    refine lv_iload_n hx hb dX4_isPlace_7 rfl (lv_at hl 1 rfl) ?_
    refine lv_i2l hx hb dX4_isPlace_8 rfl ?_
    refine lv_lconst (v := 0) hx hb dX4_isPlace_9 (by decide) ?_
    refine lv_ldc2 hx hb hown (hts _ wd_634) dX4_isPlace_10 ?_
    obtain ⟨r3, er3, hw⟩ := Option.bind_eq_some_iff.mp hw
    refine vp_callSi (va_runS (As := [.long (Int32.toInt64 p1), .long 0, .long 5]) (rest := []) ⟨hx, hb, hml, hown, hts⟩ (c_X4_in l (Int32.toInt64 p1) 0 5 r3 er3) ⟨callB_of 3 hts gd_X4_in rfl rfl rfl (hts _ wd_39) (hts _ wd_615) hd_X4_in ⟨Nat.le_of_ble_eq_true rfl, Nat.le_of_ble_eq_true rfl⟩, hts _ wd_616⟩ ⟨bl0, fun U hU hW => ⟨rfl, trivial⟩⟩ rfl rfl hl.1 rfl (lv_room (Nat.le_of_ble_eq_true rfl)) dX4_isPlace_13 ⟨Nat.zero_le _, Nat.zero_le _⟩).run (fun r_ e_ => ?_)
    subst r_
    refine lv_if_eq (tgt := 23) hx hb dX4_isPlace_16 (by decide) (fun c4 => ?_) (fun c4 => ?_)
    · have hw := ite_t hw c4
      refine lv_iconst (v := 0) hx hb dX4_isPlace_23 (by decide) ?_
      exact hret _ _ _ (Option.some.inj hw) rfl dX4_isPlace_24
    · have hw := ite_f hw c4
      refine lv_iconst (v := 1) hx hb dX4_isPlace_19 (by decide) ?_
      refine lv_goto (tgt := 24) hx hb dX4_isPlace_20 (by decide) ?_
      exact hret _ _ _ (Option.some.inj hw) rfl dX4_isPlace_24
set_option maxHeartbeats 4000000 in
set_option maxRecDepth 100000 in
theorem c_X4_noise (l : Launch) (dC : Nat → ClassId) (dI : Nat → Nat → Nat) (a : Nat → Nat) (cA : ClassId) (X : MS) (p1 : Int32) (out : Int32) (hw : f_X4_noise X p1 = some out) : Met l yX4_noise (.code yX4_noise cX4_noise 2 (some .int) :: lw_g) ({ frames := 2, cells := 0, slots := 0, locals := 46 }) (PcM dC dI a cA X [.ref (a 0), .int p1]) (vp_Si (fun r_ => r_ = out)) 0 0 (fun _ => False) := by
  unfold f_X4_noise at hw
  refine Met.ofW (cc := cX4_noise) (maxL := 2) (ret := (some .int)) (by decide) rfl ?_
  intro p e s m args below meth c s₁ B hml hv
  obtain ⟨rfl, hP, hK⟩ := hv
  have hx := B.exec
  have hb := B.bytes
  have hr := B.returns
  have hts0 := atoms_spec (ws := (.code yX4_noise cX4_noise 2 (some .int) :: lw_g)) B.pre
  have hts : ∀ w ∈ lw_g, w.before (([.ref (a 0), .int p1] : List Value).toArray) s = true := fun w h => hts0 w (List.mem_cons_of_mem _ h)
  clear hts0
  have hown : s.vm.findClass RX4 = some m.cls := findClass_of_methodNamed B.named
  have hlocks := B.notSynchronized
  have hret : ∀ (pc : Nat) (ls : Array Slot) (v : Int32), v = out → decode cX4_noise pc = .ok (.ireturn, 1) → W p l e ({ frames := 2, cells := 0, slots := 0, locals := 46 }) s m (([.ref (a 0), .int p1] : List Value).toArray) below meth c s.heap [] 0 0 (MQ below (vp_Si (fun r_ => r_ = out)) (([.ref (a 0), .int p1] : List Value).toArray) s 0 0 (fun _ => False)) (F0 m pc ls [.int v]) := fun pc ls v hv hd => W.iret hx hb hr (fun t ht hW => ⟨v, rfl, hv, ht⟩) (fun q hq => absurd hq List.not_mem_nil) hd
  show W p l e ({ frames := 2, cells := 0, slots := 0, locals := 46 }) s m (([.ref (a 0), .int p1] : List Value).toArray) below meth c s.heap [] 0 0 (MQ below (vp_Si (fun r_ => r_ = out)) (([.ref (a 0), .int p1] : List Value).toArray) s 0 0 (fun _ => False)) (entryFrame m (([.ref (a 0), .int p1] : List Value).toArray) 2)
  generalize MQ below (vp_Si (fun r_ => r_ = out)) (([.ref (a 0), .int p1] : List Value).toArray) s 0 0 (fun _ => False) = Q at hret ⊢
  have hl := lv_entry ([.ref (a 0), .int p1]) (n := 2) (Nat.le_of_ble_eq_true rfl)
  rw [lg_entry_eq]
  generalize (lg_sl ([.ref (a 0), .int p1]) ++ List.replicate (2 - (lg_sl ([.ref (a 0), .int p1])).length) Slot.unset).toArray = ls at hl ⊢
  have hl : lv_has ls 2 [(0, .ref (a 0)), (1, .int p1)] := hl
  refine lv_aload_n hx hb dX4_noise_0 rfl (lv_at hl 0 rfl) ?_
  refine lv_iload_n hx hb dX4_noise_1 rfl (lv_at hl 1 rfl) ?_
  obtain ⟨r1, er1, hw⟩ := Option.bind_eq_some_iff.mp hw
  refine vp_callSi (va_runV (As := [.int p1]) (rest := []) ⟨hx, hb, hml, hown, hts⟩ (c_X4_isPlace l dC dI a cA X p1 r1 er1) ⟨callB_of 1 hts gd_X4_isPlace rfl rfl rfl (hts _ wd_39) (hts _ wd_643) hd_X4_isPlace ⟨Nat.le_of_ble_eq_true rfl, Nat.le_of_ble_eq_true rfl⟩, hts _ wd_645, hts _ wd_11⟩ ⟨blM, va_recv hK hP (ci := 4) (q0 := 0) rfl rfl, fun U hU hW => ⟨rfl, by rw [hU]; exact hP, va_K.moved hW.alike hK⟩⟩ rfl rfl hl.1 rfl (lv_room (Nat.le_of_ble_eq_true rfl)) dX4_noise_2 ⟨Nat.zero_le _, Nat.zero_le _⟩).run (fun r_ e_ => ?_)
  subst r_
  refine lv_if_eq (tgt := 17) hx hb dX4_noise_5 (by decide) (fun c2 => ?_) (fun c2 => ?_)
  · have hw := ite_t hw c2
    refine lv_bipush (v := (-101)) hx hb dX4_noise_17 (by decide) ?_
    exact hret _ _ _ (Option.some.inj hw) dX4_noise_19
  · have hw := ite_f hw c2
    refine lv_aload_n hx hb dX4_noise_8 rfl (lv_at hl 0 rfl) ?_
    refine va_get (D := (dC, dI)) (ci := 4) (v := .ref (a 2)) (C := RX4) (T := TX4) (N := 29) hx hb hts iX4 hown hK hP 0 rfl rfl 10 (by decide) (hts _ wd_532) (fun _ h9 => h9) rfl dX4_noise_9 ?_
    refine lv_iload_n hx hb dX4_noise_12 rfl (lv_at hl 1 rfl) ?_
    obtain ⟨h3, hw⟩ := ixc_use hw
    refine va_iald hx hb hK hP 2 0 rfl rfl h3 dX4_noise_13 ?_
    refine lv_goto (tgt := 19) hx hb dX4_noise_14 (by decide) ?_
    exact hret _ _ _ (Option.some.inj hw) dX4_noise_19
set_option maxHeartbeats 4000000 in
set_option maxRecDepth 100000 in
theorem c_X3_hum (l : Launch) (dC : Nat → ClassId) (dI : Nat → Nat → Nat) (A : Nat → Prop) (a : Nat → Nat) (cA : ClassId) (X : WS) (p1 : Int32) (p2 : Int32) (out : (Int32 × WS)) (hw : f_X3_hum X p1 p2 = some out) : Met l yX3_hum (.code yX3_hum cX3_hum 4 (some .int) :: lw_g) ({ frames := 2, cells := 0, slots := 0, locals := 41 }) (PcXD dC dI A a cA X [.ref (a 0), .int p1, .int p2]) (va_Qi (fun (r_ : Int32) (X_ : WS) => out = (r_, X_)) (fun X_ t => va_P (dC, dI) classes (wl a cA X_) t.heap ∧ va_K (dC, dI) classes [(cA, .int)] t) A) 0 0 (A) := by
  unfold f_X3_hum at hw
  refine Met.ofW (cc := cX3_hum) (maxL := 4) (ret := (some .int)) (by decide) rfl ?_
  intro p e s m args below meth c s₁ B hml hv
  obtain ⟨rfl, hP, hK, hN, hD0⟩ := hv
  have hx := B.exec
  have hb := B.bytes
  have hr := B.returns
  have hts0 := atoms_spec (ws := (.code yX3_hum cX3_hum 4 (some .int) :: lw_g)) B.pre
  have hts : ∀ w ∈ lw_g, w.before (([.ref (a 0), .int p1, .int p2] : List Value).toArray) s = true := fun w h => hts0 w (List.mem_cons_of_mem _ h)
  clear hts0
  have hown : s.vm.findClass RX3 = some m.cls := findClass_of_methodNamed B.named
  have hlocks := B.notSynchronized
  have hret : ∀ (pc : Nat) (ls : Array Slot) (v : Int32) (X_ : WS) (H : Heap) (locs : List Loc), (v, X_) = out → va_P (dC, dI) classes (wl a cA X_) H → va_S A s.heap H locs → decode cX3_hum pc = .ok (.ireturn, 1) → W p l e ({ frames := 2, cells := 0, slots := 0, locals := 41 }) s m (([.ref (a 0), .int p1, .int p2] : List Value).toArray) below meth c H locs 0 0 (MQ below (va_Qi (fun (r_ : Int32) (X_ : WS) => out = (r_, X_)) (fun X_ t => va_P (dC, dI) classes (wl a cA X_) t.heap ∧ va_K (dC, dI) classes [(cA, .int)] t) A) (([.ref (a 0), .int p1, .int p2] : List Value).toArray) s 0 0 (A)) (F0 m pc ls [.int v]) := fun pc ls v X_ H locs hv hP hS hd => W.iret hx hb hr (fun t ht hW => ⟨⟨v, X_, rfl, hv.symm, by rw [ht]; exact hP, va_K.moved hW.alike hK⟩, hS.F ht⟩) hS.2.2 hd
  show W p l e ({ frames := 2, cells := 0, slots := 0, locals := 41 }) s m (([.ref (a 0), .int p1, .int p2] : List Value).toArray) below meth c s.heap [] 0 0 (MQ below (va_Qi (fun (r_ : Int32) (X_ : WS) => out = (r_, X_)) (fun X_ t => va_P (dC, dI) classes (wl a cA X_) t.heap ∧ va_K (dC, dI) classes [(cA, .int)] t) A) (([.ref (a 0), .int p1, .int p2] : List Value).toArray) s 0 0 (A)) (entryFrame m (([.ref (a 0), .int p1, .int p2] : List Value).toArray) 4)
  generalize MQ below (va_Qi (fun (r_ : Int32) (X_ : WS) => out = (r_, X_)) (fun X_ t => va_P (dC, dI) classes (wl a cA X_) t.heap ∧ va_K (dC, dI) classes [(cA, .int)] t) A) (([.ref (a 0), .int p1, .int p2] : List Value).toArray) s 0 0 (A) = Q at hret ⊢
  have hS : va_S A s.heap s.heap [] := va_S.rf
  have hl := lv_entry ([.ref (a 0), .int p1, .int p2]) (n := 4) (Nat.le_of_ble_eq_true rfl)
  rw [lg_entry_eq]
  generalize (lg_sl ([.ref (a 0), .int p1, .int p2]) ++ List.replicate (4 - (lg_sl ([.ref (a 0), .int p1, .int p2])).length) Slot.unset).toArray = ls at hl ⊢
  have hl : lv_has ls 4 [(0, .ref (a 0)), (1, .int p1), (2, .int p2)] := hl
  refine lv_aload_n hx hb dX3_hum_0 rfl (lv_at hl 0 rfl) ?_
  refine lv_iload_n hx hb dX3_hum_1 rfl (lv_at hl 1 rfl) ?_
  obtain ⟨r1, er1, hw⟩ := Option.bind_eq_some_iff.mp hw
  refine vp_callSi (va_runV (As := [.int p1]) (rest := []) ⟨hx, hb, hml, hown, hts⟩ (c_X3_isPlace l dC dI a cA X p1 r1 er1) ⟨callB_of 1 hts gd_X3_isPlace rfl rfl rfl (hts _ wd_35) (hts _ wd_253) hd_X3_isPlace ⟨Nat.le_of_ble_eq_true rfl, Nat.le_of_ble_eq_true rfl⟩, hts _ wd_255, hts _ wd_0⟩ ⟨blX, va_recv hK hP (ci := 3) (q0 := 0) rfl rfl, fun U hU hW => ⟨rfl, by rw [hU]; exact hP, va_K.moved hW.alike hK, nst.warm hW hN⟩⟩ rfl rfl hl.1 rfl (lv_room (Nat.le_of_ble_eq_true rfl)) dX3_hum_2 ⟨Nat.zero_le _, Nat.zero_le _⟩).run (fun r_ e_ => ?_)
  subst r_
  refine lv_if_ne (tgt := 11) hx hb dX3_hum_5 (by decide) (fun c2 => ?_) (fun c2 => ?_)
  · have hw := ite_f hw c2
    refine lv_iload_n hx hb dX3_hum_11 rfl (lv_at hl 2 rfl) ?_
    refine lv_if_lt (tgt := 21) hx hb dX3_hum_12 (by decide) (fun c3 => ?_) (fun c3 => ?_)
    · have hw := ite_t hw c3
      refine lv_bipush (v := (-102)) hx hb dX3_hum_21 (by decide) ?_
      exact hret _ _ _ _ _ _ (Option.some.inj hw) hP hS dX3_hum_23
    · have hw := ite_f hw c3
      refine lv_iload_n hx hb dX3_hum_15 rfl (lv_at hl 2 rfl) ?_
      refine lv_bipush (v := 9) hx hb dX3_hum_16 (by decide) ?_
      refine lv_icmp_le (tgt := 24) hx hb dX3_hum_18 (by decide) (fun c4 => ?_) (fun c4 => ?_)
      · have hw := ite_t hw c4
        refine lv_aload_n hx hb dX3_hum_24 rfl (lv_at hl 0 rfl) ?_
        refine va_get (D := (dC, dI)) (ci := 3) (v := .ref (a 3)) (C := RX3) (T := TX3) (N := 6) hx hb hts iX3 hown hK hP 0 rfl rfl 1 (by decide) (hts _ wd_179) (fun _ h9 => h9) rfl dX3_hum_25 ?_
        refine va_getN (D := (dC, dI)) (ci := 2) (v := .ref (a 4)) (C := RX2) (T := TX2) (N := 17) hx hb hts iX2 hown hK hP 3 rfl rfl 0 (by decide) (va_Nw.use rfl (hN _ nk_74)) (fun _ h9 => h9) rfl dX3_hum_28 ?_
        refine lv_iload_n hx hb dX3_hum_31 rfl (lv_at hl 1 rfl) ?_
        obtain ⟨h5, hw⟩ := ixc_use hw
        refine va_iald hx hb hK hP 4 0 rfl rfl h5 dX3_hum_32 ?_
        refine lv_topi (fun x6 ex6 => ?_)
        have hw := stp_use hw ex6
        refine lv_istore_n (lv' := [(3, .int x6), (0, .ref (a 0)), (1, .int p1), (2, .int p2)]) hx hb dX3_hum_33 rfl hl (by decide) rfl (fun ls hl => ?_)
        refine lv_aload_n hx hb dX3_hum_34 rfl (lv_at hl 1 rfl) ?_
        refine va_get (D := (dC, dI)) (ci := 3) (v := .ref (a 3)) (C := RX3) (T := TX3) (N := 6) hx hb hts iX3 hown hK hP 0 rfl rfl 1 (by decide) (hts _ wd_179) (fun _ h9 => h9) rfl dX3_hum_35 ?_
        refine va_getN (D := (dC, dI)) (ci := 2) (v := .ref (a 4)) (C := RX2) (T := TX2) (N := 17) hx hb hts iX2 hown hK hP 3 rfl rfl 0 (by decide) (va_Nw.use rfl (hN _ nk_74)) (fun _ h9 => h9) rfl dX3_hum_38 ?_
        refine lv_iload_n hx hb dX3_hum_41 rfl (lv_at hl 2 rfl) ?_
        refine lv_iload_n hx hb dX3_hum_42 rfl (lv_at hl 3 rfl) ?_
        obtain ⟨h7, hw⟩ := ixc_use hw
        refine va_iast hx hb hK hP (wlD hD0) hS 4 0 rfl rfl h7 dX3_hum_43 (fun H locs hP hD_ hS => ?_)
        obtain ⟨X8, eX8⟩ : ∃ y : WS, y = (ups X 4 (Int32.toNatClampNeg p1) p2) := ⟨_, rfl⟩
        have hw := stp_use hw eX8
        have hP : va_P (dC, dI) classes (wl a cA X8) H := by rw [eX8]; exact hP
        refine lv_iload_n hx hb dX3_hum_44 rfl (lv_at hl 0 rfl) ?_
        exact hret _ _ _ _ _ _ (Option.some.inj hw) hP hS dX3_hum_45
      · have hw := ite_f hw c4
        refine lv_bipush (v := (-102)) hx hb dX3_hum_21 (by decide) ?_
        exact hret _ _ _ _ _ _ (Option.some.inj hw) hP hS dX3_hum_23
  · have hw := ite_t hw c2
    refine lv_bipush (v := (-101)) hx hb dX3_hum_8 (by decide) ?_
    exact hret _ _ _ _ _ _ (Option.some.inj hw) hP hS dX3_hum_10
set_option maxHeartbeats 4000000 in
set_option maxRecDepth 100000 in
theorem c_X4_hum (l : Launch) (dC : Nat → ClassId) (dI : Nat → Nat → Nat) (A : Nat → Prop) (a : Nat → Nat) (cA : ClassId) (X : MS) (p1 : Int32) (p2 : Int32) (out : (Int32 × MS)) (hw : f_X4_hum X p1 p2 = some out) : Met l yX4_hum (.code yX4_hum cX4_hum 4 (some .int) :: lw_g) ({ frames := 2, cells := 0, slots := 0, locals := 46 }) (PcMD dC dI A a cA X [.ref (a 0), .int p1, .int p2]) (va_Qi (fun (r_ : Int32) (X_ : MS) => out = (r_, X_)) (fun X_ t => va_P (dC, dI) classes (wm a cA X_) t.heap ∧ va_K (dC, dI) classes [(cA, .int)] t) A) 0 0 (A) := by
  unfold f_X4_hum at hw
  refine Met.ofW (cc := cX4_hum) (maxL := 4) (ret := (some .int)) (by decide) rfl ?_
  intro p e s m args below meth c s₁ B hml hv
  obtain ⟨rfl, hP, hK, hD0⟩ := hv
  have hx := B.exec
  have hb := B.bytes
  have hr := B.returns
  have hts0 := atoms_spec (ws := (.code yX4_hum cX4_hum 4 (some .int) :: lw_g)) B.pre
  have hts : ∀ w ∈ lw_g, w.before (([.ref (a 0), .int p1, .int p2] : List Value).toArray) s = true := fun w h => hts0 w (List.mem_cons_of_mem _ h)
  clear hts0
  have hown : s.vm.findClass RX4 = some m.cls := findClass_of_methodNamed B.named
  have hlocks := B.notSynchronized
  have hret : ∀ (pc : Nat) (ls : Array Slot) (v : Int32) (X_ : MS) (H : Heap) (locs : List Loc), (v, X_) = out → va_P (dC, dI) classes (wm a cA X_) H → va_S A s.heap H locs → decode cX4_hum pc = .ok (.ireturn, 1) → W p l e ({ frames := 2, cells := 0, slots := 0, locals := 46 }) s m (([.ref (a 0), .int p1, .int p2] : List Value).toArray) below meth c H locs 0 0 (MQ below (va_Qi (fun (r_ : Int32) (X_ : MS) => out = (r_, X_)) (fun X_ t => va_P (dC, dI) classes (wm a cA X_) t.heap ∧ va_K (dC, dI) classes [(cA, .int)] t) A) (([.ref (a 0), .int p1, .int p2] : List Value).toArray) s 0 0 (A)) (F0 m pc ls [.int v]) := fun pc ls v X_ H locs hv hP hS hd => W.iret hx hb hr (fun t ht hW => ⟨⟨v, X_, rfl, hv.symm, by rw [ht]; exact hP, va_K.moved hW.alike hK⟩, hS.F ht⟩) hS.2.2 hd
  show W p l e ({ frames := 2, cells := 0, slots := 0, locals := 46 }) s m (([.ref (a 0), .int p1, .int p2] : List Value).toArray) below meth c s.heap [] 0 0 (MQ below (va_Qi (fun (r_ : Int32) (X_ : MS) => out = (r_, X_)) (fun X_ t => va_P (dC, dI) classes (wm a cA X_) t.heap ∧ va_K (dC, dI) classes [(cA, .int)] t) A) (([.ref (a 0), .int p1, .int p2] : List Value).toArray) s 0 0 (A)) (entryFrame m (([.ref (a 0), .int p1, .int p2] : List Value).toArray) 4)
  generalize MQ below (va_Qi (fun (r_ : Int32) (X_ : MS) => out = (r_, X_)) (fun X_ t => va_P (dC, dI) classes (wm a cA X_) t.heap ∧ va_K (dC, dI) classes [(cA, .int)] t) A) (([.ref (a 0), .int p1, .int p2] : List Value).toArray) s 0 0 (A) = Q at hret ⊢
  have hS : va_S A s.heap s.heap [] := va_S.rf
  have hl := lv_entry ([.ref (a 0), .int p1, .int p2]) (n := 4) (Nat.le_of_ble_eq_true rfl)
  rw [lg_entry_eq]
  generalize (lg_sl ([.ref (a 0), .int p1, .int p2]) ++ List.replicate (4 - (lg_sl ([.ref (a 0), .int p1, .int p2])).length) Slot.unset).toArray = ls at hl ⊢
  have hl : lv_has ls 4 [(0, .ref (a 0)), (1, .int p1), (2, .int p2)] := hl
  refine lv_aload_n hx hb dX4_hum_0 rfl (lv_at hl 0 rfl) ?_
  refine lv_iload_n hx hb dX4_hum_1 rfl (lv_at hl 1 rfl) ?_
  obtain ⟨r1, er1, hw⟩ := Option.bind_eq_some_iff.mp hw
  refine vp_callSi (va_runV (As := [.int p1]) (rest := []) ⟨hx, hb, hml, hown, hts⟩ (c_X4_isPlace l dC dI a cA X p1 r1 er1) ⟨callB_of 1 hts gd_X4_isPlace rfl rfl rfl (hts _ wd_39) (hts _ wd_643) hd_X4_isPlace ⟨Nat.le_of_ble_eq_true rfl, Nat.le_of_ble_eq_true rfl⟩, hts _ wd_645, hts _ wd_11⟩ ⟨blM, va_recv hK hP (ci := 4) (q0 := 0) rfl rfl, fun U hU hW => ⟨rfl, by rw [hU]; exact hP, va_K.moved hW.alike hK⟩⟩ rfl rfl hl.1 rfl (lv_room (Nat.le_of_ble_eq_true rfl)) dX4_hum_2 ⟨Nat.zero_le _, Nat.zero_le _⟩).run (fun r_ e_ => ?_)
  subst r_
  refine lv_if_ne (tgt := 11) hx hb dX4_hum_5 (by decide) (fun c2 => ?_) (fun c2 => ?_)
  · have hw := ite_f hw c2
    refine lv_iload_n hx hb dX4_hum_11 rfl (lv_at hl 2 rfl) ?_
    refine lv_i2l hx hb dX4_hum_12 rfl ?_
    refine lv_lconst (v := 0) hx hb dX4_hum_13 (by decide) ?_
    refine lv_ldc2 hx hb hown (hts _ wd_633) dX4_hum_14 ?_
    obtain ⟨r3, er3, hw⟩ := Option.bind_eq_some_iff.mp hw
    refine vp_callSi (va_runS (As := [.long (Int32.toInt64 p2), .long 0, .long 9]) (rest := []) ⟨hx, hb, hml, hown, hts⟩ (c_X4_in l (Int32.toInt64 p2) 0 9 r3 er3) ⟨callB_of 3 hts gd_X4_in rfl rfl rfl (hts _ wd_39) (hts _ wd_615) hd_X4_in ⟨Nat.le_of_ble_eq_true rfl, Nat.le_of_ble_eq_true rfl⟩, hts _ wd_616⟩ ⟨bl0, fun U hU hW => ⟨rfl, trivial⟩⟩ rfl rfl hl.1 rfl (lv_room (Nat.le_of_ble_eq_true rfl)) dX4_hum_17 ⟨Nat.zero_le _, Nat.zero_le _⟩).run (fun r_ e_ => ?_)
    subst r_
    refine lv_if_ne (tgt := 26) hx hb dX4_hum_20 (by decide) (fun c4 => ?_) (fun c4 => ?_)
    · have hw := ite_f hw c4
      refine lv_aload_n hx hb dX4_hum_26 rfl (lv_at hl 0 rfl) ?_
      refine va_get (D := (dC, dI)) (ci := 4) (v := .ref (a 2)) (C := RX4) (T := TX4) (N := 29) hx hb hts iX4 hown hK hP 0 rfl rfl 10 (by decide) (hts _ wd_532) (fun _ h9 => h9) rfl dX4_hum_27 ?_
      refine lv_iload_n hx hb dX4_hum_30 rfl (lv_at hl 1 rfl) ?_
      obtain ⟨h5, hw⟩ := ixc_use hw
      refine va_iald hx hb hK hP 2 0 rfl rfl h5 dX4_hum_31 ?_
      refine lv_topi (fun x6 ex6 => ?_)
      have hw := stp_use hw ex6
      refine lv_istore_n (lv' := [(3, .int x6), (0, .ref (a 0)), (1, .int p1), (2, .int p2)]) hx hb dX4_hum_32 rfl hl (by decide) rfl (fun ls hl => ?_)
      refine lv_aload_n hx hb dX4_hum_33 rfl (lv_at hl 1 rfl) ?_
      refine va_get (D := (dC, dI)) (ci := 4) (v := .ref (a 2)) (C := RX4) (T := TX4) (N := 29) hx hb hts iX4 hown hK hP 0 rfl rfl 10 (by decide) (hts _ wd_532) (fun _ h9 => h9) rfl dX4_hum_34 ?_
      refine lv_iload_n hx hb dX4_hum_37 rfl (lv_at hl 2 rfl) ?_
      refine lv_iload_n hx hb dX4_hum_38 rfl (lv_at hl 3 rfl) ?_
      obtain ⟨h7, hw⟩ := ixc_use hw
      refine va_iast hx hb hK hP (wmD hD0) hS 2 0 rfl rfl h7 dX4_hum_39 (fun H locs hP hD_ hS => ?_)
      obtain ⟨X8, eX8⟩ : ∃ y : MS, y = (ups X.1 2 (Int32.toNatClampNeg p1) p2, X.2) := ⟨_, rfl⟩
      have hw := stp_use hw eX8
      have hP : va_P (dC, dI) classes (wm a cA X8) H := by rw [eX8]; exact hP
      refine lv_iload_n hx hb dX4_hum_40 rfl (lv_at hl 0 rfl) ?_
      exact hret _ _ _ _ _ _ (Option.some.inj hw) hP hS dX4_hum_41
    · have hw := ite_t hw c4
      refine lv_bipush (v := (-102)) hx hb dX4_hum_23 (by decide) ?_
      exact hret _ _ _ _ _ _ (Option.some.inj hw) hP hS dX4_hum_25
  · have hw := ite_t hw c2
    refine lv_bipush (v := (-101)) hx hb dX4_hum_8 (by decide) ?_
    exact hret _ _ _ _ _ _ (Option.some.inj hw) hP hS dX4_hum_10
set_option maxHeartbeats 4000000 in
set_option maxRecDepth 100000 in
theorem c_X3_isKind (l : Launch) (p0 : Int32) (out : Int32) (hw : f_X3_isKind p0 = some out) : Met l yX3_isKind (.code yX3_isKind cX3_isKind 1 (some .boolean) :: lw_g) ({ frames := 0, cells := 0, slots := 0, locals := 0 }) (Pc0 [.int p0]) (vp_Si (fun r_ => r_ = out)) 0 0 (fun _ => False) := by
  unfold f_X3_isKind at hw
  refine Met.ofW (cc := cX3_isKind) (maxL := 1) (ret := (some .boolean)) (by decide) rfl ?_
  intro p e s m args below meth c s₁ B hml hv
  obtain ⟨rfl, -⟩ := hv
  have hx := B.exec
  have hb := B.bytes
  have hr := B.returns
  have hts0 := atoms_spec (ws := (.code yX3_isKind cX3_isKind 1 (some .boolean) :: lw_g)) B.pre
  have hts : ∀ w ∈ lw_g, w.before (([.int p0] : List Value).toArray) s = true := fun w h => hts0 w (List.mem_cons_of_mem _ h)
  clear hts0
  have hown : s.vm.findClass RX3 = some m.cls := findClass_of_methodNamed B.named
  have hlocks := B.notSynchronized
  have hret : ∀ (pc : Nat) (ls : Array Slot) (v : Int32), v = out → (hz : narrow .boolean (.int v) = .int v) → decode cX3_isKind pc = .ok (.ireturn, 1) → W p l e ({ frames := 0, cells := 0, slots := 0, locals := 0 }) s m (([.int p0] : List Value).toArray) below meth c s.heap [] 0 0 (MQ below (vp_Si (fun r_ => r_ = out)) (([.int p0] : List Value).toArray) s 0 0 (fun _ => False)) (F0 m pc ls [.int v]) := fun pc ls v hv hz hd => W.zret hx hb hr hz (fun t ht hW => ⟨v, rfl, hv, ht⟩) (fun q hq => absurd hq List.not_mem_nil) hd
  show W p l e ({ frames := 0, cells := 0, slots := 0, locals := 0 }) s m (([.int p0] : List Value).toArray) below meth c s.heap [] 0 0 (MQ below (vp_Si (fun r_ => r_ = out)) (([.int p0] : List Value).toArray) s 0 0 (fun _ => False)) (entryFrame m (([.int p0] : List Value).toArray) 1)
  generalize MQ below (vp_Si (fun r_ => r_ = out)) (([.int p0] : List Value).toArray) s 0 0 (fun _ => False) = Q at hret ⊢
  have hl := lv_entry ([.int p0]) (n := 1) (Nat.le_of_ble_eq_true rfl)
  rw [lg_entry_eq]
  generalize (lg_sl ([.int p0]) ++ List.replicate (1 - (lg_sl ([.int p0])).length) Slot.unset).toArray = ls at hl ⊢
  have hl : lv_has ls 1 [(0, .int p0)] := hl
  refine lv_iload_n hx hb dX3_isKind_0 rfl (lv_at hl 0 rfl) ?_
  refine lv_if_lt (tgt := 13) hx hb dX3_isKind_1 (by decide) (fun c1 => ?_) (fun c1 => ?_)
  · have hw := ite_t hw c1
    refine lv_iconst (v := 0) hx hb dX3_isKind_13 (by decide) ?_
    exact hret _ _ _ (Option.some.inj hw) rfl dX3_isKind_14
  · have hw := ite_f hw c1
    refine lv_iload_n hx hb dX3_isKind_4 rfl (lv_at hl 0 rfl) ?_
    refine lv_iconst (v := 4) hx hb dX3_isKind_5 (by decide) ?_
    refine lv_icmp_gt (tgt := 13) hx hb dX3_isKind_6 (by decide) (fun c2 => ?_) (fun c2 => ?_)
    · have hw := ite_t hw c2
      refine lv_iconst (v := 0) hx hb dX3_isKind_13 (by decide) ?_
      exact hret _ _ _ (Option.some.inj hw) rfl dX3_isKind_14
    · have hw := ite_f hw c2
      refine lv_iconst (v := 1) hx hb dX3_isKind_9 (by decide) ?_
      refine lv_goto (tgt := 14) hx hb dX3_isKind_10 (by decide) ?_
      exact hret _ _ _ (Option.some.inj hw) rfl dX3_isKind_14
set_option maxHeartbeats 4000000 in
set_option maxRecDepth 100000 in
theorem c_X2_loudNeeded (l : Launch) (p0 : Int32) (out : Int32) (hw : f_X2_loudNeeded p0 = some out) : Met l yX2_loudNeeded (.code yX2_loudNeeded cX2_loudNeeded 1 (some .int) :: lw_g) ({ frames := 0, cells := 0, slots := 0, locals := 0 }) (Pc0 [.int p0]) (vp_Si (fun r_ => r_ = out)) 0 0 (fun _ => False) := by
  unfold f_X2_loudNeeded at hw
  refine Met.ofW (cc := cX2_loudNeeded) (maxL := 1) (ret := (some .int)) (by decide) rfl ?_
  intro p e s m args below meth c s₁ B hml hv
  obtain ⟨rfl, -⟩ := hv
  have hx := B.exec
  have hb := B.bytes
  have hr := B.returns
  have hts0 := atoms_spec (ws := (.code yX2_loudNeeded cX2_loudNeeded 1 (some .int) :: lw_g)) B.pre
  have hts : ∀ w ∈ lw_g, w.before (([.int p0] : List Value).toArray) s = true := fun w h => hts0 w (List.mem_cons_of_mem _ h)
  clear hts0
  have hown : s.vm.findClass RX2 = some m.cls := findClass_of_methodNamed B.named
  have hlocks := B.notSynchronized
  have hret : ∀ (pc : Nat) (ls : Array Slot) (v : Int32), v = out → decode cX2_loudNeeded pc = .ok (.ireturn, 1) → W p l e ({ frames := 0, cells := 0, slots := 0, locals := 0 }) s m (([.int p0] : List Value).toArray) below meth c s.heap [] 0 0 (MQ below (vp_Si (fun r_ => r_ = out)) (([.int p0] : List Value).toArray) s 0 0 (fun _ => False)) (F0 m pc ls [.int v]) := fun pc ls v hv hd => W.iret hx hb hr (fun t ht hW => ⟨v, rfl, hv, ht⟩) (fun q hq => absurd hq List.not_mem_nil) hd
  show W p l e ({ frames := 0, cells := 0, slots := 0, locals := 0 }) s m (([.int p0] : List Value).toArray) below meth c s.heap [] 0 0 (MQ below (vp_Si (fun r_ => r_ = out)) (([.int p0] : List Value).toArray) s 0 0 (fun _ => False)) (entryFrame m (([.int p0] : List Value).toArray) 1)
  generalize MQ below (vp_Si (fun r_ => r_ = out)) (([.int p0] : List Value).toArray) s 0 0 (fun _ => False) = Q at hret ⊢
  have hl := lv_entry ([.int p0]) (n := 1) (Nat.le_of_ble_eq_true rfl)
  rw [lg_entry_eq]
  generalize (lg_sl ([.int p0]) ++ List.replicate (1 - (lg_sl ([.int p0])).length) Slot.unset).toArray = ls at hl ⊢
  have hl : lv_has ls 1 [(0, .int p0)] := hl
  refine lv_iload_n hx hb dX2_loudNeeded_0 rfl (lv_at hl 0 rfl) ?_
  by_cases c1 : p0 = 1
  · have hw := ite_t hw c1
    refine lv_lookup (off := 27) (tgt := 28) hx hb dX2_loudNeeded_1 (by decide) (by rw [c1]; decide) (by decide) ?_
    refine lv_iconst (v := 5) hx hb dX2_loudNeeded_28 (by decide) ?_
    exact hret _ _ _ (Option.some.inj hw) dX2_loudNeeded_29
  have hw := ite_f hw c1
  by_cases c2 : p0 = 2
  · have hw := ite_t hw c2
    refine lv_lookup (off := 29) (tgt := 30) hx hb dX2_loudNeeded_1 (by decide) (by rw [c2]; decide) (by decide) ?_
    refine lv_iconst (v := 3) hx hb dX2_loudNeeded_30 (by decide) ?_
    exact hret _ _ _ (Option.some.inj hw) dX2_loudNeeded_31
  have hw := ite_f hw c2
  refine lv_lookup (off := 31) (tgt := 32) hx hb dX2_loudNeeded_1 (by decide) (by simp [Op.lookupswitch.offset, (i32_ne c1 (z := 1) (by decide)).symm, (i32_ne c2 (z := 2) (by decide)).symm]) (by decide) ?_
  refine lv_iconst (v := 1) hx hb dX2_loudNeeded_32 (by decide) ?_
  exact hret _ _ _ (Option.some.inj hw) dX2_loudNeeded_33
set_option maxHeartbeats 4000000 in
set_option maxRecDepth 100000 in
theorem c_X2_loudRepeated (l : Launch) (p0 : Int32) (out : Int32) (hw : f_X2_loudRepeated p0 = some out) : Met l yX2_loudRepeated (.code yX2_loudRepeated cX2_loudRepeated 1 (some .int) :: lw_g) ({ frames := 0, cells := 0, slots := 0, locals := 0 }) (Pc0 [.int p0]) (vp_Si (fun r_ => r_ = out)) 0 0 (fun _ => False) := by
  unfold f_X2_loudRepeated at hw
  refine Met.ofW (cc := cX2_loudRepeated) (maxL := 1) (ret := (some .int)) (by decide) rfl ?_
  intro p e s m args below meth c s₁ B hml hv
  obtain ⟨rfl, -⟩ := hv
  have hx := B.exec
  have hb := B.bytes
  have hr := B.returns
  have hts0 := atoms_spec (ws := (.code yX2_loudRepeated cX2_loudRepeated 1 (some .int) :: lw_g)) B.pre
  have hts : ∀ w ∈ lw_g, w.before (([.int p0] : List Value).toArray) s = true := fun w h => hts0 w (List.mem_cons_of_mem _ h)
  clear hts0
  have hown : s.vm.findClass RX2 = some m.cls := findClass_of_methodNamed B.named
  have hlocks := B.notSynchronized
  have hret : ∀ (pc : Nat) (ls : Array Slot) (v : Int32), v = out → decode cX2_loudRepeated pc = .ok (.ireturn, 1) → W p l e ({ frames := 0, cells := 0, slots := 0, locals := 0 }) s m (([.int p0] : List Value).toArray) below meth c s.heap [] 0 0 (MQ below (vp_Si (fun r_ => r_ = out)) (([.int p0] : List Value).toArray) s 0 0 (fun _ => False)) (F0 m pc ls [.int v]) := fun pc ls v hv hd => W.iret hx hb hr (fun t ht hW => ⟨v, rfl, hv, ht⟩) (fun q hq => absurd hq List.not_mem_nil) hd
  show W p l e ({ frames := 0, cells := 0, slots := 0, locals := 0 }) s m (([.int p0] : List Value).toArray) below meth c s.heap [] 0 0 (MQ below (vp_Si (fun r_ => r_ = out)) (([.int p0] : List Value).toArray) s 0 0 (fun _ => False)) (entryFrame m (([.int p0] : List Value).toArray) 1)
  generalize MQ below (vp_Si (fun r_ => r_ = out)) (([.int p0] : List Value).toArray) s 0 0 (fun _ => False) = Q at hret ⊢
  have hl := lv_entry ([.int p0]) (n := 1) (Nat.le_of_ble_eq_true rfl)
  rw [lg_entry_eq]
  generalize (lg_sl ([.int p0]) ++ List.replicate (1 - (lg_sl ([.int p0])).length) Slot.unset).toArray = ls at hl ⊢
  have hl : lv_has ls 1 [(0, .int p0)] := hl
  refine lv_iload_n hx hb dX2_loudRepeated_0 rfl (lv_at hl 0 rfl) ?_
  by_cases c1 : p0 = 3
  · have hw := ite_t hw c1
    refine lv_lookup (off := 27) (tgt := 28) hx hb dX2_loudRepeated_1 (by decide) (by rw [c1]; decide) (by decide) ?_
    refine lv_iconst (v := 4) hx hb dX2_loudRepeated_28 (by decide) ?_
    exact hret _ _ _ (Option.some.inj hw) dX2_loudRepeated_29
  have hw := ite_f hw c1
  by_cases c2 : p0 = 4
  · have hw := ite_t hw c2
    refine lv_lookup (off := 29) (tgt := 30) hx hb dX2_loudRepeated_1 (by decide) (by rw [c2]; decide) (by decide) ?_
    refine lv_bipush (v := 7) hx hb dX2_loudRepeated_30 (by decide) ?_
    exact hret _ _ _ (Option.some.inj hw) dX2_loudRepeated_32
  have hw := ite_f hw c2
  refine lv_lookup (off := 32) (tgt := 33) hx hb dX2_loudRepeated_1 (by decide) (by simp [Op.lookupswitch.offset, (i32_ne c1 (z := 3) (by decide)).symm, (i32_ne c2 (z := 4) (by decide)).symm]) (by decide) ?_
  refine lv_iconst (v := 0) hx hb dX2_loudRepeated_33 (by decide) ?_
  exact hret _ _ _ (Option.some.inj hw) dX2_loudRepeated_34
set_option maxHeartbeats 4000000 in
set_option maxRecDepth 100000 in
theorem c_X2_settle (l : Launch) (dC : Nat → ClassId) (dI : Nat → Nat → Nat) (A : Nat → Prop) (a : Nat → Nat) (cA : ClassId) (X : WS) (p1 : Int32) (p2 : Int32) (out : (Int32 × WS)) (hw : f_X2_settle X p1 p2 = some out) : Met l yX2_settle (.code yX2_settle cX2_settle 4 (some .int) :: lw_g) ({ frames := 1, cells := 0, slots := 0, locals := 20 }) (PcXD dC dI A a cA X [.ref (a 3), .int p1, .int p2]) (va_Qi (fun (r_ : Int32) (X_ : WS) => out = (r_, X_)) (fun X_ t => va_P (dC, dI) classes (wl a cA X_) t.heap ∧ va_K (dC, dI) classes [(cA, .int)] t) A) 0 0 (A) := by
  unfold f_X2_settle at hw
  refine Met.ofW (cc := cX2_settle) (maxL := 4) (ret := (some .int)) (by decide) rfl ?_
  intro p e s m args below meth c s₁ B hml hv
  obtain ⟨rfl, hP, hK, hN, hD0⟩ := hv
  have hx := B.exec
  have hb := B.bytes
  have hr := B.returns
  have hts0 := atoms_spec (ws := (.code yX2_settle cX2_settle 4 (some .int) :: lw_g)) B.pre
  have hts : ∀ w ∈ lw_g, w.before (([.ref (a 3), .int p1, .int p2] : List Value).toArray) s = true := fun w h => hts0 w (List.mem_cons_of_mem _ h)
  clear hts0
  have hown : s.vm.findClass RX2 = some m.cls := findClass_of_methodNamed B.named
  have hlocks := B.notSynchronized
  have hret : ∀ (pc : Nat) (ls : Array Slot) (v : Int32) (X_ : WS) (H : Heap) (locs : List Loc), (v, X_) = out → va_P (dC, dI) classes (wl a cA X_) H → va_S A s.heap H locs → decode cX2_settle pc = .ok (.ireturn, 1) → W p l e ({ frames := 1, cells := 0, slots := 0, locals := 20 }) s m (([.ref (a 3), .int p1, .int p2] : List Value).toArray) below meth c H locs 0 0 (MQ below (va_Qi (fun (r_ : Int32) (X_ : WS) => out = (r_, X_)) (fun X_ t => va_P (dC, dI) classes (wl a cA X_) t.heap ∧ va_K (dC, dI) classes [(cA, .int)] t) A) (([.ref (a 3), .int p1, .int p2] : List Value).toArray) s 0 0 (A)) (F0 m pc ls [.int v]) := fun pc ls v X_ H locs hv hP hS hd => W.iret hx hb hr (fun t ht hW => ⟨⟨v, X_, rfl, hv.symm, by rw [ht]; exact hP, va_K.moved hW.alike hK⟩, hS.F ht⟩) hS.2.2 hd
  show W p l e ({ frames := 1, cells := 0, slots := 0, locals := 20 }) s m (([.ref (a 3), .int p1, .int p2] : List Value).toArray) below meth c s.heap [] 0 0 (MQ below (va_Qi (fun (r_ : Int32) (X_ : WS) => out = (r_, X_)) (fun X_ t => va_P (dC, dI) classes (wl a cA X_) t.heap ∧ va_K (dC, dI) classes [(cA, .int)] t) A) (([.ref (a 3), .int p1, .int p2] : List Value).toArray) s 0 0 (A)) (entryFrame m (([.ref (a 3), .int p1, .int p2] : List Value).toArray) 4)
  generalize MQ below (va_Qi (fun (r_ : Int32) (X_ : WS) => out = (r_, X_)) (fun X_ t => va_P (dC, dI) classes (wl a cA X_) t.heap ∧ va_K (dC, dI) classes [(cA, .int)] t) A) (([.ref (a 3), .int p1, .int p2] : List Value).toArray) s 0 0 (A) = Q at hret ⊢
  have hS : va_S A s.heap s.heap [] := va_S.rf
  have hl := lv_entry ([.ref (a 3), .int p1, .int p2]) (n := 4) (Nat.le_of_ble_eq_true rfl)
  rw [lg_entry_eq]
  generalize (lg_sl ([.ref (a 3), .int p1, .int p2]) ++ List.replicate (4 - (lg_sl ([.ref (a 3), .int p1, .int p2])).length) Slot.unset).toArray = ls at hl ⊢
  have hl : lv_has ls 4 [(0, .ref (a 3)), (1, .int p1), (2, .int p2)] := hl
  refine lv_aload_n hx hb dX2_settle_0 rfl (lv_at hl 0 rfl) ?_
  refine va_get (D := (dC, dI)) (ci := 2) (v := .int (X 3 5)) (C := RX2) (T := TX2) (N := 17) hx hb hts iX2 hown hK hP 3 rfl rfl 5 (by decide) (hts _ wd_83) (fun _ h9 => h9) rfl dX2_settle_1 ?_
  refine lv_topi (fun x1 ex1 => ?_)
  have hw := stp_use hw ex1
  refine lv_istore_n (lv' := [(3, .int x1), (0, .ref (a 3)), (1, .int p1), (2, .int p2)]) hx hb dX2_settle_4 rfl hl (by decide) rfl (fun ls hl => ?_)
  refine lv_iload_n hx hb dX2_settle_5 rfl (lv_at hl 0 rfl) ?_
  refine lv_bipush (v := 6) hx hb dX2_settle_6 (by decide) ?_
  refine lv_icmp_lt (tgt := 14) hx hb dX2_settle_8 (by decide) (fun c2 => ?_) (fun c2 => ?_)
  · have hw := ite_t hw c2
    refine lv_aload_n hx hb dX2_settle_14 rfl (lv_at hl 1 rfl) ?_
    refine va_get (D := (dC, dI)) (ci := 2) (v := .ref (a 5)) (C := RX2) (T := TX2) (N := 17) hx hb hts iX2 hown hK hP 3 rfl rfl 1 (by decide) (hts _ wd_75) (fun _ h9 => h9) rfl dX2_settle_15 ?_
    refine lv_iload_n hx hb dX2_settle_18 rfl (lv_at hl 0 rfl) ?_
    refine lv_iload_n hx hb dX2_settle_19 rfl (lv_at hl 2 rfl) ?_
    obtain ⟨h3, hw⟩ := ixc_use hw
    refine va_iast hx hb hK hP (wlD hD0) hS 5 0 rfl rfl h3 dX2_settle_20 (fun H locs hP hD_ hS => ?_)
    obtain ⟨X4, eX4⟩ : ∃ y : WS, y = (ups X 5 (Int32.toNatClampNeg x1) p1) := ⟨_, rfl⟩
    have hw := stp_use hw eX4
    have hP : va_P (dC, dI) classes (wl a cA X4) H := by rw [eX4]; exact hP
    refine lv_aload_n hx hb dX2_settle_21 rfl (lv_at hl 1 rfl) ?_
    refine va_get (D := (dC, dI)) (ci := 2) (v := .ref (a 6)) (C := RX2) (T := TX2) (N := 17) hx hb hts iX2 hown hK hP 3 rfl rfl 2 (by decide) (hts _ wd_77) (fun _ h9 => h9) rfl dX2_settle_22 ?_
    refine lv_iload_n hx hb dX2_settle_25 rfl (lv_at hl 0 rfl) ?_
    refine lv_iload_n hx hb dX2_settle_26 rfl (lv_at hl 2 rfl) ?_
    obtain ⟨r5, er5, hw⟩ := Option.bind_eq_some_iff.mp hw
    refine vp_callSi (va_runS (As := [.int p1]) (rest := [.int x1, .ref (a 6)]) ⟨hx, hb, hml, hown, hts⟩ (c_X2_loudNeeded l p1 r5 er5) ⟨callB_of 1 hts gd_X2_loudNeeded rfl rfl rfl (hts _ wd_37) (hts _ wd_276) hd_X2_loudNeeded ⟨Nat.le_of_ble_eq_true rfl, Nat.le_of_ble_eq_true rfl⟩, hts _ wd_277⟩ ⟨bl0, fun U hU hW => ⟨rfl, trivial⟩⟩ rfl rfl hl.1 rfl (lv_room (Nat.le_of_ble_eq_true rfl)) dX2_settle_27 ⟨Nat.zero_le _, Nat.zero_le _⟩).run (fun r_ e_ => ?_)
    subst r_
    obtain ⟨h6, hw⟩ := ixc_use hw
    refine va_iast hx hb hK hP (wlD hD0) hS 6 0 rfl rfl h6 dX2_settle_30 (fun H locs hP hD_ hS => ?_)
    obtain ⟨X7, eX7⟩ : ∃ y : WS, y = (ups X4 6 (Int32.toNatClampNeg x1) r5) := ⟨_, rfl⟩
    have hw := stp_use hw eX7
    have hP : va_P (dC, dI) classes (wl a cA X7) H := by rw [eX7]; exact hP
    refine lv_aload_n hx hb dX2_settle_31 rfl (lv_at hl 1 rfl) ?_
    refine va_get (D := (dC, dI)) (ci := 2) (v := .ref (a 7)) (C := RX2) (T := TX2) (N := 17) hx hb hts iX2 hown hK hP 3 rfl rfl 3 (by decide) (hts _ wd_79) (fun _ h9 => h9) rfl dX2_settle_32 ?_
    refine lv_iload_n hx hb dX2_settle_35 rfl (lv_at hl 0 rfl) ?_
    refine lv_iload_n hx hb dX2_settle_36 rfl (lv_at hl 2 rfl) ?_
    obtain ⟨r8, er8, hw⟩ := Option.bind_eq_some_iff.mp hw
    refine vp_callSi (va_runS (As := [.int p1]) (rest := [.int x1, .ref (a 7)]) ⟨hx, hb, hml, hown, hts⟩ (c_X2_loudRepeated l p1 r8 er8) ⟨callB_of 1 hts gd_X2_loudRepeated rfl rfl rfl (hts _ wd_37) (hts _ wd_279) hd_X2_loudRepeated ⟨Nat.le_of_ble_eq_true rfl, Nat.le_of_ble_eq_true rfl⟩, hts _ wd_280⟩ ⟨bl0, fun U hU hW => ⟨rfl, trivial⟩⟩ rfl rfl hl.1 rfl (lv_room (Nat.le_of_ble_eq_true rfl)) dX2_settle_37 ⟨Nat.zero_le _, Nat.zero_le _⟩).run (fun r_ e_ => ?_)
    subst r_
    obtain ⟨h9, hw⟩ := ixc_use hw
    refine va_iast hx hb hK hP (wlD hD0) hS 7 0 rfl rfl h9 dX2_settle_40 (fun H locs hP hD_ hS => ?_)
    obtain ⟨X10, eX10⟩ : ∃ y : WS, y = (ups X7 7 (Int32.toNatClampNeg x1) r8) := ⟨_, rfl⟩
    have hw := stp_use hw eX10
    have hP : va_P (dC, dI) classes (wl a cA X10) H := by rw [eX10]; exact hP
    refine lv_aload_n hx hb dX2_settle_41 rfl (lv_at hl 1 rfl) ?_
    refine va_get (D := (dC, dI)) (ci := 2) (v := .ref (a 8)) (C := RX2) (T := TX2) (N := 17) hx hb hts iX2 hown hK hP 3 rfl rfl 4 (by decide) (hts _ wd_81) (fun _ h9 => h9) rfl dX2_settle_42 ?_
    refine lv_iload_n hx hb dX2_settle_45 rfl (lv_at hl 0 rfl) ?_
    refine lv_iload_n hx hb dX2_settle_46 rfl (lv_at hl 3 rfl) ?_
    obtain ⟨h11, hw⟩ := ixc_use hw
    refine va_iast hx hb hK hP (wlD hD0) hS 8 0 rfl rfl h11 dX2_settle_47 (fun H locs hP hD_ hS => ?_)
    obtain ⟨X12, eX12⟩ : ∃ y : WS, y = (ups X10 8 (Int32.toNatClampNeg x1) p2) := ⟨_, rfl⟩
    have hw := stp_use hw eX12
    have hP : va_P (dC, dI) classes (wl a cA X12) H := by rw [eX12]; exact hP
    refine lv_iload_n hx hb dX2_settle_48 rfl (lv_at hl 2 rfl) ?_
    refine lv_iconst (v := 2) hx hb dX2_settle_49 (by decide) ?_
    refine lv_icmp_ne (tgt := 65) hx hb dX2_settle_50 (by decide) (fun c13 => ?_) (fun c13 => ?_)
    · have hw := ite_f hw c13
      refine lv_aload_n hx hb dX2_settle_65 rfl (lv_at hl 1 rfl) ?_
      refine lv_dup hx hb dX2_settle_66 rfl ?_
      refine va_get (D := (dC, dI)) (ci := 2) (v := .int (X12 3 5)) (C := RX2) (T := TX2) (N := 17) hx hb hts iX2 hown hK hP 3 rfl rfl 5 (by decide) (hts _ wd_83) (fun _ h9 => h9) rfl dX2_settle_67 ?_
      refine lv_iconst (v := 1) hx hb dX2_settle_70 (by decide) ?_
      refine lv_iadd hx hb dX2_settle_71 ?_
      refine lv_topi (fun x14 ex14 => ?_)
      have hw := stp_use hw ex14
      refine va_put (D := (dC, dI)) (ci := 2) (v := .int x14) (ty := .int) (C := RX2) (T := TX2) (N := 17) hx hb hts iX2 tyX2 tyX2_ok nmX2 hown hK hP (wlD hD0) hS 3 rfl rfl 5 (by decide) (hts _ wd_83) (fun _ h9 => h9) rfl (by decide +kernel) rfl rfl (Nat.le_of_ble_eq_true rfl) dX2_settle_72 (fun H locs hP hD_ hS => ?_)
      obtain ⟨X15, eX15⟩ : ∃ y : WS, y = (ups X12 3 5 x14) := ⟨_, rfl⟩
      have hw := stp_use hw eX15
      have hP : va_P (dC, dI) classes (wl a cA X15) H := by rw [eX15]; exact hP
      refine lv_iload_n hx hb dX2_settle_75 rfl (lv_at hl 0 rfl) ?_
      exact hret _ _ _ _ _ _ (Option.some.inj hw) hP hS dX2_settle_76
    · have hw := ite_t hw c13
      refine lv_aload_n hx hb dX2_settle_53 rfl (lv_at hl 1 rfl) ?_
      refine lv_dup hx hb dX2_settle_54 rfl ?_
      refine va_get (D := (dC, dI)) (ci := 2) (v := .int (X12 3 6)) (C := RX2) (T := TX2) (N := 17) hx hb hts iX2 hown hK hP 3 rfl rfl 6 (by decide) (hts _ wd_85) (fun _ h9 => h9) rfl dX2_settle_55 ?_
      refine lv_iconst (v := 1) hx hb dX2_settle_58 (by decide) ?_
      refine lv_iload_n hx hb dX2_settle_59 rfl (lv_at hl 0 rfl) ?_
      refine lv_ishl hx hb dX2_settle_60 ?_
      refine lv_ior hx hb dX2_settle_61 ?_
      refine lv_topi (fun x16 ex16 => ?_)
      have hw := stp_use hw ex16
      refine va_put (D := (dC, dI)) (ci := 2) (v := .int x16) (ty := .int) (C := RX2) (T := TX2) (N := 17) hx hb hts iX2 tyX2 tyX2_ok nmX2 hown hK hP (wlD hD0) hS 3 rfl rfl 6 (by decide) (hts _ wd_85) (fun _ h9 => h9) rfl (by decide +kernel) rfl rfl (Nat.le_of_ble_eq_true rfl) dX2_settle_62 (fun H locs hP hD_ hS => ?_)
      obtain ⟨X17, eX17⟩ : ∃ y : WS, y = (ups X12 3 6 x16) := ⟨_, rfl⟩
      have hw := stp_use hw eX17
      have hP : va_P (dC, dI) classes (wl a cA X17) H := by rw [eX17]; exact hP
      refine lv_aload_n hx hb dX2_settle_65 rfl (lv_at hl 1 rfl) ?_
      refine lv_dup hx hb dX2_settle_66 rfl ?_
      refine va_get (D := (dC, dI)) (ci := 2) (v := .int (X17 3 5)) (C := RX2) (T := TX2) (N := 17) hx hb hts iX2 hown hK hP 3 rfl rfl 5 (by decide) (hts _ wd_83) (fun _ h9 => h9) rfl dX2_settle_67 ?_
      refine lv_iconst (v := 1) hx hb dX2_settle_70 (by decide) ?_
      refine lv_iadd hx hb dX2_settle_71 ?_
      refine lv_topi (fun x18 ex18 => ?_)
      have hw := stp_use hw ex18
      refine va_put (D := (dC, dI)) (ci := 2) (v := .int x18) (ty := .int) (C := RX2) (T := TX2) (N := 17) hx hb hts iX2 tyX2 tyX2_ok nmX2 hown hK hP (wlD hD0) hS 3 rfl rfl 5 (by decide) (hts _ wd_83) (fun _ h9 => h9) rfl (by decide +kernel) rfl rfl (Nat.le_of_ble_eq_true rfl) dX2_settle_72 (fun H locs hP hD_ hS => ?_)
      obtain ⟨X19, eX19⟩ : ∃ y : WS, y = (ups X17 3 5 x18) := ⟨_, rfl⟩
      have hw := stp_use hw eX19
      have hP : va_P (dC, dI) classes (wl a cA X19) H := by rw [eX19]; exact hP
      refine lv_iload_n hx hb dX2_settle_75 rfl (lv_at hl 0 rfl) ?_
      exact hret _ _ _ _ _ _ (Option.some.inj hw) hP hS dX2_settle_76
  · have hw := ite_f hw c2
    refine lv_bipush (v := (-104)) hx hb dX2_settle_11 (by decide) ?_
    exact hret _ _ _ _ _ _ (Option.some.inj hw) hP hS dX2_settle_13
set_option maxHeartbeats 4000000 in
set_option maxRecDepth 100000 in
theorem c_X3_listener (l : Launch) (dC : Nat → ClassId) (dI : Nat → Nat → Nat) (A : Nat → Prop) (a : Nat → Nat) (cA : ClassId) (X : WS) (p1 : Int32) (p2 : Int32) (out : (Int32 × WS)) (hw : f_X3_listener X p1 p2 = some out) : Met l yX3_listener (.code yX3_listener cX3_listener 3 (some .int) :: lw_g) ({ frames := 2, cells := 0, slots := 0, locals := 43 }) (PcXD dC dI A a cA X [.ref (a 0), .int p1, .int p2]) (va_Qi (fun (r_ : Int32) (X_ : WS) => out = (r_, X_)) (fun X_ t => va_P (dC, dI) classes (wl a cA X_) t.heap ∧ va_K (dC, dI) classes [(cA, .int)] t) A) 0 0 (A) := by
  unfold f_X3_listener at hw
  refine Met.ofW (cc := cX3_listener) (maxL := 3) (ret := (some .int)) (by decide) rfl ?_
  intro p e s m args below meth c s₁ B hml hv
  obtain ⟨rfl, hP, hK, hN, hD0⟩ := hv
  have hx := B.exec
  have hb := B.bytes
  have hr := B.returns
  have hts0 := atoms_spec (ws := (.code yX3_listener cX3_listener 3 (some .int) :: lw_g)) B.pre
  have hts : ∀ w ∈ lw_g, w.before (([.ref (a 0), .int p1, .int p2] : List Value).toArray) s = true := fun w h => hts0 w (List.mem_cons_of_mem _ h)
  clear hts0
  have hown : s.vm.findClass RX3 = some m.cls := findClass_of_methodNamed B.named
  have hlocks := B.notSynchronized
  have hret : ∀ (pc : Nat) (ls : Array Slot) (v : Int32) (X_ : WS) (H : Heap) (locs : List Loc), (v, X_) = out → va_P (dC, dI) classes (wl a cA X_) H → va_S A s.heap H locs → decode cX3_listener pc = .ok (.ireturn, 1) → W p l e ({ frames := 2, cells := 0, slots := 0, locals := 43 }) s m (([.ref (a 0), .int p1, .int p2] : List Value).toArray) below meth c H locs 0 0 (MQ below (va_Qi (fun (r_ : Int32) (X_ : WS) => out = (r_, X_)) (fun X_ t => va_P (dC, dI) classes (wl a cA X_) t.heap ∧ va_K (dC, dI) classes [(cA, .int)] t) A) (([.ref (a 0), .int p1, .int p2] : List Value).toArray) s 0 0 (A)) (F0 m pc ls [.int v]) := fun pc ls v X_ H locs hv hP hS hd => W.iret hx hb hr (fun t ht hW => ⟨⟨v, X_, rfl, hv.symm, by rw [ht]; exact hP, va_K.moved hW.alike hK⟩, hS.F ht⟩) hS.2.2 hd
  show W p l e ({ frames := 2, cells := 0, slots := 0, locals := 43 }) s m (([.ref (a 0), .int p1, .int p2] : List Value).toArray) below meth c s.heap [] 0 0 (MQ below (va_Qi (fun (r_ : Int32) (X_ : WS) => out = (r_, X_)) (fun X_ t => va_P (dC, dI) classes (wl a cA X_) t.heap ∧ va_K (dC, dI) classes [(cA, .int)] t) A) (([.ref (a 0), .int p1, .int p2] : List Value).toArray) s 0 0 (A)) (entryFrame m (([.ref (a 0), .int p1, .int p2] : List Value).toArray) 3)
  generalize MQ below (va_Qi (fun (r_ : Int32) (X_ : WS) => out = (r_, X_)) (fun X_ t => va_P (dC, dI) classes (wl a cA X_) t.heap ∧ va_K (dC, dI) classes [(cA, .int)] t) A) (([.ref (a 0), .int p1, .int p2] : List Value).toArray) s 0 0 (A) = Q at hret ⊢
  have hS : va_S A s.heap s.heap [] := va_S.rf
  have hl := lv_entry ([.ref (a 0), .int p1, .int p2]) (n := 3) (Nat.le_of_ble_eq_true rfl)
  rw [lg_entry_eq]
  generalize (lg_sl ([.ref (a 0), .int p1, .int p2]) ++ List.replicate (3 - (lg_sl ([.ref (a 0), .int p1, .int p2])).length) Slot.unset).toArray = ls at hl ⊢
  have hl : lv_has ls 3 [(0, .ref (a 0)), (1, .int p1), (2, .int p2)] := hl
  refine lv_iload_n hx hb dX3_listener_0 rfl (lv_at hl 1 rfl) ?_
  obtain ⟨r1, er1, hw⟩ := Option.bind_eq_some_iff.mp hw
  refine vp_callSi (va_runS (As := [.int p1]) (rest := []) ⟨hx, hb, hml, hown, hts⟩ (c_X3_isKind l p1 r1 er1) ⟨callB_of 1 hts gd_X3_isKind rfl rfl rfl (hts _ wd_35) (hts _ wd_269) hd_X3_isKind ⟨Nat.le_of_ble_eq_true rfl, Nat.le_of_ble_eq_true rfl⟩, hts _ wd_270⟩ ⟨bl0, fun U hU hW => ⟨rfl, trivial⟩⟩ rfl rfl hl.1 rfl (lv_room (Nat.le_of_ble_eq_true rfl)) dX3_listener_1 ⟨Nat.zero_le _, Nat.zero_le _⟩).run (fun r_ e_ => ?_)
  subst r_
  refine lv_if_ne (tgt := 10) hx hb dX3_listener_4 (by decide) (fun c2 => ?_) (fun c2 => ?_)
  · have hw := ite_f hw c2
    refine lv_aload_n hx hb dX3_listener_10 rfl (lv_at hl 0 rfl) ?_
    refine lv_iload_n hx hb dX3_listener_11 rfl (lv_at hl 2 rfl) ?_
    obtain ⟨r3, er3, hw⟩ := Option.bind_eq_some_iff.mp hw
    refine vp_callSi (va_runV (As := [.int p2]) (rest := []) ⟨hx, hb, hml, hown, hts⟩ (c_X3_isPlace l dC dI a cA X p2 r3 er3) ⟨callB_of 1 hts gd_X3_isPlace rfl rfl rfl (hts _ wd_35) (hts _ wd_253) hd_X3_isPlace ⟨Nat.le_of_ble_eq_true rfl, Nat.le_of_ble_eq_true rfl⟩, hts _ wd_255, hts _ wd_0⟩ ⟨blX, va_recv hK hP (ci := 3) (q0 := 0) rfl rfl, fun U hU hW => ⟨rfl, by rw [hU]; exact hP, va_K.moved hW.alike hK, nst.warm hW hN⟩⟩ rfl rfl hl.1 rfl (lv_room (Nat.le_of_ble_eq_true rfl)) dX3_listener_12 ⟨Nat.zero_le _, Nat.zero_le _⟩).run (fun r_ e_ => ?_)
    subst r_
    refine lv_if_ne (tgt := 21) hx hb dX3_listener_15 (by decide) (fun c4 => ?_) (fun c4 => ?_)
    · have hw := ite_f hw c4
      refine lv_aload_n hx hb dX3_listener_21 rfl (lv_at hl 0 rfl) ?_
      refine va_get (D := (dC, dI)) (ci := 3) (v := .ref (a 3)) (C := RX3) (T := TX3) (N := 6) hx hb hts iX3 hown hK hP 0 rfl rfl 1 (by decide) (hts _ wd_179) (fun _ h9 => h9) rfl dX3_listener_22 ?_
      refine lv_iload_n hx hb dX3_listener_25 rfl (lv_at hl 1 rfl) ?_
      refine lv_iload_n hx hb dX3_listener_26 rfl (lv_at hl 2 rfl) ?_
      obtain ⟨r5, X6, er5, hw⟩ := bnd2_use hw
      refine va_calli (va_runV (As := [.int p1, .int p2]) (rest := []) ⟨hx, hb, hml, hown, hts⟩ (c_X2_settle l dC dI A a cA X p1 p2 (r5, X6) er5) ⟨callB_of 2 hts gd_X2_settle rfl rfl rfl (hts _ wd_37) (hts _ wd_272) hd_X2_settle ⟨Nat.le_of_ble_eq_true rfl, Nat.le_of_ble_eq_true rfl⟩, hts _ wd_273, hts _ wd_274⟩ ⟨blXD, va_recv hK hP (ci := 2) (q0 := 3) rfl rfl, fun U hU hW => ⟨rfl, by rw [hU]; exact hP, va_K.moved hW.alike hK, nst.warm hW hN, wlD hD0⟩⟩ rfl rfl hl.1 rfl (lv_room (Nat.le_of_ble_eq_true rfl)) dX3_listener_27 ⟨Nat.zero_le _, Nat.zero_le _⟩) hS (fun _ _ h => h) (fun _ h => h) (fun r_ u_ t_ H1 locs1 ht hvm hp_ hB hz1 hk1 hS1 => ?_)
      obtain ⟨q1_, q2_⟩ := Prod.mk.inj hp_
      subst q1_
      subst q2_
      obtain ⟨hP1, hK1⟩ := hB
      rw [ht] at hP1
      have hP := hP1
      have hS := hS1
      exact hret _ _ _ _ _ _ (Option.some.inj hw) hP hS dX3_listener_30
    · have hw := ite_t hw c4
      refine lv_bipush (v := (-101)) hx hb dX3_listener_18 (by decide) ?_
      exact hret _ _ _ _ _ _ (Option.some.inj hw) hP hS dX3_listener_20
  · have hw := ite_t hw c2
    refine lv_bipush (v := (-102)) hx hb dX3_listener_7 (by decide) ?_
    exact hret _ _ _ _ _ _ (Option.some.inj hw) hP hS dX3_listener_9
set_option maxHeartbeats 4000000 in
set_option maxRecDepth 100000 in
theorem c_X4_listener (l : Launch) (dC : Nat → ClassId) (dI : Nat → Nat → Nat) (A : Nat → Prop) (a : Nat → Nat) (cA : ClassId) (X : MS) (p1 : Int32) (p2 : Int32) (out : (Int32 × MS)) (hw : f_X4_listener X p1 p2 = some out) : Met l yX4_listener (.code yX4_listener cX4_listener 3 (some .int) :: lw_g) ({ frames := 2, cells := 0, slots := 0, locals := 46 }) (PcMD dC dI A a cA X [.ref (a 0), .int p1, .int p2]) (va_Qi (fun (r_ : Int32) (X_ : MS) => out = (r_, X_)) (fun X_ t => va_P (dC, dI) classes (wm a cA X_) t.heap ∧ va_K (dC, dI) classes [(cA, .int)] t) A) 0 0 (A) := by
  unfold f_X4_listener at hw
  refine Met.ofW (cc := cX4_listener) (maxL := 3) (ret := (some .int)) (by decide) rfl ?_
  intro p e s m args below meth c s₁ B hml hv
  obtain ⟨rfl, hP, hK, hD0⟩ := hv
  have hx := B.exec
  have hb := B.bytes
  have hr := B.returns
  have hts0 := atoms_spec (ws := (.code yX4_listener cX4_listener 3 (some .int) :: lw_g)) B.pre
  have hts : ∀ w ∈ lw_g, w.before (([.ref (a 0), .int p1, .int p2] : List Value).toArray) s = true := fun w h => hts0 w (List.mem_cons_of_mem _ h)
  clear hts0
  have hown : s.vm.findClass RX4 = some m.cls := findClass_of_methodNamed B.named
  have hlocks := B.notSynchronized
  have hret : ∀ (pc : Nat) (ls : Array Slot) (v : Int32) (X_ : MS) (H : Heap) (locs : List Loc), (v, X_) = out → va_P (dC, dI) classes (wm a cA X_) H → va_S A s.heap H locs → decode cX4_listener pc = .ok (.ireturn, 1) → W p l e ({ frames := 2, cells := 0, slots := 0, locals := 46 }) s m (([.ref (a 0), .int p1, .int p2] : List Value).toArray) below meth c H locs 0 0 (MQ below (va_Qi (fun (r_ : Int32) (X_ : MS) => out = (r_, X_)) (fun X_ t => va_P (dC, dI) classes (wm a cA X_) t.heap ∧ va_K (dC, dI) classes [(cA, .int)] t) A) (([.ref (a 0), .int p1, .int p2] : List Value).toArray) s 0 0 (A)) (F0 m pc ls [.int v]) := fun pc ls v X_ H locs hv hP hS hd => W.iret hx hb hr (fun t ht hW => ⟨⟨v, X_, rfl, hv.symm, by rw [ht]; exact hP, va_K.moved hW.alike hK⟩, hS.F ht⟩) hS.2.2 hd
  show W p l e ({ frames := 2, cells := 0, slots := 0, locals := 46 }) s m (([.ref (a 0), .int p1, .int p2] : List Value).toArray) below meth c s.heap [] 0 0 (MQ below (va_Qi (fun (r_ : Int32) (X_ : MS) => out = (r_, X_)) (fun X_ t => va_P (dC, dI) classes (wm a cA X_) t.heap ∧ va_K (dC, dI) classes [(cA, .int)] t) A) (([.ref (a 0), .int p1, .int p2] : List Value).toArray) s 0 0 (A)) (entryFrame m (([.ref (a 0), .int p1, .int p2] : List Value).toArray) 3)
  generalize MQ below (va_Qi (fun (r_ : Int32) (X_ : MS) => out = (r_, X_)) (fun X_ t => va_P (dC, dI) classes (wm a cA X_) t.heap ∧ va_K (dC, dI) classes [(cA, .int)] t) A) (([.ref (a 0), .int p1, .int p2] : List Value).toArray) s 0 0 (A) = Q at hret ⊢
  have hS : va_S A s.heap s.heap [] := va_S.rf
  have hl := lv_entry ([.ref (a 0), .int p1, .int p2]) (n := 3) (Nat.le_of_ble_eq_true rfl)
  rw [lg_entry_eq]
  generalize (lg_sl ([.ref (a 0), .int p1, .int p2]) ++ List.replicate (3 - (lg_sl ([.ref (a 0), .int p1, .int p2])).length) Slot.unset).toArray = ls at hl ⊢
  have hl : lv_has ls 3 [(0, .ref (a 0)), (1, .int p1), (2, .int p2)] := hl
  refine lv_iload_n hx hb dX4_listener_0 rfl (lv_at hl 1 rfl) ?_
  refine lv_i2l hx hb dX4_listener_1 rfl ?_
  refine lv_lconst (v := 0) hx hb dX4_listener_2 (by decide) ?_
  refine lv_ldc2 hx hb hown (hts _ wd_659) dX4_listener_3 ?_
  obtain ⟨r1, er1, hw⟩ := Option.bind_eq_some_iff.mp hw
  refine vp_callSi (va_runS (As := [.long (Int32.toInt64 p1), .long 0, .long 4]) (rest := []) ⟨hx, hb, hml, hown, hts⟩ (c_X4_in l (Int32.toInt64 p1) 0 4 r1 er1) ⟨callB_of 3 hts gd_X4_in rfl rfl rfl (hts _ wd_39) (hts _ wd_615) hd_X4_in ⟨Nat.le_of_ble_eq_true rfl, Nat.le_of_ble_eq_true rfl⟩, hts _ wd_616⟩ ⟨bl0, fun U hU hW => ⟨rfl, trivial⟩⟩ rfl rfl hl.1 rfl (lv_room (Nat.le_of_ble_eq_true rfl)) dX4_listener_6 ⟨Nat.zero_le _, Nat.zero_le _⟩).run (fun r_ e_ => ?_)
  subst r_
  refine lv_if_ne (tgt := 15) hx hb dX4_listener_9 (by decide) (fun c2 => ?_) (fun c2 => ?_)
  · have hw := ite_f hw c2
    refine lv_aload_n hx hb dX4_listener_15 rfl (lv_at hl 0 rfl) ?_
    refine lv_iload_n hx hb dX4_listener_16 rfl (lv_at hl 2 rfl) ?_
    obtain ⟨r3, er3, hw⟩ := Option.bind_eq_some_iff.mp hw
    refine vp_callSi (va_runV (As := [.int p2]) (rest := []) ⟨hx, hb, hml, hown, hts⟩ (c_X4_isPlace l dC dI a cA X p2 r3 er3) ⟨callB_of 1 hts gd_X4_isPlace rfl rfl rfl (hts _ wd_39) (hts _ wd_643) hd_X4_isPlace ⟨Nat.le_of_ble_eq_true rfl, Nat.le_of_ble_eq_true rfl⟩, hts _ wd_645, hts _ wd_11⟩ ⟨blM, va_recv hK hP (ci := 4) (q0 := 0) rfl rfl, fun U hU hW => ⟨rfl, by rw [hU]; exact hP, va_K.moved hW.alike hK⟩⟩ rfl rfl hl.1 rfl (lv_room (Nat.le_of_ble_eq_true rfl)) dX4_listener_17 ⟨Nat.zero_le _, Nat.zero_le _⟩).run (fun r_ e_ => ?_)
    subst r_
    refine lv_if_ne (tgt := 26) hx hb dX4_listener_20 (by decide) (fun c4 => ?_) (fun c4 => ?_)
    · have hw := ite_f hw c4
      refine lv_aload_n hx hb dX4_listener_26 rfl (lv_at hl 0 rfl) ?_
      refine va_get (D := (dC, dI)) (ci := 4) (v := .int (X.1 0 11)) (C := RX4) (T := TX4) (N := 29) hx hb hts iX4 hown hK hP 0 rfl rfl 11 (by decide) (hts _ wd_533) (fun _ h9 => h9) rfl dX4_listener_27 ?_
      refine lv_bipush (v := 6) hx hb dX4_listener_30 (by decide) ?_
      refine lv_icmp_ne (tgt := 38) hx hb dX4_listener_32 (by decide) (fun c5 => ?_) (fun c5 => ?_)
      · have hw := ite_f hw c5
        refine lv_aload_n hx hb dX4_listener_38 rfl (lv_at hl 0 rfl) ?_
        refine va_get (D := (dC, dI)) (ci := 4) (v := .ref (a 3)) (C := RX4) (T := TX4) (N := 29) hx hb hts iX4 hown hK hP 0 rfl rfl 12 (by decide) (hts _ wd_534) (fun _ h9 => h9) rfl dX4_listener_39 ?_
        refine lv_iconst (v := 2) hx hb dX4_listener_42 (by decide) ?_
        refine lv_aload_n hx hb dX4_listener_43 rfl (lv_at hl 0 rfl) ?_
        refine va_get (D := (dC, dI)) (ci := 4) (v := .int (X.1 0 11)) (C := RX4) (T := TX4) (N := 29) hx hb hts iX4 hown hK hP 0 rfl rfl 11 (by decide) (hts _ wd_533) (fun _ h9 => h9) rfl dX4_listener_44 ?_
        refine lv_imul hx hb dX4_listener_47 ?_
        refine lv_iload_n hx hb dX4_listener_48 rfl (lv_at hl 1 rfl) ?_
        obtain ⟨h6, hw⟩ := ixc_use hw
        refine va_iast hx hb hK hP (wmD hD0) hS 3 0 rfl rfl h6 dX4_listener_49 (fun H locs hP hD_ hS => ?_)
        obtain ⟨X7, eX7⟩ : ∃ y : MS, y = (ups X.1 3 (Int32.toNatClampNeg (2 * (X.1 0 11))) p1, X.2) := ⟨_, rfl⟩
        have hw := stp_use hw eX7
        have hP : va_P (dC, dI) classes (wm a cA X7) H := by rw [eX7]; exact hP
        refine lv_aload_n hx hb dX4_listener_50 rfl (lv_at hl 0 rfl) ?_
        refine va_get (D := (dC, dI)) (ci := 4) (v := .ref (a 3)) (C := RX4) (T := TX4) (N := 29) hx hb hts iX4 hown hK hP 0 rfl rfl 12 (by decide) (hts _ wd_534) (fun _ h9 => h9) rfl dX4_listener_51 ?_
        refine lv_iconst (v := 2) hx hb dX4_listener_54 (by decide) ?_
        refine lv_aload_n hx hb dX4_listener_55 rfl (lv_at hl 0 rfl) ?_
        refine va_get (D := (dC, dI)) (ci := 4) (v := .int (X7.1 0 11)) (C := RX4) (T := TX4) (N := 29) hx hb hts iX4 hown hK hP 0 rfl rfl 11 (by decide) (hts _ wd_533) (fun _ h9 => h9) rfl dX4_listener_56 ?_
        refine lv_imul hx hb dX4_listener_59 ?_
        refine lv_iconst (v := 1) hx hb dX4_listener_60 (by decide) ?_
        refine lv_iadd hx hb dX4_listener_61 ?_
        refine lv_iload_n hx hb dX4_listener_62 rfl (lv_at hl 2 rfl) ?_
        obtain ⟨h8, hw⟩ := ixc_use hw
        refine va_iast hx hb hK hP (wmD hD0) hS 3 0 rfl rfl h8 dX4_listener_63 (fun H locs hP hD_ hS => ?_)
        obtain ⟨X9, eX9⟩ : ∃ y : MS, y = (ups X7.1 3 (Int32.toNatClampNeg ((2 * (X7.1 0 11)) + 1)) p2, X7.2) := ⟨_, rfl⟩
        have hw := stp_use hw eX9
        have hP : va_P (dC, dI) classes (wm a cA X9) H := by rw [eX9]; exact hP
        refine lv_aload_n hx hb dX4_listener_64 rfl (lv_at hl 0 rfl) ?_
        refine lv_dup hx hb dX4_listener_65 rfl ?_
        refine va_get (D := (dC, dI)) (ci := 4) (v := .int (X9.1 0 11)) (C := RX4) (T := TX4) (N := 29) hx hb hts iX4 hown hK hP 0 rfl rfl 11 (by decide) (hts _ wd_533) (fun _ h9 => h9) rfl dX4_listener_66 ?_
        refine lv_iconst (v := 1) hx hb dX4_listener_69 (by decide) ?_
        refine lv_iadd hx hb dX4_listener_70 ?_
        refine lv_topi (fun x10 ex10 => ?_)
        have hw := stp_use hw ex10
        refine va_put (D := (dC, dI)) (ci := 4) (v := .int x10) (ty := .int) (C := RX4) (T := TX4) (N := 29) hx hb hts iX4 tyX4 tyX4_ok nmX4 hown hK hP (wmD hD0) hS 0 rfl rfl 11 (by decide) (hts _ wd_533) (fun _ h9 => h9) rfl (by decide +kernel) rfl rfl (Nat.le_of_ble_eq_true rfl) dX4_listener_71 (fun H locs hP hD_ hS => ?_)
        obtain ⟨X11, eX11⟩ : ∃ y : MS, y = (ups X9.1 0 11 x10, X9.2) := ⟨_, rfl⟩
        have hw := stp_use hw eX11
        have hP : va_P (dC, dI) classes (wm a cA X11) H := by rw [eX11]; exact hP
        refine lv_aload_n hx hb dX4_listener_74 rfl (lv_at hl 0 rfl) ?_
        refine va_get (D := (dC, dI)) (ci := 4) (v := .int (X11.1 0 11)) (C := RX4) (T := TX4) (N := 29) hx hb hts iX4 hown hK hP 0 rfl rfl 11 (by decide) (hts _ wd_533) (fun _ h9 => h9) rfl dX4_listener_75 ?_
        refine lv_iconst (v := 1) hx hb dX4_listener_78 (by decide) ?_
        refine lv_isub hx hb dX4_listener_79 ?_
        exact hret _ _ _ _ _ _ (Option.some.inj hw) hP hS dX4_listener_80
      · have hw := ite_t hw c5
        refine lv_bipush (v := (-104)) hx hb dX4_listener_35 (by decide) ?_
        exact hret _ _ _ _ _ _ (Option.some.inj hw) hP hS dX4_listener_37
    · have hw := ite_t hw c4
      refine lv_bipush (v := (-101)) hx hb dX4_listener_23 (by decide) ?_
      exact hret _ _ _ _ _ _ (Option.some.inj hw) hP hS dX4_listener_25
  · have hw := ite_t hw c2
    refine lv_bipush (v := (-102)) hx hb dX4_listener_12 (by decide) ?_
    exact hret _ _ _ _ _ _ (Option.some.inj hw) hP hS dX4_listener_14
set_option maxHeartbeats 4000000 in
set_option maxRecDepth 100000 in
theorem c_X3_isListener (l : Launch) (dC : Nat → ClassId) (dI : Nat → Nat → Nat) (a : Nat → Nat) (cA : ClassId) (X : WS) (p1 : Int32) (out : Int32) (hw : f_X3_isListener X p1 = some out) : Met l yX3_isListener (.code yX3_isListener cX3_isListener 2 (some .boolean) :: lw_g) ({ frames := 0, cells := 0, slots := 0, locals := 0 }) (PcX dC dI a cA X [.ref (a 0), .int p1]) (vp_Si (fun r_ => r_ = out)) 0 0 (fun _ => False) := by
  unfold f_X3_isListener at hw
  refine Met.ofW (cc := cX3_isListener) (maxL := 2) (ret := (some .boolean)) (by decide) rfl ?_
  intro p e s m args below meth c s₁ B hml hv
  obtain ⟨rfl, hP, hK, hN⟩ := hv
  have hx := B.exec
  have hb := B.bytes
  have hr := B.returns
  have hts0 := atoms_spec (ws := (.code yX3_isListener cX3_isListener 2 (some .boolean) :: lw_g)) B.pre
  have hts : ∀ w ∈ lw_g, w.before (([.ref (a 0), .int p1] : List Value).toArray) s = true := fun w h => hts0 w (List.mem_cons_of_mem _ h)
  clear hts0
  have hown : s.vm.findClass RX3 = some m.cls := findClass_of_methodNamed B.named
  have hlocks := B.notSynchronized
  have hret : ∀ (pc : Nat) (ls : Array Slot) (v : Int32), v = out → (hz : narrow .boolean (.int v) = .int v) → decode cX3_isListener pc = .ok (.ireturn, 1) → W p l e ({ frames := 0, cells := 0, slots := 0, locals := 0 }) s m (([.ref (a 0), .int p1] : List Value).toArray) below meth c s.heap [] 0 0 (MQ below (vp_Si (fun r_ => r_ = out)) (([.ref (a 0), .int p1] : List Value).toArray) s 0 0 (fun _ => False)) (F0 m pc ls [.int v]) := fun pc ls v hv hz hd => W.zret hx hb hr hz (fun t ht hW => ⟨v, rfl, hv, ht⟩) (fun q hq => absurd hq List.not_mem_nil) hd
  show W p l e ({ frames := 0, cells := 0, slots := 0, locals := 0 }) s m (([.ref (a 0), .int p1] : List Value).toArray) below meth c s.heap [] 0 0 (MQ below (vp_Si (fun r_ => r_ = out)) (([.ref (a 0), .int p1] : List Value).toArray) s 0 0 (fun _ => False)) (entryFrame m (([.ref (a 0), .int p1] : List Value).toArray) 2)
  generalize MQ below (vp_Si (fun r_ => r_ = out)) (([.ref (a 0), .int p1] : List Value).toArray) s 0 0 (fun _ => False) = Q at hret ⊢
  have hl := lv_entry ([.ref (a 0), .int p1]) (n := 2) (Nat.le_of_ble_eq_true rfl)
  rw [lg_entry_eq]
  generalize (lg_sl ([.ref (a 0), .int p1]) ++ List.replicate (2 - (lg_sl ([.ref (a 0), .int p1])).length) Slot.unset).toArray = ls at hl ⊢
  have hl : lv_has ls 2 [(0, .ref (a 0)), (1, .int p1)] := hl
  refine lv_iload_n hx hb dX3_isListener_0 rfl (lv_at hl 1 rfl) ?_
  refine lv_if_lt (tgt := 19) hx hb dX3_isListener_1 (by decide) (fun c1 => ?_) (fun c1 => ?_)
  · have hw := ite_t hw c1
    refine lv_iconst (v := 0) hx hb dX3_isListener_19 (by decide) ?_
    exact hret _ _ _ (Option.some.inj hw) rfl dX3_isListener_20
  · have hw := ite_f hw c1
    refine lv_iload_n hx hb dX3_isListener_4 rfl (lv_at hl 1 rfl) ?_
    refine lv_aload_n hx hb dX3_isListener_5 rfl (lv_at hl 0 rfl) ?_
    refine va_get (D := (dC, dI)) (ci := 3) (v := .ref (a 3)) (C := RX3) (T := TX3) (N := 6) hx hb hts iX3 hown hK hP 0 rfl rfl 1 (by decide) (hts _ wd_179) (fun _ h9 => h9) rfl dX3_isListener_6 ?_
    refine va_getN (D := (dC, dI)) (ci := 2) (v := .int (X 3 5)) (C := RX2) (T := TX2) (N := 17) hx hb hts iX2 hown hK hP 3 rfl rfl 5 (by decide) (va_Nw.use rfl (hN _ nk_84)) (fun _ h9 => h9) rfl dX3_isListener_9 ?_
    refine lv_icmp_ge (tgt := 19) hx hb dX3_isListener_12 (by decide) (fun c2 => ?_) (fun c2 => ?_)
    · have hw := ite_t hw c2
      refine lv_iconst (v := 0) hx hb dX3_isListener_19 (by decide) ?_
      exact hret _ _ _ (Option.some.inj hw) rfl dX3_isListener_20
    · have hw := ite_f hw c2
      refine lv_iconst (v := 1) hx hb dX3_isListener_15 (by decide) ?_
      refine lv_goto (tgt := 20) hx hb dX3_isListener_16 (by decide) ?_
      exact hret _ _ _ (Option.some.inj hw) rfl dX3_isListener_20
set_option maxHeartbeats 4000000 in
set_option maxRecDepth 100000 in
theorem c_X2_knowing (l : Launch) (dC : Nat → ClassId) (dI : Nat → Nat → Nat) (a : Nat → Nat) (cA : ClassId) (X : WS) (p1 : Int32) (out : Int32) (hw : f_X2_knowing X p1 = some out) : Met l yX2_knowing (.code yX2_knowing cX2_knowing 2 (some .int) :: lw_g) ({ frames := 0, cells := 0, slots := 0, locals := 0 }) (PcX dC dI a cA X [.ref (a 3), .int p1]) (vp_Si (fun r_ => r_ = out)) 0 0 (fun _ => False) := by
  unfold f_X2_knowing at hw
  refine Met.ofW (cc := cX2_knowing) (maxL := 2) (ret := (some .int)) (by decide) rfl ?_
  intro p e s m args below meth c s₁ B hml hv
  obtain ⟨rfl, hP, hK, hN⟩ := hv
  have hx := B.exec
  have hb := B.bytes
  have hr := B.returns
  have hts0 := atoms_spec (ws := (.code yX2_knowing cX2_knowing 2 (some .int) :: lw_g)) B.pre
  have hts : ∀ w ∈ lw_g, w.before (([.ref (a 3), .int p1] : List Value).toArray) s = true := fun w h => hts0 w (List.mem_cons_of_mem _ h)
  clear hts0
  have hown : s.vm.findClass RX2 = some m.cls := findClass_of_methodNamed B.named
  have hlocks := B.notSynchronized
  have hret : ∀ (pc : Nat) (ls : Array Slot) (v : Int32), v = out → decode cX2_knowing pc = .ok (.ireturn, 1) → W p l e ({ frames := 0, cells := 0, slots := 0, locals := 0 }) s m (([.ref (a 3), .int p1] : List Value).toArray) below meth c s.heap [] 0 0 (MQ below (vp_Si (fun r_ => r_ = out)) (([.ref (a 3), .int p1] : List Value).toArray) s 0 0 (fun _ => False)) (F0 m pc ls [.int v]) := fun pc ls v hv hd => W.iret hx hb hr (fun t ht hW => ⟨v, rfl, hv, ht⟩) (fun q hq => absurd hq List.not_mem_nil) hd
  show W p l e ({ frames := 0, cells := 0, slots := 0, locals := 0 }) s m (([.ref (a 3), .int p1] : List Value).toArray) below meth c s.heap [] 0 0 (MQ below (vp_Si (fun r_ => r_ = out)) (([.ref (a 3), .int p1] : List Value).toArray) s 0 0 (fun _ => False)) (entryFrame m (([.ref (a 3), .int p1] : List Value).toArray) 2)
  generalize MQ below (vp_Si (fun r_ => r_ = out)) (([.ref (a 3), .int p1] : List Value).toArray) s 0 0 (fun _ => False) = Q at hret ⊢
  have hl := lv_entry ([.ref (a 3), .int p1]) (n := 2) (Nat.le_of_ble_eq_true rfl)
  rw [lg_entry_eq]
  generalize (lg_sl ([.ref (a 3), .int p1]) ++ List.replicate (2 - (lg_sl ([.ref (a 3), .int p1])).length) Slot.unset).toArray = ls at hl ⊢
  have hl : lv_has ls 2 [(0, .ref (a 3)), (1, .int p1)] := hl
  refine lv_iload_n hx hb dX2_knowing_0 rfl (lv_at hl 1 rfl) ?_
  refine lv_aload_n hx hb dX2_knowing_1 rfl (lv_at hl 0 rfl) ?_
  refine va_get (D := (dC, dI)) (ci := 2) (v := .int (X 3 6)) (C := RX2) (T := TX2) (N := 17) hx hb hts iX2 hown hK hP 3 rfl rfl 6 (by decide) (hts _ wd_85) (fun _ h9 => h9) rfl dX2_knowing_2 ?_
  refine lv_iconst (v := (-1)) hx hb dX2_knowing_5 (by decide) ?_
  refine lv_ixor hx hb dX2_knowing_6 ?_
  refine lv_iand hx hb dX2_knowing_7 ?_
  exact hret _ _ _ (Option.some.inj hw) dX2_knowing_8
set_option maxHeartbeats 4000000 in
set_option maxRecDepth 100000 in
theorem c_X3_bit (l : Launch) (p0 : Int32) (p1 : Int32) (out : Int32) (hw : f_X3_bit p0 p1 = some out) : Met l yX3_bit (.code yX3_bit cX3_bit 2 (some .int) :: lw_g) ({ frames := 0, cells := 0, slots := 0, locals := 0 }) (Pc0 [.int p0, .int p1]) (vp_Si (fun r_ => r_ = out)) 0 0 (fun _ => False) := by
  unfold f_X3_bit at hw
  refine Met.ofW (cc := cX3_bit) (maxL := 2) (ret := (some .int)) (by decide) rfl ?_
  intro p e s m args below meth c s₁ B hml hv
  obtain ⟨rfl, -⟩ := hv
  have hx := B.exec
  have hb := B.bytes
  have hr := B.returns
  have hts0 := atoms_spec (ws := (.code yX3_bit cX3_bit 2 (some .int) :: lw_g)) B.pre
  have hts : ∀ w ∈ lw_g, w.before (([.int p0, .int p1] : List Value).toArray) s = true := fun w h => hts0 w (List.mem_cons_of_mem _ h)
  clear hts0
  have hown : s.vm.findClass RX3 = some m.cls := findClass_of_methodNamed B.named
  have hlocks := B.notSynchronized
  have hret : ∀ (pc : Nat) (ls : Array Slot) (v : Int32), v = out → decode cX3_bit pc = .ok (.ireturn, 1) → W p l e ({ frames := 0, cells := 0, slots := 0, locals := 0 }) s m (([.int p0, .int p1] : List Value).toArray) below meth c s.heap [] 0 0 (MQ below (vp_Si (fun r_ => r_ = out)) (([.int p0, .int p1] : List Value).toArray) s 0 0 (fun _ => False)) (F0 m pc ls [.int v]) := fun pc ls v hv hd => W.iret hx hb hr (fun t ht hW => ⟨v, rfl, hv, ht⟩) (fun q hq => absurd hq List.not_mem_nil) hd
  show W p l e ({ frames := 0, cells := 0, slots := 0, locals := 0 }) s m (([.int p0, .int p1] : List Value).toArray) below meth c s.heap [] 0 0 (MQ below (vp_Si (fun r_ => r_ = out)) (([.int p0, .int p1] : List Value).toArray) s 0 0 (fun _ => False)) (entryFrame m (([.int p0, .int p1] : List Value).toArray) 2)
  generalize MQ below (vp_Si (fun r_ => r_ = out)) (([.int p0, .int p1] : List Value).toArray) s 0 0 (fun _ => False) = Q at hret ⊢
  have hl := lv_entry ([.int p0, .int p1]) (n := 2) (Nat.le_of_ble_eq_true rfl)
  rw [lg_entry_eq]
  generalize (lg_sl ([.int p0, .int p1]) ++ List.replicate (2 - (lg_sl ([.int p0, .int p1])).length) Slot.unset).toArray = ls at hl ⊢
  have hl : lv_has ls 2 [(0, .int p0), (1, .int p1)] := hl
  refine lv_iload_n hx hb dX3_bit_0 rfl (lv_at hl 0 rfl) ?_
  refine lv_iload_n hx hb dX3_bit_1 rfl (lv_at hl 1 rfl) ?_
  refine lv_ishr hx hb dX3_bit_2 ?_
  refine lv_iconst (v := 1) hx hb dX3_bit_3 (by decide) ?_
  refine lv_iand hx hb dX3_bit_4 ?_
  exact hret _ _ _ (Option.some.inj hw) dX3_bit_5
set_option maxHeartbeats 4000000 in
set_option maxRecDepth 100000 in
theorem c_X3_about (l : Launch) (dC : Nat → ClassId) (dI : Nat → Nat → Nat) (a : Nat → Nat) (cA : ClassId) (X : WS) (p1 : Int32) (p2 : Int32) (out : Int32) (hw : f_X3_about X p1 p2 = some out) : Met l yX3_about (.code yX3_about cX3_about 3 (some .int) :: lw_g) ({ frames := 1, cells := 0, slots := 0, locals := 21 }) (PcX dC dI a cA X [.ref (a 0), .int p1, .int p2]) (vp_Si (fun r_ => r_ = out)) 0 0 (fun _ => False) := by
  unfold f_X3_about at hw
  refine Met.ofW (cc := cX3_about) (maxL := 3) (ret := (some .int)) (by decide) rfl ?_
  intro p e s m args below meth c s₁ B hml hv
  obtain ⟨rfl, hP, hK, hN⟩ := hv
  have hx := B.exec
  have hb := B.bytes
  have hr := B.returns
  have hts0 := atoms_spec (ws := (.code yX3_about cX3_about 3 (some .int) :: lw_g)) B.pre
  have hts : ∀ w ∈ lw_g, w.before (([.ref (a 0), .int p1, .int p2] : List Value).toArray) s = true := fun w h => hts0 w (List.mem_cons_of_mem _ h)
  clear hts0
  have hown : s.vm.findClass RX3 = some m.cls := findClass_of_methodNamed B.named
  have hlocks := B.notSynchronized
  have hret : ∀ (pc : Nat) (ls : Array Slot) (v : Int32), v = out → decode cX3_about pc = .ok (.ireturn, 1) → W p l e ({ frames := 1, cells := 0, slots := 0, locals := 21 }) s m (([.ref (a 0), .int p1, .int p2] : List Value).toArray) below meth c s.heap [] 0 0 (MQ below (vp_Si (fun r_ => r_ = out)) (([.ref (a 0), .int p1, .int p2] : List Value).toArray) s 0 0 (fun _ => False)) (F0 m pc ls [.int v]) := fun pc ls v hv hd => W.iret hx hb hr (fun t ht hW => ⟨v, rfl, hv, ht⟩) (fun q hq => absurd hq List.not_mem_nil) hd
  show W p l e ({ frames := 1, cells := 0, slots := 0, locals := 21 }) s m (([.ref (a 0), .int p1, .int p2] : List Value).toArray) below meth c s.heap [] 0 0 (MQ below (vp_Si (fun r_ => r_ = out)) (([.ref (a 0), .int p1, .int p2] : List Value).toArray) s 0 0 (fun _ => False)) (entryFrame m (([.ref (a 0), .int p1, .int p2] : List Value).toArray) 3)
  generalize MQ below (vp_Si (fun r_ => r_ = out)) (([.ref (a 0), .int p1, .int p2] : List Value).toArray) s 0 0 (fun _ => False) = Q at hret ⊢
  have hl := lv_entry ([.ref (a 0), .int p1, .int p2]) (n := 3) (Nat.le_of_ble_eq_true rfl)
  rw [lg_entry_eq]
  generalize (lg_sl ([.ref (a 0), .int p1, .int p2]) ++ List.replicate (3 - (lg_sl ([.ref (a 0), .int p1, .int p2])).length) Slot.unset).toArray = ls at hl ⊢
  have hl : lv_has ls 3 [(0, .ref (a 0)), (1, .int p1), (2, .int p2)] := hl
  refine lv_aload_n hx hb dX3_about_0 rfl (lv_at hl 0 rfl) ?_
  refine lv_iload_n hx hb dX3_about_1 rfl (lv_at hl 1 rfl) ?_
  obtain ⟨r1, er1, hw⟩ := Option.bind_eq_some_iff.mp hw
  refine vp_callSi (va_runV (As := [.int p1]) (rest := []) ⟨hx, hb, hml, hown, hts⟩ (c_X3_isListener l dC dI a cA X p1 r1 er1) ⟨callB_of 1 hts gd_X3_isListener rfl rfl rfl (hts _ wd_35) (hts _ wd_286) hd_X3_isListener ⟨Nat.le_of_ble_eq_true rfl, Nat.le_of_ble_eq_true rfl⟩, hts _ wd_288, hts _ wd_2⟩ ⟨blX, va_recv hK hP (ci := 3) (q0 := 0) rfl rfl, fun U hU hW => ⟨rfl, by rw [hU]; exact hP, va_K.moved hW.alike hK, nst.warm hW hN⟩⟩ rfl rfl hl.1 rfl (lv_room (Nat.le_of_ble_eq_true rfl)) dX3_about_2 ⟨Nat.zero_le _, Nat.zero_le _⟩).run (fun r_ e_ => ?_)
  subst r_
  refine lv_if_ne (tgt := 11) hx hb dX3_about_5 (by decide) (fun c2 => ?_) (fun c2 => ?_)
  · have hw := ite_f hw c2
    refine lv_iload_n hx hb dX3_about_11 rfl (lv_at hl 2 rfl) ?_
    by_cases c3 : p2 = 0
    · have hw := ite_t hw c3
      refine lv_tableIn (off := 40) (tgt := 52) hx hb dX3_about_12 (by rw [c3]; decide) (by rw [c3]; decide) (by rw [c3]; rfl) (by decide) ?_
      refine lv_aload_n hx hb dX3_about_52 rfl (lv_at hl 0 rfl) ?_
      refine va_get (D := (dC, dI)) (ci := 3) (v := .ref (a 3)) (C := RX3) (T := TX3) (N := 6) hx hb hts iX3 hown hK hP 0 rfl rfl 1 (by decide) (hts _ wd_179) (fun _ h9 => h9) rfl dX3_about_53 ?_
      refine va_getN (D := (dC, dI)) (ci := 2) (v := .ref (a 5)) (C := RX2) (T := TX2) (N := 17) hx hb hts iX2 hown hK hP 3 rfl rfl 1 (by decide) (va_Nw.use rfl (hN _ nk_76)) (fun _ h9 => h9) rfl dX3_about_56 ?_
      refine lv_iload_n hx hb dX3_about_59 rfl (lv_at hl 1 rfl) ?_
      obtain ⟨h4, hw⟩ := ixc_use hw
      refine va_iald hx hb hK hP 5 0 rfl rfl h4 dX3_about_60 ?_
      exact hret _ _ _ (Option.some.inj hw) dX3_about_61
    have hw := ite_f hw c3
    by_cases c5 : p2 = 1
    · have hw := ite_t hw c5
      refine lv_tableIn (off := 50) (tgt := 62) hx hb dX3_about_12 (by rw [c5]; decide) (by rw [c5]; decide) (by rw [c5]; rfl) (by decide) ?_
      refine lv_aload_n hx hb dX3_about_62 rfl (lv_at hl 0 rfl) ?_
      refine va_get (D := (dC, dI)) (ci := 3) (v := .ref (a 3)) (C := RX3) (T := TX3) (N := 6) hx hb hts iX3 hown hK hP 0 rfl rfl 1 (by decide) (hts _ wd_179) (fun _ h9 => h9) rfl dX3_about_63 ?_
      refine va_getN (D := (dC, dI)) (ci := 2) (v := .ref (a 8)) (C := RX2) (T := TX2) (N := 17) hx hb hts iX2 hown hK hP 3 rfl rfl 4 (by decide) (va_Nw.use rfl (hN _ nk_82)) (fun _ h9 => h9) rfl dX3_about_66 ?_
      refine lv_iload_n hx hb dX3_about_69 rfl (lv_at hl 1 rfl) ?_
      obtain ⟨h6, hw⟩ := ixc_use hw
      refine va_iald hx hb hK hP 8 0 rfl rfl h6 dX3_about_70 ?_
      exact hret _ _ _ (Option.some.inj hw) dX3_about_71
    have hw := ite_f hw c5
    by_cases c7 : p2 = 2
    · have hw := ite_t hw c7
      refine lv_tableIn (off := 60) (tgt := 72) hx hb dX3_about_12 (by rw [c7]; decide) (by rw [c7]; decide) (by rw [c7]; rfl) (by decide) ?_
      refine lv_aload_n hx hb dX3_about_72 rfl (lv_at hl 0 rfl) ?_
      refine va_get (D := (dC, dI)) (ci := 3) (v := .ref (a 3)) (C := RX3) (T := TX3) (N := 6) hx hb hts iX3 hown hK hP 0 rfl rfl 1 (by decide) (hts _ wd_179) (fun _ h9 => h9) rfl dX3_about_73 ?_
      refine lv_aload_n hx hb dX3_about_76 rfl (lv_at hl 0 rfl) ?_
      refine va_get (D := (dC, dI)) (ci := 3) (v := .ref (a 3)) (C := RX3) (T := TX3) (N := 6) hx hb hts iX3 hown hK hP 0 rfl rfl 1 (by decide) (hts _ wd_179) (fun _ h9 => h9) rfl dX3_about_77 ?_
      refine va_getN (D := (dC, dI)) (ci := 2) (v := .int (X 3 7)) (C := RX2) (T := TX2) (N := 17) hx hb hts iX2 hown hK hP 3 rfl rfl 7 (by decide) (va_Nw.use rfl (hN _ nk_88)) (fun _ h9 => h9) rfl dX3_about_80 ?_
      obtain ⟨r8, er8, hw⟩ := Option.bind_eq_some_iff.mp hw
      refine vp_callSi (va_runV (As := [.int (X 3 7)]) (rest := []) ⟨hx, hb, hml, hown, hts⟩ (c_X2_knowing l dC dI a cA X (X 3 7) r8 er8) ⟨callB_of 1 hts gd_X2_knowing rfl rfl rfl (hts _ wd_37) (hts _ wd_290) hd_X2_knowing ⟨Nat.le_of_ble_eq_true rfl, Nat.le_of_ble_eq_true rfl⟩, hts _ wd_291, hts _ wd_292⟩ ⟨blX, va_recv hK hP (ci := 2) (q0 := 3) rfl rfl, fun U hU hW => ⟨rfl, by rw [hU]; exact hP, va_K.moved hW.alike hK, nst.warm hW hN⟩⟩ rfl rfl hl.1 rfl (lv_room (Nat.le_of_ble_eq_true rfl)) dX3_about_83 ⟨Nat.zero_le _, Nat.zero_le _⟩).run (fun r_ e_ => ?_)
      subst r_
      refine lv_iload_n hx hb dX3_about_86 rfl (lv_at hl 1 rfl) ?_
      obtain ⟨r9, er9, hw⟩ := Option.bind_eq_some_iff.mp hw
      refine vp_callSi (va_runS (As := [.int r8, .int p1]) (rest := []) ⟨hx, hb, hml, hown, hts⟩ (c_X3_bit l r8 p1 r9 er9) ⟨callB_of 2 hts gd_X3_bit rfl rfl rfl (hts _ wd_35) (hts _ wd_294) hd_X3_bit ⟨Nat.le_of_ble_eq_true rfl, Nat.le_of_ble_eq_true rfl⟩, hts _ wd_295⟩ ⟨bl0, fun U hU hW => ⟨rfl, trivial⟩⟩ rfl rfl hl.1 rfl (lv_room (Nat.le_of_ble_eq_true rfl)) dX3_about_87 ⟨Nat.zero_le _, Nat.zero_le _⟩).run (fun r_ e_ => ?_)
      subst r_
      exact hret _ _ _ (Option.some.inj hw) dX3_about_90
    have hw := ite_f hw c7
    by_cases c10 : p2 = 3
    · have hw := ite_t hw c10
      refine lv_tableIn (off := 79) (tgt := 91) hx hb dX3_about_12 (by rw [c10]; decide) (by rw [c10]; decide) (by rw [c10]; rfl) (by decide) ?_
      refine lv_aload_n hx hb dX3_about_91 rfl (lv_at hl 0 rfl) ?_
      refine va_get (D := (dC, dI)) (ci := 3) (v := .ref (a 3)) (C := RX3) (T := TX3) (N := 6) hx hb hts iX3 hown hK hP 0 rfl rfl 1 (by decide) (hts _ wd_179) (fun _ h9 => h9) rfl dX3_about_92 ?_
      refine va_getN (D := (dC, dI)) (ci := 2) (v := .int (X 3 7)) (C := RX2) (T := TX2) (N := 17) hx hb hts iX2 hown hK hP 3 rfl rfl 7 (by decide) (va_Nw.use rfl (hN _ nk_88)) (fun _ h9 => h9) rfl dX3_about_95 ?_
      refine lv_iload_n hx hb dX3_about_98 rfl (lv_at hl 1 rfl) ?_
      obtain ⟨r11, er11, hw⟩ := Option.bind_eq_some_iff.mp hw
      refine vp_callSi (va_runS (As := [.int (X 3 7), .int p1]) (rest := []) ⟨hx, hb, hml, hown, hts⟩ (c_X3_bit l (X 3 7) p1 r11 er11) ⟨callB_of 2 hts gd_X3_bit rfl rfl rfl (hts _ wd_35) (hts _ wd_294) hd_X3_bit ⟨Nat.le_of_ble_eq_true rfl, Nat.le_of_ble_eq_true rfl⟩, hts _ wd_295⟩ ⟨bl0, fun U hU hW => ⟨rfl, trivial⟩⟩ rfl rfl hl.1 rfl (lv_room (Nat.le_of_ble_eq_true rfl)) dX3_about_99 ⟨Nat.zero_le _, Nat.zero_le _⟩).run (fun r_ e_ => ?_)
      subst r_
      exact hret _ _ _ (Option.some.inj hw) dX3_about_102
    have hw := ite_f hw c10
    by_cases c12 : p2 = 4
    · have hw := ite_t hw c12
      refine lv_tableIn (off := 91) (tgt := 103) hx hb dX3_about_12 (by rw [c12]; decide) (by rw [c12]; decide) (by rw [c12]; rfl) (by decide) ?_
      refine lv_aload_n hx hb dX3_about_103 rfl (lv_at hl 0 rfl) ?_
      refine va_get (D := (dC, dI)) (ci := 3) (v := .ref (a 3)) (C := RX3) (T := TX3) (N := 6) hx hb hts iX3 hown hK hP 0 rfl rfl 1 (by decide) (hts _ wd_179) (fun _ h9 => h9) rfl dX3_about_104 ?_
      refine va_getN (D := (dC, dI)) (ci := 2) (v := .ref (a 6)) (C := RX2) (T := TX2) (N := 17) hx hb hts iX2 hown hK hP 3 rfl rfl 2 (by decide) (va_Nw.use rfl (hN _ nk_78)) (fun _ h9 => h9) rfl dX3_about_107 ?_
      refine lv_iload_n hx hb dX3_about_110 rfl (lv_at hl 1 rfl) ?_
      obtain ⟨h13, hw⟩ := ixc_use hw
      refine va_iald hx hb hK hP 6 0 rfl rfl h13 dX3_about_111 ?_
      exact hret _ _ _ (Option.some.inj hw) dX3_about_112
    have hw := ite_f hw c12
    by_cases c14 : p2 = 5
    · have hw := ite_t hw c14
      refine lv_tableIn (off := 101) (tgt := 113) hx hb dX3_about_12 (by rw [c14]; decide) (by rw [c14]; decide) (by rw [c14]; rfl) (by decide) ?_
      refine lv_aload_n hx hb dX3_about_113 rfl (lv_at hl 0 rfl) ?_
      refine va_get (D := (dC, dI)) (ci := 3) (v := .ref (a 3)) (C := RX3) (T := TX3) (N := 6) hx hb hts iX3 hown hK hP 0 rfl rfl 1 (by decide) (hts _ wd_179) (fun _ h9 => h9) rfl dX3_about_114 ?_
      refine va_getN (D := (dC, dI)) (ci := 2) (v := .ref (a 7)) (C := RX2) (T := TX2) (N := 17) hx hb hts iX2 hown hK hP 3 rfl rfl 3 (by decide) (va_Nw.use rfl (hN _ nk_80)) (fun _ h9 => h9) rfl dX3_about_117 ?_
      refine lv_iload_n hx hb dX3_about_120 rfl (lv_at hl 1 rfl) ?_
      obtain ⟨h15, hw⟩ := ixc_use hw
      refine va_iald hx hb hK hP 7 0 rfl rfl h15 dX3_about_121 ?_
      exact hret _ _ _ (Option.some.inj hw) dX3_about_122
    have hw := ite_f hw c14
    refine lv_tableOut (tgt := 123) hx hb dX3_about_12 (by have qc3 := i32_ne c3 (z := 0) (by decide); have qc5 := i32_ne c5 (z := 1) (by decide); have qc7 := i32_ne c7 (z := 2) (by decide); have qc10 := i32_ne c10 (z := 3) (by decide); have qc12 := i32_ne c12 (z := 4) (by decide); have qc14 := i32_ne c14 (z := 5) (by decide); omega) (by decide) ?_
    refine lv_bipush (v := (-102)) hx hb dX3_about_123 (by decide) ?_
    exact hret _ _ _ (Option.some.inj hw) dX3_about_125
  · have hw := ite_t hw c2
    refine lv_bipush (v := (-101)) hx hb dX3_about_8 (by decide) ?_
    exact hret _ _ _ (Option.some.inj hw) dX3_about_10
set_option maxHeartbeats 4000000 in
set_option maxRecDepth 100000 in
theorem c_X4_isListener (l : Launch) (dC : Nat → ClassId) (dI : Nat → Nat → Nat) (a : Nat → Nat) (cA : ClassId) (X : MS) (p1 : Int32) (out : Int32) (hw : f_X4_isListener X p1 = some out) : Met l yX4_isListener (.code yX4_isListener cX4_isListener 2 (some .boolean) :: lw_g) ({ frames := 1, cells := 0, slots := 0, locals := 25 }) (PcM dC dI a cA X [.ref (a 0), .int p1]) (vp_Si (fun r_ => r_ = out)) 0 0 (fun _ => False) := by
  unfold f_X4_isListener at hw
  refine Met.ofW (cc := cX4_isListener) (maxL := 2) (ret := (some .boolean)) (by decide) rfl ?_
  intro p e s m args below meth c s₁ B hml hv
  obtain ⟨rfl, hP, hK⟩ := hv
  have hx := B.exec
  have hb := B.bytes
  have hr := B.returns
  have hts0 := atoms_spec (ws := (.code yX4_isListener cX4_isListener 2 (some .boolean) :: lw_g)) B.pre
  have hts : ∀ w ∈ lw_g, w.before (([.ref (a 0), .int p1] : List Value).toArray) s = true := fun w h => hts0 w (List.mem_cons_of_mem _ h)
  clear hts0
  have hown : s.vm.findClass RX4 = some m.cls := findClass_of_methodNamed B.named
  have hlocks := B.notSynchronized
  have hret : ∀ (pc : Nat) (ls : Array Slot) (v : Int32), v = out → (hz : narrow .boolean (.int v) = .int v) → decode cX4_isListener pc = .ok (.ireturn, 1) → W p l e ({ frames := 1, cells := 0, slots := 0, locals := 25 }) s m (([.ref (a 0), .int p1] : List Value).toArray) below meth c s.heap [] 0 0 (MQ below (vp_Si (fun r_ => r_ = out)) (([.ref (a 0), .int p1] : List Value).toArray) s 0 0 (fun _ => False)) (F0 m pc ls [.int v]) := fun pc ls v hv hz hd => W.zret hx hb hr hz (fun t ht hW => ⟨v, rfl, hv, ht⟩) (fun q hq => absurd hq List.not_mem_nil) hd
  show W p l e ({ frames := 1, cells := 0, slots := 0, locals := 25 }) s m (([.ref (a 0), .int p1] : List Value).toArray) below meth c s.heap [] 0 0 (MQ below (vp_Si (fun r_ => r_ = out)) (([.ref (a 0), .int p1] : List Value).toArray) s 0 0 (fun _ => False)) (entryFrame m (([.ref (a 0), .int p1] : List Value).toArray) 2)
  generalize MQ below (vp_Si (fun r_ => r_ = out)) (([.ref (a 0), .int p1] : List Value).toArray) s 0 0 (fun _ => False) = Q at hret ⊢
  have hl := lv_entry ([.ref (a 0), .int p1]) (n := 2) (Nat.le_of_ble_eq_true rfl)
  rw [lg_entry_eq]
  generalize (lg_sl ([.ref (a 0), .int p1]) ++ List.replicate (2 - (lg_sl ([.ref (a 0), .int p1])).length) Slot.unset).toArray = ls at hl ⊢
  have hl : lv_has ls 2 [(0, .ref (a 0)), (1, .int p1)] := hl
  refine lv_iload_n hx hb dX4_isListener_0 rfl (lv_at hl 1 rfl) ?_
  refine lv_i2l hx hb dX4_isListener_1 rfl ?_
  refine lv_lconst (v := 0) hx hb dX4_isListener_2 (by decide) ?_
  refine lv_aload_n hx hb dX4_isListener_3 rfl (lv_at hl 0 rfl) ?_
  refine va_get (D := (dC, dI)) (ci := 4) (v := .int (X.1 0 11)) (C := RX4) (T := TX4) (N := 29) hx hb hts iX4 hown hK hP 0 rfl rfl 11 (by decide) (hts _ wd_533) (fun _ h9 => h9) rfl dX4_isListener_4 ?_
  refine lv_iconst (v := 1) hx hb dX4_isListener_7 (by decide) ?_
  refine lv_isub hx hb dX4_isListener_8 ?_
  refine lv_i2l hx hb dX4_isListener_9 rfl ?_
  obtain ⟨r1, er1, hw⟩ := Option.bind_eq_some_iff.mp hw
  refine vp_callSi (va_runS (As := [.long (Int32.toInt64 p1), .long 0, .long (Int32.toInt64 ((X.1 0 11) - 1))]) (rest := []) ⟨hx, hb, hml, hown, hts⟩ (c_X4_in l (Int32.toInt64 p1) 0 (Int32.toInt64 ((X.1 0 11) - 1)) r1 er1) ⟨callB_of 3 hts gd_X4_in rfl rfl rfl (hts _ wd_39) (hts _ wd_615) hd_X4_in ⟨Nat.le_of_ble_eq_true rfl, Nat.le_of_ble_eq_true rfl⟩, hts _ wd_616⟩ ⟨bl0, fun U hU hW => ⟨rfl, trivial⟩⟩ rfl rfl hl.1 rfl (lv_room (Nat.le_of_ble_eq_true rfl)) dX4_isListener_10 ⟨Nat.zero_le _, Nat.zero_le _⟩).run (fun r_ e_ => ?_)
  subst r_
  obtain ⟨hz_, hw⟩ := zck_use hw
  exact hret _ _ _ (Option.some.inj hw) (nz hz_) dX4_isListener_13
set_option maxHeartbeats 4000000 in
set_option maxRecDepth 100000 in
theorem c_X4_knowing (l : Launch) (dC : Nat → ClassId) (dI : Nat → Nat → Nat) (a : Nat → Nat) (cA : ClassId) (X : MS) (p1 : Int32) (out : Int32) (hw : f_X4_knowing X p1 = some out) : Met l yX4_knowing (.code yX4_knowing cX4_knowing 4 (some .int) :: lw_g) ({ frames := 0, cells := 0, slots := 0, locals := 0 }) (PcM dC dI a cA X [.ref (a 0), .int p1]) (vp_Si (fun r_ => r_ = out)) 0 0 (fun _ => False) := by
  unfold f_X4_knowing at hw
  refine Met.ofW (cc := cX4_knowing) (maxL := 4) (ret := (some .int)) (by decide) rfl ?_
  intro p e s m args below meth c s₁ B hml hv
  obtain ⟨rfl, hP, hK⟩ := hv
  have hx := B.exec
  have hb := B.bytes
  have hr := B.returns
  have hts0 := atoms_spec (ws := (.code yX4_knowing cX4_knowing 4 (some .int) :: lw_g)) B.pre
  have hts : ∀ w ∈ lw_g, w.before (([.ref (a 0), .int p1] : List Value).toArray) s = true := fun w h => hts0 w (List.mem_cons_of_mem _ h)
  clear hts0
  have hown : s.vm.findClass RX4 = some m.cls := findClass_of_methodNamed B.named
  have hlocks := B.notSynchronized
  have hret : ∀ (pc : Nat) (ls : Array Slot) (v : Int32), v = out → decode cX4_knowing pc = .ok (.ireturn, 1) → W p l e ({ frames := 0, cells := 0, slots := 0, locals := 0 }) s m (([.ref (a 0), .int p1] : List Value).toArray) below meth c s.heap [] 0 0 (MQ below (vp_Si (fun r_ => r_ = out)) (([.ref (a 0), .int p1] : List Value).toArray) s 0 0 (fun _ => False)) (F0 m pc ls [.int v]) := fun pc ls v hv hd => W.iret hx hb hr (fun t ht hW => ⟨v, rfl, hv, ht⟩) (fun q hq => absurd hq List.not_mem_nil) hd
  show W p l e ({ frames := 0, cells := 0, slots := 0, locals := 0 }) s m (([.ref (a 0), .int p1] : List Value).toArray) below meth c s.heap [] 0 0 (MQ below (vp_Si (fun r_ => r_ = out)) (([.ref (a 0), .int p1] : List Value).toArray) s 0 0 (fun _ => False)) (entryFrame m (([.ref (a 0), .int p1] : List Value).toArray) 4)
  generalize MQ below (vp_Si (fun r_ => r_ = out)) (([.ref (a 0), .int p1] : List Value).toArray) s 0 0 (fun _ => False) = Q at hret ⊢
  have L4 : ∀ (v1 : Int32), ∀ n : Nat, ∀ (v2 : Int32), ∀ (v3 : Int32), g_X4_knowing_4 X v1 n v2 v3 = some out → ∀ ls : Array Slot, lv_has ls 4 [(0, .ref (a 0)), (1, .int v1), (2, .int v2), (3, .int v3)] → W p l e ({ frames := 0, cells := 0, slots := 0, locals := 0 }) s m (([.ref (a 0), .int p1] : List Value).toArray) below meth c s.heap [] 0 0 Q (F0 m 4 ls []) := by
    intro v1 n
    induction n with
    | zero =>
      intro v2 v3 hw
      rw [g_X4_knowing_4] at hw
      cases hw
    | succ n ih =>
      intro v2 v3 hw ls hl
      rw [g_X4_knowing_4] at hw
      refine lv_iload_n hx hb dX4_knowing_4 rfl (lv_at hl 3 rfl) ?_
      refine lv_aload_n hx hb dX4_knowing_5 rfl (lv_at hl 0 rfl) ?_
      refine va_get (D := (dC, dI)) (ci := 4) (v := .int (X.1 0 11)) (C := RX4) (T := TX4) (N := 29) hx hb hts iX4 hown hK hP 0 rfl rfl 11 (by decide) (hts _ wd_533) (fun _ h9 => h9) rfl dX4_knowing_6 ?_
      refine lv_icmp_ge (tgt := 42) hx hb dX4_knowing_9 (by decide) (fun c1 => ?_) (fun c1 => ?_)
      · have hw := ite_t hw c1
        refine lv_iload_n hx hb dX4_knowing_42 rfl (lv_at hl 2 rfl) ?_
        exact hret _ _ _ (Option.some.inj hw) dX4_knowing_43
      · have hw := ite_f hw c1
        refine lv_iload_n hx hb dX4_knowing_12 rfl (lv_at hl 2 rfl) ?_
        refine lv_aload_n hx hb dX4_knowing_13 rfl (lv_at hl 0 rfl) ?_
        refine va_get (D := (dC, dI)) (ci := 4) (v := .ref (a 3)) (C := RX4) (T := TX4) (N := 29) hx hb hts iX4 hown hK hP 0 rfl rfl 12 (by decide) (hts _ wd_534) (fun _ h9 => h9) rfl dX4_knowing_14 ?_
        refine lv_iconst (v := 2) hx hb dX4_knowing_17 (by decide) ?_
        refine lv_iload_n hx hb dX4_knowing_18 rfl (lv_at hl 3 rfl) ?_
        refine lv_imul hx hb dX4_knowing_19 ?_
        obtain ⟨h2, hw⟩ := ixc_use hw
        refine va_iald hx hb hK hP 3 0 rfl rfl h2 dX4_knowing_20 ?_
        refine lv_iconst (v := 2) hx hb dX4_knowing_21 (by decide) ?_
        refine lv_icmp_ne (tgt := 29) hx hb dX4_knowing_22 (by decide) (fun c3 => ?_) (fun c3 => ?_)
        · have hw := ite_f hw c3
          refine lv_iload_n hx hb dX4_knowing_29 rfl (lv_at hl 1 rfl) ?_
          refine lv_iconst (v := 1) hx hb dX4_knowing_30 (by decide) ?_
          refine lv_iload_n hx hb dX4_knowing_31 rfl (lv_at hl 3 rfl) ?_
          refine lv_ishl hx hb dX4_knowing_32 ?_
          refine lv_iand hx hb dX4_knowing_33 ?_
          refine lv_ior hx hb dX4_knowing_34 ?_
          refine lv_topi (fun x4 ex4 => ?_)
          have hw := stp_use hw ex4
          refine lv_istore_n (lv' := [(2, .int x4), (0, .ref (a 0)), (1, .int v1), (3, .int v3)]) hx hb dX4_knowing_35 rfl hl (by decide) rfl (fun ls hl => ?_)
          obtain ⟨x5, ex5⟩ : ∃ y : Int32, y = (v3 + 1) := ⟨_, rfl⟩
          have hw := stp_use hw ex5
          refine lv_iinc (v := x5) (lv' := [(3, .int x5), (2, .int x4), (0, .ref (a 0)), (1, .int v1)]) hx hb dX4_knowing_36 hl (k := 3) rfl (by rw [ex5]; rfl) (by decide) rfl (fun ls hl => ?_)
          refine lv_goto (tgt := 4) hx hb dX4_knowing_39 (by decide) ?_
          exact ih x4 x5 hw ls (lv_sub hl [2, 3, 1, 0] rfl)
        · have hw := ite_t hw c3
          refine lv_iconst (v := 0) hx hb dX4_knowing_25 (by decide) ?_
          refine lv_goto (tgt := 34) hx hb dX4_knowing_26 (by decide) ?_
          refine lv_ior hx hb dX4_knowing_34 ?_
          refine lv_topi (fun x6 ex6 => ?_)
          have hw := stp_use hw ex6
          refine lv_istore_n (lv' := [(2, .int x6), (0, .ref (a 0)), (1, .int v1), (3, .int v3)]) hx hb dX4_knowing_35 rfl hl (by decide) rfl (fun ls hl => ?_)
          obtain ⟨x7, ex7⟩ : ∃ y : Int32, y = (v3 + 1) := ⟨_, rfl⟩
          have hw := stp_use hw ex7
          refine lv_iinc (v := x7) (lv' := [(3, .int x7), (2, .int x6), (0, .ref (a 0)), (1, .int v1)]) hx hb dX4_knowing_36 hl (k := 3) rfl (by rw [ex7]; rfl) (by decide) rfl (fun ls hl => ?_)
          refine lv_goto (tgt := 4) hx hb dX4_knowing_39 (by decide) ?_
          exact ih x6 x7 hw ls (lv_sub hl [2, 3, 1, 0] rfl)
  have hl := lv_entry ([.ref (a 0), .int p1]) (n := 4) (Nat.le_of_ble_eq_true rfl)
  rw [lg_entry_eq]
  generalize (lg_sl ([.ref (a 0), .int p1]) ++ List.replicate (4 - (lg_sl ([.ref (a 0), .int p1])).length) Slot.unset).toArray = ls at hl ⊢
  have hl : lv_has ls 4 [(0, .ref (a 0)), (1, .int p1)] := hl
  refine lv_iconst (v := 0) hx hb dX4_knowing_0 (by decide) ?_
  refine lv_istore_n (lv' := [(2, .int 0), (0, .ref (a 0)), (1, .int p1)]) hx hb dX4_knowing_1 rfl hl (by decide) rfl (fun ls hl => ?_)
  refine lv_iconst (v := 0) hx hb dX4_knowing_2 (by decide) ?_
  refine lv_istore_n (lv' := [(3, .int 0), (2, .int 0), (0, .ref (a 0)), (1, .int p1)]) hx hb dX4_knowing_3 rfl hl (by decide) rfl (fun ls hl => ?_)
  exact L4 p1 NF 0 0 hw ls (lv_sub hl [2, 3, 1, 0] rfl)
set_option maxHeartbeats 4000000 in
set_option maxRecDepth 100000 in
theorem c_X4_needsOf (l : Launch) (dC : Nat → ClassId) (dI : Nat → Nat → Nat) (a : Nat → Nat) (cA : ClassId) (X : MS) (p1 : Int32) (out : Int32) (hw : f_X4_needsOf X p1 = some out) : Met l yX4_needsOf (.code yX4_needsOf cX4_needsOf 2 (some .int) :: lw_g) ({ frames := 0, cells := 0, slots := 0, locals := 0 }) (PcM dC dI a cA X [.ref (a 0), .int p1]) (vp_Si (fun r_ => r_ = out)) 0 0 (fun _ => False) := by
  unfold f_X4_needsOf at hw
  refine Met.ofW (cc := cX4_needsOf) (maxL := 2) (ret := (some .int)) (by decide) rfl ?_
  intro p e s m args below meth c s₁ B hml hv
  obtain ⟨rfl, hP, hK⟩ := hv
  have hx := B.exec
  have hb := B.bytes
  have hr := B.returns
  have hts0 := atoms_spec (ws := (.code yX4_needsOf cX4_needsOf 2 (some .int) :: lw_g)) B.pre
  have hts : ∀ w ∈ lw_g, w.before (([.ref (a 0), .int p1] : List Value).toArray) s = true := fun w h => hts0 w (List.mem_cons_of_mem _ h)
  clear hts0
  have hown : s.vm.findClass RX4 = some m.cls := findClass_of_methodNamed B.named
  have hlocks := B.notSynchronized
  have hret : ∀ (pc : Nat) (ls : Array Slot) (v : Int32), v = out → decode cX4_needsOf pc = .ok (.ireturn, 1) → W p l e ({ frames := 0, cells := 0, slots := 0, locals := 0 }) s m (([.ref (a 0), .int p1] : List Value).toArray) below meth c s.heap [] 0 0 (MQ below (vp_Si (fun r_ => r_ = out)) (([.ref (a 0), .int p1] : List Value).toArray) s 0 0 (fun _ => False)) (F0 m pc ls [.int v]) := fun pc ls v hv hd => W.iret hx hb hr (fun t ht hW => ⟨v, rfl, hv, ht⟩) (fun q hq => absurd hq List.not_mem_nil) hd
  show W p l e ({ frames := 0, cells := 0, slots := 0, locals := 0 }) s m (([.ref (a 0), .int p1] : List Value).toArray) below meth c s.heap [] 0 0 (MQ below (vp_Si (fun r_ => r_ = out)) (([.ref (a 0), .int p1] : List Value).toArray) s 0 0 (fun _ => False)) (entryFrame m (([.ref (a 0), .int p1] : List Value).toArray) 2)
  generalize MQ below (vp_Si (fun r_ => r_ = out)) (([.ref (a 0), .int p1] : List Value).toArray) s 0 0 (fun _ => False) = Q at hret ⊢
  have hl := lv_entry ([.ref (a 0), .int p1]) (n := 2) (Nat.le_of_ble_eq_true rfl)
  rw [lg_entry_eq]
  generalize (lg_sl ([.ref (a 0), .int p1]) ++ List.replicate (2 - (lg_sl ([.ref (a 0), .int p1])).length) Slot.unset).toArray = ls at hl ⊢
  have hl : lv_has ls 2 [(0, .ref (a 0)), (1, .int p1)] := hl
  refine lv_aload_n hx hb dX4_needsOf_0 rfl (lv_at hl 0 rfl) ?_
  refine va_get (D := (dC, dI)) (ci := 4) (v := .ref (a 3)) (C := RX4) (T := TX4) (N := 29) hx hb hts iX4 hown hK hP 0 rfl rfl 12 (by decide) (hts _ wd_534) (fun _ h9 => h9) rfl dX4_needsOf_1 ?_
  refine lv_iconst (v := 2) hx hb dX4_needsOf_4 (by decide) ?_
  refine lv_iload_n hx hb dX4_needsOf_5 rfl (lv_at hl 1 rfl) ?_
  refine lv_imul hx hb dX4_needsOf_6 ?_
  obtain ⟨h1, hw⟩ := ixc_use hw
  refine va_iald hx hb hK hP 3 0 rfl rfl h1 dX4_needsOf_7 ?_
  refine lv_iconst (v := 1) hx hb dX4_needsOf_8 (by decide) ?_
  refine lv_icmp_ne (tgt := 16) hx hb dX4_needsOf_9 (by decide) (fun c2 => ?_) (fun c2 => ?_)
  · have hw := ite_f hw c2
    refine lv_aload_n hx hb dX4_needsOf_16 rfl (lv_at hl 0 rfl) ?_
    refine va_get (D := (dC, dI)) (ci := 4) (v := .ref (a 3)) (C := RX4) (T := TX4) (N := 29) hx hb hts iX4 hown hK hP 0 rfl rfl 12 (by decide) (hts _ wd_534) (fun _ h9 => h9) rfl dX4_needsOf_17 ?_
    refine lv_iconst (v := 2) hx hb dX4_needsOf_20 (by decide) ?_
    refine lv_iload_n hx hb dX4_needsOf_21 rfl (lv_at hl 1 rfl) ?_
    refine lv_imul hx hb dX4_needsOf_22 ?_
    obtain ⟨h3, hw⟩ := ixc_use hw
    refine va_iald hx hb hK hP 3 0 rfl rfl h3 dX4_needsOf_23 ?_
    refine lv_iconst (v := 2) hx hb dX4_needsOf_24 (by decide) ?_
    refine lv_icmp_ne (tgt := 32) hx hb dX4_needsOf_25 (by decide) (fun c4 => ?_) (fun c4 => ?_)
    · have hw := ite_f hw c4
      refine lv_iconst (v := 1) hx hb dX4_needsOf_32 (by decide) ?_
      exact hret _ _ _ (Option.some.inj hw) dX4_needsOf_33
    · have hw := ite_t hw c4
      refine lv_iconst (v := 3) hx hb dX4_needsOf_28 (by decide) ?_
      refine lv_goto (tgt := 33) hx hb dX4_needsOf_29 (by decide) ?_
      exact hret _ _ _ (Option.some.inj hw) dX4_needsOf_33
  · have hw := ite_t hw c2
    refine lv_iconst (v := 5) hx hb dX4_needsOf_12 (by decide) ?_
    refine lv_goto (tgt := 33) hx hb dX4_needsOf_13 (by decide) ?_
    exact hret _ _ _ (Option.some.inj hw) dX4_needsOf_33
set_option maxHeartbeats 4000000 in
set_option maxRecDepth 100000 in
theorem c_X4_criesOf (l : Launch) (dC : Nat → ClassId) (dI : Nat → Nat → Nat) (a : Nat → Nat) (cA : ClassId) (X : MS) (p1 : Int32) (out : Int32) (hw : f_X4_criesOf X p1 = some out) : Met l yX4_criesOf (.code yX4_criesOf cX4_criesOf 2 (some .int) :: lw_g) ({ frames := 0, cells := 0, slots := 0, locals := 0 }) (PcM dC dI a cA X [.ref (a 0), .int p1]) (vp_Si (fun r_ => r_ = out)) 0 0 (fun _ => False) := by
  unfold f_X4_criesOf at hw
  refine Met.ofW (cc := cX4_criesOf) (maxL := 2) (ret := (some .int)) (by decide) rfl ?_
  intro p e s m args below meth c s₁ B hml hv
  obtain ⟨rfl, hP, hK⟩ := hv
  have hx := B.exec
  have hb := B.bytes
  have hr := B.returns
  have hts0 := atoms_spec (ws := (.code yX4_criesOf cX4_criesOf 2 (some .int) :: lw_g)) B.pre
  have hts : ∀ w ∈ lw_g, w.before (([.ref (a 0), .int p1] : List Value).toArray) s = true := fun w h => hts0 w (List.mem_cons_of_mem _ h)
  clear hts0
  have hown : s.vm.findClass RX4 = some m.cls := findClass_of_methodNamed B.named
  have hlocks := B.notSynchronized
  have hret : ∀ (pc : Nat) (ls : Array Slot) (v : Int32), v = out → decode cX4_criesOf pc = .ok (.ireturn, 1) → W p l e ({ frames := 0, cells := 0, slots := 0, locals := 0 }) s m (([.ref (a 0), .int p1] : List Value).toArray) below meth c s.heap [] 0 0 (MQ below (vp_Si (fun r_ => r_ = out)) (([.ref (a 0), .int p1] : List Value).toArray) s 0 0 (fun _ => False)) (F0 m pc ls [.int v]) := fun pc ls v hv hd => W.iret hx hb hr (fun t ht hW => ⟨v, rfl, hv, ht⟩) (fun q hq => absurd hq List.not_mem_nil) hd
  show W p l e ({ frames := 0, cells := 0, slots := 0, locals := 0 }) s m (([.ref (a 0), .int p1] : List Value).toArray) below meth c s.heap [] 0 0 (MQ below (vp_Si (fun r_ => r_ = out)) (([.ref (a 0), .int p1] : List Value).toArray) s 0 0 (fun _ => False)) (entryFrame m (([.ref (a 0), .int p1] : List Value).toArray) 2)
  generalize MQ below (vp_Si (fun r_ => r_ = out)) (([.ref (a 0), .int p1] : List Value).toArray) s 0 0 (fun _ => False) = Q at hret ⊢
  have hl := lv_entry ([.ref (a 0), .int p1]) (n := 2) (Nat.le_of_ble_eq_true rfl)
  rw [lg_entry_eq]
  generalize (lg_sl ([.ref (a 0), .int p1]) ++ List.replicate (2 - (lg_sl ([.ref (a 0), .int p1])).length) Slot.unset).toArray = ls at hl ⊢
  have hl : lv_has ls 2 [(0, .ref (a 0)), (1, .int p1)] := hl
  refine lv_aload_n hx hb dX4_criesOf_0 rfl (lv_at hl 0 rfl) ?_
  refine va_get (D := (dC, dI)) (ci := 4) (v := .ref (a 3)) (C := RX4) (T := TX4) (N := 29) hx hb hts iX4 hown hK hP 0 rfl rfl 12 (by decide) (hts _ wd_534) (fun _ h9 => h9) rfl dX4_criesOf_1 ?_
  refine lv_iconst (v := 2) hx hb dX4_criesOf_4 (by decide) ?_
  refine lv_iload_n hx hb dX4_criesOf_5 rfl (lv_at hl 1 rfl) ?_
  refine lv_imul hx hb dX4_criesOf_6 ?_
  obtain ⟨h1, hw⟩ := ixc_use hw
  refine va_iald hx hb hK hP 3 0 rfl rfl h1 dX4_criesOf_7 ?_
  refine lv_iconst (v := 3) hx hb dX4_criesOf_8 (by decide) ?_
  refine lv_icmp_ne (tgt := 16) hx hb dX4_criesOf_9 (by decide) (fun c2 => ?_) (fun c2 => ?_)
  · have hw := ite_f hw c2
    refine lv_aload_n hx hb dX4_criesOf_16 rfl (lv_at hl 0 rfl) ?_
    refine va_get (D := (dC, dI)) (ci := 4) (v := .ref (a 3)) (C := RX4) (T := TX4) (N := 29) hx hb hts iX4 hown hK hP 0 rfl rfl 12 (by decide) (hts _ wd_534) (fun _ h9 => h9) rfl dX4_criesOf_17 ?_
    refine lv_iconst (v := 2) hx hb dX4_criesOf_20 (by decide) ?_
    refine lv_iload_n hx hb dX4_criesOf_21 rfl (lv_at hl 1 rfl) ?_
    refine lv_imul hx hb dX4_criesOf_22 ?_
    obtain ⟨h3, hw⟩ := ixc_use hw
    refine va_iald hx hb hK hP 3 0 rfl rfl h3 dX4_criesOf_23 ?_
    refine lv_iconst (v := 4) hx hb dX4_criesOf_24 (by decide) ?_
    refine lv_icmp_ne (tgt := 33) hx hb dX4_criesOf_25 (by decide) (fun c4 => ?_) (fun c4 => ?_)
    · have hw := ite_f hw c4
      refine lv_iconst (v := 0) hx hb dX4_criesOf_33 (by decide) ?_
      exact hret _ _ _ (Option.some.inj hw) dX4_criesOf_34
    · have hw := ite_t hw c4
      refine lv_bipush (v := 7) hx hb dX4_criesOf_28 (by decide) ?_
      refine lv_goto (tgt := 34) hx hb dX4_criesOf_30 (by decide) ?_
      exact hret _ _ _ (Option.some.inj hw) dX4_criesOf_34
  · have hw := ite_t hw c2
    refine lv_iconst (v := 4) hx hb dX4_criesOf_12 (by decide) ?_
    refine lv_goto (tgt := 34) hx hb dX4_criesOf_13 (by decide) ?_
    exact hret _ _ _ (Option.some.inj hw) dX4_criesOf_34
set_option maxHeartbeats 4000000 in
set_option maxRecDepth 100000 in
theorem c_X4_listenerOf (l : Launch) (dC : Nat → ClassId) (dI : Nat → Nat → Nat) (a : Nat → Nat) (cA : ClassId) (X : MS) (p1 : Int32) (p2 : Int32) (out : Int32) (hw : f_X4_listenerOf X p1 p2 = some out) : Met l yX4_listenerOf (.code yX4_listenerOf cX4_listenerOf 3 (some .int) :: lw_g) ({ frames := 1, cells := 0, slots := 0, locals := 23 }) (PcM dC dI a cA X [.ref (a 0), .int p1, .int p2]) (vp_Si (fun r_ => r_ = out)) 0 0 (fun _ => False) := by
  unfold f_X4_listenerOf at hw
  refine Met.ofW (cc := cX4_listenerOf) (maxL := 3) (ret := (some .int)) (by decide) rfl ?_
  intro p e s m args below meth c s₁ B hml hv
  obtain ⟨rfl, hP, hK⟩ := hv
  have hx := B.exec
  have hb := B.bytes
  have hr := B.returns
  have hts0 := atoms_spec (ws := (.code yX4_listenerOf cX4_listenerOf 3 (some .int) :: lw_g)) B.pre
  have hts : ∀ w ∈ lw_g, w.before (([.ref (a 0), .int p1, .int p2] : List Value).toArray) s = true := fun w h => hts0 w (List.mem_cons_of_mem _ h)
  clear hts0
  have hown : s.vm.findClass RX4 = some m.cls := findClass_of_methodNamed B.named
  have hlocks := B.notSynchronized
  have hret : ∀ (pc : Nat) (ls : Array Slot) (v : Int32), v = out → decode cX4_listenerOf pc = .ok (.ireturn, 1) → W p l e ({ frames := 1, cells := 0, slots := 0, locals := 23 }) s m (([.ref (a 0), .int p1, .int p2] : List Value).toArray) below meth c s.heap [] 0 0 (MQ below (vp_Si (fun r_ => r_ = out)) (([.ref (a 0), .int p1, .int p2] : List Value).toArray) s 0 0 (fun _ => False)) (F0 m pc ls [.int v]) := fun pc ls v hv hd => W.iret hx hb hr (fun t ht hW => ⟨v, rfl, hv, ht⟩) (fun q hq => absurd hq List.not_mem_nil) hd
  show W p l e ({ frames := 1, cells := 0, slots := 0, locals := 23 }) s m (([.ref (a 0), .int p1, .int p2] : List Value).toArray) below meth c s.heap [] 0 0 (MQ below (vp_Si (fun r_ => r_ = out)) (([.ref (a 0), .int p1, .int p2] : List Value).toArray) s 0 0 (fun _ => False)) (entryFrame m (([.ref (a 0), .int p1, .int p2] : List Value).toArray) 3)
  generalize MQ below (vp_Si (fun r_ => r_ = out)) (([.ref (a 0), .int p1, .int p2] : List Value).toArray) s 0 0 (fun _ => False) = Q at hret ⊢
  have hl := lv_entry ([.ref (a 0), .int p1, .int p2]) (n := 3) (Nat.le_of_ble_eq_true rfl)
  rw [lg_entry_eq]
  generalize (lg_sl ([.ref (a 0), .int p1, .int p2]) ++ List.replicate (3 - (lg_sl ([.ref (a 0), .int p1, .int p2])).length) Slot.unset).toArray = ls at hl ⊢
  have hl : lv_has ls 3 [(0, .ref (a 0)), (1, .int p1), (2, .int p2)] := hl
  refine lv_iload_n hx hb dX4_listenerOf_0 rfl (lv_at hl 2 rfl) ?_
  by_cases c1 : p2 = 0
  · have hw := ite_t hw c1
    refine lv_tableIn (off := 39) (tgt := 40) hx hb dX4_listenerOf_1 (by rw [c1]; decide) (by rw [c1]; decide) (by rw [c1]; rfl) (by decide) ?_
    refine lv_aload_n hx hb dX4_listenerOf_40 rfl (lv_at hl 0 rfl) ?_
    refine va_get (D := (dC, dI)) (ci := 4) (v := .ref (a 3)) (C := RX4) (T := TX4) (N := 29) hx hb hts iX4 hown hK hP 0 rfl rfl 12 (by decide) (hts _ wd_534) (fun _ h9 => h9) rfl dX4_listenerOf_41 ?_
    refine lv_iconst (v := 2) hx hb dX4_listenerOf_44 (by decide) ?_
    refine lv_iload_n hx hb dX4_listenerOf_45 rfl (lv_at hl 1 rfl) ?_
    refine lv_imul hx hb dX4_listenerOf_46 ?_
    refine lv_iload_n hx hb dX4_listenerOf_47 rfl (lv_at hl 2 rfl) ?_
    refine lv_iadd hx hb dX4_listenerOf_48 ?_
    obtain ⟨h2, hw⟩ := ixc_use hw
    refine va_iald hx hb hK hP 3 0 rfl rfl h2 dX4_listenerOf_49 ?_
    exact hret _ _ _ (Option.some.inj hw) dX4_listenerOf_50
  have hw := ite_f hw c1
  by_cases c3 : p2 = 1
  · have hw := ite_t hw c3
    refine lv_tableIn (off := 39) (tgt := 40) hx hb dX4_listenerOf_1 (by rw [c3]; decide) (by rw [c3]; decide) (by rw [c3]; rfl) (by decide) ?_
    refine lv_aload_n hx hb dX4_listenerOf_40 rfl (lv_at hl 0 rfl) ?_
    refine va_get (D := (dC, dI)) (ci := 4) (v := .ref (a 3)) (C := RX4) (T := TX4) (N := 29) hx hb hts iX4 hown hK hP 0 rfl rfl 12 (by decide) (hts _ wd_534) (fun _ h9 => h9) rfl dX4_listenerOf_41 ?_
    refine lv_iconst (v := 2) hx hb dX4_listenerOf_44 (by decide) ?_
    refine lv_iload_n hx hb dX4_listenerOf_45 rfl (lv_at hl 1 rfl) ?_
    refine lv_imul hx hb dX4_listenerOf_46 ?_
    refine lv_iload_n hx hb dX4_listenerOf_47 rfl (lv_at hl 2 rfl) ?_
    refine lv_iadd hx hb dX4_listenerOf_48 ?_
    obtain ⟨h4, hw⟩ := ixc_use hw
    refine va_iald hx hb hK hP 3 0 rfl rfl h4 dX4_listenerOf_49 ?_
    exact hret _ _ _ (Option.some.inj hw) dX4_listenerOf_50
  have hw := ite_f hw c3
  by_cases c5 : p2 = 2
  · have hw := ite_t hw c5
    refine lv_tableIn (off := 50) (tgt := 51) hx hb dX4_listenerOf_1 (by rw [c5]; decide) (by rw [c5]; decide) (by rw [c5]; rfl) (by decide) ?_
    refine lv_aload_n hx hb dX4_listenerOf_51 rfl (lv_at hl 0 rfl) ?_
    refine lv_aload_n hx hb dX4_listenerOf_52 rfl (lv_at hl 0 rfl) ?_
    refine va_get (D := (dC, dI)) (ci := 4) (v := .int (X.1 0 6)) (C := RX4) (T := TX4) (N := 29) hx hb hts iX4 hown hK hP 0 rfl rfl 6 (by decide) (hts _ wd_528) (fun _ h9 => h9) rfl dX4_listenerOf_53 ?_
    obtain ⟨r6, er6, hw⟩ := Option.bind_eq_some_iff.mp hw
    refine vp_callSi (va_runV (As := [.int (X.1 0 6)]) (rest := []) ⟨hx, hb, hml, hown, hts⟩ (c_X4_knowing l dC dI a cA X (X.1 0 6) r6 er6) ⟨callB_of 1 hts gd_X4_knowing rfl rfl rfl (hts _ wd_39) (hts _ wd_672) hd_X4_knowing ⟨Nat.le_of_ble_eq_true rfl, Nat.le_of_ble_eq_true rfl⟩, hts _ wd_674, hts _ wd_15⟩ ⟨blM, va_recv hK hP (ci := 4) (q0 := 0) rfl rfl, fun U hU hW => ⟨rfl, by rw [hU]; exact hP, va_K.moved hW.alike hK⟩⟩ rfl rfl hl.1 rfl (lv_room (Nat.le_of_ble_eq_true rfl)) dX4_listenerOf_56 ⟨Nat.zero_le _, Nat.zero_le _⟩).run (fun r_ e_ => ?_)
    subst r_
    refine lv_iload_n hx hb dX4_listenerOf_59 rfl (lv_at hl 1 rfl) ?_
    refine lv_ishr hx hb dX4_listenerOf_60 ?_
    refine lv_iconst (v := 1) hx hb dX4_listenerOf_61 (by decide) ?_
    refine lv_iand hx hb dX4_listenerOf_62 ?_
    exact hret _ _ _ (Option.some.inj hw) dX4_listenerOf_63
  have hw := ite_f hw c5
  by_cases c7 : p2 = 3
  · have hw := ite_t hw c7
    refine lv_tableIn (off := 63) (tgt := 64) hx hb dX4_listenerOf_1 (by rw [c7]; decide) (by rw [c7]; decide) (by rw [c7]; rfl) (by decide) ?_
    refine lv_aload_n hx hb dX4_listenerOf_64 rfl (lv_at hl 0 rfl) ?_
    refine va_get (D := (dC, dI)) (ci := 4) (v := .int (X.1 0 6)) (C := RX4) (T := TX4) (N := 29) hx hb hts iX4 hown hK hP 0 rfl rfl 6 (by decide) (hts _ wd_528) (fun _ h9 => h9) rfl dX4_listenerOf_65 ?_
    refine lv_iload_n hx hb dX4_listenerOf_68 rfl (lv_at hl 1 rfl) ?_
    refine lv_ishr hx hb dX4_listenerOf_69 ?_
    refine lv_iconst (v := 1) hx hb dX4_listenerOf_70 (by decide) ?_
    refine lv_iand hx hb dX4_listenerOf_71 ?_
    exact hret _ _ _ (Option.some.inj hw) dX4_listenerOf_72
  have hw := ite_f hw c7
  by_cases c8 : p2 = 4
  · have hw := ite_t hw c8
    refine lv_tableIn (off := 72) (tgt := 73) hx hb dX4_listenerOf_1 (by rw [c8]; decide) (by rw [c8]; decide) (by rw [c8]; rfl) (by decide) ?_
    refine lv_aload_n hx hb dX4_listenerOf_73 rfl (lv_at hl 0 rfl) ?_
    refine lv_iload_n hx hb dX4_listenerOf_74 rfl (lv_at hl 1 rfl) ?_
    obtain ⟨r9, er9, hw⟩ := Option.bind_eq_some_iff.mp hw
    refine vp_callSi (va_runV (As := [.int p1]) (rest := []) ⟨hx, hb, hml, hown, hts⟩ (c_X4_needsOf l dC dI a cA X p1 r9 er9) ⟨callB_of 1 hts gd_X4_needsOf rfl rfl rfl (hts _ wd_39) (hts _ wd_676) hd_X4_needsOf ⟨Nat.le_of_ble_eq_true rfl, Nat.le_of_ble_eq_true rfl⟩, hts _ wd_678, hts _ wd_16⟩ ⟨blM, va_recv hK hP (ci := 4) (q0 := 0) rfl rfl, fun U hU hW => ⟨rfl, by rw [hU]; exact hP, va_K.moved hW.alike hK⟩⟩ rfl rfl hl.1 rfl (lv_room (Nat.le_of_ble_eq_true rfl)) dX4_listenerOf_75 ⟨Nat.zero_le _, Nat.zero_le _⟩).run (fun r_ e_ => ?_)
    subst r_
    exact hret _ _ _ (Option.some.inj hw) dX4_listenerOf_78
  have hw := ite_f hw c8
  by_cases c10 : p2 = 5
  · have hw := ite_t hw c10
    refine lv_tableIn (off := 78) (tgt := 79) hx hb dX4_listenerOf_1 (by rw [c10]; decide) (by rw [c10]; decide) (by rw [c10]; rfl) (by decide) ?_
    refine lv_aload_n hx hb dX4_listenerOf_79 rfl (lv_at hl 0 rfl) ?_
    refine lv_iload_n hx hb dX4_listenerOf_80 rfl (lv_at hl 1 rfl) ?_
    obtain ⟨r11, er11, hw⟩ := Option.bind_eq_some_iff.mp hw
    refine vp_callSi (va_runV (As := [.int p1]) (rest := []) ⟨hx, hb, hml, hown, hts⟩ (c_X4_criesOf l dC dI a cA X p1 r11 er11) ⟨callB_of 1 hts gd_X4_criesOf rfl rfl rfl (hts _ wd_39) (hts _ wd_680) hd_X4_criesOf ⟨Nat.le_of_ble_eq_true rfl, Nat.le_of_ble_eq_true rfl⟩, hts _ wd_682, hts _ wd_17⟩ ⟨blM, va_recv hK hP (ci := 4) (q0 := 0) rfl rfl, fun U hU hW => ⟨rfl, by rw [hU]; exact hP, va_K.moved hW.alike hK⟩⟩ rfl rfl hl.1 rfl (lv_room (Nat.le_of_ble_eq_true rfl)) dX4_listenerOf_81 ⟨Nat.zero_le _, Nat.zero_le _⟩).run (fun r_ e_ => ?_)
    subst r_
    exact hret _ _ _ (Option.some.inj hw) dX4_listenerOf_84
  have hw := ite_f hw c10
  refine lv_tableOut (tgt := 85) hx hb dX4_listenerOf_1 (by have qc1 := i32_ne c1 (z := 0) (by decide); have qc3 := i32_ne c3 (z := 1) (by decide); have qc5 := i32_ne c5 (z := 2) (by decide); have qc7 := i32_ne c7 (z := 3) (by decide); have qc8 := i32_ne c8 (z := 4) (by decide); have qc10 := i32_ne c10 (z := 5) (by decide); omega) (by decide) ?_
  refine lv_bipush (v := (-102)) hx hb dX4_listenerOf_85 (by decide) ?_
  exact hret _ _ _ (Option.some.inj hw) dX4_listenerOf_87
set_option maxHeartbeats 4000000 in
set_option maxRecDepth 100000 in
theorem c_X4_about (l : Launch) (dC : Nat → ClassId) (dI : Nat → Nat → Nat) (a : Nat → Nat) (cA : ClassId) (X : MS) (p1 : Int32) (p2 : Int32) (out : Int32) (hw : f_X4_about X p1 p2 = some out) : Met l yX4_about (.code yX4_about cX4_about 3 (some .int) :: lw_g) ({ frames := 2, cells := 0, slots := 0, locals := 46 }) (PcM dC dI a cA X [.ref (a 0), .int p1, .int p2]) (vp_Si (fun r_ => r_ = out)) 0 0 (fun _ => False) := by
  unfold f_X4_about at hw
  refine Met.ofW (cc := cX4_about) (maxL := 3) (ret := (some .int)) (by decide) rfl ?_
  intro p e s m args below meth c s₁ B hml hv
  obtain ⟨rfl, hP, hK⟩ := hv
  have hx := B.exec
  have hb := B.bytes
  have hr := B.returns
  have hts0 := atoms_spec (ws := (.code yX4_about cX4_about 3 (some .int) :: lw_g)) B.pre
  have hts : ∀ w ∈ lw_g, w.before (([.ref (a 0), .int p1, .int p2] : List Value).toArray) s = true := fun w h => hts0 w (List.mem_cons_of_mem _ h)
  clear hts0
  have hown : s.vm.findClass RX4 = some m.cls := findClass_of_methodNamed B.named
  have hlocks := B.notSynchronized
  have hret : ∀ (pc : Nat) (ls : Array Slot) (v : Int32), v = out → decode cX4_about pc = .ok (.ireturn, 1) → W p l e ({ frames := 2, cells := 0, slots := 0, locals := 46 }) s m (([.ref (a 0), .int p1, .int p2] : List Value).toArray) below meth c s.heap [] 0 0 (MQ below (vp_Si (fun r_ => r_ = out)) (([.ref (a 0), .int p1, .int p2] : List Value).toArray) s 0 0 (fun _ => False)) (F0 m pc ls [.int v]) := fun pc ls v hv hd => W.iret hx hb hr (fun t ht hW => ⟨v, rfl, hv, ht⟩) (fun q hq => absurd hq List.not_mem_nil) hd
  show W p l e ({ frames := 2, cells := 0, slots := 0, locals := 46 }) s m (([.ref (a 0), .int p1, .int p2] : List Value).toArray) below meth c s.heap [] 0 0 (MQ below (vp_Si (fun r_ => r_ = out)) (([.ref (a 0), .int p1, .int p2] : List Value).toArray) s 0 0 (fun _ => False)) (entryFrame m (([.ref (a 0), .int p1, .int p2] : List Value).toArray) 3)
  generalize MQ below (vp_Si (fun r_ => r_ = out)) (([.ref (a 0), .int p1, .int p2] : List Value).toArray) s 0 0 (fun _ => False) = Q at hret ⊢
  have hl := lv_entry ([.ref (a 0), .int p1, .int p2]) (n := 3) (Nat.le_of_ble_eq_true rfl)
  rw [lg_entry_eq]
  generalize (lg_sl ([.ref (a 0), .int p1, .int p2]) ++ List.replicate (3 - (lg_sl ([.ref (a 0), .int p1, .int p2])).length) Slot.unset).toArray = ls at hl ⊢
  have hl : lv_has ls 3 [(0, .ref (a 0)), (1, .int p1), (2, .int p2)] := hl
  refine lv_aload_n hx hb dX4_about_0 rfl (lv_at hl 0 rfl) ?_
  refine lv_iload_n hx hb dX4_about_1 rfl (lv_at hl 1 rfl) ?_
  obtain ⟨r1, er1, hw⟩ := Option.bind_eq_some_iff.mp hw
  refine vp_callSi (va_runV (As := [.int p1]) (rest := []) ⟨hx, hb, hml, hown, hts⟩ (c_X4_isListener l dC dI a cA X p1 r1 er1) ⟨callB_of 1 hts gd_X4_isListener rfl rfl rfl (hts _ wd_39) (hts _ wd_664) hd_X4_isListener ⟨Nat.le_of_ble_eq_true rfl, Nat.le_of_ble_eq_true rfl⟩, hts _ wd_666, hts _ wd_13⟩ ⟨blM, va_recv hK hP (ci := 4) (q0 := 0) rfl rfl, fun U hU hW => ⟨rfl, by rw [hU]; exact hP, va_K.moved hW.alike hK⟩⟩ rfl rfl hl.1 rfl (lv_room (Nat.le_of_ble_eq_true rfl)) dX4_about_2 ⟨Nat.zero_le _, Nat.zero_le _⟩).run (fun r_ e_ => ?_)
  subst r_
  refine lv_if_eq (tgt := 17) hx hb dX4_about_5 (by decide) (fun c2 => ?_) (fun c2 => ?_)
  · have hw := ite_t hw c2
    refine lv_bipush (v := (-101)) hx hb dX4_about_17 (by decide) ?_
    exact hret _ _ _ (Option.some.inj hw) dX4_about_19
  · have hw := ite_f hw c2
    refine lv_aload_n hx hb dX4_about_8 rfl (lv_at hl 0 rfl) ?_
    refine lv_iload_n hx hb dX4_about_9 rfl (lv_at hl 1 rfl) ?_
    refine lv_iload_n hx hb dX4_about_10 rfl (lv_at hl 2 rfl) ?_
    obtain ⟨r3, er3, hw⟩ := Option.bind_eq_some_iff.mp hw
    refine vp_callSi (va_runV (As := [.int p1, .int p2]) (rest := []) ⟨hx, hb, hml, hown, hts⟩ (c_X4_listenerOf l dC dI a cA X p1 p2 r3 er3) ⟨callB_of 2 hts gd_X4_listenerOf rfl rfl rfl (hts _ wd_39) (hts _ wd_668) hd_X4_listenerOf ⟨Nat.le_of_ble_eq_true rfl, Nat.le_of_ble_eq_true rfl⟩, hts _ wd_670, hts _ wd_14⟩ ⟨blM, va_recv hK hP (ci := 4) (q0 := 0) rfl rfl, fun U hU hW => ⟨rfl, by rw [hU]; exact hP, va_K.moved hW.alike hK⟩⟩ rfl rfl hl.1 rfl (lv_room (Nat.le_of_ble_eq_true rfl)) dX4_about_11 ⟨Nat.zero_le _, Nat.zero_le _⟩).run (fun r_ e_ => ?_)
    subst r_
    refine lv_goto (tgt := 19) hx hb dX4_about_14 (by decide) ?_
    exact hret _ _ _ (Option.some.inj hw) dX4_about_19
set_option maxHeartbeats 4000000 in
set_option maxRecDepth 100000 in
theorem c_X3_isOfKind (l : Launch) (p0 : Int32) (p1 : Int32) (out : Int32) (hw : f_X3_isOfKind p0 p1 = some out) : Met l yX3_isOfKind (.code yX3_isOfKind cX3_isOfKind 2 (some .boolean) :: lw_g) ({ frames := 0, cells := 0, slots := 0, locals := 0 }) (Pc0 [.int p0, .int p1]) (vp_Si (fun r_ => r_ = out)) 0 0 (fun _ => False) := by
  unfold f_X3_isOfKind at hw
  refine Met.ofW (cc := cX3_isOfKind) (maxL := 2) (ret := (some .boolean)) (by decide) rfl ?_
  intro p e s m args below meth c s₁ B hml hv
  obtain ⟨rfl, -⟩ := hv
  have hx := B.exec
  have hb := B.bytes
  have hr := B.returns
  have hts0 := atoms_spec (ws := (.code yX3_isOfKind cX3_isOfKind 2 (some .boolean) :: lw_g)) B.pre
  have hts : ∀ w ∈ lw_g, w.before (([.int p0, .int p1] : List Value).toArray) s = true := fun w h => hts0 w (List.mem_cons_of_mem _ h)
  clear hts0
  have hown : s.vm.findClass RX3 = some m.cls := findClass_of_methodNamed B.named
  have hlocks := B.notSynchronized
  have hret : ∀ (pc : Nat) (ls : Array Slot) (v : Int32), v = out → (hz : narrow .boolean (.int v) = .int v) → decode cX3_isOfKind pc = .ok (.ireturn, 1) → W p l e ({ frames := 0, cells := 0, slots := 0, locals := 0 }) s m (([.int p0, .int p1] : List Value).toArray) below meth c s.heap [] 0 0 (MQ below (vp_Si (fun r_ => r_ = out)) (([.int p0, .int p1] : List Value).toArray) s 0 0 (fun _ => False)) (F0 m pc ls [.int v]) := fun pc ls v hv hz hd => W.zret hx hb hr hz (fun t ht hW => ⟨v, rfl, hv, ht⟩) (fun q hq => absurd hq List.not_mem_nil) hd
  show W p l e ({ frames := 0, cells := 0, slots := 0, locals := 0 }) s m (([.int p0, .int p1] : List Value).toArray) below meth c s.heap [] 0 0 (MQ below (vp_Si (fun r_ => r_ = out)) (([.int p0, .int p1] : List Value).toArray) s 0 0 (fun _ => False)) (entryFrame m (([.int p0, .int p1] : List Value).toArray) 2)
  generalize MQ below (vp_Si (fun r_ => r_ = out)) (([.int p0, .int p1] : List Value).toArray) s 0 0 (fun _ => False) = Q at hret ⊢
  have hl := lv_entry ([.int p0, .int p1]) (n := 2) (Nat.le_of_ble_eq_true rfl)
  rw [lg_entry_eq]
  generalize (lg_sl ([.int p0, .int p1]) ++ List.replicate (2 - (lg_sl ([.int p0, .int p1])).length) Slot.unset).toArray = ls at hl ⊢
  have hl : lv_has ls 2 [(0, .int p0), (1, .int p1)] := hl
  refine lv_iload_n hx hb dX3_isOfKind_0 rfl (lv_at hl 1 rfl) ?_
  refine lv_if_eq (tgt := 19) hx hb dX3_isOfKind_1 (by decide) (fun c1 => ?_) (fun c1 => ?_)
  · have hw := ite_t hw c1
    refine lv_iconst (v := 1) hx hb dX3_isOfKind_19 (by decide) ?_
    refine lv_goto (tgt := 24) hx hb dX3_isOfKind_20 (by decide) ?_
    exact hret _ _ _ (Option.some.inj hw) rfl dX3_isOfKind_24
  · have hw := ite_f hw c1
    refine lv_iload_n hx hb dX3_isOfKind_4 rfl (lv_at hl 0 rfl) ?_
    refine lv_iload_n hx hb dX3_isOfKind_5 rfl (lv_at hl 1 rfl) ?_
    refine lv_icmp_eq (tgt := 19) hx hb dX3_isOfKind_6 (by decide) (fun c2 => ?_) (fun c2 => ?_)
    · have hw := ite_t hw c2
      refine lv_iconst (v := 1) hx hb dX3_isOfKind_19 (by decide) ?_
      refine lv_goto (tgt := 24) hx hb dX3_isOfKind_20 (by decide) ?_
      exact hret _ _ _ (Option.some.inj hw) rfl dX3_isOfKind_24
    · have hw := ite_f hw c2
      refine lv_iload_n hx hb dX3_isOfKind_9 rfl (lv_at hl 0 rfl) ?_
      refine lv_iconst (v := 4) hx hb dX3_isOfKind_10 (by decide) ?_
      refine lv_icmp_ne (tgt := 23) hx hb dX3_isOfKind_11 (by decide) (fun c3 => ?_) (fun c3 => ?_)
      · have hw := ite_f hw c3
        refine lv_iconst (v := 0) hx hb dX3_isOfKind_23 (by decide) ?_
        exact hret _ _ _ (Option.some.inj hw) rfl dX3_isOfKind_24
      · have hw := ite_t hw c3
        refine lv_iload_n hx hb dX3_isOfKind_14 rfl (lv_at hl 1 rfl) ?_
        refine lv_iconst (v := 3) hx hb dX3_isOfKind_15 (by decide) ?_
        refine lv_icmp_ne (tgt := 23) hx hb dX3_isOfKind_16 (by decide) (fun c4 => ?_) (fun c4 => ?_)
        · have hw := ite_f hw c4
          refine lv_iconst (v := 0) hx hb dX3_isOfKind_23 (by decide) ?_
          exact hret _ _ _ (Option.some.inj hw) rfl dX3_isOfKind_24
        · have hw := ite_t hw c4
          refine lv_iconst (v := 1) hx hb dX3_isOfKind_19 (by decide) ?_
          refine lv_goto (tgt := 24) hx hb dX3_isOfKind_20 (by decide) ?_
          exact hret _ _ _ (Option.some.inj hw) rfl dX3_isOfKind_24
set_option maxHeartbeats 4000000 in
set_option maxRecDepth 100000 in
theorem c_X3_as (l : Launch) (dC : Nat → ClassId) (dI : Nat → Nat → Nat) (a : Nat → Nat) (cA : ClassId) (X : WS) (p1 : Int32) (p2 : Int32) (out : Int32) (hw : f_X3_as X p1 p2 = some out) : Met l yX3_as (.code yX3_as cX3_as 3 (some .int) :: lw_g) ({ frames := 1, cells := 0, slots := 0, locals := 21 }) (PcX dC dI a cA X [.ref (a 0), .int p1, .int p2]) (vp_Si (fun r_ => r_ = out)) 0 0 (fun _ => False) := by
  unfold f_X3_as at hw
  refine Met.ofW (cc := cX3_as) (maxL := 3) (ret := (some .int)) (by decide) rfl ?_
  intro p e s m args below meth c s₁ B hml hv
  obtain ⟨rfl, hP, hK, hN⟩ := hv
  have hx := B.exec
  have hb := B.bytes
  have hr := B.returns
  have hts0 := atoms_spec (ws := (.code yX3_as cX3_as 3 (some .int) :: lw_g)) B.pre
  have hts : ∀ w ∈ lw_g, w.before (([.ref (a 0), .int p1, .int p2] : List Value).toArray) s = true := fun w h => hts0 w (List.mem_cons_of_mem _ h)
  clear hts0
  have hown : s.vm.findClass RX3 = some m.cls := findClass_of_methodNamed B.named
  have hlocks := B.notSynchronized
  have hret : ∀ (pc : Nat) (ls : Array Slot) (v : Int32), v = out → decode cX3_as pc = .ok (.ireturn, 1) → W p l e ({ frames := 1, cells := 0, slots := 0, locals := 21 }) s m (([.ref (a 0), .int p1, .int p2] : List Value).toArray) below meth c s.heap [] 0 0 (MQ below (vp_Si (fun r_ => r_ = out)) (([.ref (a 0), .int p1, .int p2] : List Value).toArray) s 0 0 (fun _ => False)) (F0 m pc ls [.int v]) := fun pc ls v hv hd => W.iret hx hb hr (fun t ht hW => ⟨v, rfl, hv, ht⟩) (fun q hq => absurd hq List.not_mem_nil) hd
  show W p l e ({ frames := 1, cells := 0, slots := 0, locals := 21 }) s m (([.ref (a 0), .int p1, .int p2] : List Value).toArray) below meth c s.heap [] 0 0 (MQ below (vp_Si (fun r_ => r_ = out)) (([.ref (a 0), .int p1, .int p2] : List Value).toArray) s 0 0 (fun _ => False)) (entryFrame m (([.ref (a 0), .int p1, .int p2] : List Value).toArray) 3)
  generalize MQ below (vp_Si (fun r_ => r_ = out)) (([.ref (a 0), .int p1, .int p2] : List Value).toArray) s 0 0 (fun _ => False) = Q at hret ⊢
  have hl := lv_entry ([.ref (a 0), .int p1, .int p2]) (n := 3) (Nat.le_of_ble_eq_true rfl)
  rw [lg_entry_eq]
  generalize (lg_sl ([.ref (a 0), .int p1, .int p2]) ++ List.replicate (3 - (lg_sl ([.ref (a 0), .int p1, .int p2])).length) Slot.unset).toArray = ls at hl ⊢
  have hl : lv_has ls 3 [(0, .ref (a 0)), (1, .int p1), (2, .int p2)] := hl
  refine lv_aload_n hx hb dX3_as_0 rfl (lv_at hl 0 rfl) ?_
  refine lv_iload_n hx hb dX3_as_1 rfl (lv_at hl 1 rfl) ?_
  obtain ⟨r1, er1, hw⟩ := Option.bind_eq_some_iff.mp hw
  refine vp_callSi (va_runV (As := [.int p1]) (rest := []) ⟨hx, hb, hml, hown, hts⟩ (c_X3_isListener l dC dI a cA X p1 r1 er1) ⟨callB_of 1 hts gd_X3_isListener rfl rfl rfl (hts _ wd_35) (hts _ wd_286) hd_X3_isListener ⟨Nat.le_of_ble_eq_true rfl, Nat.le_of_ble_eq_true rfl⟩, hts _ wd_288, hts _ wd_2⟩ ⟨blX, va_recv hK hP (ci := 3) (q0 := 0) rfl rfl, fun U hU hW => ⟨rfl, by rw [hU]; exact hP, va_K.moved hW.alike hK, nst.warm hW hN⟩⟩ rfl rfl hl.1 rfl (lv_room (Nat.le_of_ble_eq_true rfl)) dX3_as_2 ⟨Nat.zero_le _, Nat.zero_le _⟩).run (fun r_ e_ => ?_)
  subst r_
  refine lv_if_ne (tgt := 11) hx hb dX3_as_5 (by decide) (fun c2 => ?_) (fun c2 => ?_)
  · have hw := ite_f hw c2
    refine lv_iload_n hx hb dX3_as_11 rfl (lv_at hl 2 rfl) ?_
    obtain ⟨r3, er3, hw⟩ := Option.bind_eq_some_iff.mp hw
    refine vp_callSi (va_runS (As := [.int p2]) (rest := []) ⟨hx, hb, hml, hown, hts⟩ (c_X3_isKind l p2 r3 er3) ⟨callB_of 1 hts gd_X3_isKind rfl rfl rfl (hts _ wd_35) (hts _ wd_269) hd_X3_isKind ⟨Nat.le_of_ble_eq_true rfl, Nat.le_of_ble_eq_true rfl⟩, hts _ wd_270⟩ ⟨bl0, fun U hU hW => ⟨rfl, trivial⟩⟩ rfl rfl hl.1 rfl (lv_room (Nat.le_of_ble_eq_true rfl)) dX3_as_12 ⟨Nat.zero_le _, Nat.zero_le _⟩).run (fun r_ e_ => ?_)
    subst r_
    refine lv_if_ne (tgt := 21) hx hb dX3_as_15 (by decide) (fun c4 => ?_) (fun c4 => ?_)
    · have hw := ite_f hw c4
      refine lv_aload_n hx hb dX3_as_21 rfl (lv_at hl 0 rfl) ?_
      refine va_get (D := (dC, dI)) (ci := 3) (v := .ref (a 3)) (C := RX3) (T := TX3) (N := 6) hx hb hts iX3 hown hK hP 0 rfl rfl 1 (by decide) (hts _ wd_179) (fun _ h9 => h9) rfl dX3_as_22 ?_
      refine va_getN (D := (dC, dI)) (ci := 2) (v := .ref (a 5)) (C := RX2) (T := TX2) (N := 17) hx hb hts iX2 hown hK hP 3 rfl rfl 1 (by decide) (va_Nw.use rfl (hN _ nk_76)) (fun _ h9 => h9) rfl dX3_as_25 ?_
      refine lv_iload_n hx hb dX3_as_28 rfl (lv_at hl 1 rfl) ?_
      obtain ⟨h5, hw⟩ := ixc_use hw
      refine va_iald hx hb hK hP 5 0 rfl rfl h5 dX3_as_29 ?_
      refine lv_iload_n hx hb dX3_as_30 rfl (lv_at hl 2 rfl) ?_
      obtain ⟨r6, er6, hw⟩ := Option.bind_eq_some_iff.mp hw
      refine vp_callSi (va_runS (As := [.int (X 5 (Int32.toNatClampNeg p1)), .int p2]) (rest := []) ⟨hx, hb, hml, hown, hts⟩ (c_X3_isOfKind l (X 5 (Int32.toNatClampNeg p1)) p2 r6 er6) ⟨callB_of 2 hts gd_X3_isOfKind rfl rfl rfl (hts _ wd_35) (hts _ wd_301) hd_X3_isOfKind ⟨Nat.le_of_ble_eq_true rfl, Nat.le_of_ble_eq_true rfl⟩, hts _ wd_302⟩ ⟨bl0, fun U hU hW => ⟨rfl, trivial⟩⟩ rfl rfl hl.1 rfl (lv_room (Nat.le_of_ble_eq_true rfl)) dX3_as_31 ⟨Nat.zero_le _, Nat.zero_le _⟩).run (fun r_ e_ => ?_)
      subst r_
      refine lv_if_eq (tgt := 41) hx hb dX3_as_34 (by decide) (fun c7 => ?_) (fun c7 => ?_)
      · have hw := ite_t hw c7
        refine lv_iconst (v := (-1)) hx hb dX3_as_41 (by decide) ?_
        exact hret _ _ _ (Option.some.inj hw) dX3_as_42
      · have hw := ite_f hw c7
        refine lv_iload_n hx hb dX3_as_37 rfl (lv_at hl 1 rfl) ?_
        refine lv_goto (tgt := 42) hx hb dX3_as_38 (by decide) ?_
        exact hret _ _ _ (Option.some.inj hw) dX3_as_42
    · have hw := ite_t hw c4
      refine lv_bipush (v := (-102)) hx hb dX3_as_18 (by decide) ?_
      exact hret _ _ _ (Option.some.inj hw) dX3_as_20
  · have hw := ite_t hw c2
    refine lv_bipush (v := (-101)) hx hb dX3_as_8 (by decide) ?_
    exact hret _ _ _ (Option.some.inj hw) dX3_as_10
end
section
/-! Int32 by its bits (first rows out of kit/laws/BITS) -/
def bt (x : Int32) (i : Nat) : Bool := x.toBitVec.getLsbD i
theorem b_ext {x y : Int32} (h : ∀ i, i < 32 → bt x i = bt y i) : x = y := Int32.toBitVec_inj.mp (BitVec.eq_of_getLsbD_eq (fun i hi => h i hi))
theorem b_or (x y : Int32) (i : Nat) : bt (x ||| y) i = (bt x i || bt y i) := by unfold bt; rw [Int32.toBitVec_or, BitVec.getLsbD_or]
theorem b_and (x y : Int32) (i : Nat) : bt (x &&& y) i = (bt x i && bt y i) := by unfold bt; rw [Int32.toBitVec_and, BitVec.getLsbD_and]
theorem b_xor (x y : Int32) (i : Nat) : bt (x ^^^ y) i = (bt x i ^^ bt y i) := by unfold bt; rw [Int32.toBitVec_xor, BitVec.getLsbD_xor]
theorem b_big {x : Int32} {i : Nat} (h : 32 ≤ i) : bt x i = false := BitVec.getLsbD_of_ge _ _ h
theorem b_m1 : ∀ i, i < 32 → bt (-1) i = true := by decide +kernel
theorem b_0 (i : Nat) : bt 0 i = false := BitVec.getLsbD_zero
theorem s_l : ∀ n, n < 32 → ((nI n &&& 31).toBitVec.smod 32).toNat = n := by decide +kernel
theorem b_sshr (n : Nat) (hn : n < 32) (x : Int32) {i : Nat} (hi : i < 32) : bt (x >>> (nI n &&& 31)) i = if n + i < 32 then bt x (n + i) else bt x 31 := by
  unfold bt
  rw [Int32.toBitVec_shiftRight]
  show (x.toBitVec.sshiftRight ((nI n &&& 31).toBitVec.smod 32).toNat).getLsbD i = _
  rw [s_l n hn, BitVec.getLsbD_sshiftRight, BitVec.msb_eq_getLsbD_last]
  simp [hi]
/-! own rows -/
theorem b_not (x : Int32) {i : Nat} (hi : i < 32) : bt (x ^^^ (-1)) i = !bt x i := by rw [b_xor, b_m1 i hi]; simp
theorem bt_one32 : ∀ k, k < 32 → ∀ i, i < 32 → bt ((1 : Int32) <<< (nI k &&& 31)) i = decide (i = k) := by decide +kernel
theorem bt_one {k : Nat} (hk : k < 32) (i : Nat) : bt ((1 : Int32) <<< (nI k &&& 31)) i = decide (i = k) := by
  rcases Nat.lt_or_ge i 32 with h | h
  · exact bt_one32 k hk i h
  · rw [b_big h, decide_eq_false (by omega)]
theorem bt_lit1 : ∀ i, i < 32 → bt 1 i = decide (i = 0) := by decide +kernel
theorem bt_ofNat (m i : Nat) (hi : i < 32) : bt (nI m) i = m.testBit i := by
  show (BitVec.ofNat 32 m).getLsbD i = _
  rw [BitVec.getLsbD_ofNat]; simp [hi]
theorem pw_bit (v : Int32) {k : Nat} (hk : k < 32) : ((v >>> (nI k &&& 31)) &&& 1) = if bt v k then 1 else 0 := by
  apply b_ext
  intro i hi
  rw [b_and, b_sshr k hk v hi, bt_lit1 i hi]
  by_cases h0 : i = 0
  · subst h0
    simp only [Nat.add_zero, hk, if_true, decide_true, Bool.and_true]
    cases bt v k
    · exact (b_0 0).symm
    · exact (bt_lit1 0 (by omega)).symm
  · rw [decide_eq_false h0, Bool.and_false]
    cases bt v k
    · exact (b_0 i).symm
    · rw [if_pos rfl, bt_lit1 i hi, decide_eq_false h0]
theorem pw_ix {α : Type} {k N : Nat} (h : k < N) (hN : N < 2 ^ 31) (t : Option α) : ixc (nI k) N t = t := by
  unfold ixc; rw [if_neg (nI_in h hN)]
theorem pw_two (k : Nat) : (2 : Int32) * nI k = nI (2 * k) := pk_mul 2 k
theorem pw_one (k : Nat) : nI k + (1 : Int32) = nI (k + 1) := nI_1 k
def orb (c : Nat → Bool) : Nat → Int32
  | 0 => 0
  | k + 1 => orb c k ||| (if c k then 1 <<< (nI k &&& 31) else 0)
theorem bt_orb (c : Nat → Bool) : ∀ k, k ≤ 32 → ∀ i, bt (orb c k) i = (decide (i < k) && c i) := by
  intro k
  induction k with
  | zero => intro _ i; rw [orb, b_0]; simp
  | succ k ih =>
    intro hk i
    rw [orb, b_or, ih (by omega) i]
    by_cases h : i = k
    · subst h
      cases hc : c i
      · simp [b_0]
      · simp [bt_one (show i < 32 by omega)]
    · have e : bt (if c k = true then 1 <<< (nI k &&& 31) else 0) i = false := by
        cases hc : c k
        · simp [b_0]
        · simp [bt_one (show k < 32 by omega), h]
      rw [e, Bool.or_false]
      congr 1
      exact decide_eq_decide.mpr (by omega)
theorem orb_congr {c c' : Nat → Bool} : ∀ {k : Nat}, (∀ j, j < k → c j = c' j) → orb c k = orb c' k := by
  intro k
  induction k with
  | zero => intro _; rfl
  | succ k ih => intro h; rw [orb, orb, ih (fun j hj => h j (by omega)), h k (by omega)]
def lo (n : Nat) (s : Int32) : Prop := ∀ i, n ≤ i → bt s i = false
theorem lo_orb {n : Nat} (hn : n ≤ 32) (c : Nat → Bool) : lo n (orb c n) := fun i hi => by rw [bt_orb c n hn i, decide_eq_false (by omega)]; rfl
theorem lo_0 (n : Nat) : lo n 0 := fun i _ => b_0 i
theorem lo_or {n : Nat} {x y : Int32} (hx : lo n x) (hy : lo n y) : lo n (x ||| y) := fun i hi => by rw [b_or, hx i hi, hy i hi]; rfl
theorem lo_and {n : Nat} {x y : Int32} (hx : lo n x) : lo n (x &&& y) := fun i hi => by rw [b_and, hx i hi]; rfl
theorem lo_self {n : Nat} (hn : n ≤ 32) {s : Int32} (h : lo n s) : orb (bt s) n = s := b_ext (fun i _ => by
  rw [bt_orb _ n hn i]
  by_cases hi : i < n
  · simp [hi]
  · rw [h i (by omega)]; simp)
theorem lo_nI {n : Nat} (hn : n ≤ 32) {s : Int32} (h : lo n s) : ∃ m, m < 2 ^ n ∧ s = nI m := by
  refine ⟨s.toBitVec.toNat, Nat.lt_pow_two_of_testBit _ (fun i hi => h i hi), ?_⟩
  apply Int32.toBitVec_inj.1
  show s.toBitVec = BitVec.ofNat 32 s.toBitVec.toNat
  simp
theorem lo_of_nI {n m : Nat} (hm : m < 2 ^ n) : lo n (nI m) := by
  intro i hi
  rcases Nat.lt_or_ge i 32 with h | h
  · rw [bt_ofNat m i h]
    exact Nat.testBit_lt_two_pow (Nat.lt_of_lt_of_le hm (Nat.pow_le_pow_right (by omega) hi))
  · exact b_big h
def allb (n : Nat) : Int32 := (1 <<< (nI n &&& 31)) - 1
theorem allb_eq : ∀ n, n < 7 → allb n = nI (2 ^ n - 1) := by decide +kernel
theorem bt_allb32 : ∀ n, n < 7 → ∀ i, i < 32 → bt (allb n) i = decide (i < n) := by decide +kernel
theorem bt_allb {n : Nat} (hn : n ≤ 6) (i : Nat) : bt (allb n) i = decide (i < n) := by
  rcases Nat.lt_or_ge i 32 with h | h
  · exact bt_allb32 n (by omega) i h
  · rw [b_big h, decide_eq_false (by omega)]
def cnt (c : Nat → Bool) : Nat → Nat
  | 0 => 0
  | k + 1 => cnt c k + (if c k then 1 else 0)
theorem cnt_le (c : Nat → Bool) : ∀ k, cnt c k ≤ k := by
  intro k
  induction k with
  | zero => exact Nat.le_refl _
  | succ k ih => rw [cnt]; split <;> omega
theorem cnt_mono {c c' : Nat → Bool} : ∀ {k : Nat}, (∀ j, j < k → c j = true → c' j = true) → cnt c k ≤ cnt c' k := by
  intro k
  induction k with
  | zero => intro _; exact Nat.le_refl _
  | succ k ih =>
    intro h
    have h1 := ih (fun j hj => h j (by omega))
    have h2 := h k (by omega)
    rw [cnt, cnt]
    cases hc : c k
    · simp; omega
    · rw [h2 hc]; simp; omega
theorem cnt_lt {c c' : Nat → Bool} : ∀ {k : Nat} (i : Nat), i < k → c i = false → c' i = true → (∀ j, j < k → c j = true → c' j = true) → cnt c k < cnt c' k := by
  intro k
  induction k with
  | zero => intro i hi; omega
  | succ k ih =>
    intro i hi h1 h2 h
    rw [cnt, cnt]
    by_cases hk : i = k
    · subst hk
      have h3 := cnt_mono (c := c) (c' := c') (k := i) (fun j hj => h j (by omega))
      rw [h1, h2]; simp; omega
    · have h3 := ih i (by omega) h1 h2 (fun j hj => h j (by omega))
      have h4 := h k (by omega)
      cases hc : c k
      · simp; omega
      · rw [h4 hc]; simp; omega
theorem cnt_pos {c : Nat → Bool} {k i : Nat} (hi : i < k) (h : c i = true) : 0 < cnt c k := by
  have h1 := cnt_lt (c := fun _ => false) (c' := c) (k := k) i hi rfl h (fun _ _ h => by cases h)
  omega
theorem ne0_bit {n : Nat} (hn : n ≤ 32) {s : Int32} (hl : lo n s) (h : ¬ s = 0) : ∃ i, i < n ∧ bt s i = true := by
  apply Classical.byContradiction
  intro hc
  apply h
  apply b_ext
  intro i _
  rw [b_0]
  by_cases hi : i < n
  · cases hb : bt s i
    · rfl
    · exact absurd ⟨i, hi, hb⟩ hc
  · exact hl i (by omega)
end
section
def needK (k : Int32) : Int32 := if k = 1 then 5 else if k = 2 then 3 else 1
def repK (k : Int32) : Int32 := if k = 3 then 4 else if k = 4 then 7 else 0
def dst (x pl : Int32) : Int32 := if pl ≤ x then x - pl else pl - x
theorem dst_le {x pl : Int32} (h : x ≤ pl) : dst x pl = pl - x := by
  unfold dst
  by_cases c : pl ≤ x
  · rw [if_pos c]
    have e : x = pl := Int32.le_antisymm h c
    rw [e]
  · rw [if_neg c]
theorem dst_nle {x pl : Int32} (h : ¬ x ≤ pl) : dst x pl = x - pl := by
  unfold dst
  rw [if_pos]
  rw [Int32.le_iff_toInt_le] at h ⊢
  omega
def hcX (X : WS) (pl ld : Int32) (j : Nat) : Bool := !decide (((ld - (2 * dst (X 8 j) pl)) - X 4 (X 8 j).toNatClampNeg) < needK (X 5 j))
def WX (X : WS) (n : Nat) : Prop := n ≤ 6 ∧ X 3 5 = nI n ∧ (∀ j, j < n → X 6 j = needK (X 5 j) ∧ X 7 j = repK (X 5 j) ∧ ∃ q, q < 6 ∧ X 8 j = nI q) ∧ X 3 6 = orb (fun j => decide (X 5 j = 2)) n
def RM (X Y : WS) (n : Nat) : Prop := Y 0 11 = nI n ∧ (∀ j, j < n → Y 3 (2 * j) = X 5 j ∧ Y 3 (2 * j + 1) = X 8 j) ∧ ∀ q, q < 6 → Y 2 q = X 4 q
def hm (X : WS) (n : Nat) (mk : Nat → Bool) (pl ld : Int32) : Int32 := orb (fun j => hcX X pl ld j && mk j) n
theorem bt_hm {X : WS} {n : Nat} (hn : n ≤ 6) (mk : Nat → Bool) (pl ld : Int32) (i : Nat) : bt (hm X n mk pl ld) i = (decide (i < n) && (hcX X pl ld i && mk i)) := bt_orb _ n (by omega) i
theorem hearX_loop {X : WS} {n : Nat} (h : WX X n) (pl ld : Int32) : ∀ (d k f : Nat), k + d = n → d < f → g_X2_hearing_5 X pl ld f (orb (hcX X pl ld) k) (nI k) = some (orb (hcX X pl ld) n) := by
  obtain ⟨hn, hl, ht, _⟩ := h
  intro d
  induction d with
  | zero =>
    intro k f hk hf
    obtain ⟨f, rfl⟩ : ∃ g, f = g + 1 := ⟨f - 1, by omega⟩
    have e : k = n := by omega
    subst e
    rw [g_X2_hearing_5, hl, if_pos (nI_le (Nat.le_refl _) (by omega))]
  | succ d ih =>
    intro k f hk hf
    obtain ⟨f, rfl⟩ : ∃ g, f = g + 1 := ⟨f - 1, by omega⟩
    obtain ⟨h6, h7, q, hq, h8⟩ := ht k (by omega)
    have hc : (nI k).toNatClampNeg = k := nI_clamp (by omega)
    have hq2 : (nI q).toNatClampNeg = q := nI_clamp (by omega)
    have ihk := ih (k + 1) f (by omega) (by omega)
    rw [g_X2_hearing_5, hl, if_neg (nI_ge (show k < n by omega) (by omega))]
    simp only [stp, hc, h8, hq2, h6, pw_one, pw_ix (show k < 6 by omega) (show (6 : Nat) < 2 ^ 31 by omega), pw_ix hq (show (6 : Nat) < 2 ^ 31 by omega)]
    rw [orb] at ihk
    by_cases c1 : pl ≤ nI q
    · have ed : dst (nI q) pl = nI q - pl := by unfold dst; rw [if_pos c1]
      rw [if_pos c1]
      by_cases c2 : ((ld - (2 * (nI q - pl))) - X 4 q) < needK (X 5 k)
      · have e2 : hcX X pl ld k = false := by unfold hcX; rw [h8, ed, hq2, decide_eq_true c2]; rfl
        rw [if_pos c2]
        rw [e2] at ihk
        simpa using ihk
      · have e2 : hcX X pl ld k = true := by unfold hcX; rw [h8, ed, hq2, decide_eq_false c2]; rfl
        rw [if_neg c2]
        rw [e2] at ihk
        simpa using ihk
    · have ed : dst (nI q) pl = pl - nI q := by unfold dst; rw [if_neg c1]
      rw [if_neg c1]
      by_cases c2 : ((ld - (2 * (pl - nI q))) - X 4 q) < needK (X 5 k)
      · have e2 : hcX X pl ld k = false := by unfold hcX; rw [h8, ed, hq2, decide_eq_true c2]; rfl
        rw [if_pos c2]
        rw [e2] at ihk
        simpa using ihk
      · have e2 : hcX X pl ld k = true := by unfold hcX; rw [h8, ed, hq2, decide_eq_false c2]; rfl
        rw [if_neg c2]
        rw [e2] at ihk
        simpa using ihk
theorem NF_ge : 1000 ≤ NF := Nat.le_refl _
theorem hearX {X : WS} {n : Nat} (h : WX X n) (pl ld : Int32) : f_X2_hearing X pl ld = some (hm X n (fun _ => true) pl ld) := by
  have hn := h.1
  have e := hearX_loop h pl ld n 0 NF (by omega) (by have := NF_ge; omega)
  unfold f_X2_hearing
  rw [show orb (hcX X pl ld) 0 = 0 from rfl, show nI 0 = 0 from rfl] at e
  rw [e]
  unfold hm
  exact congrArg some (orb_congr (fun j _ => by simp))
theorem pw_and1 (s : Int32) {k : Nat} (hk : k < 32) : s &&& (1 <<< (nI k &&& 31)) = if bt s k then 1 <<< (nI k &&& 31) else 0 := by
  apply b_ext
  intro i hi
  rw [b_and, bt_one hk]
  by_cases h : i = k
  · subst h
    cases hb : bt s i
    · simp [b_0]
    · simp [bt_one hk]
  · rw [decide_eq_false h, Bool.and_false]
    cases bt s k
    · simp [b_0]
    · simp [bt_one hk, h]
theorem needsM (Y : MS) {k : Nat} (hk : k < 6) : f_X4_needsOf Y (nI k) = some (needK (Y.1 3 (2 * k))) := by
  have hc : (nI (2 * k)).toNatClampNeg = 2 * k := nI_clamp (by omega)
  unfold f_X4_needsOf needK
  simp only [pw_two, hc, pw_ix (show 2 * k < 12 by omega) (show (12 : Nat) < 2 ^ 31 by omega)]
  repeat' split
  all_goals rfl
theorem criesM (Y : MS) {k : Nat} (hk : k < 6) : f_X4_criesOf Y (nI k) = some (repK (Y.1 3 (2 * k))) := by
  have hc : (nI (2 * k)).toNatClampNeg = 2 * k := nI_clamp (by omega)
  unfold f_X4_criesOf repK
  simp only [pw_two, hc, pw_ix (show 2 * k < 12 by omega) (show (12 : Nat) < 2 ^ 31 by omega)]
  repeat' split
  all_goals rfl
theorem hearM_loop {X : WS} {Y : MS} {n : Nat} (h : WX X n) (r : RM X Y.1 n) (pl ld s : Int32) : ∀ (d k f : Nat), k + d = n → d < f → g_X4_hearing_6 Y pl ld s f (orb (fun j => hcX X pl ld j && bt s j) k) (nI k) = some (hm X n (bt s) pl ld) := by
  obtain ⟨hn, hl, ht, _⟩ := h
  obtain ⟨rl, rr, rz⟩ := r
  intro d
  induction d with
  | zero =>
    intro k f hk hf
    obtain ⟨f, rfl⟩ : ∃ g, f = g + 1 := ⟨f - 1, by omega⟩
    have e : k = n := by omega
    subst e
    rw [g_X4_hearing_6, rl, if_pos (nI_le (Nat.le_refl _) (by omega))]
    rfl
  | succ d ih =>
    intro k f hk hf
    obtain ⟨f, rfl⟩ : ∃ g, f = g + 1 := ⟨f - 1, by omega⟩
    obtain ⟨h6, h7, q, hq, h8⟩ := ht k (by omega)
    obtain ⟨r1, r2⟩ := rr k (by omega)
    have hc : (nI (2 * k + 1)).toNatClampNeg = 2 * k + 1 := nI_clamp (by omega)
    have hq2 : (nI q).toNatClampNeg = q := nI_clamp (by omega)
    have ihk := ih (k + 1) f (by omega) (by omega)
    rw [g_X4_hearing_6, rl, if_neg (nI_ge (show k < n by omega) (by omega))]
    simp only [stp, pw_two, pw_one, hc, r2, h8, hq2, rz q hq, needsM Y (show k < 6 by omega), r1, Option.bind_some, pw_ix (show 2 * k + 1 < 12 by omega) (show (12 : Nat) < 2 ^ 31 by omega), pw_ix hq (show (6 : Nat) < 2 ^ 31 by omega), pw_and1 s (show k < 32 by omega)]
    rw [orb] at ihk
    by_cases c1 : nI q ≤ pl
    · have ed := dst_le c1
      rw [if_pos c1]
      by_cases c2 : ((ld - (2 * (pl - nI q))) - X 4 q) < needK (X 5 k)
      · have e2 : hcX X pl ld k = false := by unfold hcX; rw [h8, ed, hq2, decide_eq_true c2]; rfl
        rw [if_pos c2]
        rw [e2] at ihk
        simpa using ihk
      · have e2 : hcX X pl ld k = true := by unfold hcX; rw [h8, ed, hq2, decide_eq_false c2]; rfl
        rw [if_neg c2]
        rw [e2, Bool.true_and] at ihk
        exact ihk
    · have ed := dst_nle c1
      rw [if_neg c1]
      by_cases c2 : ((ld - (2 * (nI q - pl))) - X 4 q) < needK (X 5 k)
      · have e2 : hcX X pl ld k = false := by unfold hcX; rw [h8, ed, hq2, decide_eq_true c2]; rfl
        rw [if_pos c2]
        rw [e2] at ihk
        simpa using ihk
      · have e2 : hcX X pl ld k = true := by unfold hcX; rw [h8, ed, hq2, decide_eq_false c2]; rfl
        rw [if_neg c2]
        rw [e2, Bool.true_and] at ihk
        exact ihk
theorem hearM {X : WS} {Y : MS} {n : Nat} (h : WX X n) (r : RM X Y.1 n) (pl ld s : Int32) : f_X4_hearing Y pl ld s = some (hm X n (bt s) pl ld) := by
  have hn := h.1
  have e := hearM_loop h r pl ld s n 0 NF (by omega) (by have := NF_ge; omega)
  unfold f_X4_hearing
  exact e
def rpI (X : WS) (n : Nat) (mk : Nat → Bool) (fr : Int32) : Nat → Int32
  | 0 => 0
  | k + 1 => rpI X n mk fr k ||| (if bt fr k = true ∧ 0 < repK (X 5 k) then hm X n mk (X 8 k) (repK (X 5 k)) else 0)
def spI (X : WS) (n : Nat) (mk : Nat → Bool) : Nat → Int32 → Int32 → Int32
  | 0, _, now => now
  | d + 1, cr, now => if now &&& (cr ^^^ (-1)) = 0 then now else spI X n mk d now (now ||| rpI X n mk (now &&& (cr ^^^ (-1))) n)
def sp (X : WS) (n : Nat) (mk : Nat → Bool) (b pl ld : Int32) : Int32 := spI X n mk n b (b ||| hm X n mk pl ld)
theorem pw_nle {x : Int32} : x ≤ 0 ↔ ¬ 0 < x := by
  rw [Int32.le_iff_toInt_le, Int32.lt_iff_toInt_lt]; omega
theorem repX_loop {X : WS} {n : Nat} (h : WX X n) (fr : Int32) : ∀ (d k f : Nat), k + d = n → d < f → g_X2_repeatedBy_4 X fr f (rpI X n (fun _ => true) fr k) (nI k) = some (rpI X n (fun _ => true) fr n) := by
  have h0 := h
  obtain ⟨hn, hl, ht, _⟩ := h
  intro d
  induction d with
  | zero =>
    intro k f hk hf
    obtain ⟨f, rfl⟩ : ∃ g, f = g + 1 := ⟨f - 1, by omega⟩
    have e : k = n := by omega
    subst e
    rw [g_X2_repeatedBy_4, hl, if_pos (nI_le (Nat.le_refl _) (by omega))]
  | succ d ih =>
    intro k f hk hf
    obtain ⟨f, rfl⟩ : ∃ g, f = g + 1 := ⟨f - 1, by omega⟩
    obtain ⟨h6, h7, q, hq, h8⟩ := ht k (by omega)
    have hc : (nI k).toNatClampNeg = k := nI_clamp (by omega)
    have ihk := ih (k + 1) f (by omega) (by omega)
    rw [g_X2_repeatedBy_4, hl, if_neg (nI_ge (show k < n by omega) (by omega))]
    simp only [stp, hc, h7, pw_one, pw_ix (show k < 6 by omega) (show (6 : Nat) < 2 ^ 31 by omega), pw_bit fr (show k < 32 by omega), hearX h0, Option.bind_some]
    rw [rpI] at ihk
    by_cases c1 : bt fr k = true
    · by_cases c2 : 0 < repK (X 5 k)
      · rw [if_pos ⟨c1, c2⟩] at ihk
        rw [if_pos c1, if_pos rfl, if_neg (fun z => (pw_nle.mp z) c2)]
        exact ihk
      · rw [if_neg (fun z => c2 z.2)] at ihk
        rw [if_pos c1, if_pos rfl, if_pos (pw_nle.mpr c2)]
        simpa using ihk
    · rw [if_neg (fun z => c1 z.1)] at ihk
      rw [if_neg c1, if_neg (by decide)]
      simpa using ihk
theorem repX {X : WS} {n : Nat} (h : WX X n) (fr : Int32) : f_X2_repeatedBy X fr = some (rpI X n (fun _ => true) fr n) := by
  have hn := h.1
  exact repX_loop h fr n 0 NF (by omega) (by have := NF_ge; omega)
theorem hm_mask {X : WS} {n : Nat} (hn : n ≤ 6) (pl ld aw : Int32) : hm X n (fun _ => true) pl ld &&& (aw ^^^ (-1)) = hm X n (fun j => !bt aw j) pl ld := by
  apply b_ext
  intro i hi
  rw [b_and, bt_hm hn, bt_hm hn, b_not aw hi]
  cases decide (i < n) <;> cases hcX X pl ld i <;> cases bt aw i <;> rfl
theorem rpI_mask {X : WS} {n : Nat} (hn : n ≤ 6) (fr aw : Int32) : ∀ k, rpI X n (fun _ => true) fr k &&& (aw ^^^ (-1)) = rpI X n (fun j => !bt aw j) fr k := by
  intro k
  induction k with
  | zero => rw [rpI, rpI]; apply b_ext; intro i hi; rw [b_and, b_0]; rfl
  | succ k ih =>
    apply b_ext
    intro i hi
    have e1 : bt (rpI X n (fun _ => true) fr k &&& (aw ^^^ (-1))) i = bt (rpI X n (fun j => !bt aw j) fr k) i := by rw [ih]
    rw [b_and] at e1
    rw [rpI, rpI, b_and, b_or, b_or, ← e1]
    by_cases c : bt fr k = true ∧ 0 < repK (X 5 k)
    · rw [if_pos c, if_pos c, ← hm_mask hn, b_and]
      cases bt (rpI X n (fun _ => true) fr k) i <;> cases bt (hm X n (fun _ => true) (X 8 k) (repK (X 5 k))) i <;> cases bt (aw ^^^ (-1)) i <;> rfl
    · rw [if_neg c, if_neg c, b_0]
      cases bt (rpI X n (fun _ => true) fr k) i <;> cases bt (aw ^^^ (-1)) i <;> rfl
theorem fresh_eq (now x : Int32) : (now ||| x) &&& (now ^^^ (-1)) = x &&& (now ^^^ (-1)) := by
  apply b_ext
  intro i hi
  rw [b_and, b_and, b_or, b_not now hi]
  cases bt now i <;> cases bt x i <;> rfl
theorem spreadX_loop {X : WS} {n : Nat} (h : WX X n) (aw : Int32) : ∀ (d r f : Nat) (cr now : Int32), r + d = n → d < f → g_X2_spread_26 X aw f now (now &&& (cr ^^^ (-1))) (nI r) = some (spI X n (fun j => !bt aw j) d cr now) := by
  have hn := h.1
  have hl := h.2.1
  intro d
  induction d with
  | zero =>
    intro r f cr now hr hf
    obtain ⟨f, rfl⟩ : ∃ g, f = g + 1 := ⟨f - 1, by omega⟩
    have e : r = n := by omega
    subst e
    rw [g_X2_spread_26, hl, if_pos (nI_le (Nat.le_refl _) (by omega))]
    rfl
  | succ d ih =>
    intro r f cr now hr hf
    obtain ⟨f, rfl⟩ : ∃ g, f = g + 1 := ⟨f - 1, by omega⟩
    rw [g_X2_spread_26, hl, if_neg (nI_ge (show r < n by omega) (by omega)), spI]
    by_cases c : now &&& (cr ^^^ (-1)) = 0
    · rw [if_pos c, if_pos c]
    · rw [if_neg c, if_neg c]
      simp only [stp, pw_one, repX h, Option.bind_some, rpI_mask hn]
      rw [← fresh_eq now (rpI X n (fun j => !bt aw j) (now &&& (cr ^^^ (-1))) n)]
      exact ih (r + 1) f now _ (by omega) (by omega)
theorem spreadX {X : WS} {n : Nat} (h : WX X n) (b pl ld aw : Int32) : f_X2_spread X b pl ld aw = some (sp X n (fun j => !bt aw j) b pl ld) := by
  have hn := h.1
  unfold f_X2_spread
  simp only [stp, hearX h, Option.bind_some, hm_mask hn]
  exact spreadX_loop h aw n 0 NF b _ (by omega) (by have := NF_ge; omega)
/-! the other side -/
theorem heardIn {X : WS} {Y : MS} {n : Nat} (h : WX X n) (r : RM X Y.1 n) (s now cr : Int32) (k16 : Int32 → Int32 → Option Int32) : ∀ (d k f : Nat), k + d = n → d < f → g_X4_heardBy_30 Y k16 s f now cr (now ||| rpI X n (bt s) (now &&& (cr ^^^ (-1))) k) (nI k) = k16 (now ||| rpI X n (bt s) (now &&& (cr ^^^ (-1))) n) now := by
  have h0 := h
  have r0 := r
  obtain ⟨hn, hl, ht, _⟩ := h
  obtain ⟨rl, rr, rz⟩ := r
  intro d
  induction d with
  | zero =>
    intro k f hk hf
    obtain ⟨f, rfl⟩ : ∃ g, f = g + 1 := ⟨f - 1, by omega⟩
    have e : k = n := by omega
    subst e
    rw [g_X4_heardBy_30, rl, if_pos (nI_le (Nat.le_refl _) (by omega))]
  | succ d ih =>
    intro k f hk hf
    obtain ⟨f, rfl⟩ : ∃ g, f = g + 1 := ⟨f - 1, by omega⟩
    obtain ⟨r1, r2⟩ := rr k (by omega)
    have hc : (nI (2 * k + 1)).toNatClampNeg = 2 * k + 1 := nI_clamp (by omega)
    have ihk := ih (k + 1) f (by omega) (by omega)
    have ef : bt (now &&& (cr ^^^ (-1))) k = (bt now k && !bt cr k) := by rw [b_and, b_not cr (by omega)]
    rw [g_X4_heardBy_30, rl, if_neg (nI_ge (show k < n by omega) (by omega))]
    simp only [stp, pw_two, pw_one, hc, r2, criesM Y (show k < 6 by omega), r1, Option.bind_some, pw_ix (show 2 * k + 1 < 12 by omega) (show (12 : Nat) < 2 ^ 31 by omega), pw_bit now (show k < 32 by omega), pw_bit cr (show k < 32 by omega), hearM h0 r0]
    rw [rpI, ef] at ihk
    have eo : ∀ x y : Int32, now ||| (x ||| y) = (now ||| x) ||| y := fun x y => (Int32.or_assoc now x y).symm
    rw [eo] at ihk
    cases hb1 : bt now k
    · rw [hb1] at ihk
      simp at ihk ⊢
      exact ihk
    · cases hb2 : bt cr k
      · rw [hb1, hb2] at ihk
        by_cases c2 : 0 < repK (X 5 k)
        · rw [if_pos ⟨rfl, c2⟩] at ihk
          rw [if_pos (by simp), if_pos (by simp), if_neg (fun z => (pw_nle.mp z) c2)]
          exact ihk
        · rw [if_neg (fun z => c2 z.2)] at ihk
          rw [if_pos (by simp), if_pos (by simp), if_pos (pw_nle.mpr c2)]
          exact ihk
      · rw [hb1, hb2] at ihk
        simp at ihk ⊢
        exact ihk
def sbs (x y : Int32) : Prop := ∀ i, bt x i = true → bt y i = true
theorem fresh0 {cr now : Int32} (h : sbs cr now) : now &&& (cr ^^^ (-1)) = 0 ↔ cr = now := by
  constructor
  · intro e
    apply b_ext
    intro i hi
    have e1 : bt (now &&& (cr ^^^ (-1))) i = false := by rw [e, b_0]
    rw [b_and, b_not cr hi] at e1
    have e2 := h i
    cases h1 : bt cr i <;> cases h2 : bt now i <;> simp_all
  · intro e
    subst e
    apply b_ext
    intro i hi
    rw [b_and, b_not cr hi, b_0]
    cases bt cr i <;> rfl
theorem lo_hm {X : WS} {n : Nat} (hn : n ≤ 6) (mk : Nat → Bool) (pl ld : Int32) : lo n (hm X n mk pl ld) := lo_orb (by omega) _
theorem lo_rpI {X : WS} {n : Nat} (hn : n ≤ 6) (mk : Nat → Bool) (fr : Int32) : ∀ k, lo n (rpI X n mk fr k) := by
  intro k
  induction k with
  | zero => exact lo_0 n
  | succ k ih =>
    rw [rpI]
    refine lo_or ih ?_
    split
    · exact lo_hm hn _ _ _
    · exact lo_0 n
theorem lo_spI {X : WS} {n : Nat} (hn : n ≤ 6) (mk : Nat → Bool) : ∀ (d : Nat) (cr now : Int32), lo n now → lo n (spI X n mk d cr now) := by
  intro d
  induction d with
  | zero => intro cr now h; exact h
  | succ d ih =>
    intro cr now h
    rw [spI]
    split
    · exact h
    · exact ih _ _ (lo_or h (lo_rpI hn mk _ n))
theorem lo_sp {X : WS} {n : Nat} (hn : n ≤ 6) (mk : Nat → Bool) {b : Int32} (pl ld : Int32) (hb : lo n b) : lo n (sp X n mk b pl ld) := lo_spI hn mk n b _ (lo_or hb (lo_hm hn mk pl ld))
theorem sbs_spI {X : WS} {n : Nat} (mk : Nat → Bool) : ∀ (d : Nat) (cr now : Int32), sbs now (spI X n mk d cr now) := by
  intro d
  induction d with
  | zero => intro cr now i h; exact h
  | succ d ih =>
    intro cr now i h
    rw [spI]
    split
    · exact h
    · exact ih _ _ i (by rw [b_or, h]; rfl)
theorem sbs_sp {X : WS} {n : Nat} (mk : Nat → Bool) (b pl ld : Int32) : sbs b (sp X n mk b pl ld) := fun i h => sbs_spI mk n b _ i (by rw [b_or, h]; rfl)
theorem heardOut {X : WS} {Y : MS} {n : Nat} (h : WX X n) (r : RM X Y.1 n) (s : Int32) : ∀ (d f : Nat) (cr now : Int32), lo n now → sbs cr now → (now &&& (cr ^^^ (-1)) = 0 ∨ n < d + cnt (bt now) n) → d < f → g_X4_heardBy_16 Y s f now cr = some (spI X n (bt s) d cr now) := by
  have hn := h.1
  intro d
  induction d with
  | zero =>
    intro f cr now hl hs hd hf
    obtain ⟨f, rfl⟩ : ∃ g, f = g + 1 := ⟨f - 1, by omega⟩
    have e : now &&& (cr ^^^ (-1)) = 0 := by
      rcases hd with e | e
      · exact e
      · have := cnt_le (bt now) n; omega
    rw [g_X4_heardBy_16, if_pos ((fresh0 hs).mp e)]
    rfl
  | succ d ih =>
    intro f cr now hl hs hd hf
    obtain ⟨f, rfl⟩ : ∃ g, f = g + 1 := ⟨f - 1, by omega⟩
    rw [g_X4_heardBy_16, spI]
    by_cases c : now &&& (cr ^^^ (-1)) = 0
    · rw [if_pos c, if_pos ((fresh0 hs).mp c)]
    · rw [if_neg c, if_neg (fun z => c ((fresh0 hs).mpr z))]
      have e := heardIn h r s now cr (g_X4_heardBy_16 Y s f) n 0 NF (by omega) (by have := NF_ge; omega)
      have e0 : now ||| rpI X n (bt s) (now &&& (cr ^^^ (-1))) 0 = now := by
        rw [rpI]; apply b_ext; intro i _; rw [b_or, b_0, Bool.or_false]
      rw [e0, show nI 0 = 0 from rfl] at e
      rw [e]
      have hl2 : lo n (now ||| rpI X n (bt s) (now &&& (cr ^^^ (-1))) n) := lo_or hl (lo_rpI hn _ _ n)
      have hs2 : sbs now (now ||| rpI X n (bt s) (now &&& (cr ^^^ (-1))) n) := fun i hi => by rw [b_or, hi]; rfl
      refine ih f _ _ hl2 hs2 ?_ (by omega)
      by_cases c2 : (now ||| rpI X n (bt s) (now &&& (cr ^^^ (-1))) n) &&& (now ^^^ (-1)) = 0
      · exact Or.inl c2
      · right
        obtain ⟨i, hi, hb⟩ := ne0_bit (n := n) (by omega) (lo_and hl2) c2
        rw [b_and, b_not now (by omega)] at hb
        have h1 : bt now i = false := by cases h3 : bt now i <;> simp_all
        have h2 : bt (now ||| rpI X n (bt s) (now &&& (cr ^^^ (-1))) n) i = true := by
          cases h3 : bt (now ||| rpI X n (bt s) (now &&& (cr ^^^ (-1))) n) i <;> simp_all
        have h4 := cnt_lt (c := bt now) (c' := bt (now ||| rpI X n (bt s) (now &&& (cr ^^^ (-1))) n)) (k := n) i hi h1 h2 (fun j _ hj => hs2 j hj)
        rcases hd with e2 | e2
        · exact absurd e2 c
        · omega
theorem heardM {X : WS} {Y : MS} {n : Nat} (h : WX X n) (r : RM X Y.1 n) (pl ld s b : Int32) (hb : lo n b) : f_X4_heardBy Y pl ld s b = some (sp X n (bt s) b pl ld) := by
  have hn := h.1
  unfold f_X4_heardBy
  simp only [stp, hearM h r, Option.bind_some]
  have hl : lo n (b ||| hm X n (bt s) pl ld) := lo_or hb (lo_hm hn _ _ _)
  refine heardOut h r s n NF b _ hl (fun i hi => by rw [b_or, hi]; rfl) ?_ (by have := NF_ge; omega)
  by_cases c : (b ||| hm X n (bt s) pl ld) &&& (b ^^^ (-1)) = 0
  · exact Or.inl c
  · right
    obtain ⟨i, hi, hbi⟩ := ne0_bit (n := n) (by omega) (lo_and hl) c
    rw [b_and] at hbi
    have h2 : bt (b ||| hm X n (bt s) pl ld) i = true := by
      cases h3 : bt (b ||| hm X n (bt s) pl ld) i <;> simp_all
    have := cnt_pos (c := bt (b ||| hm X n (bt s) pl ld)) hi h2
    omega
end
section
theorem zz_last : True := trivial
end
