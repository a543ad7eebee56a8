set_option maxHeartbeats 8000000 in
set_option maxRecDepth 100000 in
theorem law_loop {p : Program} {l : Launch} {e : Env} {s : State} {m : MethodId} {below : List Frame} {meth : Method} {c : Code} {dC : Nat → ClassId} {dI : Nat → Nat → Nat} {b0 L : Nat} {xs : Nat → Int32} (hL : L ≤ 320) (C0 : lw_At p s m meth c b0 L xs) (a b : Nat → Nat) (cA : ClassId) (hK : va_K (dC, dI) classes [(cA, .int)] s) (hDx : va_D (AX a) (wl a cA XZ)) (hDm : va_D (AM b) (wm b cA YZ)) (axA : ∀ q, AX a q → s.heap.size ≤ q) (amA : ∀ q, AM b q → s.heap.size ≤ q) (njx : ∀ q, AM b q → ¬ AX a q) :
    ∀ (n i N : Nat) (X : WS) (Y : MS) (H : Heap) (locs : List Loc), i ≤ L → N ≤ i → L + 1 ≤ i + n → Rel X Y N → va_P (dC, dI) classes (wl a cA X) H → va_P (dC, dI) classes (wm b cA Y) H → va_S (fun q : Nat => s.heap.size ≤ q) s.heap H locs → ∀ (ls : Array Slot), lv_has ls 4 [(0, .ref b0), (1, .ref (a 0)), (2, .ref (b 0)), (3, .int (nI i))] → W p l e room_1 s m #[Value.ref b0] below meth c H locs 600000 7302250 (lw_Z below #[Value.ref b0] s) (F0 m 18 ls []) := by
  obtain ⟨hx, hb, hr, hml, hown, hts0, hX, hbl, hlocks, hgv⟩ := C0
  have hts : ∀ w ∈ lw_g, w.before #[Value.ref b0] s = true := fun w h => hts0 w (List.mem_filter.mp h).1
  have hN : nst s := fun q hq => va_Nw.of rfl (hts0 _ (nw_tbl q hq))
  have hbA : ¬ (fun q : Nat => s.heap.size ≤ q) b0 := Nat.not_le.mpr hbl
  have njm : ∀ q, AX a q → ¬ AM b q := fun q h1 h2 => njx q h2 h1
  intro n
  induction n with
  | zero => intro i N X Y H locs h1 h2 h3; exact absurd h3 (by omega)
  | succ n ih =>
    intro i N X Y H locs hi hNi hn hR hPx hPm hS ls hl
    have hN5 : N ≤ 500 := by omega
    refine lv_iload_n hx hb dL_law_18 rfl (lv_at hl 3 rfl) ?_
    refine lv_aload_n hx hb dL_law_19 rfl (lv_at hl 0 rfl) ?_
    refine va_slen hx hb hX hbl hbA hS dL_law_20 ?_
    refine lv_iconst (v := 5) hx hb dL_law_21 (by decide) ?_
    refine lv_isub hx hb dL_law_22 ?_
    refine lv_icmp_gt (tgt := 830) hx hb dL_law_23 (by decide) (fun cg => ?_) (fun cg => ?_)
    · refine lv_iconst (v := 1) hx hb dL_law_830 (by decide) ?_
      refine va_forget (fun q hq => hS.2.2 q hq) ?_
      exact lw_ret hx hb hr hlocks dL_law_831
    · have hlt : i + 5 ≤ L := by
        rcases Nat.lt_or_ge L (i + 5) with z | z
        · refine absurd ?_ cg
          rw [Int32.lt_iff_toInt_lt, show Int32.ofNat L = nI L from rfl, show (5 : Int32) = nI 5 from rfl, pk_sub_toInt (by omega) (by omega), nI_toInt (by omega)]
          omega
        · exact z
      have hi0 : vp_in (nI i) L := vp_in_nI (by omega) (by omega)
      have hi1 : vp_in ((nI i) + 1) L := by rw [show nI i + 1 = nI (i + 1) from nI_add i 1]; exact vp_in_nI (by omega) (by omega)
      have hi2 : vp_in ((nI i) + 2) L := by rw [show nI i + 2 = nI (i + 2) from nI_add i 2]; exact vp_in_nI (by omega) (by omega)
      have hi3 : vp_in ((nI i) + 3) L := by rw [show nI i + 3 = nI (i + 3) from nI_add i 3]; exact vp_in_nI (by omega) (by omega)
      have hi4 : vp_in ((nI i) + 4) L := by rw [show nI i + 4 = nI (i + 4) from nI_add i 4]; exact vp_in_nI (by omega) (by omega)
      have htail : ∀ (X' : WS) (Y' : MS) (H : Heap) (locs : List Loc) (ls : Array Slot), Rel X' Y' (N + 1) → va_P (dC, dI) classes (wl a cA X') H → va_P (dC, dI) classes (wm b cA Y') H → va_S (fun q : Nat => s.heap.size ≤ q) s.heap H locs → lv_has ls 4 [(0, .ref b0), (1, .ref (a 0)), (2, .ref (b 0)), (3, .int (nI i))] → W p l e room_1 s m #[Value.ref b0] below meth c H locs 600000 7302250 (lw_Z below #[Value.ref b0] s) (F0 m 824 ls []) := by
        intro X' Y' H locs ls hR1 hPx hPm hS hl
        refine lv_iinc (v := nI (i + 5)) (lv' := [(3, .int (nI (i + 5))), (0, .ref b0), (1, .ref (a 0)), (2, .ref (b 0))]) hx hb dL_law_824 hl (k := 3) rfl (by rw [show Int32.ofInt 5 = nI 5 from rfl]; exact nI_add i 5) (by decide) rfl (fun ls hl => ?_)
        refine lv_goto (tgt := 18) hx hb dL_law_827 (by decide) ?_
        exact ih (i + 5) (N + 1) X' Y' H locs (by omega) (by omega) (by omega) hR1 hPx hPm hS ls (lv_sub hl [1, 2, 3, 0] rfl)
      refine lv_aload_n hx hb dL_law_26 rfl (lv_at hl 0 rfl) ?_
      refine lv_iload_n hx hb dL_law_27 rfl (lv_at hl 3 rfl) ?_
      refine va_sld hx hb hX hbl hbA hS hi0 dL_law_28 ?_
      refine lv_bipush (v := 31) hx hb dL_law_29 (by decide) ?_
      refine lv_iand hx hb dL_law_31 ?_
      refine lv_topi (fun o eo => ?_)
      by_cases k0 : o = 0
      · refine lv_tableIn (off := 124) (tgt := 156) hx hb dL_law_32 (by rw [k0]; decide) (by rw [k0]; decide) (by rw [k0]; rfl) (by decide) ?_
        refine lv_aload_n hx hb dL_law_156 rfl (lv_at hl 1 rfl) ?_
        refine lv_aload_n hx hb dL_law_157 rfl (lv_at hl 0 rfl) ?_
        refine lv_iload_n hx hb dL_law_158 rfl (lv_at hl 3 rfl) ?_
        refine lv_iconst (v := 1) hx hb dL_law_159 (by decide) ?_
        refine lv_iadd hx hb dL_law_160 ?_
        refine va_sld hx hb hX hbl hbA hS hi1 dL_law_161 ?_
        obtain ⟨r, X1, Y1, e1, e2, hR1⟩ := s_letter hR (xs (Int32.toNatClampNeg ((nI i) + 1)))
        refine va_calli (va_runV (As := [.int (xs (Int32.toNatClampNeg ((nI i) + 1)))]) (rest := []) ⟨hx, hb, hml, hown, hts⟩ (c_X3_letter l dC dI (AX a) a cA X (xs (Int32.toNatClampNeg ((nI i) + 1))) (r, X1) e1) ⟨callB_of 1 hts gd_X3_letter rfl rfl rfl (hts _ wd_35) (hts _ wd_197) hd_X3_letter ⟨Nat.le_of_ble_eq_true rfl, Nat.le_of_ble_eq_true rfl⟩, hts _ wd_198, hts _ wd_199⟩ ⟨blXD, va_recv hK hPx (ci := 3) (q0 := 0) rfl rfl, fun U hU hW => ⟨rfl, by rw [hU]; exact hPx, va_K.moved hW.alike hK, nst.warm hW hN, wlD hDx⟩⟩ rfl rfl hl.1 rfl (lv_room (Nat.le_of_ble_eq_true rfl)) dL_law_162 ⟨Nat.le_of_ble_eq_true rfl, Nat.le_of_ble_eq_true rfl⟩) hS (fun q _ h => axA q h) (fun q h => axA q h) (fun r_ u_ t_ H1 locs1 ht hvm hp_ hB hz1 hk1 hS1 => ?_)
        obtain ⟨q1_, q2_⟩ := Prod.mk.inj hp_
        subst q1_
        subst q2_
        obtain ⟨hP1, hK1⟩ := hB
        rw [ht] at hP1
        have hPm := keepP hPm hDm njx hk1
        have hPx := hP1
        have hS := hS1
        refine lv_aload_n hx hb dL_law_165 rfl (lv_at hl 2 rfl) ?_
        refine lv_aload_n hx hb dL_law_166 rfl (lv_at hl 0 rfl) ?_
        refine lv_iload_n hx hb dL_law_167 rfl (lv_at hl 3 rfl) ?_
        refine lv_iconst (v := 1) hx hb dL_law_168 (by decide) ?_
        refine lv_iadd hx hb dL_law_169 ?_
        refine va_sld hx hb hX hbl hbA hS hi1 dL_law_170 ?_
        refine va_calli (va_runV (As := [.int (xs (Int32.toNatClampNeg ((nI i) + 1)))]) (rest := [.int r]) ⟨hx, hb, hml, hown, hts⟩ (c_X4_letter l dC dI (AM b) b cA Y (xs (Int32.toNatClampNeg ((nI i) + 1))) (r, Y1) e2) ⟨callB_of 1 hts gd_X4_letter rfl rfl rfl (hts _ wd_39) (hts _ wd_610) hd_X4_letter ⟨Nat.le_of_ble_eq_true rfl, Nat.le_of_ble_eq_true rfl⟩, hts _ wd_611, hts _ wd_612⟩ ⟨blMD, va_recv hK hPm (ci := 4) (q0 := 0) rfl rfl, fun U hU hW => ⟨rfl, by rw [hU]; exact hPm, va_K.moved hW.alike hK, wmD hDm⟩⟩ rfl rfl hl.1 rfl (lv_room (Nat.le_of_ble_eq_true rfl)) dL_law_171 ⟨Nat.le_of_ble_eq_true rfl, Nat.le_of_ble_eq_true rfl⟩) hS (fun q _ h => amA q h) (fun q h => amA q h) (fun r_ u_ t_ H1 locs1 ht hvm hp_ hB hz1 hk1 hS1 => ?_)
        obtain ⟨q1_, q2_⟩ := Prod.mk.inj hp_
        subst q1_
        subst q2_
        obtain ⟨hP1, hK1⟩ := hB
        rw [ht] at hP1
        have hPx := keepP hPx hDx njm hk1
        have hPm := hP1
        have hS := hS1
        refine lv_icmp_eq (tgt := 824) hx hb dL_law_174 (by decide) (fun _ => ?_) (fun z => absurd rfl z)
        exact htail _ _ _ _ _ hR1 hPx hPm hS hl
      by_cases k1 : o = 1
      · refine lv_tableIn (off := 147) (tgt := 179) hx hb dL_law_32 (by rw [k1]; decide) (by rw [k1]; decide) (by rw [k1]; rfl) (by decide) ?_
        refine lv_aload_n hx hb dL_law_179 rfl (lv_at hl 1 rfl) ?_
        obtain ⟨r, X1, Y1, e1, e2, hR1⟩ := s_blank hR
        refine va_calli (va_runV (As := []) (rest := []) ⟨hx, hb, hml, hown, hts⟩ (c_X3_blank l dC dI (AX a) a cA X (r, X1) e1) ⟨callB_of 0 hts gd_X3_blank rfl rfl rfl (hts _ wd_35) (hts _ wd_205) hd_X3_blank ⟨Nat.le_of_ble_eq_true rfl, Nat.le_of_ble_eq_true rfl⟩, hts _ wd_206, hts _ wd_207⟩ ⟨blXD, va_recv hK hPx (ci := 3) (q0 := 0) rfl rfl, fun U hU hW => ⟨rfl, by rw [hU]; exact hPx, va_K.moved hW.alike hK, nst.warm hW hN, wlD hDx⟩⟩ rfl rfl hl.1 rfl (lv_room (Nat.le_of_ble_eq_true rfl)) dL_law_180 ⟨Nat.le_of_ble_eq_true rfl, Nat.le_of_ble_eq_true rfl⟩) hS (fun q _ h => axA q h) (fun q h => axA q h) (fun r_ u_ t_ H1 locs1 ht hvm hp_ hB hz1 hk1 hS1 => ?_)
        obtain ⟨q1_, q2_⟩ := Prod.mk.inj hp_
        subst q1_
        subst q2_
        obtain ⟨hP1, hK1⟩ := hB
        rw [ht] at hP1
        have hPm := keepP hPm hDm njx hk1
        have hPx := hP1
        have hS := hS1
        refine lv_aload_n hx hb dL_law_183 rfl (lv_at hl 2 rfl) ?_
        refine va_calli (va_runV (As := []) (rest := [.int r]) ⟨hx, hb, hml, hown, hts⟩ (c_X4_blank l dC dI (AM b) b cA Y (r, Y1) e2) ⟨callB_of 0 hts gd_X4_blank rfl rfl rfl (hts _ wd_39) (hts _ wd_618) hd_X4_blank ⟨Nat.le_of_ble_eq_true rfl, Nat.le_of_ble_eq_true rfl⟩, hts _ wd_619, hts _ wd_620⟩ ⟨blMD, va_recv hK hPm (ci := 4) (q0 := 0) rfl rfl, fun U hU hW => ⟨rfl, by rw [hU]; exact hPm, va_K.moved hW.alike hK, wmD hDm⟩⟩ rfl rfl hl.1 rfl (lv_room (Nat.le_of_ble_eq_true rfl)) dL_law_184 ⟨Nat.le_of_ble_eq_true rfl, Nat.le_of_ble_eq_true rfl⟩) hS (fun q _ h => amA q h) (fun q h => amA q h) (fun r_ u_ t_ H1 locs1 ht hvm hp_ hB hz1 hk1 hS1 => ?_)
        obtain ⟨q1_, q2_⟩ := Prod.mk.inj hp_
        subst q1_
        subst q2_
        obtain ⟨hP1, hK1⟩ := hB
        rw [ht] at hP1
        have hPx := keepP hPx hDx njm hk1
        have hPm := hP1
        have hS := hS1
        refine lv_icmp_eq (tgt := 824) hx hb dL_law_187 (by decide) (fun _ => ?_) (fun z => absurd rfl z)
        exact htail _ _ _ _ _ hR1 hPx hPm hS hl
      by_cases k2 : o = 2
      · refine lv_tableIn (off := 160) (tgt := 192) hx hb dL_law_32 (by rw [k2]; decide) (by rw [k2]; decide) (by rw [k2]; rfl) (by decide) ?_
        refine lv_aload_n hx hb dL_law_192 rfl (lv_at hl 1 rfl) ?_
        obtain ⟨r, e1, e2⟩ := s_fault hR
        have hR1 := Rel_up hR
        refine vp_callSi (va_runV (As := []) (rest := []) ⟨hx, hb, hml, hown, hts⟩ (c_X3_fault l dC dI a cA X r e1) ⟨callB_of 0 hts gd_X3_fault rfl rfl rfl (hts _ wd_35) (hts _ wd_213) hd_X3_fault ⟨Nat.le_of_ble_eq_true rfl, Nat.le_of_ble_eq_true rfl⟩, hts _ wd_214, hts _ wd_215⟩ ⟨blX, va_recv hK hPx (ci := 3) (q0 := 0) rfl rfl, fun U hU hW => ⟨rfl, by rw [hU]; exact hPx, va_K.moved hW.alike hK, nst.warm hW hN⟩⟩ rfl rfl hl.1 rfl (lv_room (Nat.le_of_ble_eq_true rfl)) dL_law_193 ⟨Nat.le_of_ble_eq_true rfl, Nat.le_of_ble_eq_true rfl⟩).run (fun r_ e_ => ?_)
        subst r_
        refine lv_aload_n hx hb dL_law_196 rfl (lv_at hl 2 rfl) ?_
        refine vp_callSi (va_runV (As := []) (rest := [.int r]) ⟨hx, hb, hml, hown, hts⟩ (c_X4_fault l dC dI b cA Y r e2) ⟨callB_of 0 hts gd_X4_fault rfl rfl rfl (hts _ wd_39) (hts _ wd_622) hd_X4_fault ⟨Nat.le_of_ble_eq_true rfl, Nat.le_of_ble_eq_true rfl⟩, hts _ wd_623, hts _ wd_624⟩ ⟨blM, va_recv hK hPm (ci := 4) (q0 := 0) rfl rfl, fun U hU hW => ⟨rfl, by rw [hU]; exact hPm, va_K.moved hW.alike hK⟩⟩ rfl rfl hl.1 rfl (lv_room (Nat.le_of_ble_eq_true rfl)) dL_law_197 ⟨Nat.le_of_ble_eq_true rfl, Nat.le_of_ble_eq_true rfl⟩).run (fun r_ e_ => ?_)
        subst r_
        refine lv_icmp_eq (tgt := 824) hx hb dL_law_200 (by decide) (fun _ => ?_) (fun z => absurd rfl z)
        exact htail _ _ _ _ _ hR1 hPx hPm hS hl
      by_cases k3 : o = 3
      · refine lv_tableIn (off := 173) (tgt := 205) hx hb dL_law_32 (by rw [k3]; decide) (by rw [k3]; decide) (by rw [k3]; rfl) (by decide) ?_
        refine lv_aload_n hx hb dL_law_205 rfl (lv_at hl 1 rfl) ?_
        obtain ⟨r, X1, Y1, e1, e2, hR1⟩ := s_town hR hN5
        refine va_calli (va_runV (As := []) (rest := []) ⟨hx, hb, hml, hown, hts⟩ (c_X3_town l dC dI (AX a) a cA X (r, X1) e1) ⟨callB_of 0 hts gd_X3_town rfl rfl rfl (hts _ wd_35) (hts _ wd_224) hd_X3_town ⟨Nat.le_of_ble_eq_true rfl, Nat.le_of_ble_eq_true rfl⟩, hts _ wd_225, hts _ wd_226⟩ ⟨blXD, va_recv hK hPx (ci := 3) (q0 := 0) rfl rfl, fun U hU hW => ⟨rfl, by rw [hU]; exact hPx, va_K.moved hW.alike hK, nst.warm hW hN, wlD hDx⟩⟩ rfl rfl hl.1 rfl (lv_room (Nat.le_of_ble_eq_true rfl)) dL_law_206 ⟨Nat.le_of_ble_eq_true rfl, Nat.le_of_ble_eq_true rfl⟩) hS (fun q _ h => axA q h) (fun q h => axA q h) (fun r_ u_ t_ H1 locs1 ht hvm hp_ hB hz1 hk1 hS1 => ?_)
        obtain ⟨q1_, q2_⟩ := Prod.mk.inj hp_
        subst q1_
        subst q2_
        obtain ⟨hP1, hK1⟩ := hB
        rw [ht] at hP1
        have hPm := keepP hPm hDm njx hk1
        have hPx := hP1
        have hS := hS1
        refine lv_aload_n hx hb dL_law_209 rfl (lv_at hl 2 rfl) ?_
        refine va_calli (va_runV (As := []) (rest := [.int r]) ⟨hx, hb, hml, hown, hts⟩ (c_X4_town l dC dI (AM b) b cA Y (r, Y1) e2) ⟨callB_of 0 hts gd_X4_town rfl rfl rfl (hts _ wd_39) (hts _ wd_635) hd_X4_town ⟨Nat.le_of_ble_eq_true rfl, Nat.le_of_ble_eq_true rfl⟩, hts _ wd_636, hts _ wd_637⟩ ⟨blMD, va_recv hK hPm (ci := 4) (q0 := 0) rfl rfl, fun U hU hW => ⟨rfl, by rw [hU]; exact hPm, va_K.moved hW.alike hK, wmD hDm⟩⟩ rfl rfl hl.1 rfl (lv_room (Nat.le_of_ble_eq_true rfl)) dL_law_210 ⟨Nat.le_of_ble_eq_true rfl, Nat.le_of_ble_eq_true rfl⟩) hS (fun q _ h => amA q h) (fun q h => amA q h) (fun r_ u_ t_ H1 locs1 ht hvm hp_ hB hz1 hk1 hS1 => ?_)
        obtain ⟨q1_, q2_⟩ := Prod.mk.inj hp_
        subst q1_
        subst q2_
        obtain ⟨hP1, hK1⟩ := hB
        rw [ht] at hP1
        have hPx := keepP hPx hDx njm hk1
        have hPm := hP1
        have hS := hS1
        refine lv_icmp_eq (tgt := 824) hx hb dL_law_213 (by decide) (fun _ => ?_) (fun z => absurd rfl z)
        exact htail _ _ _ _ _ hR1 hPx hPm hS hl
      by_cases k4 : o = 4
      · refine lv_tableIn (off := 186) (tgt := 218) hx hb dL_law_32 (by rw [k4]; decide) (by rw [k4]; decide) (by rw [k4]; rfl) (by decide) ?_
        refine lv_aload_n hx hb dL_law_218 rfl (lv_at hl 1 rfl) ?_
        refine lv_aload_n hx hb dL_law_219 rfl (lv_at hl 0 rfl) ?_
        refine lv_iload_n hx hb dL_law_220 rfl (lv_at hl 3 rfl) ?_
        refine lv_iconst (v := 1) hx hb dL_law_221 (by decide) ?_
        refine lv_iadd hx hb dL_law_222 ?_
        refine va_sld hx hb hX hbl hbA hS hi1 dL_law_223 ?_
        obtain ⟨r, e1, e2⟩ := s_noise hR hN5 (xs (Int32.toNatClampNeg ((nI i) + 1)))
        have hR1 := Rel_up hR
        refine vp_callSi (va_runV (As := [.int (xs (Int32.toNatClampNeg ((nI i) + 1)))]) (rest := []) ⟨hx, hb, hml, hown, hts⟩ (c_X3_noise l dC dI a cA X (xs (Int32.toNatClampNeg ((nI i) + 1))) r e1) ⟨callB_of 1 hts gd_X3_noise rfl rfl rfl (hts _ wd_35) (hts _ wd_249) hd_X3_noise ⟨Nat.le_of_ble_eq_true rfl, Nat.le_of_ble_eq_true rfl⟩, hts _ wd_250, hts _ wd_251⟩ ⟨blX, va_recv hK hPx (ci := 3) (q0 := 0) rfl rfl, fun U hU hW => ⟨rfl, by rw [hU]; exact hPx, va_K.moved hW.alike hK, nst.warm hW hN⟩⟩ rfl rfl hl.1 rfl (lv_room (Nat.le_of_ble_eq_true rfl)) dL_law_224 ⟨Nat.le_of_ble_eq_true rfl, Nat.le_of_ble_eq_true rfl⟩).run (fun r_ e_ => ?_)
        subst r_
        refine lv_aload_n hx hb dL_law_227 rfl (lv_at hl 2 rfl) ?_
        refine lv_aload_n hx hb dL_law_228 rfl (lv_at hl 0 rfl) ?_
        refine lv_iload_n hx hb dL_law_229 rfl (lv_at hl 3 rfl) ?_
        refine lv_iconst (v := 1) hx hb dL_law_230 (by decide) ?_
        refine lv_iadd hx hb dL_law_231 ?_
        refine va_sld hx hb hX hbl hbA hS hi1 dL_law_232 ?_
        refine vp_callSi (va_runV (As := [.int (xs (Int32.toNatClampNeg ((nI i) + 1)))]) (rest := [.int r]) ⟨hx, hb, hml, hown, hts⟩ (c_X4_noise l dC dI b cA Y (xs (Int32.toNatClampNeg ((nI i) + 1))) r e2) ⟨callB_of 1 hts gd_X4_noise rfl rfl rfl (hts _ wd_39) (hts _ wd_639) hd_X4_noise ⟨Nat.le_of_ble_eq_true rfl, Nat.le_of_ble_eq_true rfl⟩, hts _ wd_640, hts _ wd_641⟩ ⟨blM, va_recv hK hPm (ci := 4) (q0 := 0) rfl rfl, fun U hU hW => ⟨rfl, by rw [hU]; exact hPm, va_K.moved hW.alike hK⟩⟩ rfl rfl hl.1 rfl (lv_room (Nat.le_of_ble_eq_true rfl)) dL_law_233 ⟨Nat.le_of_ble_eq_true rfl, Nat.le_of_ble_eq_true rfl⟩).run (fun r_ e_ => ?_)
        subst r_
        refine lv_icmp_eq (tgt := 824) hx hb dL_law_236 (by decide) (fun _ => ?_) (fun z => absurd rfl z)
        exact htail _ _ _ _ _ hR1 hPx hPm hS hl
      by_cases k5 : o = 5
      · refine lv_tableIn (off := 209) (tgt := 241) hx hb dL_law_32 (by rw [k5]; decide) (by rw [k5]; decide) (by rw [k5]; rfl) (by decide) ?_
        refine lv_aload_n hx hb dL_law_241 rfl (lv_at hl 1 rfl) ?_
        refine lv_aload_n hx hb dL_law_242 rfl (lv_at hl 0 rfl) ?_
        refine lv_iload_n hx hb dL_law_243 rfl (lv_at hl 3 rfl) ?_
        refine lv_iconst (v := 1) hx hb dL_law_244 (by decide) ?_
        refine lv_iadd hx hb dL_law_245 ?_
        refine va_sld hx hb hX hbl hbA hS hi1 dL_law_246 ?_
        refine lv_aload_n hx hb dL_law_247 rfl (lv_at hl 0 rfl) ?_
        refine lv_iload_n hx hb dL_law_248 rfl (lv_at hl 3 rfl) ?_
        refine lv_iconst (v := 2) hx hb dL_law_249 (by decide) ?_
        refine lv_iadd hx hb dL_law_250 ?_
        refine va_sld hx hb hX hbl hbA hS hi2 dL_law_251 ?_
        obtain ⟨r, X1, Y1, e1, e2, hR1⟩ := s_hum hR hN5 (xs (Int32.toNatClampNeg ((nI i) + 1))) (xs (Int32.toNatClampNeg ((nI i) + 2)))
        refine va_calli (va_runV (As := [.int (xs (Int32.toNatClampNeg ((nI i) + 1))), .int (xs (Int32.toNatClampNeg ((nI i) + 2)))]) (rest := []) ⟨hx, hb, hml, hown, hts⟩ (c_X3_hum l dC dI (AX a) a cA X (xs (Int32.toNatClampNeg ((nI i) + 1))) (xs (Int32.toNatClampNeg ((nI i) + 2))) (r, X1) e1) ⟨callB_of 2 hts gd_X3_hum rfl rfl rfl (hts _ wd_35) (hts _ wd_261) hd_X3_hum ⟨Nat.le_of_ble_eq_true rfl, Nat.le_of_ble_eq_true rfl⟩, hts _ wd_262, hts _ wd_263⟩ ⟨blXD, va_recv hK hPx (ci := 3) (q0 := 0) rfl rfl, fun U hU hW => ⟨rfl, by rw [hU]; exact hPx, va_K.moved hW.alike hK, nst.warm hW hN, wlD hDx⟩⟩ rfl rfl hl.1 rfl (lv_room (Nat.le_of_ble_eq_true rfl)) dL_law_252 ⟨Nat.le_of_ble_eq_true rfl, Nat.le_of_ble_eq_true rfl⟩) hS (fun q _ h => axA q h) (fun q h => axA q h) (fun r_ u_ t_ H1 locs1 ht hvm hp_ hB hz1 hk1 hS1 => ?_)
        obtain ⟨q1_, q2_⟩ := Prod.mk.inj hp_
        subst q1_
        subst q2_
        obtain ⟨hP1, hK1⟩ := hB
        rw [ht] at hP1
        have hPm := keepP hPm hDm njx hk1
        have hPx := hP1
        have hS := hS1
        refine lv_aload_n hx hb dL_law_255 rfl (lv_at hl 2 rfl) ?_
        refine lv_aload_n hx hb dL_law_256 rfl (lv_at hl 0 rfl) ?_
        refine lv_iload_n hx hb dL_law_257 rfl (lv_at hl 3 rfl) ?_
        refine lv_iconst (v := 1) hx hb dL_law_258 (by decide) ?_
        refine lv_iadd hx hb dL_law_259 ?_
        refine va_sld hx hb hX hbl hbA hS hi1 dL_law_260 ?_
        refine lv_aload_n hx hb dL_law_261 rfl (lv_at hl 0 rfl) ?_
        refine lv_iload_n hx hb dL_law_262 rfl (lv_at hl 3 rfl) ?_
        refine lv_iconst (v := 2) hx hb dL_law_263 (by decide) ?_
        refine lv_iadd hx hb dL_law_264 ?_
        refine va_sld hx hb hX hbl hbA hS hi2 dL_law_265 ?_
        refine va_calli (va_runV (As := [.int (xs (Int32.toNatClampNeg ((nI i) + 1))), .int (xs (Int32.toNatClampNeg ((nI i) + 2)))]) (rest := [.int r]) ⟨hx, hb, hml, hown, hts⟩ (c_X4_hum l dC dI (AM b) b cA Y (xs (Int32.toNatClampNeg ((nI i) + 1))) (xs (Int32.toNatClampNeg ((nI i) + 2))) (r, Y1) e2) ⟨callB_of 2 hts gd_X4_hum rfl rfl rfl (hts _ wd_39) (hts _ wd_651) hd_X4_hum ⟨Nat.le_of_ble_eq_true rfl, Nat.le_of_ble_eq_true rfl⟩, hts _ wd_652, hts _ wd_653⟩ ⟨blMD, va_recv hK hPm (ci := 4) (q0 := 0) rfl rfl, fun U hU hW => ⟨rfl, by rw [hU]; exact hPm, va_K.moved hW.alike hK, wmD hDm⟩⟩ rfl rfl hl.1 rfl (lv_room (Nat.le_of_ble_eq_true rfl)) dL_law_266 ⟨Nat.le_of_ble_eq_true rfl, Nat.le_of_ble_eq_true rfl⟩) hS (fun q _ h => amA q h) (fun q h => amA q h) (fun r_ u_ t_ H1 locs1 ht hvm hp_ hB hz1 hk1 hS1 => ?_)
        obtain ⟨q1_, q2_⟩ := Prod.mk.inj hp_
        subst q1_
        subst q2_
        obtain ⟨hP1, hK1⟩ := hB
        rw [ht] at hP1
        have hPx := keepP hPx hDx njm hk1
        have hPm := hP1
        have hS := hS1
        refine lv_icmp_eq (tgt := 824) hx hb dL_law_269 (by decide) (fun _ => ?_) (fun z => absurd rfl z)
        exact htail _ _ _ _ _ hR1 hPx hPm hS hl
      by_cases k6 : o = 6
      · refine lv_tableIn (off := 242) (tgt := 274) hx hb dL_law_32 (by rw [k6]; decide) (by rw [k6]; decide) (by rw [k6]; rfl) (by decide) ?_
        refine lv_aload_n hx hb dL_law_274 rfl (lv_at hl 1 rfl) ?_
        refine lv_aload_n hx hb dL_law_275 rfl (lv_at hl 0 rfl) ?_
        refine lv_iload_n hx hb dL_law_276 rfl (lv_at hl 3 rfl) ?_
        refine lv_iconst (v := 1) hx hb dL_law_277 (by decide) ?_
        refine lv_iadd hx hb dL_law_278 ?_
        refine va_sld hx hb hX hbl hbA hS hi1 dL_law_279 ?_
        refine lv_aload_n hx hb dL_law_280 rfl (lv_at hl 0 rfl) ?_
        refine lv_iload_n hx hb dL_law_281 rfl (lv_at hl 3 rfl) ?_
        refine lv_iconst (v := 2) hx hb dL_law_282 (by decide) ?_
        refine lv_iadd hx hb dL_law_283 ?_
        refine va_sld hx hb hX hbl hbA hS hi2 dL_law_284 ?_
        obtain ⟨r, X1, Y1, e1, e2, hR1⟩ := s_listener hR hN5 (xs (Int32.toNatClampNeg ((nI i) + 1))) (xs (Int32.toNatClampNeg ((nI i) + 2)))
        refine va_calli (va_runV (As := [.int (xs (Int32.toNatClampNeg ((nI i) + 1))), .int (xs (Int32.toNatClampNeg ((nI i) + 2)))]) (rest := []) ⟨hx, hb, hml, hown, hts⟩ (c_X3_listener l dC dI (AX a) a cA X (xs (Int32.toNatClampNeg ((nI i) + 1))) (xs (Int32.toNatClampNeg ((nI i) + 2))) (r, X1) e1) ⟨callB_of 2 hts gd_X3_listener rfl rfl rfl (hts _ wd_35) (hts _ wd_265) hd_X3_listener ⟨Nat.le_of_ble_eq_true rfl, Nat.le_of_ble_eq_true rfl⟩, hts _ wd_266, hts _ wd_267⟩ ⟨blXD, va_recv hK hPx (ci := 3) (q0 := 0) rfl rfl, fun U hU hW => ⟨rfl, by rw [hU]; exact hPx, va_K.moved hW.alike hK, nst.warm hW hN, wlD hDx⟩⟩ rfl rfl hl.1 rfl (lv_room (Nat.le_of_ble_eq_true rfl)) dL_law_285 ⟨Nat.le_of_ble_eq_true rfl, Nat.le_of_ble_eq_true rfl⟩) hS (fun q _ h => axA q h) (fun q h => axA q h) (fun r_ u_ t_ H1 locs1 ht hvm hp_ hB hz1 hk1 hS1 => ?_)
        obtain ⟨q1_, q2_⟩ := Prod.mk.inj hp_
        subst q1_
        subst q2_
        obtain ⟨hP1, hK1⟩ := hB
        rw [ht] at hP1
        have hPm := keepP hPm hDm njx hk1
        have hPx := hP1
        have hS := hS1
        refine lv_aload_n hx hb dL_law_288 rfl (lv_at hl 2 rfl) ?_
        refine lv_aload_n hx hb dL_law_289 rfl (lv_at hl 0 rfl) ?_
        refine lv_iload_n hx hb dL_law_290 rfl (lv_at hl 3 rfl) ?_
        refine lv_iconst (v := 1) hx hb dL_law_291 (by decide) ?_
        refine lv_iadd hx hb dL_law_292 ?_
        refine va_sld hx hb hX hbl hbA hS hi1 dL_law_293 ?_
        refine lv_aload_n hx hb dL_law_294 rfl (lv_at hl 0 rfl) ?_
        refine lv_iload_n hx hb dL_law_295 rfl (lv_at hl 3 rfl) ?_
        refine lv_iconst (v := 2) hx hb dL_law_296 (by decide) ?_
        refine lv_iadd hx hb dL_law_297 ?_
        refine va_sld hx hb hX hbl hbA hS hi2 dL_law_298 ?_
        refine va_calli (va_runV (As := [.int (xs (Int32.toNatClampNeg ((nI i) + 1))), .int (xs (Int32.toNatClampNeg ((nI i) + 2)))]) (rest := [.int r]) ⟨hx, hb, hml, hown, hts⟩ (c_X4_listener l dC dI (AM b) b cA Y (xs (Int32.toNatClampNeg ((nI i) + 1))) (xs (Int32.toNatClampNeg ((nI i) + 2))) (r, Y1) e2) ⟨callB_of 2 hts gd_X4_listener rfl rfl rfl (hts _ wd_39) (hts _ wd_655) hd_X4_listener ⟨Nat.le_of_ble_eq_true rfl, Nat.le_of_ble_eq_true rfl⟩, hts _ wd_656, hts _ wd_657⟩ ⟨blMD, va_recv hK hPm (ci := 4) (q0 := 0) rfl rfl, fun U hU hW => ⟨rfl, by rw [hU]; exact hPm, va_K.moved hW.alike hK, wmD hDm⟩⟩ rfl rfl hl.1 rfl (lv_room (Nat.le_of_ble_eq_true rfl)) dL_law_299 ⟨Nat.le_of_ble_eq_true rfl, Nat.le_of_ble_eq_true rfl⟩) hS (fun q _ h => amA q h) (fun q h => amA q h) (fun r_ u_ t_ H1 locs1 ht hvm hp_ hB hz1 hk1 hS1 => ?_)
        obtain ⟨q1_, q2_⟩ := Prod.mk.inj hp_
        subst q1_
        subst q2_
        obtain ⟨hP1, hK1⟩ := hB
        rw [ht] at hP1
        have hPx := keepP hPx hDx njm hk1
        have hPm := hP1
        have hS := hS1
        refine lv_icmp_eq (tgt := 824) hx hb dL_law_302 (by decide) (fun _ => ?_) (fun z => absurd rfl z)
        exact htail _ _ _ _ _ hR1 hPx hPm hS hl
      by_cases k7 : o = 7
      · refine lv_tableIn (off := 275) (tgt := 307) hx hb dL_law_32 (by rw [k7]; decide) (by rw [k7]; decide) (by rw [k7]; rfl) (by decide) ?_
        refine lv_aload_n hx hb dL_law_307 rfl (lv_at hl 1 rfl) ?_
        refine lv_aload_n hx hb dL_law_308 rfl (lv_at hl 0 rfl) ?_
        refine lv_iload_n hx hb dL_law_309 rfl (lv_at hl 3 rfl) ?_
        refine lv_iconst (v := 1) hx hb dL_law_310 (by decide) ?_
        refine lv_iadd hx hb dL_law_311 ?_
        refine va_sld hx hb hX hbl hbA hS hi1 dL_law_312 ?_
        refine lv_aload_n hx hb dL_law_313 rfl (lv_at hl 0 rfl) ?_
        refine lv_iload_n hx hb dL_law_314 rfl (lv_at hl 3 rfl) ?_
        refine lv_iconst (v := 2) hx hb dL_law_315 (by decide) ?_
        refine lv_iadd hx hb dL_law_316 ?_
        refine va_sld hx hb hX hbl hbA hS hi2 dL_law_317 ?_
        obtain ⟨r, e1, e2⟩ := s_about hR (xs (Int32.toNatClampNeg ((nI i) + 1))) (xs (Int32.toNatClampNeg ((nI i) + 2)))
        have hR1 := Rel_up hR
        refine vp_callSi (va_runV (As := [.int (xs (Int32.toNatClampNeg ((nI i) + 1))), .int (xs (Int32.toNatClampNeg ((nI i) + 2)))]) (rest := []) ⟨hx, hb, hml, hown, hts⟩ (c_X3_about l dC dI a cA X (xs (Int32.toNatClampNeg ((nI i) + 1))) (xs (Int32.toNatClampNeg ((nI i) + 2))) r e1) ⟨callB_of 2 hts gd_X3_about rfl rfl rfl (hts _ wd_35) (hts _ wd_282) hd_X3_about ⟨Nat.le_of_ble_eq_true rfl, Nat.le_of_ble_eq_true rfl⟩, hts _ wd_283, hts _ wd_284⟩ ⟨blX, va_recv hK hPx (ci := 3) (q0 := 0) rfl rfl, fun U hU hW => ⟨rfl, by rw [hU]; exact hPx, va_K.moved hW.alike hK, nst.warm hW hN⟩⟩ rfl rfl hl.1 rfl (lv_room (Nat.le_of_ble_eq_true rfl)) dL_law_318 ⟨Nat.le_of_ble_eq_true rfl, Nat.le_of_ble_eq_true rfl⟩).run (fun r_ e_ => ?_)
        subst r_
        refine lv_aload_n hx hb dL_law_321 rfl (lv_at hl 2 rfl) ?_
        refine lv_aload_n hx hb dL_law_322 rfl (lv_at hl 0 rfl) ?_
        refine lv_iload_n hx hb dL_law_323 rfl (lv_at hl 3 rfl) ?_
        refine lv_iconst (v := 1) hx hb dL_law_324 (by decide) ?_
        refine lv_iadd hx hb dL_law_325 ?_
        refine va_sld hx hb hX hbl hbA hS hi1 dL_law_326 ?_
        refine lv_aload_n hx hb dL_law_327 rfl (lv_at hl 0 rfl) ?_
        refine lv_iload_n hx hb dL_law_328 rfl (lv_at hl 3 rfl) ?_
        refine lv_iconst (v := 2) hx hb dL_law_329 (by decide) ?_
        refine lv_iadd hx hb dL_law_330 ?_
        refine va_sld hx hb hX hbl hbA hS hi2 dL_law_331 ?_
        refine vp_callSi (va_runV (As := [.int (xs (Int32.toNatClampNeg ((nI i) + 1))), .int (xs (Int32.toNatClampNeg ((nI i) + 2)))]) (rest := [.int r]) ⟨hx, hb, hml, hown, hts⟩ (c_X4_about l dC dI b cA Y (xs (Int32.toNatClampNeg ((nI i) + 1))) (xs (Int32.toNatClampNeg ((nI i) + 2))) r e2) ⟨callB_of 2 hts gd_X4_about rfl rfl rfl (hts _ wd_39) (hts _ wd_660) hd_X4_about ⟨Nat.le_of_ble_eq_true rfl, Nat.le_of_ble_eq_true rfl⟩, hts _ wd_661, hts _ wd_662⟩ ⟨blM, va_recv hK hPm (ci := 4) (q0 := 0) rfl rfl, fun U hU hW => ⟨rfl, by rw [hU]; exact hPm, va_K.moved hW.alike hK⟩⟩ rfl rfl hl.1 rfl (lv_room (Nat.le_of_ble_eq_true rfl)) dL_law_332 ⟨Nat.le_of_ble_eq_true rfl, Nat.le_of_ble_eq_true rfl⟩).run (fun r_ e_ => ?_)
        subst r_
        refine lv_icmp_eq (tgt := 824) hx hb dL_law_335 (by decide) (fun _ => ?_) (fun z => absurd rfl z)
        exact htail _ _ _ _ _ hR1 hPx hPm hS hl
      by_cases k8 : o = 8
      · refine lv_tableIn (off := 308) (tgt := 340) hx hb dL_law_32 (by rw [k8]; decide) (by rw [k8]; decide) (by rw [k8]; rfl) (by decide) ?_
        refine lv_aload_n hx hb dL_law_340 rfl (lv_at hl 1 rfl) ?_
        refine lv_aload_n hx hb dL_law_341 rfl (lv_at hl 0 rfl) ?_
        refine lv_iload_n hx hb dL_law_342 rfl (lv_at hl 3 rfl) ?_
        refine lv_iconst (v := 1) hx hb dL_law_343 (by decide) ?_
        refine lv_iadd hx hb dL_law_344 ?_
        refine va_sld hx hb hX hbl hbA hS hi1 dL_law_345 ?_
        refine lv_aload_n hx hb dL_law_346 rfl (lv_at hl 0 rfl) ?_
        refine lv_iload_n hx hb dL_law_347 rfl (lv_at hl 3 rfl) ?_
        refine lv_iconst (v := 2) hx hb dL_law_348 (by decide) ?_
        refine lv_iadd hx hb dL_law_349 ?_
        refine va_sld hx hb hX hbl hbA hS hi2 dL_law_350 ?_
        obtain ⟨r, e1, e2⟩ := s_as hR (xs (Int32.toNatClampNeg ((nI i) + 1))) (xs (Int32.toNatClampNeg ((nI i) + 2)))
        have hR1 := Rel_up hR
        refine vp_callSi (va_runV (As := [.int (xs (Int32.toNatClampNeg ((nI i) + 1))), .int (xs (Int32.toNatClampNeg ((nI i) + 2)))]) (rest := []) ⟨hx, hb, hml, hown, hts⟩ (c_X3_as l dC dI a cA X (xs (Int32.toNatClampNeg ((nI i) + 1))) (xs (Int32.toNatClampNeg ((nI i) + 2))) r e1) ⟨callB_of 2 hts gd_X3_as rfl rfl rfl (hts _ wd_35) (hts _ wd_297) hd_X3_as ⟨Nat.le_of_ble_eq_true rfl, Nat.le_of_ble_eq_true rfl⟩, hts _ wd_298, hts _ wd_299⟩ ⟨blX, va_recv hK hPx (ci := 3) (q0 := 0) rfl rfl, fun U hU hW => ⟨rfl, by rw [hU]; exact hPx, va_K.moved hW.alike hK, nst.warm hW hN⟩⟩ rfl rfl hl.1 rfl (lv_room (Nat.le_of_ble_eq_true rfl)) dL_law_351 ⟨Nat.le_of_ble_eq_true rfl, Nat.le_of_ble_eq_true rfl⟩).run (fun r_ e_ => ?_)
        subst r_
        refine lv_aload_n hx hb dL_law_354 rfl (lv_at hl 2 rfl) ?_
        refine lv_aload_n hx hb dL_law_355 rfl (lv_at hl 0 rfl) ?_
        refine lv_iload_n hx hb dL_law_356 rfl (lv_at hl 3 rfl) ?_
        refine lv_iconst (v := 1) hx hb dL_law_357 (by decide) ?_
        refine lv_iadd hx hb dL_law_358 ?_
        refine va_sld hx hb hX hbl hbA hS hi1 dL_law_359 ?_
        refine lv_aload_n hx hb dL_law_360 rfl (lv_at hl 0 rfl) ?_
        refine lv_iload_n hx hb dL_law_361 rfl (lv_at hl 3 rfl) ?_
        refine lv_iconst (v := 2) hx hb dL_law_362 (by decide) ?_
        refine lv_iadd hx hb dL_law_363 ?_
        refine va_sld hx hb hX hbl hbA hS hi2 dL_law_364 ?_
        refine vp_callSi (va_runV (As := [.int (xs (Int32.toNatClampNeg ((nI i) + 1))), .int (xs (Int32.toNatClampNeg ((nI i) + 2)))]) (rest := [.int r]) ⟨hx, hb, hml, hown, hts⟩ (c_X4_as l dC dI b cA Y (xs (Int32.toNatClampNeg ((nI i) + 1))) (xs (Int32.toNatClampNeg ((nI i) + 2))) r e2) ⟨callB_of 2 hts gd_X4_as rfl rfl rfl (hts _ wd_39) (hts _ wd_684) hd_X4_as ⟨Nat.le_of_ble_eq_true rfl, Nat.le_of_ble_eq_true rfl⟩, hts _ wd_685, hts _ wd_686⟩ ⟨blM, va_recv hK hPm (ci := 4) (q0 := 0) rfl rfl, fun U hU hW => ⟨rfl, by rw [hU]; exact hPm, va_K.moved hW.alike hK⟩⟩ rfl rfl hl.1 rfl (lv_room (Nat.le_of_ble_eq_true rfl)) dL_law_365 ⟨Nat.le_of_ble_eq_true rfl, Nat.le_of_ble_eq_true rfl⟩).run (fun r_ e_ => ?_)
        subst r_
        refine lv_icmp_eq (tgt := 824) hx hb dL_law_368 (by decide) (fun _ => ?_) (fun z => absurd rfl z)
        exact htail _ _ _ _ _ hR1 hPx hPm hS hl
      by_cases k9 : o = 9
      · refine lv_tableIn (off := 341) (tgt := 373) hx hb dL_law_32 (by rw [k9]; decide) (by rw [k9]; decide) (by rw [k9]; rfl) (by decide) ?_
        refine lv_aload_n hx hb dL_law_373 rfl (lv_at hl 1 rfl) ?_
        refine lv_aload_n hx hb dL_law_374 rfl (lv_at hl 0 rfl) ?_
        refine lv_iload_n hx hb dL_law_375 rfl (lv_at hl 3 rfl) ?_
        refine lv_iconst (v := 1) hx hb dL_law_376 (by decide) ?_
        refine lv_iadd hx hb dL_law_377 ?_
        refine va_sld hx hb hX hbl hbA hS hi1 dL_law_378 ?_
        refine lv_aload_n hx hb dL_law_379 rfl (lv_at hl 0 rfl) ?_
        refine lv_iload_n hx hb dL_law_380 rfl (lv_at hl 3 rfl) ?_
        refine lv_iconst (v := 2) hx hb dL_law_381 (by decide) ?_
        refine lv_iadd hx hb dL_law_382 ?_
        refine va_sld hx hb hX hbl hbA hS hi2 dL_law_383 ?_
        obtain ⟨r, X1, Y1, e1, e2, hR1⟩ := s_move hR hN5 (xs (Int32.toNatClampNeg ((nI i) + 1))) (xs (Int32.toNatClampNeg ((nI i) + 2)))
        refine va_calli (va_runV (As := [.int (xs (Int32.toNatClampNeg ((nI i) + 1))), .int (xs (Int32.toNatClampNeg ((nI i) + 2)))]) (rest := []) ⟨hx, hb, hml, hown, hts⟩ (c_X3_move l dC dI (AX a) a cA X (xs (Int32.toNatClampNeg ((nI i) + 1))) (xs (Int32.toNatClampNeg ((nI i) + 2))) (r, X1) e1) ⟨callB_of 2 hts gd_X3_move rfl rfl rfl (hts _ wd_35) (hts _ wd_304) hd_X3_move ⟨Nat.le_of_ble_eq_true rfl, Nat.le_of_ble_eq_true rfl⟩, hts _ wd_305, hts _ wd_306⟩ ⟨blXD, va_recv hK hPx (ci := 3) (q0 := 0) rfl rfl, fun U hU hW => ⟨rfl, by rw [hU]; exact hPx, va_K.moved hW.alike hK, nst.warm hW hN, wlD hDx⟩⟩ rfl rfl hl.1 rfl (lv_room (Nat.le_of_ble_eq_true rfl)) dL_law_384 ⟨Nat.le_of_ble_eq_true rfl, Nat.le_of_ble_eq_true rfl⟩) hS (fun q _ h => axA q h) (fun q h => axA q h) (fun r_ u_ t_ H1 locs1 ht hvm hp_ hB hz1 hk1 hS1 => ?_)
        obtain ⟨q1_, q2_⟩ := Prod.mk.inj hp_
        subst q1_
        subst q2_
        obtain ⟨hP1, hK1⟩ := hB
        rw [ht] at hP1
        have hPm := keepP hPm hDm njx hk1
        have hPx := hP1
        have hS := hS1
        refine lv_aload_n hx hb dL_law_387 rfl (lv_at hl 2 rfl) ?_
        refine lv_aload_n hx hb dL_law_388 rfl (lv_at hl 0 rfl) ?_
        refine lv_iload_n hx hb dL_law_389 rfl (lv_at hl 3 rfl) ?_
        refine lv_iconst (v := 1) hx hb dL_law_390 (by decide) ?_
        refine lv_iadd hx hb dL_law_391 ?_
        refine va_sld hx hb hX hbl hbA hS hi1 dL_law_392 ?_
        refine lv_aload_n hx hb dL_law_393 rfl (lv_at hl 0 rfl) ?_
        refine lv_iload_n hx hb dL_law_394 rfl (lv_at hl 3 rfl) ?_
        refine lv_iconst (v := 2) hx hb dL_law_395 (by decide) ?_
        refine lv_iadd hx hb dL_law_396 ?_
        refine va_sld hx hb hX hbl hbA hS hi2 dL_law_397 ?_
        refine va_calli (va_runV (As := [.int (xs (Int32.toNatClampNeg ((nI i) + 1))), .int (xs (Int32.toNatClampNeg ((nI i) + 2)))]) (rest := [.int r]) ⟨hx, hb, hml, hown, hts⟩ (c_X4_move l dC dI (AM b) b cA Y (xs (Int32.toNatClampNeg ((nI i) + 1))) (xs (Int32.toNatClampNeg ((nI i) + 2))) (r, Y1) e2) ⟨callB_of 2 hts gd_X4_move rfl rfl rfl (hts _ wd_39) (hts _ wd_688) hd_X4_move ⟨Nat.le_of_ble_eq_true rfl, Nat.le_of_ble_eq_true rfl⟩, hts _ wd_689, hts _ wd_690⟩ ⟨blMD, va_recv hK hPm (ci := 4) (q0 := 0) rfl rfl, fun U hU hW => ⟨rfl, by rw [hU]; exact hPm, va_K.moved hW.alike hK, wmD hDm⟩⟩ rfl rfl hl.1 rfl (lv_room (Nat.le_of_ble_eq_true rfl)) dL_law_398 ⟨Nat.le_of_ble_eq_true rfl, Nat.le_of_ble_eq_true rfl⟩) hS (fun q _ h => amA q h) (fun q h => amA q h) (fun r_ u_ t_ H1 locs1 ht hvm hp_ hB hz1 hk1 hS1 => ?_)
        obtain ⟨q1_, q2_⟩ := Prod.mk.inj hp_
        subst q1_
        subst q2_
        obtain ⟨hP1, hK1⟩ := hB
        rw [ht] at hP1
        have hPx := keepP hPx hDx njm hk1
        have hPm := hP1
        have hS := hS1
        refine lv_icmp_eq (tgt := 824) hx hb dL_law_401 (by decide) (fun _ => ?_) (fun z => absurd rfl z)
        exact htail _ _ _ _ _ hR1 hPx hPm hS hl
      by_cases k10 : o = 10
      · refine lv_tableIn (off := 374) (tgt := 406) hx hb dL_law_32 (by rw [k10]; decide) (by rw [k10]; decide) (by rw [k10]; rfl) (by decide) ?_
        refine lv_aload_n hx hb dL_law_406 rfl (lv_at hl 1 rfl) ?_
        refine lv_aload_n hx hb dL_law_407 rfl (lv_at hl 0 rfl) ?_
        refine lv_iload_n hx hb dL_law_408 rfl (lv_at hl 3 rfl) ?_
        refine lv_iconst (v := 1) hx hb dL_law_409 (by decide) ?_
        refine lv_iadd hx hb dL_law_410 ?_
        refine va_sld hx hb hX hbl hbA hS hi1 dL_law_411 ?_
        refine lv_aload_n hx hb dL_law_412 rfl (lv_at hl 0 rfl) ?_
        refine lv_iload_n hx hb dL_law_413 rfl (lv_at hl 3 rfl) ?_
        refine lv_iconst (v := 2) hx hb dL_law_414 (by decide) ?_
        refine lv_iadd hx hb dL_law_415 ?_
        refine va_sld hx hb hX hbl hbA hS hi2 dL_law_416 ?_
        obtain ⟨r, X1, Y1, e1, e2, hR1⟩ := s_cry hR hN5 (xs (Int32.toNatClampNeg ((nI i) + 1))) (xs (Int32.toNatClampNeg ((nI i) + 2)))
        refine va_calli (va_runV (As := [.int (xs (Int32.toNatClampNeg ((nI i) + 1))), .int (xs (Int32.toNatClampNeg ((nI i) + 2)))]) (rest := []) ⟨hx, hb, hml, hown, hts⟩ (c_X3_cry l dC dI (AX a) a cA X (xs (Int32.toNatClampNeg ((nI i) + 1))) (xs (Int32.toNatClampNeg ((nI i) + 2))) (r, X1) e1) ⟨callB_of 2 hts gd_X3_cry rfl rfl rfl (hts _ wd_35) (hts _ wd_308) hd_X3_cry ⟨Nat.le_of_ble_eq_true rfl, Nat.le_of_ble_eq_true rfl⟩, hts _ wd_309, hts _ wd_310⟩ ⟨blXD, va_recv hK hPx (ci := 3) (q0 := 0) rfl rfl, fun U hU hW => ⟨rfl, by rw [hU]; exact hPx, va_K.moved hW.alike hK, nst.warm hW hN, wlD hDx⟩⟩ rfl rfl hl.1 rfl (lv_room (Nat.le_of_ble_eq_true rfl)) dL_law_417 ⟨Nat.le_of_ble_eq_true rfl, Nat.le_of_ble_eq_true rfl⟩) hS (fun q _ h => axA q h) (fun q h => axA q h) (fun r_ u_ t_ H1 locs1 ht hvm hp_ hB hz1 hk1 hS1 => ?_)
        obtain ⟨q1_, q2_⟩ := Prod.mk.inj hp_
        subst q1_
        subst q2_
        obtain ⟨hP1, hK1⟩ := hB
        rw [ht] at hP1
        have hPm := keepP hPm hDm njx hk1
        have hPx := hP1
        have hS := hS1
        refine lv_aload_n hx hb dL_law_420 rfl (lv_at hl 2 rfl) ?_
        refine lv_aload_n hx hb dL_law_421 rfl (lv_at hl 0 rfl) ?_
        refine lv_iload_n hx hb dL_law_422 rfl (lv_at hl 3 rfl) ?_
        refine lv_iconst (v := 1) hx hb dL_law_423 (by decide) ?_
        refine lv_iadd hx hb dL_law_424 ?_
        refine va_sld hx hb hX hbl hbA hS hi1 dL_law_425 ?_
        refine lv_aload_n hx hb dL_law_426 rfl (lv_at hl 0 rfl) ?_
        refine lv_iload_n hx hb dL_law_427 rfl (lv_at hl 3 rfl) ?_
        refine lv_iconst (v := 2) hx hb dL_law_428 (by decide) ?_
        refine lv_iadd hx hb dL_law_429 ?_
        refine va_sld hx hb hX hbl hbA hS hi2 dL_law_430 ?_
        refine va_calli (va_runV (As := [.int (xs (Int32.toNatClampNeg ((nI i) + 1))), .int (xs (Int32.toNatClampNeg ((nI i) + 2)))]) (rest := [.int r]) ⟨hx, hb, hml, hown, hts⟩ (c_X4_cry l dC dI (AM b) b cA Y (xs (Int32.toNatClampNeg ((nI i) + 1))) (xs (Int32.toNatClampNeg ((nI i) + 2))) (r, Y1) e2) ⟨callB_of 2 hts gd_X4_cry rfl rfl rfl (hts _ wd_39) (hts _ wd_692) hd_X4_cry ⟨Nat.le_of_ble_eq_true rfl, Nat.le_of_ble_eq_true rfl⟩, hts _ wd_693, hts _ wd_694⟩ ⟨blMD, va_recv hK hPm (ci := 4) (q0 := 0) rfl rfl, fun U hU hW => ⟨rfl, by rw [hU]; exact hPm, va_K.moved hW.alike hK, wmD hDm⟩⟩ rfl rfl hl.1 rfl (lv_room (Nat.le_of_ble_eq_true rfl)) dL_law_431 ⟨Nat.le_of_ble_eq_true rfl, Nat.le_of_ble_eq_true rfl⟩) hS (fun q _ h => amA q h) (fun q h => amA q h) (fun r_ u_ t_ H1 locs1 ht hvm hp_ hB hz1 hk1 hS1 => ?_)
        obtain ⟨q1_, q2_⟩ := Prod.mk.inj hp_
        subst q1_
        subst q2_
        obtain ⟨hP1, hK1⟩ := hB
        rw [ht] at hP1
        have hPx := keepP hPx hDx njm hk1
        have hPm := hP1
        have hS := hS1
        refine lv_icmp_eq (tgt := 824) hx hb dL_law_434 (by decide) (fun _ => ?_) (fun z => absurd rfl z)
        exact htail _ _ _ _ _ hR1 hPx hPm hS hl
      by_cases k11 : o = 11
      · refine lv_tableIn (off := 407) (tgt := 439) hx hb dL_law_32 (by rw [k11]; decide) (by rw [k11]; decide) (by rw [k11]; rfl) (by decide) ?_
        refine lv_aload_n hx hb dL_law_439 rfl (lv_at hl 1 rfl) ?_
        refine lv_aload_n hx hb dL_law_440 rfl (lv_at hl 0 rfl) ?_
        refine lv_iload_n hx hb dL_law_441 rfl (lv_at hl 3 rfl) ?_
        refine lv_iconst (v := 1) hx hb dL_law_442 (by decide) ?_
        refine lv_iadd hx hb dL_law_443 ?_
        refine va_sld hx hb hX hbl hbA hS hi1 dL_law_444 ?_
        refine lv_aload_n hx hb dL_law_445 rfl (lv_at hl 0 rfl) ?_
        refine lv_iload_n hx hb dL_law_446 rfl (lv_at hl 3 rfl) ?_
        refine lv_iconst (v := 2) hx hb dL_law_447 (by decide) ?_
        refine lv_iadd hx hb dL_law_448 ?_
        refine va_sld hx hb hX hbl hbA hS hi2 dL_law_449 ?_
        obtain ⟨r, e1, e2⟩ := s_would hR hN5 (xs (Int32.toNatClampNeg ((nI i) + 1))) (xs (Int32.toNatClampNeg ((nI i) + 2)))
        have hR1 := Rel_up hR
        refine vp_callSi (va_runV (As := [.int (xs (Int32.toNatClampNeg ((nI i) + 1))), .int (xs (Int32.toNatClampNeg ((nI i) + 2)))]) (rest := []) ⟨hx, hb, hml, hown, hts⟩ (c_X3_would l dC dI a cA X (xs (Int32.toNatClampNeg ((nI i) + 1))) (xs (Int32.toNatClampNeg ((nI i) + 2))) r e1) ⟨callB_of 2 hts gd_X3_would rfl rfl rfl (hts _ wd_35) (hts _ wd_338) hd_X3_would ⟨Nat.le_of_ble_eq_true rfl, Nat.le_of_ble_eq_true rfl⟩, hts _ wd_339, hts _ wd_340⟩ ⟨blX, va_recv hK hPx (ci := 3) (q0 := 0) rfl rfl, fun U hU hW => ⟨rfl, by rw [hU]; exact hPx, va_K.moved hW.alike hK, nst.warm hW hN⟩⟩ rfl rfl hl.1 rfl (lv_room (Nat.le_of_ble_eq_true rfl)) dL_law_450 ⟨Nat.le_of_ble_eq_true rfl, Nat.le_of_ble_eq_true rfl⟩).run (fun r_ e_ => ?_)
        subst r_
        refine lv_aload_n hx hb dL_law_453 rfl (lv_at hl 2 rfl) ?_
        refine lv_aload_n hx hb dL_law_454 rfl (lv_at hl 0 rfl) ?_
        refine lv_iload_n hx hb dL_law_455 rfl (lv_at hl 3 rfl) ?_
        refine lv_iconst (v := 1) hx hb dL_law_456 (by decide) ?_
        refine lv_iadd hx hb dL_law_457 ?_
        refine va_sld hx hb hX hbl hbA hS hi1 dL_law_458 ?_
        refine lv_aload_n hx hb dL_law_459 rfl (lv_at hl 0 rfl) ?_
        refine lv_iload_n hx hb dL_law_460 rfl (lv_at hl 3 rfl) ?_
        refine lv_iconst (v := 2) hx hb dL_law_461 (by decide) ?_
        refine lv_iadd hx hb dL_law_462 ?_
        refine va_sld hx hb hX hbl hbA hS hi2 dL_law_463 ?_
        refine vp_callSi (va_runV (As := [.int (xs (Int32.toNatClampNeg ((nI i) + 1))), .int (xs (Int32.toNatClampNeg ((nI i) + 2)))]) (rest := [.int r]) ⟨hx, hb, hml, hown, hts⟩ (c_X4_would l dC dI b cA Y (xs (Int32.toNatClampNeg ((nI i) + 1))) (xs (Int32.toNatClampNeg ((nI i) + 2))) r e2) ⟨callB_of 2 hts gd_X4_would rfl rfl rfl (hts _ wd_39) (hts _ wd_711) hd_X4_would ⟨Nat.le_of_ble_eq_true rfl, Nat.le_of_ble_eq_true rfl⟩, hts _ wd_712, hts _ wd_713⟩ ⟨blM, va_recv hK hPm (ci := 4) (q0 := 0) rfl rfl, fun U hU hW => ⟨rfl, by rw [hU]; exact hPm, va_K.moved hW.alike hK⟩⟩ rfl rfl hl.1 rfl (lv_room (Nat.le_of_ble_eq_true rfl)) dL_law_464 ⟨Nat.le_of_ble_eq_true rfl, Nat.le_of_ble_eq_true rfl⟩).run (fun r_ e_ => ?_)
        subst r_
        refine lv_icmp_eq (tgt := 824) hx hb dL_law_467 (by decide) (fun _ => ?_) (fun z => absurd rfl z)
        exact htail _ _ _ _ _ hR1 hPx hPm hS hl
      by_cases k12 : o = 12
      · refine lv_tableIn (off := 440) (tgt := 472) hx hb dL_law_32 (by rw [k12]; decide) (by rw [k12]; decide) (by rw [k12]; rfl) (by decide) ?_
        refine lv_aload_n hx hb dL_law_472 rfl (lv_at hl 1 rfl) ?_
        obtain ⟨r, X1, Y1, e1, e2, hR1⟩ := s_honey hR hN5
        refine va_calli (va_runV (As := []) (rest := []) ⟨hx, hb, hml, hown, hts⟩ (c_X3_honey l dC dI (AX a) a cA X (r, X1) e1) ⟨callB_of 0 hts gd_X3_honey rfl rfl rfl (hts _ wd_35) (hts _ wd_343) hd_X3_honey ⟨Nat.le_of_ble_eq_true rfl, Nat.le_of_ble_eq_true rfl⟩, hts _ wd_344, hts _ wd_345⟩ ⟨blXD, va_recv hK hPx (ci := 3) (q0 := 0) rfl rfl, fun U hU hW => ⟨rfl, by rw [hU]; exact hPx, va_K.moved hW.alike hK, nst.warm hW hN, wlD hDx⟩⟩ rfl rfl hl.1 rfl (lv_room (Nat.le_of_ble_eq_true rfl)) dL_law_473 ⟨Nat.le_of_ble_eq_true rfl, Nat.le_of_ble_eq_true rfl⟩) hS (fun q _ h => axA q h) (fun q h => axA q h) (fun r_ u_ t_ H1 locs1 ht hvm hp_ hB hz1 hk1 hS1 => ?_)
        obtain ⟨q1_, q2_⟩ := Prod.mk.inj hp_
        subst q1_
        subst q2_
        obtain ⟨hP1, hK1⟩ := hB
        rw [ht] at hP1
        have hPm := keepP hPm hDm njx hk1
        have hPx := hP1
        have hS := hS1
        refine lv_aload_n hx hb dL_law_476 rfl (lv_at hl 2 rfl) ?_
        refine va_calli (va_runV (As := []) (rest := [.int r]) ⟨hx, hb, hml, hown, hts⟩ (c_X4_honey l dC dI (AM b) b cA Y (r, Y1) e2) ⟨callB_of 0 hts gd_X4_honey rfl rfl rfl (hts _ wd_39) (hts _ wd_719) hd_X4_honey ⟨Nat.le_of_ble_eq_true rfl, Nat.le_of_ble_eq_true rfl⟩, hts _ wd_720, hts _ wd_721⟩ ⟨blMD, va_recv hK hPm (ci := 4) (q0 := 0) rfl rfl, fun U hU hW => ⟨rfl, by rw [hU]; exact hPm, va_K.moved hW.alike hK, wmD hDm⟩⟩ rfl rfl hl.1 rfl (lv_room (Nat.le_of_ble_eq_true rfl)) dL_law_477 ⟨Nat.le_of_ble_eq_true rfl, Nat.le_of_ble_eq_true rfl⟩) hS (fun q _ h => amA q h) (fun q h => amA q h) (fun r_ u_ t_ H1 locs1 ht hvm hp_ hB hz1 hk1 hS1 => ?_)
        obtain ⟨q1_, q2_⟩ := Prod.mk.inj hp_
        subst q1_
        subst q2_
        obtain ⟨hP1, hK1⟩ := hB
        rw [ht] at hP1
        have hPx := keepP hPx hDx njm hk1
        have hPm := hP1
        have hS := hS1
        refine lv_icmp_eq (tgt := 824) hx hb dL_law_480 (by decide) (fun _ => ?_) (fun z => absurd rfl z)
        exact htail _ _ _ _ _ hR1 hPx hPm hS hl
      by_cases k13 : o = 13
      · refine lv_tableIn (off := 453) (tgt := 485) hx hb dL_law_32 (by rw [k13]; decide) (by rw [k13]; decide) (by rw [k13]; rfl) (by decide) ?_
        refine lv_aload_n hx hb dL_law_485 rfl (lv_at hl 1 rfl) ?_
        obtain ⟨r, X1, Y1, e1, e2, hR1⟩ := s_day hR hN5
        refine va_calli (va_runV (As := []) (rest := []) ⟨hx, hb, hml, hown, hts⟩ (c_X3_day l dC dI (AX a) a cA X (r, X1) e1) ⟨callB_of 0 hts gd_X3_day rfl rfl rfl (hts _ wd_35) (hts _ wd_354) hd_X3_day ⟨Nat.le_of_ble_eq_true rfl, Nat.le_of_ble_eq_true rfl⟩, hts _ wd_355, hts _ wd_356⟩ ⟨blXD, va_recv hK hPx (ci := 3) (q0 := 0) rfl rfl, fun U hU hW => ⟨rfl, by rw [hU]; exact hPx, va_K.moved hW.alike hK, nst.warm hW hN, wlD hDx⟩⟩ rfl rfl hl.1 rfl (lv_room (Nat.le_of_ble_eq_true rfl)) dL_law_486 ⟨Nat.le_of_ble_eq_true rfl, Nat.le_of_ble_eq_true rfl⟩) hS (fun q _ h => axA q h) (fun q h => axA q h) (fun r_ u_ t_ H1 locs1 ht hvm hp_ hB hz1 hk1 hS1 => ?_)
        obtain ⟨q1_, q2_⟩ := Prod.mk.inj hp_
        subst q1_
        subst q2_
        obtain ⟨hP1, hK1⟩ := hB
        rw [ht] at hP1
        have hPm := keepP hPm hDm njx hk1
        have hPx := hP1
        have hS := hS1
        refine lv_aload_n hx hb dL_law_489 rfl (lv_at hl 2 rfl) ?_
        refine va_calli (va_runV (As := []) (rest := [.int r]) ⟨hx, hb, hml, hown, hts⟩ (c_X4_day l dC dI (AM b) b cA Y (r, Y1) e2) ⟨callB_of 0 hts gd_X4_day rfl rfl rfl (hts _ wd_39) (hts _ wd_723) hd_X4_day ⟨Nat.le_of_ble_eq_true rfl, Nat.le_of_ble_eq_true rfl⟩, hts _ wd_724, hts _ wd_725⟩ ⟨blMD, va_recv hK hPm (ci := 4) (q0 := 0) rfl rfl, fun U hU hW => ⟨rfl, by rw [hU]; exact hPm, va_K.moved hW.alike hK, wmD hDm⟩⟩ rfl rfl hl.1 rfl (lv_room (Nat.le_of_ble_eq_true rfl)) dL_law_490 ⟨Nat.le_of_ble_eq_true rfl, Nat.le_of_ble_eq_true rfl⟩) hS (fun q _ h => amA q h) (fun q h => amA q h) (fun r_ u_ t_ H1 locs1 ht hvm hp_ hB hz1 hk1 hS1 => ?_)
        obtain ⟨q1_, q2_⟩ := Prod.mk.inj hp_
        subst q1_
        subst q2_
        obtain ⟨hP1, hK1⟩ := hB
        rw [ht] at hP1
        have hPx := keepP hPx hDx njm hk1
        have hPm := hP1
        have hS := hS1
        refine lv_icmp_eq (tgt := 824) hx hb dL_law_493 (by decide) (fun _ => ?_) (fun z => absurd rfl z)
        exact htail _ _ _ _ _ hR1 hPx hPm hS hl
      by_cases k14 : o = 14
      · refine lv_tableIn (off := 466) (tgt := 498) hx hb dL_law_32 (by rw [k14]; decide) (by rw [k14]; decide) (by rw [k14]; rfl) (by decide) ?_
        refine lv_aload_n hx hb dL_law_498 rfl (lv_at hl 1 rfl) ?_
        obtain ⟨r, X1, Y1, e1, e2, hR1⟩ := s_decree hR hN5
        refine va_calli (va_runV (As := []) (rest := []) ⟨hx, hb, hml, hown, hts⟩ (c_X3_decree l dC dI (AX a) a cA X (r, X1) e1) ⟨callB_of 0 hts gd_X3_decree rfl rfl rfl (hts _ wd_35) (hts _ wd_362) hd_X3_decree ⟨Nat.le_of_ble_eq_true rfl, Nat.le_of_ble_eq_true rfl⟩, hts _ wd_363, hts _ wd_364⟩ ⟨blXD, va_recv hK hPx (ci := 3) (q0 := 0) rfl rfl, fun U hU hW => ⟨rfl, by rw [hU]; exact hPx, va_K.moved hW.alike hK, nst.warm hW hN, wlD hDx⟩⟩ rfl rfl hl.1 rfl (lv_room (Nat.le_of_ble_eq_true rfl)) dL_law_499 ⟨Nat.le_of_ble_eq_true rfl, Nat.le_of_ble_eq_true rfl⟩) hS (fun q _ h => axA q h) (fun q h => axA q h) (fun r_ u_ t_ H1 locs1 ht hvm hp_ hB hz1 hk1 hS1 => ?_)
        obtain ⟨q1_, q2_⟩ := Prod.mk.inj hp_
        subst q1_
        subst q2_
        obtain ⟨hP1, hK1⟩ := hB
        rw [ht] at hP1
        have hPm := keepP hPm hDm njx hk1
        have hPx := hP1
        have hS := hS1
        refine lv_aload_n hx hb dL_law_502 rfl (lv_at hl 2 rfl) ?_
        refine va_calli (va_runV (As := []) (rest := [.int r]) ⟨hx, hb, hml, hown, hts⟩ (c_X4_decree l dC dI (AM b) b cA Y (r, Y1) e2) ⟨callB_of 0 hts gd_X4_decree rfl rfl rfl (hts _ wd_39) (hts _ wd_727) hd_X4_decree ⟨Nat.le_of_ble_eq_true rfl, Nat.le_of_ble_eq_true rfl⟩, hts _ wd_728, hts _ wd_729⟩ ⟨blMD, va_recv hK hPm (ci := 4) (q0 := 0) rfl rfl, fun U hU hW => ⟨rfl, by rw [hU]; exact hPm, va_K.moved hW.alike hK, wmD hDm⟩⟩ rfl rfl hl.1 rfl (lv_room (Nat.le_of_ble_eq_true rfl)) dL_law_503 ⟨Nat.le_of_ble_eq_true rfl, Nat.le_of_ble_eq_true rfl⟩) hS (fun q _ h => amA q h) (fun q h => amA q h) (fun r_ u_ t_ H1 locs1 ht hvm hp_ hB hz1 hk1 hS1 => ?_)
        obtain ⟨q1_, q2_⟩ := Prod.mk.inj hp_
        subst q1_
        subst q2_
        obtain ⟨hP1, hK1⟩ := hB
        rw [ht] at hP1
        have hPx := keepP hPx hDx njm hk1
        have hPm := hP1
        have hS := hS1
        refine lv_icmp_eq (tgt := 824) hx hb dL_law_506 (by decide) (fun _ => ?_) (fun z => absurd rfl z)
        exact htail _ _ _ _ _ hR1 hPx hPm hS hl
      by_cases k15 : o = 15
      · refine lv_tableIn (off := 479) (tgt := 511) hx hb dL_law_32 (by rw [k15]; decide) (by rw [k15]; decide) (by rw [k15]; rfl) (by decide) ?_
        refine lv_aload_n hx hb dL_law_511 rfl (lv_at hl 1 rfl) ?_
        refine lv_aload_n hx hb dL_law_512 rfl (lv_at hl 0 rfl) ?_
        refine lv_iload_n hx hb dL_law_513 rfl (lv_at hl 3 rfl) ?_
        refine lv_iconst (v := 1) hx hb dL_law_514 (by decide) ?_
        refine lv_iadd hx hb dL_law_515 ?_
        refine va_sld hx hb hX hbl hbA hS hi1 dL_law_516 ?_
        obtain ⟨r, X1, e1, e2, hR1, -⟩ := s_least hR hN5 (xs (Int32.toNatClampNeg ((nI i) + 1)))
        refine va_calli (va_runV (As := [.int (xs (Int32.toNatClampNeg ((nI i) + 1)))]) (rest := []) ⟨hx, hb, hml, hown, hts⟩ (c_X3_least l dC dI (AX a) a cA X (xs (Int32.toNatClampNeg ((nI i) + 1))) (r, X1) e1) ⟨callB_of 1 hts gd_X3_least rfl rfl rfl (hts _ wd_35) (hts _ wd_370) hd_X3_least ⟨Nat.le_of_ble_eq_true rfl, Nat.le_of_ble_eq_true rfl⟩, hts _ wd_371, hts _ wd_372⟩ ⟨blXD, va_recv hK hPx (ci := 3) (q0 := 0) rfl rfl, fun U hU hW => ⟨rfl, by rw [hU]; exact hPx, va_K.moved hW.alike hK, nst.warm hW hN, wlD hDx⟩⟩ rfl rfl hl.1 rfl (lv_room (Nat.le_of_ble_eq_true rfl)) dL_law_517 ⟨Nat.le_of_ble_eq_true rfl, Nat.le_of_ble_eq_true rfl⟩) hS (fun q _ h => axA q h) (fun q h => axA q h) (fun r_ u_ t_ H1 locs1 ht hvm hp_ hB hz1 hk1 hS1 => ?_)
        obtain ⟨q1_, q2_⟩ := Prod.mk.inj hp_
        subst q1_
        subst q2_
        obtain ⟨hP1, hK1⟩ := hB
        rw [ht] at hP1
        have hPm := keepP hPm hDm njx hk1
        have hPx := hP1
        have hS := hS1
        refine lv_aload_n hx hb dL_law_520 rfl (lv_at hl 2 rfl) ?_
        refine lv_aload_n hx hb dL_law_521 rfl (lv_at hl 0 rfl) ?_
        refine lv_iload_n hx hb dL_law_522 rfl (lv_at hl 3 rfl) ?_
        refine lv_iconst (v := 1) hx hb dL_law_523 (by decide) ?_
        refine lv_iadd hx hb dL_law_524 ?_
        refine va_sld hx hb hX hbl hbA hS hi1 dL_law_525 ?_
        refine vp_callSi (va_runV (As := [.int (xs (Int32.toNatClampNeg ((nI i) + 1)))]) (rest := [.int r]) ⟨hx, hb, hml, hown, hts⟩ (c_X4_least l dC dI b cA Y (xs (Int32.toNatClampNeg ((nI i) + 1))) r e2) ⟨callB_of 1 hts gd_X4_least rfl rfl rfl (hts _ wd_39) (hts _ wd_731) hd_X4_least ⟨Nat.le_of_ble_eq_true rfl, Nat.le_of_ble_eq_true rfl⟩, hts _ wd_732, hts _ wd_733⟩ ⟨blM, va_recv hK hPm (ci := 4) (q0 := 0) rfl rfl, fun U hU hW => ⟨rfl, by rw [hU]; exact hPm, va_K.moved hW.alike hK⟩⟩ rfl rfl hl.1 rfl (lv_room (Nat.le_of_ble_eq_true rfl)) dL_law_526 ⟨Nat.le_of_ble_eq_true rfl, Nat.le_of_ble_eq_true rfl⟩).run (fun r_ e_ => ?_)
        subst r_
        refine lv_icmp_eq (tgt := 824) hx hb dL_law_529 (by decide) (fun _ => ?_) (fun z => absurd rfl z)
        exact htail _ _ _ _ _ hR1 hPx hPm hS hl
      by_cases k16 : o = 16
      · refine lv_tableIn (off := 502) (tgt := 534) hx hb dL_law_32 (by rw [k16]; decide) (by rw [k16]; decide) (by rw [k16]; rfl) (by decide) ?_
        refine lv_aload_n hx hb dL_law_534 rfl (lv_at hl 1 rfl) ?_
        refine lv_aload_n hx hb dL_law_535 rfl (lv_at hl 0 rfl) ?_
        refine lv_iload_n hx hb dL_law_536 rfl (lv_at hl 3 rfl) ?_
        refine lv_iconst (v := 1) hx hb dL_law_537 (by decide) ?_
        refine lv_iadd hx hb dL_law_538 ?_
        refine va_sld hx hb hX hbl hbA hS hi1 dL_law_539 ?_
        refine lv_aload_n hx hb dL_law_540 rfl (lv_at hl 0 rfl) ?_
        refine lv_iload_n hx hb dL_law_541 rfl (lv_at hl 3 rfl) ?_
        refine lv_iconst (v := 2) hx hb dL_law_542 (by decide) ?_
        refine lv_iadd hx hb dL_law_543 ?_
        refine va_sld hx hb hX hbl hbA hS hi2 dL_law_544 ?_
        obtain ⟨r, Y1, e1, e2, hR1⟩ := s_cover hR hN5 (xs (Int32.toNatClampNeg ((nI i) + 1))) (xs (Int32.toNatClampNeg ((nI i) + 2)))
        refine vp_callSi (va_runV (As := [.int (xs (Int32.toNatClampNeg ((nI i) + 1))), .int (xs (Int32.toNatClampNeg ((nI i) + 2)))]) (rest := []) ⟨hx, hb, hml, hown, hts⟩ (c_X3_cover l dC dI a cA X (xs (Int32.toNatClampNeg ((nI i) + 1))) (xs (Int32.toNatClampNeg ((nI i) + 2))) r e1) ⟨callB_of 2 hts gd_X3_cover rfl rfl rfl (hts _ wd_35) (hts _ wd_381) hd_X3_cover ⟨Nat.le_of_ble_eq_true rfl, Nat.le_of_ble_eq_true rfl⟩, hts _ wd_382, hts _ wd_383⟩ ⟨blX, va_recv hK hPx (ci := 3) (q0 := 0) rfl rfl, fun U hU hW => ⟨rfl, by rw [hU]; exact hPx, va_K.moved hW.alike hK, nst.warm hW hN⟩⟩ rfl rfl hl.1 rfl (lv_room (Nat.le_of_ble_eq_true rfl)) dL_law_545 ⟨Nat.le_of_ble_eq_true rfl, Nat.le_of_ble_eq_true rfl⟩).run (fun r_ e_ => ?_)
        subst r_
        refine lv_aload_n hx hb dL_law_548 rfl (lv_at hl 2 rfl) ?_
        refine lv_aload_n hx hb dL_law_549 rfl (lv_at hl 0 rfl) ?_
        refine lv_iload_n hx hb dL_law_550 rfl (lv_at hl 3 rfl) ?_
        refine lv_iconst (v := 1) hx hb dL_law_551 (by decide) ?_
        refine lv_iadd hx hb dL_law_552 ?_
        refine va_sld hx hb hX hbl hbA hS hi1 dL_law_553 ?_
        refine lv_aload_n hx hb dL_law_554 rfl (lv_at hl 0 rfl) ?_
        refine lv_iload_n hx hb dL_law_555 rfl (lv_at hl 3 rfl) ?_
        refine lv_iconst (v := 2) hx hb dL_law_556 (by decide) ?_
        refine lv_iadd hx hb dL_law_557 ?_
        refine va_sld hx hb hX hbl hbA hS hi2 dL_law_558 ?_
        refine va_calli (va_runV (As := [.int (xs (Int32.toNatClampNeg ((nI i) + 1))), .int (xs (Int32.toNatClampNeg ((nI i) + 2)))]) (rest := [.int r]) ⟨hx, hb, hml, hown, hts⟩ (c_X4_cover l dC dI (AM b) b cA Y (xs (Int32.toNatClampNeg ((nI i) + 1))) (xs (Int32.toNatClampNeg ((nI i) + 2))) (r, Y1) e2) ⟨callB_of 2 hts gd_X4_cover rfl rfl rfl (hts _ wd_39) (hts _ wd_739) hd_X4_cover ⟨Nat.le_of_ble_eq_true rfl, Nat.le_of_ble_eq_true rfl⟩, hts _ wd_740, hts _ wd_741⟩ ⟨blMD, va_recv hK hPm (ci := 4) (q0 := 0) rfl rfl, fun U hU hW => ⟨rfl, by rw [hU]; exact hPm, va_K.moved hW.alike hK, wmD hDm⟩⟩ rfl rfl hl.1 rfl (lv_room (Nat.le_of_ble_eq_true rfl)) dL_law_559 ⟨Nat.le_of_ble_eq_true rfl, Nat.le_of_ble_eq_true rfl⟩) hS (fun q _ h => amA q h) (fun q h => amA q h) (fun r_ u_ t_ H1 locs1 ht hvm hp_ hB hz1 hk1 hS1 => ?_)
        obtain ⟨q1_, q2_⟩ := Prod.mk.inj hp_
        subst q1_
        subst q2_
        obtain ⟨hP1, hK1⟩ := hB
        rw [ht] at hP1
        have hPx := keepP hPx hDx njm hk1
        have hPm := hP1
        have hS := hS1
        refine lv_icmp_eq (tgt := 824) hx hb dL_law_562 (by decide) (fun _ => ?_) (fun z => absurd rfl z)
        exact htail _ _ _ _ _ hR1 hPx hPm hS hl
      by_cases k17 : o = 17
      · refine lv_tableIn (off := 535) (tgt := 567) hx hb dL_law_32 (by rw [k17]; decide) (by rw [k17]; decide) (by rw [k17]; rfl) (by decide) ?_
        refine lv_aload_n hx hb dL_law_567 rfl (lv_at hl 1 rfl) ?_
        refine lv_aload_n hx hb dL_law_568 rfl (lv_at hl 0 rfl) ?_
        refine lv_iload_n hx hb dL_law_569 rfl (lv_at hl 3 rfl) ?_
        refine lv_iconst (v := 1) hx hb dL_law_570 (by decide) ?_
        refine lv_iadd hx hb dL_law_571 ?_
        refine va_sld hx hb hX hbl hbA hS hi1 dL_law_572 ?_
        refine lv_aload_n hx hb dL_law_573 rfl (lv_at hl 0 rfl) ?_
        refine lv_iload_n hx hb dL_law_574 rfl (lv_at hl 3 rfl) ?_
        refine lv_iconst (v := 2) hx hb dL_law_575 (by decide) ?_
        refine lv_iadd hx hb dL_law_576 ?_
        refine va_sld hx hb hX hbl hbA hS hi2 dL_law_577 ?_
        refine lv_aload_n hx hb dL_law_578 rfl (lv_at hl 0 rfl) ?_
        refine lv_iload_n hx hb dL_law_579 rfl (lv_at hl 3 rfl) ?_
        refine lv_iconst (v := 3) hx hb dL_law_580 (by decide) ?_
        refine lv_iadd hx hb dL_law_581 ?_
        refine va_sld hx hb hX hbl hbA hS hi3 dL_law_582 ?_
        refine lv_aload_n hx hb dL_law_583 rfl (lv_at hl 0 rfl) ?_
        refine lv_iload_n hx hb dL_law_584 rfl (lv_at hl 3 rfl) ?_
        refine lv_iconst (v := 4) hx hb dL_law_585 (by decide) ?_
        refine lv_iadd hx hb dL_law_586 ?_
        refine va_sld hx hb hX hbl hbA hS hi4 dL_law_587 ?_
        obtain ⟨r, e1, e2⟩ := s_hush hR hN5 (xs (Int32.toNatClampNeg ((nI i) + 1))) (xs (Int32.toNatClampNeg ((nI i) + 2))) (xs (Int32.toNatClampNeg ((nI i) + 3))) (xs (Int32.toNatClampNeg ((nI i) + 4)))
        have hR1 := Rel_up hR
        refine vp_callSi (va_runV (As := [.int (xs (Int32.toNatClampNeg ((nI i) + 1))), .int (xs (Int32.toNatClampNeg ((nI i) + 2))), .int (xs (Int32.toNatClampNeg ((nI i) + 3))), .int (xs (Int32.toNatClampNeg ((nI i) + 4)))]) (rest := []) ⟨hx, hb, hml, hown, hts⟩ (c_X3_hush l dC dI a cA X (xs (Int32.toNatClampNeg ((nI i) + 1))) (xs (Int32.toNatClampNeg ((nI i) + 2))) (xs (Int32.toNatClampNeg ((nI i) + 3))) (xs (Int32.toNatClampNeg ((nI i) + 4))) r e1) ⟨callB_of 4 hts gd_X3_hush rfl rfl rfl (hts _ wd_35) (hts _ wd_398) hd_X3_hush ⟨Nat.le_of_ble_eq_true rfl, Nat.le_of_ble_eq_true rfl⟩, hts _ wd_399, hts _ wd_400⟩ ⟨blX, va_recv hK hPx (ci := 3) (q0 := 0) rfl rfl, fun U hU hW => ⟨rfl, by rw [hU]; exact hPx, va_K.moved hW.alike hK, nst.warm hW hN⟩⟩ rfl rfl hl.1 rfl (lv_room (Nat.le_of_ble_eq_true rfl)) dL_law_588 ⟨Nat.le_of_ble_eq_true rfl, Nat.le_of_ble_eq_true rfl⟩).run (fun r_ e_ => ?_)
        subst r_
        refine lv_aload_n hx hb dL_law_591 rfl (lv_at hl 2 rfl) ?_
        refine lv_aload_n hx hb dL_law_592 rfl (lv_at hl 0 rfl) ?_
        refine lv_iload_n hx hb dL_law_593 rfl (lv_at hl 3 rfl) ?_
        refine lv_iconst (v := 1) hx hb dL_law_594 (by decide) ?_
        refine lv_iadd hx hb dL_law_595 ?_
        refine va_sld hx hb hX hbl hbA hS hi1 dL_law_596 ?_
        refine lv_aload_n hx hb dL_law_597 rfl (lv_at hl 0 rfl) ?_
        refine lv_iload_n hx hb dL_law_598 rfl (lv_at hl 3 rfl) ?_
        refine lv_iconst (v := 2) hx hb dL_law_599 (by decide) ?_
        refine lv_iadd hx hb dL_law_600 ?_
        refine va_sld hx hb hX hbl hbA hS hi2 dL_law_601 ?_
        refine lv_aload_n hx hb dL_law_602 rfl (lv_at hl 0 rfl) ?_
        refine lv_iload_n hx hb dL_law_603 rfl (lv_at hl 3 rfl) ?_
        refine lv_iconst (v := 3) hx hb dL_law_604 (by decide) ?_
        refine lv_iadd hx hb dL_law_605 ?_
        refine va_sld hx hb hX hbl hbA hS hi3 dL_law_606 ?_
        refine lv_aload_n hx hb dL_law_607 rfl (lv_at hl 0 rfl) ?_
        refine lv_iload_n hx hb dL_law_608 rfl (lv_at hl 3 rfl) ?_
        refine lv_iconst (v := 4) hx hb dL_law_609 (by decide) ?_
        refine lv_iadd hx hb dL_law_610 ?_
        refine va_sld hx hb hX hbl hbA hS hi4 dL_law_611 ?_
        refine vp_callSi (va_runV (As := [.int (xs (Int32.toNatClampNeg ((nI i) + 1))), .int (xs (Int32.toNatClampNeg ((nI i) + 2))), .int (xs (Int32.toNatClampNeg ((nI i) + 3))), .int (xs (Int32.toNatClampNeg ((nI i) + 4)))]) (rest := [.int r]) ⟨hx, hb, hml, hown, hts⟩ (c_X4_hush l dC dI b cA Y (xs (Int32.toNatClampNeg ((nI i) + 1))) (xs (Int32.toNatClampNeg ((nI i) + 2))) (xs (Int32.toNatClampNeg ((nI i) + 3))) (xs (Int32.toNatClampNeg ((nI i) + 4))) r e2) ⟨callB_of 4 hts gd_X4_hush rfl rfl rfl (hts _ wd_39) (hts _ wd_753) hd_X4_hush ⟨Nat.le_of_ble_eq_true rfl, Nat.le_of_ble_eq_true rfl⟩, hts _ wd_754, hts _ wd_755⟩ ⟨blM, va_recv hK hPm (ci := 4) (q0 := 0) rfl rfl, fun U hU hW => ⟨rfl, by rw [hU]; exact hPm, va_K.moved hW.alike hK⟩⟩ rfl rfl hl.1 rfl (lv_room (Nat.le_of_ble_eq_true rfl)) dL_law_612 ⟨Nat.le_of_ble_eq_true rfl, Nat.le_of_ble_eq_true rfl⟩).run (fun r_ e_ => ?_)
        subst r_
        refine lv_icmp_eq (tgt := 824) hx hb dL_law_615 (by decide) (fun _ => ?_) (fun z => absurd rfl z)
        exact htail _ _ _ _ _ hR1 hPx hPm hS hl
      by_cases k18 : o = 18
      · refine lv_tableIn (off := 588) (tgt := 620) hx hb dL_law_32 (by rw [k18]; decide) (by rw [k18]; decide) (by rw [k18]; rfl) (by decide) ?_
        refine lv_aload_n hx hb dL_law_620 rfl (lv_at hl 1 rfl) ?_
        refine lv_aload_n hx hb dL_law_621 rfl (lv_at hl 0 rfl) ?_
        refine lv_iload_n hx hb dL_law_622 rfl (lv_at hl 3 rfl) ?_
        refine lv_iconst (v := 1) hx hb dL_law_623 (by decide) ?_
        refine lv_iadd hx hb dL_law_624 ?_
        refine va_sld hx hb hX hbl hbA hS hi1 dL_law_625 ?_
        refine lv_aload_n hx hb dL_law_626 rfl (lv_at hl 0 rfl) ?_
        refine lv_iload_n hx hb dL_law_627 rfl (lv_at hl 3 rfl) ?_
        refine lv_iconst (v := 2) hx hb dL_law_628 (by decide) ?_
        refine lv_iadd hx hb dL_law_629 ?_
        refine va_sld hx hb hX hbl hbA hS hi2 dL_law_630 ?_
        refine lv_if_eq (tgt := 638) hx hb dL_law_631 (by decide) (fun ct1 => ?_) (fun ct1 => ?_)
        · refine lv_iconst (v := 0) hx hb dL_law_638 (by decide) ?_
          obtain ⟨r, X1, Y1, e1, e2, hR1⟩ := s_tell hR (xs (Int32.toNatClampNeg ((nI i) + 1))) 0
          refine va_calli (va_runV (As := [.int (xs (Int32.toNatClampNeg ((nI i) + 1))), .int 0]) (rest := []) ⟨hx, hb, hml, hown, hts⟩ (c_X3_tell l dC dI (AX a) a cA X (xs (Int32.toNatClampNeg ((nI i) + 1))) 0 (r, X1) e1) ⟨callB_of 2 hts gd_X3_tell rfl rfl rfl (hts _ wd_35) (hts _ wd_413) hd_X3_tell ⟨Nat.le_of_ble_eq_true rfl, Nat.le_of_ble_eq_true rfl⟩, hts _ wd_414, hts _ wd_415⟩ ⟨blXD, va_recv hK hPx (ci := 3) (q0 := 0) rfl rfl, fun U hU hW => ⟨rfl, by rw [hU]; exact hPx, va_K.moved hW.alike hK, nst.warm hW hN, wlD hDx⟩⟩ rfl rfl hl.1 rfl (lv_room (Nat.le_of_ble_eq_true rfl)) dL_law_639 ⟨Nat.le_of_ble_eq_true rfl, Nat.le_of_ble_eq_true rfl⟩) hS (fun q _ h => axA q h) (fun q h => axA q h) (fun r_ u_ t_ H1 locs1 ht hvm hp_ hB hz1 hk1 hS1 => ?_)
          obtain ⟨q1_, q2_⟩ := Prod.mk.inj hp_
          subst q1_
          subst q2_
          obtain ⟨hP1, hK1⟩ := hB
          rw [ht] at hP1
          have hPm := keepP hPm hDm njx hk1
          have hPx := hP1
          have hS := hS1
          refine lv_aload_n hx hb dL_law_642 rfl (lv_at hl 2 rfl) ?_
          refine lv_aload_n hx hb dL_law_643 rfl (lv_at hl 0 rfl) ?_
          refine lv_iload_n hx hb dL_law_644 rfl (lv_at hl 3 rfl) ?_
          refine lv_iconst (v := 1) hx hb dL_law_645 (by decide) ?_
          refine lv_iadd hx hb dL_law_646 ?_
          refine va_sld hx hb hX hbl hbA hS hi1 dL_law_647 ?_
          refine lv_aload_n hx hb dL_law_648 rfl (lv_at hl 0 rfl) ?_
          refine lv_iload_n hx hb dL_law_649 rfl (lv_at hl 3 rfl) ?_
          refine lv_iconst (v := 2) hx hb dL_law_650 (by decide) ?_
          refine lv_iadd hx hb dL_law_651 ?_
          refine va_sld hx hb hX hbl hbA hS hi2 dL_law_652 ?_
          refine lv_if_eq (tgt := 660) hx hb dL_law_653 (by decide) (fun _ => ?_) (fun z => absurd ct1 z)
          refine lv_iconst (v := 0) hx hb dL_law_660 (by decide) ?_
          refine va_calli (va_runV (As := [.int (xs (Int32.toNatClampNeg ((nI i) + 1))), .int 0]) (rest := [.int r]) ⟨hx, hb, hml, hown, hts⟩ (c_X4_tell l dC dI (AM b) b cA Y (xs (Int32.toNatClampNeg ((nI i) + 1))) 0 (r, Y1) e2) ⟨callB_of 2 hts gd_X4_tell rfl rfl rfl (hts _ wd_39) (hts _ wd_765) hd_X4_tell ⟨Nat.le_of_ble_eq_true rfl, Nat.le_of_ble_eq_true rfl⟩, hts _ wd_766, hts _ wd_767⟩ ⟨blMD, va_recv hK hPm (ci := 4) (q0 := 0) rfl rfl, fun U hU hW => ⟨rfl, by rw [hU]; exact hPm, va_K.moved hW.alike hK, wmD hDm⟩⟩ rfl rfl hl.1 rfl (lv_room (Nat.le_of_ble_eq_true rfl)) dL_law_661 ⟨Nat.le_of_ble_eq_true rfl, Nat.le_of_ble_eq_true rfl⟩) hS (fun q _ h => amA q h) (fun q h => amA q h) (fun r_ u_ t_ H1 locs1 ht hvm hp_ hB hz1 hk1 hS1 => ?_)
          obtain ⟨q1_, q2_⟩ := Prod.mk.inj hp_
          subst q1_
          subst q2_
          obtain ⟨hP1, hK1⟩ := hB
          rw [ht] at hP1
          have hPx := keepP hPx hDx njm hk1
          have hPm := hP1
          have hS := hS1
          refine lv_icmp_eq (tgt := 824) hx hb dL_law_664 (by decide) (fun _ => ?_) (fun z => absurd rfl z)
          exact htail _ _ _ _ _ hR1 hPx hPm hS hl
        · refine lv_iconst (v := 1) hx hb dL_law_634 (by decide) ?_
          refine lv_goto (tgt := 639) hx hb dL_law_635 (by decide) ?_
          obtain ⟨r, X1, Y1, e1, e2, hR1⟩ := s_tell hR (xs (Int32.toNatClampNeg ((nI i) + 1))) 1
          refine va_calli (va_runV (As := [.int (xs (Int32.toNatClampNeg ((nI i) + 1))), .int 1]) (rest := []) ⟨hx, hb, hml, hown, hts⟩ (c_X3_tell l dC dI (AX a) a cA X (xs (Int32.toNatClampNeg ((nI i) + 1))) 1 (r, X1) e1) ⟨callB_of 2 hts gd_X3_tell rfl rfl rfl (hts _ wd_35) (hts _ wd_413) hd_X3_tell ⟨Nat.le_of_ble_eq_true rfl, Nat.le_of_ble_eq_true rfl⟩, hts _ wd_414, hts _ wd_415⟩ ⟨blXD, va_recv hK hPx (ci := 3) (q0 := 0) rfl rfl, fun U hU hW => ⟨rfl, by rw [hU]; exact hPx, va_K.moved hW.alike hK, nst.warm hW hN, wlD hDx⟩⟩ rfl rfl hl.1 rfl (lv_room (Nat.le_of_ble_eq_true rfl)) dL_law_639 ⟨Nat.le_of_ble_eq_true rfl, Nat.le_of_ble_eq_true rfl⟩) hS (fun q _ h => axA q h) (fun q h => axA q h) (fun r_ u_ t_ H1 locs1 ht hvm hp_ hB hz1 hk1 hS1 => ?_)
          obtain ⟨q1_, q2_⟩ := Prod.mk.inj hp_
          subst q1_
          subst q2_
          obtain ⟨hP1, hK1⟩ := hB
          rw [ht] at hP1
          have hPm := keepP hPm hDm njx hk1
          have hPx := hP1
          have hS := hS1
          refine lv_aload_n hx hb dL_law_642 rfl (lv_at hl 2 rfl) ?_
          refine lv_aload_n hx hb dL_law_643 rfl (lv_at hl 0 rfl) ?_
          refine lv_iload_n hx hb dL_law_644 rfl (lv_at hl 3 rfl) ?_
          refine lv_iconst (v := 1) hx hb dL_law_645 (by decide) ?_
          refine lv_iadd hx hb dL_law_646 ?_
          refine va_sld hx hb hX hbl hbA hS hi1 dL_law_647 ?_
          refine lv_aload_n hx hb dL_law_648 rfl (lv_at hl 0 rfl) ?_
          refine lv_iload_n hx hb dL_law_649 rfl (lv_at hl 3 rfl) ?_
          refine lv_iconst (v := 2) hx hb dL_law_650 (by decide) ?_
          refine lv_iadd hx hb dL_law_651 ?_
          refine va_sld hx hb hX hbl hbA hS hi2 dL_law_652 ?_
          refine lv_if_eq (tgt := 660) hx hb dL_law_653 (by decide) (fun z => absurd z ct1) (fun _ => ?_)
          refine lv_iconst (v := 1) hx hb dL_law_656 (by decide) ?_
          refine lv_goto (tgt := 661) hx hb dL_law_657 (by decide) ?_
          refine va_calli (va_runV (As := [.int (xs (Int32.toNatClampNeg ((nI i) + 1))), .int 1]) (rest := [.int r]) ⟨hx, hb, hml, hown, hts⟩ (c_X4_tell l dC dI (AM b) b cA Y (xs (Int32.toNatClampNeg ((nI i) + 1))) 1 (r, Y1) e2) ⟨callB_of 2 hts gd_X4_tell rfl rfl rfl (hts _ wd_39) (hts _ wd_765) hd_X4_tell ⟨Nat.le_of_ble_eq_true rfl, Nat.le_of_ble_eq_true rfl⟩, hts _ wd_766, hts _ wd_767⟩ ⟨blMD, va_recv hK hPm (ci := 4) (q0 := 0) rfl rfl, fun U hU hW => ⟨rfl, by rw [hU]; exact hPm, va_K.moved hW.alike hK, wmD hDm⟩⟩ rfl rfl hl.1 rfl (lv_room (Nat.le_of_ble_eq_true rfl)) dL_law_661 ⟨Nat.le_of_ble_eq_true rfl, Nat.le_of_ble_eq_true rfl⟩) hS (fun q _ h => amA q h) (fun q h => amA q h) (fun r_ u_ t_ H1 locs1 ht hvm hp_ hB hz1 hk1 hS1 => ?_)
          obtain ⟨q1_, q2_⟩ := Prod.mk.inj hp_
          subst q1_
          subst q2_
          obtain ⟨hP1, hK1⟩ := hB
          rw [ht] at hP1
          have hPx := keepP hPx hDx njm hk1
          have hPm := hP1
          have hS := hS1
          refine lv_icmp_eq (tgt := 824) hx hb dL_law_664 (by decide) (fun _ => ?_) (fun z => absurd rfl z)
          exact htail _ _ _ _ _ hR1 hPx hPm hS hl
      by_cases k19 : o = 19
      · refine lv_tableIn (off := 637) (tgt := 669) hx hb dL_law_32 (by rw [k19]; decide) (by rw [k19]; decide) (by rw [k19]; rfl) (by decide) ?_
        refine lv_aload_n hx hb dL_law_669 rfl (lv_at hl 1 rfl) ?_
        obtain ⟨r, X1, Y1, e1, e2, hR1⟩ := s_forget hR
        refine va_calli (va_runV (As := []) (rest := []) ⟨hx, hb, hml, hown, hts⟩ (c_X3_forget l dC dI (AX a) a cA X (r, X1) e1) ⟨callB_of 0 hts gd_X3_forget rfl rfl rfl (hts _ wd_35) (hts _ wd_421) hd_X3_forget ⟨Nat.le_of_ble_eq_true rfl, Nat.le_of_ble_eq_true rfl⟩, hts _ wd_422, hts _ wd_423⟩ ⟨blXD, va_recv hK hPx (ci := 3) (q0 := 0) rfl rfl, fun U hU hW => ⟨rfl, by rw [hU]; exact hPx, va_K.moved hW.alike hK, nst.warm hW hN, wlD hDx⟩⟩ rfl rfl hl.1 rfl (lv_room (Nat.le_of_ble_eq_true rfl)) dL_law_670 ⟨Nat.le_of_ble_eq_true rfl, Nat.le_of_ble_eq_true rfl⟩) hS (fun q _ h => axA q h) (fun q h => axA q h) (fun r_ u_ t_ H1 locs1 ht hvm hp_ hB hz1 hk1 hS1 => ?_)
        obtain ⟨q1_, q2_⟩ := Prod.mk.inj hp_
        subst q1_
        subst q2_
        obtain ⟨hP1, hK1⟩ := hB
        rw [ht] at hP1
        have hPm := keepP hPm hDm njx hk1
        have hPx := hP1
        have hS := hS1
        refine lv_aload_n hx hb dL_law_673 rfl (lv_at hl 2 rfl) ?_
        refine va_calli (va_runV (As := []) (rest := [.int r]) ⟨hx, hb, hml, hown, hts⟩ (c_X4_forget l dC dI (AM b) b cA Y (r, Y1) e2) ⟨callB_of 0 hts gd_X4_forget rfl rfl rfl (hts _ wd_39) (hts _ wd_769) hd_X4_forget ⟨Nat.le_of_ble_eq_true rfl, Nat.le_of_ble_eq_true rfl⟩, hts _ wd_770, hts _ wd_771⟩ ⟨blMD, va_recv hK hPm (ci := 4) (q0 := 0) rfl rfl, fun U hU hW => ⟨rfl, by rw [hU]; exact hPm, va_K.moved hW.alike hK, wmD hDm⟩⟩ rfl rfl hl.1 rfl (lv_room (Nat.le_of_ble_eq_true rfl)) dL_law_674 ⟨Nat.le_of_ble_eq_true rfl, Nat.le_of_ble_eq_true rfl⟩) hS (fun q _ h => amA q h) (fun q h => amA q h) (fun r_ u_ t_ H1 locs1 ht hvm hp_ hB hz1 hk1 hS1 => ?_)
        obtain ⟨q1_, q2_⟩ := Prod.mk.inj hp_
        subst q1_
        subst q2_
        obtain ⟨hP1, hK1⟩ := hB
        rw [ht] at hP1
        have hPx := keepP hPx hDx njm hk1
        have hPm := hP1
        have hS := hS1
        refine lv_icmp_eq (tgt := 824) hx hb dL_law_677 (by decide) (fun _ => ?_) (fun z => absurd rfl z)
        exact htail _ _ _ _ _ hR1 hPx hPm hS hl
      by_cases k20 : o = 20
      · refine lv_tableIn (off := 650) (tgt := 682) hx hb dL_law_32 (by rw [k20]; decide) (by rw [k20]; decide) (by rw [k20]; rfl) (by decide) ?_
        refine lv_aload_n hx hb dL_law_682 rfl (lv_at hl 1 rfl) ?_
        refine lv_aload_n hx hb dL_law_683 rfl (lv_at hl 0 rfl) ?_
        refine lv_iload_n hx hb dL_law_684 rfl (lv_at hl 3 rfl) ?_
        refine lv_iconst (v := 1) hx hb dL_law_685 (by decide) ?_
        refine lv_iadd hx hb dL_law_686 ?_
        refine va_sld hx hb hX hbl hbA hS hi1 dL_law_687 ?_
        obtain ⟨r, X1, e1, e2, hR1, -⟩ := s_where hR hN5 (xs (Int32.toNatClampNeg ((nI i) + 1)))
        refine va_calli (va_runV (As := [.int (xs (Int32.toNatClampNeg ((nI i) + 1)))]) (rest := []) ⟨hx, hb, hml, hown, hts⟩ (c_X3_where l dC dI (AX a) a cA X (xs (Int32.toNatClampNeg ((nI i) + 1))) (r, X1) e1) ⟨callB_of 1 hts gd_X3_where rfl rfl rfl (hts _ wd_35) (hts _ wd_426) hd_X3_where ⟨Nat.le_of_ble_eq_true rfl, Nat.le_of_ble_eq_true rfl⟩, hts _ wd_427, hts _ wd_428⟩ ⟨blXD, va_recv hK hPx (ci := 3) (q0 := 0) rfl rfl, fun U hU hW => ⟨rfl, by rw [hU]; exact hPx, va_K.moved hW.alike hK, nst.warm hW hN, wlD hDx⟩⟩ rfl rfl hl.1 rfl (lv_room (Nat.le_of_ble_eq_true rfl)) dL_law_688 ⟨Nat.le_of_ble_eq_true rfl, Nat.le_of_ble_eq_true rfl⟩) hS (fun q _ h => axA q h) (fun q h => axA q h) (fun r_ u_ t_ H1 locs1 ht hvm hp_ hB hz1 hk1 hS1 => ?_)
        obtain ⟨q1_, q2_⟩ := Prod.mk.inj hp_
        subst q1_
        subst q2_
        obtain ⟨hP1, hK1⟩ := hB
        rw [ht] at hP1
        have hPm := keepP hPm hDm njx hk1
        have hPx := hP1
        have hS := hS1
        refine lv_aload_n hx hb dL_law_691 rfl (lv_at hl 2 rfl) ?_
        refine lv_aload_n hx hb dL_law_692 rfl (lv_at hl 0 rfl) ?_
        refine lv_iload_n hx hb dL_law_693 rfl (lv_at hl 3 rfl) ?_
        refine lv_iconst (v := 1) hx hb dL_law_694 (by decide) ?_
        refine lv_iadd hx hb dL_law_695 ?_
        refine va_sld hx hb hX hbl hbA hS hi1 dL_law_696 ?_
        refine vp_callSi (va_runV (As := [.int (xs (Int32.toNatClampNeg ((nI i) + 1)))]) (rest := [.int r]) ⟨hx, hb, hml, hown, hts⟩ (c_X4_where l dC dI b cA Y (xs (Int32.toNatClampNeg ((nI i) + 1))) r e2) ⟨callB_of 1 hts gd_X4_where rfl rfl rfl (hts _ wd_39) (hts _ wd_773) hd_X4_where ⟨Nat.le_of_ble_eq_true rfl, Nat.le_of_ble_eq_true rfl⟩, hts _ wd_774, hts _ wd_775⟩ ⟨blM, va_recv hK hPm (ci := 4) (q0 := 0) rfl rfl, fun U hU hW => ⟨rfl, by rw [hU]; exact hPm, va_K.moved hW.alike hK⟩⟩ rfl rfl hl.1 rfl (lv_room (Nat.le_of_ble_eq_true rfl)) dL_law_697 ⟨Nat.le_of_ble_eq_true rfl, Nat.le_of_ble_eq_true rfl⟩).run (fun r_ e_ => ?_)
        subst r_
        refine lv_icmp_eq (tgt := 824) hx hb dL_law_700 (by decide) (fun _ => ?_) (fun z => absurd rfl z)
        exact htail _ _ _ _ _ hR1 hPx hPm hS hl
      by_cases k21 : o = 21
      · refine lv_tableIn (off := 673) (tgt := 705) hx hb dL_law_32 (by rw [k21]; decide) (by rw [k21]; decide) (by rw [k21]; rfl) (by decide) ?_
        refine lv_aload_n hx hb dL_law_705 rfl (lv_at hl 1 rfl) ?_
        obtain ⟨r, X1, e1, e2, hR1, -⟩ := s_ask hR hN5
        refine va_calli (va_runV (As := []) (rest := []) ⟨hx, hb, hml, hown, hts⟩ (c_X3_ask l dC dI (AX a) a cA X (r, X1) e1) ⟨callB_of 0 hts gd_X3_ask rfl rfl rfl (hts _ wd_35) (hts _ wd_442) hd_X3_ask ⟨Nat.le_of_ble_eq_true rfl, Nat.le_of_ble_eq_true rfl⟩, hts _ wd_443, hts _ wd_444⟩ ⟨blXD, va_recv hK hPx (ci := 3) (q0 := 0) rfl rfl, fun U hU hW => ⟨rfl, by rw [hU]; exact hPx, va_K.moved hW.alike hK, nst.warm hW hN, wlD hDx⟩⟩ rfl rfl hl.1 rfl (lv_room (Nat.le_of_ble_eq_true rfl)) dL_law_706 ⟨Nat.le_of_ble_eq_true rfl, Nat.le_of_ble_eq_true rfl⟩) hS (fun q _ h => axA q h) (fun q h => axA q h) (fun r_ u_ t_ H1 locs1 ht hvm hp_ hB hz1 hk1 hS1 => ?_)
        obtain ⟨q1_, q2_⟩ := Prod.mk.inj hp_
        subst q1_
        subst q2_
        obtain ⟨hP1, hK1⟩ := hB
        rw [ht] at hP1
        have hPm := keepP hPm hDm njx hk1
        have hPx := hP1
        have hS := hS1
        refine lv_aload_n hx hb dL_law_709 rfl (lv_at hl 2 rfl) ?_
        refine vp_callSi (va_runV (As := []) (rest := [.int r]) ⟨hx, hb, hml, hown, hts⟩ (c_X4_ask l dC dI b cA Y r e2) ⟨callB_of 0 hts gd_X4_ask rfl rfl rfl (hts _ wd_39) (hts _ wd_785) hd_X4_ask ⟨Nat.le_of_ble_eq_true rfl, Nat.le_of_ble_eq_true rfl⟩, hts _ wd_786, hts _ wd_787⟩ ⟨blM, va_recv hK hPm (ci := 4) (q0 := 0) rfl rfl, fun U hU hW => ⟨rfl, by rw [hU]; exact hPm, va_K.moved hW.alike hK⟩⟩ rfl rfl hl.1 rfl (lv_room (Nat.le_of_ble_eq_true rfl)) dL_law_710 ⟨Nat.le_of_ble_eq_true rfl, Nat.le_of_ble_eq_true rfl⟩).run (fun r_ e_ => ?_)
        subst r_
        refine lv_icmp_eq (tgt := 824) hx hb dL_law_713 (by decide) (fun _ => ?_) (fun z => absurd rfl z)
        exact htail _ _ _ _ _ hR1 hPx hPm hS hl
      by_cases k22 : o = 22
      · refine lv_tableIn (off := 686) (tgt := 718) hx hb dL_law_32 (by rw [k22]; decide) (by rw [k22]; decide) (by rw [k22]; rfl) (by decide) ?_
        refine lv_aload_n hx hb dL_law_718 rfl (lv_at hl 1 rfl) ?_
        refine lv_aload_n hx hb dL_law_719 rfl (lv_at hl 0 rfl) ?_
        refine lv_iload_n hx hb dL_law_720 rfl (lv_at hl 3 rfl) ?_
        refine lv_iconst (v := 1) hx hb dL_law_721 (by decide) ?_
        refine lv_iadd hx hb dL_law_722 ?_
        refine va_sld hx hb hX hbl hbA hS hi1 dL_law_723 ?_
        refine lv_aload_n hx hb dL_law_724 rfl (lv_at hl 0 rfl) ?_
        refine lv_iload_n hx hb dL_law_725 rfl (lv_at hl 3 rfl) ?_
        refine lv_iconst (v := 2) hx hb dL_law_726 (by decide) ?_
        refine lv_iadd hx hb dL_law_727 ?_
        refine va_sld hx hb hX hbl hbA hS hi2 dL_law_728 ?_
        refine lv_aload_n hx hb dL_law_729 rfl (lv_at hl 0 rfl) ?_
        refine lv_iload_n hx hb dL_law_730 rfl (lv_at hl 3 rfl) ?_
        refine lv_iconst (v := 3) hx hb dL_law_731 (by decide) ?_
        refine lv_iadd hx hb dL_law_732 ?_
        refine va_sld hx hb hX hbl hbA hS hi3 dL_law_733 ?_
        obtain ⟨r, X1, Y1, e1, e2, hR1⟩ := s_days hR hN5 (xs (Int32.toNatClampNeg ((nI i) + 1))) (xs (Int32.toNatClampNeg ((nI i) + 2))) (xs (Int32.toNatClampNeg ((nI i) + 3)))
        refine va_calli (va_runV (As := [.int (xs (Int32.toNatClampNeg ((nI i) + 1))), .int (xs (Int32.toNatClampNeg ((nI i) + 2))), .int (xs (Int32.toNatClampNeg ((nI i) + 3)))]) (rest := []) ⟨hx, hb, hml, hown, hts⟩ (c_X3_days l dC dI (AX a) a cA X (xs (Int32.toNatClampNeg ((nI i) + 1))) (xs (Int32.toNatClampNeg ((nI i) + 2))) (xs (Int32.toNatClampNeg ((nI i) + 3))) (r, X1) e1) ⟨callB_of 3 hts gd_X3_days rfl rfl rfl (hts _ wd_35) (hts _ wd_453) hd_X3_days ⟨Nat.le_of_ble_eq_true rfl, Nat.le_of_ble_eq_true rfl⟩, hts _ wd_454, hts _ wd_455⟩ ⟨blXD, va_recv hK hPx (ci := 3) (q0 := 0) rfl rfl, fun U hU hW => ⟨rfl, by rw [hU]; exact hPx, va_K.moved hW.alike hK, nst.warm hW hN, wlD hDx⟩⟩ rfl rfl hl.1 rfl (lv_room (Nat.le_of_ble_eq_true rfl)) dL_law_734 ⟨Nat.le_of_ble_eq_true rfl, Nat.le_of_ble_eq_true rfl⟩) hS (fun q _ h => axA q h) (fun q h => axA q h) (fun r_ u_ t_ H1 locs1 ht hvm hp_ hB hz1 hk1 hS1 => ?_)
        obtain ⟨q1_, q2_⟩ := Prod.mk.inj hp_
        subst q1_
        subst q2_
        obtain ⟨hP1, hK1⟩ := hB
        rw [ht] at hP1
        have hPm := keepP hPm hDm njx hk1
        have hPx := hP1
        have hS := hS1
        refine lv_aload_n hx hb dL_law_737 rfl (lv_at hl 2 rfl) ?_
        refine lv_aload_n hx hb dL_law_738 rfl (lv_at hl 0 rfl) ?_
        refine lv_iload_n hx hb dL_law_739 rfl (lv_at hl 3 rfl) ?_
        refine lv_iconst (v := 1) hx hb dL_law_740 (by decide) ?_
        refine lv_iadd hx hb dL_law_741 ?_
        refine va_sld hx hb hX hbl hbA hS hi1 dL_law_742 ?_
        refine lv_aload_n hx hb dL_law_743 rfl (lv_at hl 0 rfl) ?_
        refine lv_iload_n hx hb dL_law_744 rfl (lv_at hl 3 rfl) ?_
        refine lv_iconst (v := 2) hx hb dL_law_745 (by decide) ?_
        refine lv_iadd hx hb dL_law_746 ?_
        refine va_sld hx hb hX hbl hbA hS hi2 dL_law_747 ?_
        refine lv_aload_n hx hb dL_law_748 rfl (lv_at hl 0 rfl) ?_
        refine lv_iload_n hx hb dL_law_749 rfl (lv_at hl 3 rfl) ?_
        refine lv_iconst (v := 3) hx hb dL_law_750 (by decide) ?_
        refine lv_iadd hx hb dL_law_751 ?_
        refine va_sld hx hb hX hbl hbA hS hi3 dL_law_752 ?_
        refine va_calli (va_runV (As := [.int (xs (Int32.toNatClampNeg ((nI i) + 1))), .int (xs (Int32.toNatClampNeg ((nI i) + 2))), .int (xs (Int32.toNatClampNeg ((nI i) + 3)))]) (rest := [.int r]) ⟨hx, hb, hml, hown, hts⟩ (c_X4_days l dC dI (AM b) b cA Y (xs (Int32.toNatClampNeg ((nI i) + 1))) (xs (Int32.toNatClampNeg ((nI i) + 2))) (xs (Int32.toNatClampNeg ((nI i) + 3))) (r, Y1) e2) ⟨callB_of 3 hts gd_X4_days rfl rfl rfl (hts _ wd_39) (hts _ wd_793) hd_X4_days ⟨Nat.le_of_ble_eq_true rfl, Nat.le_of_ble_eq_true rfl⟩, hts _ wd_794, hts _ wd_795⟩ ⟨blMD, va_recv hK hPm (ci := 4) (q0 := 0) rfl rfl, fun U hU hW => ⟨rfl, by rw [hU]; exact hPm, va_K.moved hW.alike hK, wmD hDm⟩⟩ rfl rfl hl.1 rfl (lv_room (Nat.le_of_ble_eq_true rfl)) dL_law_753 ⟨Nat.le_of_ble_eq_true rfl, Nat.le_of_ble_eq_true rfl⟩) hS (fun q _ h => amA q h) (fun q h => amA q h) (fun r_ u_ t_ H1 locs1 ht hvm hp_ hB hz1 hk1 hS1 => ?_)
        obtain ⟨q1_, q2_⟩ := Prod.mk.inj hp_
        subst q1_
        subst q2_
        obtain ⟨hP1, hK1⟩ := hB
        rw [ht] at hP1
        have hPx := keepP hPx hDx njm hk1
        have hPm := hP1
        have hS := hS1
        refine lv_icmp_eq (tgt := 824) hx hb dL_law_756 (by decide) (fun _ => ?_) (fun z => absurd rfl z)
        exact htail _ _ _ _ _ hR1 hPx hPm hS hl
      by_cases k23 : o = 23
      · refine lv_tableIn (off := 729) (tgt := 761) hx hb dL_law_32 (by rw [k23]; decide) (by rw [k23]; decide) (by rw [k23]; rfl) (by decide) ?_
        refine lv_aload_n hx hb dL_law_761 rfl (lv_at hl 1 rfl) ?_
        obtain ⟨r, X1, Y1, e1, e2, hR1⟩ := s_image hR hN5
        refine va_calli (va_runV (As := []) (rest := []) ⟨hx, hb, hml, hown, hts⟩ (c_X3_image l dC dI (AX a) a cA X (r, X1) e1) ⟨callB_of 0 hts gd_X3_image rfl rfl rfl (hts _ wd_35) (hts _ wd_469) hd_X3_image ⟨Nat.le_of_ble_eq_true rfl, Nat.le_of_ble_eq_true rfl⟩, hts _ wd_470, hts _ wd_471⟩ ⟨blXD, va_recv hK hPx (ci := 3) (q0 := 0) rfl rfl, fun U hU hW => ⟨rfl, by rw [hU]; exact hPx, va_K.moved hW.alike hK, nst.warm hW hN, wlD hDx⟩⟩ rfl rfl hl.1 rfl (lv_room (Nat.le_of_ble_eq_true rfl)) dL_law_762 ⟨Nat.le_of_ble_eq_true rfl, Nat.le_of_ble_eq_true rfl⟩) hS (fun q _ h => axA q h) (fun q h => axA q h) (fun r_ u_ t_ H1 locs1 ht hvm hp_ hB hz1 hk1 hS1 => ?_)
        obtain ⟨q1_, q2_⟩ := Prod.mk.inj hp_
        subst q1_
        subst q2_
        obtain ⟨hP1, hK1⟩ := hB
        rw [ht] at hP1
        have hPm := keepP hPm hDm njx hk1
        have hPx := hP1
        have hS := hS1
        refine lv_aload_n hx hb dL_law_765 rfl (lv_at hl 2 rfl) ?_
        refine va_calli (va_runV (As := []) (rest := [.int r]) ⟨hx, hb, hml, hown, hts⟩ (c_X4_image l dC dI (AM b) b cA Y (r, Y1) e2) ⟨callB_of 0 hts gd_X4_image rfl rfl rfl (hts _ wd_39) (hts _ wd_807) hd_X4_image ⟨Nat.le_of_ble_eq_true rfl, Nat.le_of_ble_eq_true rfl⟩, hts _ wd_808, hts _ wd_809⟩ ⟨blMD, va_recv hK hPm (ci := 4) (q0 := 0) rfl rfl, fun U hU hW => ⟨rfl, by rw [hU]; exact hPm, va_K.moved hW.alike hK, wmD hDm⟩⟩ rfl rfl hl.1 rfl (lv_room (Nat.le_of_ble_eq_true rfl)) dL_law_766 ⟨Nat.le_of_ble_eq_true rfl, Nat.le_of_ble_eq_true rfl⟩) hS (fun q _ h => amA q h) (fun q h => amA q h) (fun r_ u_ t_ H1 locs1 ht hvm hp_ hB hz1 hk1 hS1 => ?_)
        obtain ⟨q1_, q2_⟩ := Prod.mk.inj hp_
        subst q1_
        subst q2_
        obtain ⟨hP1, hK1⟩ := hB
        rw [ht] at hP1
        have hPx := keepP hPx hDx njm hk1
        have hPm := hP1
        have hS := hS1
        refine lv_icmp_eq (tgt := 824) hx hb dL_law_769 (by decide) (fun _ => ?_) (fun z => absurd rfl z)
        exact htail _ _ _ _ _ hR1 hPx hPm hS hl
      by_cases k24 : o = 24
      · refine lv_tableIn (off := 742) (tgt := 774) hx hb dL_law_32 (by rw [k24]; decide) (by rw [k24]; decide) (by rw [k24]; rfl) (by decide) ?_
        refine lv_aload_n hx hb dL_law_774 rfl (lv_at hl 1 rfl) ?_
        obtain ⟨r, X1, Y1, e1, e2, hR1⟩ := s_restore hR hN5
        refine va_calli (va_runV (As := []) (rest := []) ⟨hx, hb, hml, hown, hts⟩ (c_X3_restore l dC dI (AX a) a cA X (r, X1) e1) ⟨callB_of 0 hts gd_X3_restore rfl rfl rfl (hts _ wd_35) (hts _ wd_480) hd_X3_restore ⟨Nat.le_of_ble_eq_true rfl, Nat.le_of_ble_eq_true rfl⟩, hts _ wd_481, hts _ wd_482⟩ ⟨blXD, va_recv hK hPx (ci := 3) (q0 := 0) rfl rfl, fun U hU hW => ⟨rfl, by rw [hU]; exact hPx, va_K.moved hW.alike hK, nst.warm hW hN, wlD hDx⟩⟩ rfl rfl hl.1 rfl (lv_room (Nat.le_of_ble_eq_true rfl)) dL_law_775 ⟨Nat.le_of_ble_eq_true rfl, Nat.le_of_ble_eq_true rfl⟩) hS (fun q _ h => axA q h) (fun q h => axA q h) (fun r_ u_ t_ H1 locs1 ht hvm hp_ hB hz1 hk1 hS1 => ?_)
        obtain ⟨q1_, q2_⟩ := Prod.mk.inj hp_
        subst q1_
        subst q2_
        obtain ⟨hP1, hK1⟩ := hB
        rw [ht] at hP1
        have hPm := keepP hPm hDm njx hk1
        have hPx := hP1
        have hS := hS1
        refine lv_aload_n hx hb dL_law_778 rfl (lv_at hl 2 rfl) ?_
        refine va_calli (va_runV (As := []) (rest := [.int r]) ⟨hx, hb, hml, hown, hts⟩ (c_X4_restore l dC dI (AM b) b cA Y (r, Y1) e2) ⟨callB_of 0 hts gd_X4_restore rfl rfl rfl (hts _ wd_39) (hts _ wd_814) hd_X4_restore ⟨Nat.le_of_ble_eq_true rfl, Nat.le_of_ble_eq_true rfl⟩, hts _ wd_815, hts _ wd_816⟩ ⟨blMD, va_recv hK hPm (ci := 4) (q0 := 0) rfl rfl, fun U hU hW => ⟨rfl, by rw [hU]; exact hPm, va_K.moved hW.alike hK, wmD hDm⟩⟩ rfl rfl hl.1 rfl (lv_room (Nat.le_of_ble_eq_true rfl)) dL_law_779 ⟨Nat.le_of_ble_eq_true rfl, Nat.le_of_ble_eq_true rfl⟩) hS (fun q _ h => amA q h) (fun q h => amA q h) (fun r_ u_ t_ H1 locs1 ht hvm hp_ hB hz1 hk1 hS1 => ?_)
        obtain ⟨q1_, q2_⟩ := Prod.mk.inj hp_
        subst q1_
        subst q2_
        obtain ⟨hP1, hK1⟩ := hB
        rw [ht] at hP1
        have hPx := keepP hPx hDx njm hk1
        have hPm := hP1
        have hS := hS1
        refine lv_icmp_eq (tgt := 824) hx hb dL_law_782 (by decide) (fun _ => ?_) (fun z => absurd rfl z)
        exact htail _ _ _ _ _ hR1 hPx hPm hS hl
      by_cases k25 : o = 25
      · refine lv_tableIn (off := 755) (tgt := 787) hx hb dL_law_32 (by rw [k25]; decide) (by rw [k25]; decide) (by rw [k25]; rfl) (by decide) ?_
        refine lv_aload_n hx hb dL_law_787 rfl (lv_at hl 1 rfl) ?_
        refine lv_aload_n hx hb dL_law_788 rfl (lv_at hl 0 rfl) ?_
        refine lv_iload_n hx hb dL_law_789 rfl (lv_at hl 3 rfl) ?_
        refine lv_iconst (v := 1) hx hb dL_law_790 (by decide) ?_
        refine lv_iadd hx hb dL_law_791 ?_
        refine va_sld hx hb hX hbl hbA hS hi1 dL_law_792 ?_
        obtain ⟨r, e1, e2⟩ := s_count hR (xs (Int32.toNatClampNeg ((nI i) + 1)))
        have hR1 := Rel_up hR
        refine vp_callSi (va_runV (As := [.int (xs (Int32.toNatClampNeg ((nI i) + 1)))]) (rest := []) ⟨hx, hb, hml, hown, hts⟩ (c_X3_count l dC dI a cA X (xs (Int32.toNatClampNeg ((nI i) + 1))) r e1) ⟨callB_of 1 hts gd_X3_count rfl rfl rfl (hts _ wd_35) (hts _ wd_484) hd_X3_count ⟨Nat.le_of_ble_eq_true rfl, Nat.le_of_ble_eq_true rfl⟩, hts _ wd_485, hts _ wd_486⟩ ⟨blX, va_recv hK hPx (ci := 3) (q0 := 0) rfl rfl, fun U hU hW => ⟨rfl, by rw [hU]; exact hPx, va_K.moved hW.alike hK, nst.warm hW hN⟩⟩ rfl rfl hl.1 rfl (lv_room (Nat.le_of_ble_eq_true rfl)) dL_law_793 ⟨Nat.le_of_ble_eq_true rfl, Nat.le_of_ble_eq_true rfl⟩).run (fun r_ e_ => ?_)
        subst r_
        refine lv_aload_n hx hb dL_law_796 rfl (lv_at hl 2 rfl) ?_
        refine lv_aload_n hx hb dL_law_797 rfl (lv_at hl 0 rfl) ?_
        refine lv_iload_n hx hb dL_law_798 rfl (lv_at hl 3 rfl) ?_
        refine lv_iconst (v := 1) hx hb dL_law_799 (by decide) ?_
        refine lv_iadd hx hb dL_law_800 ?_
        refine va_sld hx hb hX hbl hbA hS hi1 dL_law_801 ?_
        refine vp_callSi (va_runV (As := [.int (xs (Int32.toNatClampNeg ((nI i) + 1)))]) (rest := [.int r]) ⟨hx, hb, hml, hown, hts⟩ (c_X4_count l dC dI b cA Y (xs (Int32.toNatClampNeg ((nI i) + 1))) r e2) ⟨callB_of 1 hts gd_X4_count rfl rfl rfl (hts _ wd_39) (hts _ wd_818) hd_X4_count ⟨Nat.le_of_ble_eq_true rfl, Nat.le_of_ble_eq_true rfl⟩, hts _ wd_819, hts _ wd_820⟩ ⟨blM, va_recv hK hPm (ci := 4) (q0 := 0) rfl rfl, fun U hU hW => ⟨rfl, by rw [hU]; exact hPm, va_K.moved hW.alike hK⟩⟩ rfl rfl hl.1 rfl (lv_room (Nat.le_of_ble_eq_true rfl)) dL_law_802 ⟨Nat.le_of_ble_eq_true rfl, Nat.le_of_ble_eq_true rfl⟩).run (fun r_ e_ => ?_)
        subst r_
        refine lv_icmp_eq (tgt := 824) hx hb dL_law_805 (by decide) (fun _ => ?_) (fun z => absurd rfl z)
        exact htail _ _ _ _ _ hR1 hPx hPm hS hl
      by_cases k26 : o = 26
      · refine lv_tableIn (off := 778) (tgt := 810) hx hb dL_law_32 (by rw [k26]; decide) (by rw [k26]; decide) (by rw [k26]; rfl) (by decide) ?_
        refine lv_aload_n hx hb dL_law_810 rfl (lv_at hl 1 rfl) ?_
        obtain ⟨r, X1, Y1, e1, e2, hR1⟩ := s_digest hR hN5
        refine va_calll (va_runV (As := []) (rest := []) ⟨hx, hb, hml, hown, hts⟩ (c_X3_digest l dC dI (AX a) a cA X (r, X1) e1) ⟨callB_of 0 hts gd_X3_digest rfl rfl rfl (hts _ wd_35) (hts _ wd_488) hd_X3_digest ⟨Nat.le_of_ble_eq_true rfl, Nat.le_of_ble_eq_true rfl⟩, hts _ wd_489, hts _ wd_490⟩ ⟨blXD, va_recv hK hPx (ci := 3) (q0 := 0) rfl rfl, fun U hU hW => ⟨rfl, by rw [hU]; exact hPx, va_K.moved hW.alike hK, nst.warm hW hN, wlD hDx⟩⟩ rfl rfl hl.1 rfl (lv_room (Nat.le_of_ble_eq_true rfl)) dL_law_811 ⟨Nat.le_of_ble_eq_true rfl, Nat.le_of_ble_eq_true rfl⟩) hS (fun q _ h => axA q h) (fun q h => axA q h) (fun r_ u_ t_ H1 locs1 ht hvm hp_ hB hz1 hk1 hS1 => ?_)
        obtain ⟨q1_, q2_⟩ := Prod.mk.inj hp_
        subst q1_
        subst q2_
        obtain ⟨hP1, hK1⟩ := hB
        rw [ht] at hP1
        have hPm := keepP hPm hDm njx hk1
        have hPx := hP1
        have hS := hS1
        refine lv_aload_n hx hb dL_law_814 rfl (lv_at hl 2 rfl) ?_
        refine va_calll (va_runV (As := []) (rest := [.long r]) ⟨hx, hb, hml, hown, hts⟩ (c_X4_digest l dC dI (AM b) b cA Y (r, Y1) e2) ⟨callB_of 0 hts gd_X4_digest rfl rfl rfl (hts _ wd_39) (hts _ wd_826) hd_X4_digest ⟨Nat.le_of_ble_eq_true rfl, Nat.le_of_ble_eq_true rfl⟩, hts _ wd_827, hts _ wd_828⟩ ⟨blMD, va_recv hK hPm (ci := 4) (q0 := 0) rfl rfl, fun U hU hW => ⟨rfl, by rw [hU]; exact hPm, va_K.moved hW.alike hK, wmD hDm⟩⟩ rfl rfl hl.1 rfl (lv_room (Nat.le_of_ble_eq_true rfl)) dL_law_815 ⟨Nat.le_of_ble_eq_true rfl, Nat.le_of_ble_eq_true rfl⟩) hS (fun q _ h => amA q h) (fun q h => amA q h) (fun r_ u_ t_ H1 locs1 ht hvm hp_ hB hz1 hk1 hS1 => ?_)
        obtain ⟨q1_, q2_⟩ := Prod.mk.inj hp_
        subst q1_
        subst q2_
        obtain ⟨hP1, hK1⟩ := hB
        rw [ht] at hP1
        have hPx := keepP hPx hDx njm hk1
        have hPm := hP1
        have hS := hS1
        refine W.lcmp hx hb dL_law_818 ?_
        refine lv_if_eq (tgt := 824) hx hb dL_law_819 (by decide) (fun _ => ?_) (fun z => absurd (lg_self r) z)
        exact htail _ _ _ _ _ hR1 hPx hPm hS hl
      refine lv_tableOut (tgt := 824) hx hb dL_law_32 (by have q0 := i32_ne k0 (z := 0) (by decide); have q1 := i32_ne k1 (z := 1) (by decide); have q2 := i32_ne k2 (z := 2) (by decide); have q3 := i32_ne k3 (z := 3) (by decide); have q4 := i32_ne k4 (z := 4) (by decide); have q5 := i32_ne k5 (z := 5) (by decide); have q6 := i32_ne k6 (z := 6) (by decide); have q7 := i32_ne k7 (z := 7) (by decide); have q8 := i32_ne k8 (z := 8) (by decide); have q9 := i32_ne k9 (z := 9) (by decide); have q10 := i32_ne k10 (z := 10) (by decide); have q11 := i32_ne k11 (z := 11) (by decide); have q12 := i32_ne k12 (z := 12) (by decide); have q13 := i32_ne k13 (z := 13) (by decide); have q14 := i32_ne k14 (z := 14) (by decide); have q15 := i32_ne k15 (z := 15) (by decide); have q16 := i32_ne k16 (z := 16) (by decide); have q17 := i32_ne k17 (z := 17) (by decide); have q18 := i32_ne k18 (z := 18) (by decide); have q19 := i32_ne k19 (z := 19) (by decide); have q20 := i32_ne k20 (z := 20) (by decide); have q21 := i32_ne k21 (z := 21) (by decide); have q22 := i32_ne k22 (z := 22) (by decide); have q23 := i32_ne k23 (z := 23) (by decide); have q24 := i32_ne k24 (z := 24) (by decide); have q25 := i32_ne k25 (z := 25) (by decide); have q26 := i32_ne k26 (z := 26) (by decide); omega) (by decide) ?_
      exact htail X Y H locs ls (Rel_up hR) hPx hPm hS hl
