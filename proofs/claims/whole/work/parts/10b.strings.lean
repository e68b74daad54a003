theorem qc425 : (Jvm.Cond.fieldLink "java/lang/String" (38 : Nat) "java/lang/String" "COMPACT_STRINGS" "Z") ∈ lw_all := all_mem 425 (by decide +kernel) (by decide +kernel)
theorem qc468 : (Jvm.Cond.fieldLink "java/lang/String" (1053 : Nat) "jdk/internal/util/Preconditions" "SIOOBE_FORMATTER" "Ljava/util/function/BiFunction;") ∈ lw_all := all_mem 468 (by decide +kernel) (by decide +kernel)
theorem qc1064 : (Jvm.Cond.fieldLink "java/lang/String" (15 : Nat) "java/lang/String" "coder" "B") ∈ lw_all := all_mem 1064 (by decide +kernel) (by decide +kernel)
theorem qc1065 : (Jvm.Cond.fieldLink "java/lang/String" (9 : Nat) "java/lang/String" "value" "[B") ∈ lw_all := all_mem 1065 (by decide +kernel) (by decide +kernel)
set_option maxHeartbeats 4000000 in
set_option maxRecDepth 100000 in
theorem m_isLatin1 (l : Launch) (G : gT) (E : eT) (i : Nat) (hi : i < 12) : MR l G yJ0_isLatin1_aae02 cJ0_isLatin1_aae02 1 (some .boolean) 0 [.ref (E.1 i)] [] (ZR E) (.int (iI (bZ (true)))) := by
  refine enterR (own := RJ0) (by decide +kernel) rfl (Nat.le_of_ble_eq_true rfl) ?_
  intro p e s m below meth c C hP hK hZ ls hl
  have hl : lv_has ls 1 [(0, .ref (E.1 i))] := hl
  refine z_scmp C hZ va_S.rf qc425 dJ0_isLatin1_aae02_0 3 rfl ?_
  refine z_if_eq C dJ0_isLatin1_aae02_3 17 6 (by decide) rfl (by omega) (fun c3 => ?_) (fun c3 => ?_)
  · exfalso; omega
  · skip
    refine z_al_n C hl dJ0_isLatin1_aae02_6 0 rfl 7 rfl ?_
    refine z_scod C hZ va_S.rf i (hi) rfl qc1064 dJ0_isLatin1_aae02_7 10 rfl ?_
    refine z_if_ne C dJ0_isLatin1_aae02_10 17 13 (by decide) rfl (by omega) (fun c10 => ?_) (fun c10 => ?_)
    · exfalso; omega
    · skip
      refine z_iconst C dJ0_isLatin1_aae02_13 14 rfl ?_
      refine z_goto C dJ0_isLatin1_aae02_14 18 (by decide) ?_
      exact z_rz C dJ0_isLatin1_aae02_18 (rfl)

set_option maxHeartbeats 4000000 in
set_option maxRecDepth 100000 in
theorem m_coder (l : Launch) (G : gT) (E : eT) (i : Nat) (hi : i < 12) : MR l G yJ0_coder_7d493 cJ0_coder_7d493 1 (some .byte) 0 [.ref (E.1 i)] [] (ZR E) (.int (iI (0))) := by
  refine enterR (own := RJ0) (by decide +kernel) rfl (Nat.le_of_ble_eq_true rfl) ?_
  intro p e s m below meth c C hP hK hZ ls hl
  have hl : lv_has ls 1 [(0, .ref (E.1 i))] := hl
  refine z_scmp C hZ va_S.rf qc425 dJ0_coder_7d493_0 3 rfl ?_
  refine z_if_eq C dJ0_coder_7d493_3 13 6 (by decide) rfl (by omega) (fun c3 => ?_) (fun c3 => ?_)
  · exfalso; omega
  · skip
    refine z_al_n C hl dJ0_coder_7d493_6 0 rfl 7 rfl ?_
    refine z_scod C hZ va_S.rf i (hi) rfl qc1064 dJ0_coder_7d493_7 10 rfl ?_
    refine z_goto C dJ0_coder_7d493_10 14 (by decide) ?_
    exact z_rn C dJ0_coder_7d493_14 (rfl) (rfl)

set_option maxHeartbeats 4000000 in
set_option maxRecDepth 100000 in
theorem m_length (l : Launch) (G : gT) (E : eT) (i : Nat) (hi : i < 12) : MR l G yJ0_length_8abf5 cJ0_length_8abf5 1 (some .int) 1 [.ref (E.1 i)] [] (ZR E) (.int (iI (sLen i))) := by
  refine enterR (own := RJ0) (by decide +kernel) rfl (Nat.le_of_ble_eq_true rfl) ?_
  intro p e s m below meth c C hP hK hZ ls hl
  have hl : lv_has ls 1 [(0, .ref (E.1 i))] := hl
  refine z_al_n C hl dJ0_length_8abf5_0 0 rfl 1 rfl ?_
  refine z_sval C hZ va_S.rf i (hi) rfl qc1065 dJ0_length_8abf5_1 4 rfl ?_
  refine z_slen C hZ va_S.rf i (hi) rfl dJ0_length_8abf5_4 5 rfl ?_
  refine z_al_n C hl dJ0_length_8abf5_5 0 rfl 6 rfl ?_
  refine z_VRs (E := E) (r := .int (iI (0))) (rest := [.int (iI (sLen i))]) C (hi) rfl (m_coder l G E i  (hi) ) kV_J0_335 ⟨Nat.le_of_ble_eq_true rfl, Nat.le_of_ble_eq_true rfl⟩ hK hZ va_S.rf rfl hl.1 rfl (Nat.le_of_ble_eq_true rfl) dJ0_length_8abf5_6 ⟨Nat.le_of_ble_eq_true rfl, Nat.le_of_ble_eq_true rfl⟩ 9 rfl ?_
  refine z_ishr C dJ0_length_8abf5_9 10 rfl ?_
  refine z_top (b := .int (iI (sLen i))) (congrArg Value.int (shr0Z _)) ?_
  exact z_ri C dJ0_length_8abf5_10 (rfl)

set_option maxHeartbeats 4000000 in
set_option maxRecDepth 100000 in
theorem m_isEmpty (l : Launch) (G : gT) (E : eT) (i : Nat) (hi : i < 12) : MR l G yJ0_isEmpty_aae02 cJ0_isEmpty_aae02 1 (some .boolean) 0 [.ref (E.1 i)] [] (ZR E) (.int (iI (bZ (decide (sLen i = 0))))) := by
  refine enterR (own := RJ0) (by decide +kernel) rfl (Nat.le_of_ble_eq_true rfl) ?_
  intro p e s m below meth c C hP hK hZ ls hl
  have hl : lv_has ls 1 [(0, .ref (E.1 i))] := hl
  refine z_al_n C hl dJ0_isEmpty_aae02_0 0 rfl 1 rfl ?_
  refine z_sval C hZ va_S.rf i (hi) rfl qc1065 dJ0_isEmpty_aae02_1 4 rfl ?_
  refine z_slen C hZ va_S.rf i (hi) rfl dJ0_isEmpty_aae02_4 5 rfl ?_
  refine z_if_ne C dJ0_isEmpty_aae02_5 12 8 (by decide) rfl (by have := sLen_rng i hi; omega) (fun c5 => ?_) (fun c5 => ?_)
  · skip
    refine z_iconst C dJ0_isEmpty_aae02_12 13 rfl ?_
    exact z_rz C dJ0_isEmpty_aae02_13 (bZ_df (by omega))
  · skip
    refine z_iconst C dJ0_isEmpty_aae02_8 9 rfl ?_
    refine z_goto C dJ0_isEmpty_aae02_9 13 (by decide) ?_
    exact z_rz C dJ0_isEmpty_aae02_13 (bZ_dt (by omega))

set_option maxHeartbeats 4000000 in
set_option maxRecDepth 100000 in
theorem m_pcin (l : Launch) (G : gT) (x n : Int) (hx : 0 ≤ x ∧ x < n) (hn : n < 2147483648) : MR l G yJ3_checkIndex_8e157 cJ3_checkIndex_8e157 3 (some .int) 0 [.int (iI (x)), .int (iI (n)), .null] [] ZT (.int (iI (x))) := by
  refine enterR (own := RJ3) (by decide +kernel) rfl (Nat.le_of_ble_eq_true rfl) ?_
  intro p e s m below meth c C hP hK hZ ls hl
  have hl : lv_has ls 3 [(0, .int (iI (x))), (1, .int (iI (n))), (2, .null)] := hl
  refine z_il_n C hl dJ3_checkIndex_8e157_0 0 rfl 1 rfl ?_
  refine z_if_lt C dJ3_checkIndex_8e157_1 9 4 (by decide) rfl (by omega) (fun c1 => ?_) (fun c1 => ?_)
  · exfalso; omega
  · skip
    refine z_il_n C hl dJ3_checkIndex_8e157_4 0 rfl 5 rfl ?_
    refine z_il_n C hl dJ3_checkIndex_8e157_5 1 rfl 6 rfl ?_
    refine z_icmp_lt C dJ3_checkIndex_8e157_6 16 9 (by decide) rfl (by omega) (fun c6 => ?_) (fun c6 => ?_)
    · skip
      refine z_il_n C hl dJ3_checkIndex_8e157_16 0 rfl 17 rfl ?_
      exact z_ri C dJ3_checkIndex_8e157_17 (rfl)
    · exfalso; omega

set_option maxHeartbeats 4000000 in
set_option maxRecDepth 100000 in
theorem m_pcir (l : Launch) (G : gT) (x n : Int) (t : Nat) (hx : 0 ≤ x ∧ x < n) (hn : n < 2147483648) : MR l G yJ3_checkIndex_8e157 cJ3_checkIndex_8e157 3 (some .int) 0 [.int (iI (x)), .int (iI (n)), .ref (t)] [] ZT (.int (iI (x))) := by
  refine enterR (own := RJ3) (by decide +kernel) rfl (Nat.le_of_ble_eq_true rfl) ?_
  intro p e s m below meth c C hP hK hZ ls hl
  have hl : lv_has ls 3 [(0, .int (iI (x))), (1, .int (iI (n))), (2, .ref (t))] := hl
  refine z_il_n C hl dJ3_checkIndex_8e157_0 0 rfl 1 rfl ?_
  refine z_if_lt C dJ3_checkIndex_8e157_1 9 4 (by decide) rfl (by omega) (fun c1 => ?_) (fun c1 => ?_)
  · exfalso; omega
  · skip
    refine z_il_n C hl dJ3_checkIndex_8e157_4 0 rfl 5 rfl ?_
    refine z_il_n C hl dJ3_checkIndex_8e157_5 1 rfl 6 rfl ?_
    refine z_icmp_lt C dJ3_checkIndex_8e157_6 16 9 (by decide) rfl (by omega) (fun c6 => ?_) (fun c6 => ?_)
    · skip
      refine z_il_n C hl dJ3_checkIndex_8e157_16 0 rfl 17 rfl ?_
      exact z_ri C dJ3_checkIndex_8e157_17 (rfl)
    · exfalso; omega

set_option maxHeartbeats 4000000 in
set_option maxRecDepth 100000 in
theorem m_sci (l : Launch) (G : gT) (E : eT) (x n : Int) (hx : 0 ≤ x ∧ x < n) (hn : n < 2147483648) : MV l G yJ0_checkIndex_df160 cJ0_checkIndex_df160 2 (none) 1 [.int (iI (x)), .int (iI (n))] [] (ZR E)  := by
  refine enter (own := RJ0) (by decide +kernel) rfl (Nat.le_of_ble_eq_true rfl) ?_
  intro p e s m below meth c C hP hK hZ ls hl
  have hl : lv_has ls 2 [(0, .int (iI (x))), (1, .int (iI (n)))] := hl
  refine z_il_n C hl dJ0_checkIndex_df160_0 0 rfl 1 rfl ?_
  refine z_il_n C hl dJ0_checkIndex_df160_1 1 rfl 2 rfl ?_
  refine z_sfmt C hZ va_S.rf qc468 dJ0_checkIndex_df160_2 5 rfl ?_ (fun t => ?_)
  · skip
    refine z_SR (r := .int (iI (x))) (rest := []) C (m_pcin l G x n hx hn) kS_J0_1059 ⟨Nat.le_of_ble_eq_true rfl, Nat.le_of_ble_eq_true rfl⟩ (gP_nil) hK rfl hl.1 rfl (Nat.le_of_ble_eq_true rfl) dJ0_checkIndex_df160_5 ⟨Nat.le_of_ble_eq_true rfl, Nat.le_of_ble_eq_true rfl⟩ 8 rfl ?_
    refine z_pop C dJ0_checkIndex_df160_8 rfl 9 rfl ?_
    exact z_rv C dJ0_checkIndex_df160_9
  · skip
    refine z_SR (r := .int (iI (x))) (rest := []) C (m_pcir l G x n t hx hn) kS_J0_1059 ⟨Nat.le_of_ble_eq_true rfl, Nat.le_of_ble_eq_true rfl⟩ (gP_nil) hK rfl hl.1 rfl (Nat.le_of_ble_eq_true rfl) dJ0_checkIndex_df160_5 ⟨Nat.le_of_ble_eq_true rfl, Nat.le_of_ble_eq_true rfl⟩ 8 rfl ?_
    refine z_pop C dJ0_checkIndex_df160_8 rfl 9 rfl ?_
    exact z_rv C dJ0_checkIndex_df160_9

set_option maxHeartbeats 4000000 in
set_option maxRecDepth 100000 in
theorem m_l1ch (l : Launch) (G : gT) (E : eT) (i : Nat) (k : Int) (hi : i < 12) (hk : 0 ≤ k ∧ k < sLen i) : MR l G yJ1_charAt_3b067 cJ1_charAt_3b067 2 (some .char) 2 [.ref (E.2.1 i), .int (iI (k))] [] (ZR E) (.int (iI (sCh i k))) := by
  refine enterR (own := RJ1) (by decide +kernel) rfl (Nat.le_of_ble_eq_true rfl) ?_
  intro p e s m below meth c C hP hK hZ ls hl
  have hl : lv_has ls 2 [(0, .ref (E.2.1 i)), (1, .int (iI (k)))] := hl
  have hs := sLen_rng i hi
  have hc := sCh_rng hi (k := k) (by omega)
  refine z_il_n C hl dJ1_charAt_3b067_0 1 rfl 1 rfl ?_
  refine z_al_n C hl dJ1_charAt_3b067_1 0 rfl 2 rfl ?_
  refine z_slen C hZ va_S.rf i (hi) rfl dJ1_charAt_3b067_2 3 rfl ?_
  refine z_SVz (rest := []) C (m_sci l G E k (sLen i) (by omega) (by omega)) kS_J1_9 ⟨Nat.le_of_ble_eq_true rfl, Nat.le_of_ble_eq_true rfl⟩ gP_nil hK zr_blind (zr_of hZ va_S.rf) rfl hl.1 rfl (Nat.le_of_ble_eq_true rfl) dJ1_charAt_3b067_3 ⟨Nat.le_of_ble_eq_true rfl, Nat.le_of_ble_eq_true rfl⟩ 6 rfl ?_
  refine z_al_n C hl dJ1_charAt_3b067_6 0 rfl 7 rfl ?_
  refine z_il_n C hl dJ1_charAt_3b067_7 1 rfl 8 rfl ?_
  refine z_sbyt C hZ va_S.rf i (hi) rfl (by omega) dJ1_charAt_3b067_8 9 rfl ?_
  refine z_sipush C dJ1_charAt_3b067_9 (by decide) 12 rfl ?_
  refine z_iand C dJ1_charAt_3b067_12 13 rfl ?_
  refine z_top (b := .int (iI (sCh i k))) (congrArg Value.int (and255Z hc)) ?_
  refine z_i2c C (v := iI (sCh i k)) dJ1_charAt_3b067_13 (i2cZ (by omega)) 14 rfl ?_
  exact z_rn C dJ1_charAt_3b067_14 (nar_char (by omega)) (rfl)

set_option maxHeartbeats 4000000 in
set_option maxRecDepth 100000 in
theorem m_charAt (l : Launch) (G : gT) (E : eT) (i : Nat) (k : Int) (hi : i < 12) (hk : 0 ≤ k ∧ k < sLen i) : MR l G yJ0_charAt_5068e cJ0_charAt_5068e 2 (some .char) 3 [.ref (E.1 i), .int (iI (k))] [] (ZR E) (.int (iI (sCh i k))) := by
  refine enterR (own := RJ0) (by decide +kernel) rfl (Nat.le_of_ble_eq_true rfl) ?_
  intro p e s m below meth c C hP hK hZ ls hl
  have hl : lv_has ls 2 [(0, .ref (E.1 i)), (1, .int (iI (k)))] := hl
  have hs := sLen_rng i hi
  have hc := sCh_rng hi (k := k) (by omega)
  refine z_al_n C hl dJ0_charAt_5068e_0 0 rfl 1 rfl ?_
  refine z_VRs (E := E) (r := .int (iI (bZ (true)))) (rest := []) C (hi) rfl (m_isLatin1 l G E i  (hi) ) kV_J0_492 ⟨Nat.le_of_ble_eq_true rfl, Nat.le_of_ble_eq_true rfl⟩ hK hZ va_S.rf rfl hl.1 rfl (Nat.le_of_ble_eq_true rfl) dJ0_charAt_5068e_1 ⟨Nat.le_of_ble_eq_true rfl, Nat.le_of_ble_eq_true rfl⟩ 4 rfl ?_
  refine z_ifb_eq C dJ0_charAt_5068e_4 16 7 (by decide) rfl (fun c4 => ?_) (fun c4 => ?_)
  · exfalso; cases c4
  · skip
    refine z_al_n C hl dJ0_charAt_5068e_7 0 rfl 8 rfl ?_
    refine z_sval C hZ va_S.rf i (hi) rfl qc1065 dJ0_charAt_5068e_8 11 rfl ?_
    refine z_il_n C hl dJ0_charAt_5068e_11 1 rfl 12 rfl ?_
    refine z_SRz (r := .int (iI (sCh i k))) (rest := []) C (m_l1ch l G E i k hi (by omega)) kS_J0_495 ⟨Nat.le_of_ble_eq_true rfl, Nat.le_of_ble_eq_true rfl⟩ (gP_nil) hK zr_blind (zr_of hZ va_S.rf) rfl hl.1 rfl (Nat.le_of_ble_eq_true rfl) dJ0_charAt_5068e_12 ⟨Nat.le_of_ble_eq_true rfl, Nat.le_of_ble_eq_true rfl⟩ 15 rfl ?_
    exact z_rn C dJ0_charAt_5068e_15 (nar_char (by omega)) (rfl)

set_option maxHeartbeats 4000000 in
set_option maxRecDepth 100000 in
theorem m_canEnc (l : Launch) (G : gT) (x : Int) (hx : -2147483648 ≤ x ∧ x < 2147483648) : MR l G yJ1_canEncode_9a6ad cJ1_canEncode_9a6ad 1 (some .boolean) 0 [.int (iI (x))] [] ZT (.int (iI (bZ (decide (0 ≤ x ∧ x ≤ 255))))) := by
  refine enterR (own := RJ1) (by decide +kernel) rfl (Nat.le_of_ble_eq_true rfl) ?_
  intro p e s m below meth c C hP hK hZ ls hl
  have hl : lv_has ls 1 [(0, .int (iI (x)))] := hl
  refine z_il_n C hl dJ1_canEncode_9a6ad_0 0 rfl 1 rfl ?_
  refine z_if_lt C dJ1_canEncode_9a6ad_1 15 4 (by decide) rfl (by omega) (fun c1 => ?_) (fun c1 => ?_)
  · skip
    refine z_iconst C dJ1_canEncode_9a6ad_15 16 rfl ?_
    exact z_rz C dJ1_canEncode_9a6ad_16 (bZ_df (by omega))
  · skip
    refine z_il_n C hl dJ1_canEncode_9a6ad_4 0 rfl 5 rfl ?_
    refine z_sipush C dJ1_canEncode_9a6ad_5 (by decide) 8 rfl ?_
    refine z_icmp_gt C dJ1_canEncode_9a6ad_8 15 11 (by decide) rfl (by omega) (fun c8 => ?_) (fun c8 => ?_)
    · skip
      refine z_iconst C dJ1_canEncode_9a6ad_15 16 rfl ?_
      exact z_rz C dJ1_canEncode_9a6ad_16 (bZ_df (by omega))
    · skip
      refine z_iconst C dJ1_canEncode_9a6ad_11 12 rfl ?_
      refine z_goto C dJ1_canEncode_9a6ad_12 16 (by decide) ?_
      exact z_rz C dJ1_canEncode_9a6ad_16 (bZ_dt (by omega))

set_option maxHeartbeats 4000000 in
set_option maxRecDepth 100000 in
theorem m_ixc (l : Launch) (G : gT) (E : eT) (i : Nat) (x : Int) (hi : i < 12) (hx : 0 ≤ x ∧ x ≤ 255) : MR l G yJ1_indexOfChar_4cfef cJ1_indexOfChar_4cfef 6 (some .int) 0 [.ref (E.2.1 i), .int (iI (x)), .int (iI (0)), .int (iI (sLen i))] [] (ZR E) (.int (iI (idxZ i x))) := by
  refine enterR (own := RJ1) (by decide +kernel) rfl (Nat.le_of_ble_eq_true rfl) ?_
  intro p e s m below meth c C hP hK hZ ls hl
  have hl : lv_has ls 6 [(0, .ref (E.2.1 i)), (1, .int (iI (x))), (2, .int (iI (0))), (3, .int (iI (sLen i)))] := hl
  have hs := sLen_rng i hi
  refine z_il_n C hl dJ1_indexOfChar_4cfef_0 1 rfl 1 rfl ?_
  refine z_i2b C (v := iI ((if x < 128 then x else x - 256))) dJ1_indexOfChar_4cfef_1 (i2bZ hx) 2 rfl ?_
  refine z_is C hl dJ1_indexOfChar_4cfef_2 4 rfl (by decide) (lv' := [(4, .int (iI ((if x < 128 then x else x - 256)))), (0, .ref (E.2.1 i)), (1, .int (iI (x))), (2, .int (iI (0))), (3, .int (iI (sLen i)))]) rfl (fun ls hl => ?_)
  refine z_il_n C hl dJ1_indexOfChar_4cfef_4 3 rfl 5 rfl ?_
  refine z_is C hl dJ1_indexOfChar_4cfef_5 7 rfl (by decide) (lv' := [(5, .int (iI (0))), (4, .int (iI ((if x < 128 then x else x - 256)))), (0, .ref (E.2.1 i)), (1, .int (iI (x))), (2, .int (iI (0))), (3, .int (iI (sLen i)))]) rfl (fun ls hl => ?_)
  have L7 : ∀ (fu : Nat) (k : Int) (h1 : 0 ≤ k ∧ k ≤ sLen i) (h2 : idxN (sCh i) x (sLen i - k).toNat k = idxZ i x) (hm : sLen i - k < (fu : Int)) (ls : Array Slot) (hl : lv_has ls 6 [(5, .int (iI (k))), (4, .int (iI ((if x < 128 then x else x - 256)))), (0, .ref (E.2.1 i)), (1, .int (iI (x))), (2, .int (iI (0))), (3, .int (iI (sLen i)))]), W p l e (rmN 0) s m [.ref (E.2.1 i), .int (iI (x)), .int (iI (0)), .int (iI (sLen i))].toArray below meth c s.heap [] 0 0 (MQ below (QR (.int (iI (idxZ i x)))) [.ref (E.2.1 i), .int (iI (x)), .int (iI (0)), .int (iI (sLen i))].toArray s 0 0 (fun _ => False)) (F0 m 7 ls []) := by
    intro fu
    induction fu with
    | zero => intro k h1 h2 hm ls hl; exfalso; omega
    | succ fu ih =>
      intro k h1 h2 hm ls hl
      have ih7 := ih
      refine z_il C hl dJ1_indexOfChar_4cfef_7 0 rfl 9 rfl ?_
      refine z_il_n C hl dJ1_indexOfChar_4cfef_9 5 rfl 10 rfl ?_
      refine z_icmp_ge C dJ1_indexOfChar_4cfef_10 31 13 (by decide) rfl (by omega) (fun c10 => ?_) (fun c10 => ?_)
      · skip
        refine z_iconst C dJ1_indexOfChar_4cfef_31 32 rfl ?_
        exact z_ri C dJ1_indexOfChar_4cfef_32 (by rw [← h2]; exact (idxN_end (by omega)).symm)
      · skip
        have hc := sCh_rng hi (k := k) (by omega)
        refine z_al_n C hl dJ1_indexOfChar_4cfef_13 2 rfl 14 rfl ?_
        refine z_il C hl dJ1_indexOfChar_4cfef_14 0 rfl 16 rfl ?_
        refine z_sbyt C hZ va_S.rf i (hi) rfl (by omega) dJ1_indexOfChar_4cfef_16 17 rfl ?_
        refine z_il C hl dJ1_indexOfChar_4cfef_17 1 rfl 19 rfl ?_
        refine z_icmp_ne C dJ1_indexOfChar_4cfef_19 25 22 (by decide) rfl (by split <;> omega) (fun c19 => ?_) (fun c19 => ?_)
        · skip
          refine z_iinc C hl dJ1_indexOfChar_4cfef_25 28 rfl 0 rfl (z := 1 + k) (by omega) (by decide) (lv' := [(5, .int (iI (1 + k))), (4, .int (iI ((if x < 128 then x else x - 256)))), (0, .ref (E.2.1 i)), (1, .int (iI (x))), (2, .int (iI (0))), (3, .int (iI (sLen i)))]) rfl (fun ls hl => ?_)
          refine z_goto C dJ1_indexOfChar_4cfef_28 7 (by decide) ?_
          exact ih7 (1 + k) (by omega) (by rw [← h2]; exact (idxN_miss (by omega) (by omega) (by split at c19 <;> omega)).symm) (by omega) ls (lv_sub hl [0, 1, 2, 3, 4, 5] rfl)
        · skip
          refine z_il C hl dJ1_indexOfChar_4cfef_22 0 rfl 24 rfl ?_
          exact z_ri C dJ1_indexOfChar_4cfef_24 (by rw [← h2]; exact (idxN_hit (by omega) (by split at c19 <;> omega)).symm)
  exact L7 (Int.toNat (sLen i - 0) + 1) 0 (by omega) (by rw [Int.sub_zero]; rfl) (by omega) ls (lv_sub hl [0, 1, 2, 3, 4, 5] rfl)

set_option maxHeartbeats 4000000 in
set_option maxRecDepth 100000 in
theorem m_l1ix (l : Launch) (G : gT) (E : eT) (i : Nat) (x : Int) (hi : i < 12) (hx : -2147483648 ≤ x ∧ x < 2147483648) : MR l G yJ1_indexOf_4cfef cJ1_indexOf_4cfef 4 (some .int) 1 [.ref (E.2.1 i), .int (iI (x)), .int (iI (0)), .int (iI (sLen i))] [] (ZR E) (.int (iI (idxZ i x))) := by
  refine enterR (own := RJ1) (by decide +kernel) rfl (Nat.le_of_ble_eq_true rfl) ?_
  intro p e s m below meth c C hP hK hZ ls hl
  have hl : lv_has ls 4 [(0, .ref (E.2.1 i)), (1, .int (iI (x))), (2, .int (iI (0))), (3, .int (iI (sLen i)))] := hl
  have hs := sLen_rng i hi
  refine z_il_n C hl dJ1_indexOf_4cfef_0 1 rfl 1 rfl ?_
  refine z_SR (r := .int (iI (bZ (decide (0 ≤ x ∧ x ≤ 255))))) (rest := []) C (m_canEnc l G x (by omega)) kS_J1_88 ⟨Nat.le_of_ble_eq_true rfl, Nat.le_of_ble_eq_true rfl⟩ (gP_nil) hK rfl hl.1 rfl (Nat.le_of_ble_eq_true rfl) dJ1_indexOf_4cfef_1 ⟨Nat.le_of_ble_eq_true rfl, Nat.le_of_ble_eq_true rfl⟩ 4 rfl ?_
  refine z_ifb_ne C dJ1_indexOf_4cfef_4 9 7 (by decide) rfl (fun c4 => ?_) (fun c4 => ?_)
  · skip
    simp only [decide_eq_true_eq, decide_eq_false_iff_not] at c4
    refine z_il_n C hl dJ1_indexOf_4cfef_9 2 rfl 10 rfl ?_
    refine z_iconst C dJ1_indexOf_4cfef_10 11 rfl ?_
    refine z_SR (r := .int (iI (maxZ 0 0))) (rest := []) C (m_max l G (0) (0) (by omega) (by omega)) kS_J1_92 ⟨Nat.le_of_ble_eq_true rfl, Nat.le_of_ble_eq_true rfl⟩ (gP_nil) hK rfl hl.1 rfl (Nat.le_of_ble_eq_true rfl) dJ1_indexOf_4cfef_11 ⟨Nat.le_of_ble_eq_true rfl, Nat.le_of_ble_eq_true rfl⟩ 14 rfl ?_
    refine z_top (b := .int (iI 0)) rfl ?_
    refine z_is_n C hl dJ1_indexOf_4cfef_14 15 rfl (by decide) (lv' := [(2, .int (iI (0))), (0, .ref (E.2.1 i)), (1, .int (iI (x))), (3, .int (iI (sLen i)))]) rfl (fun ls hl => ?_)
    refine z_il_n C hl dJ1_indexOf_4cfef_15 3 rfl 16 rfl ?_
    refine z_al_n C hl dJ1_indexOf_4cfef_16 1 rfl 17 rfl ?_
    refine z_slen C hZ va_S.rf i (hi) rfl dJ1_indexOf_4cfef_17 18 rfl ?_
    refine z_SR (r := .int (iI (minZ (sLen i) (sLen i)))) (rest := []) C (m_min l G (sLen i) (sLen i) (by omega) (by omega)) kS_J1_38 ⟨Nat.le_of_ble_eq_true rfl, Nat.le_of_ble_eq_true rfl⟩ (gP_nil) hK rfl hl.1 rfl (Nat.le_of_ble_eq_true rfl) dJ1_indexOf_4cfef_18 ⟨Nat.le_of_ble_eq_true rfl, Nat.le_of_ble_eq_true rfl⟩ 21 rfl ?_
    refine z_top (b := .int (iI (sLen i))) (by unfold minZ; simp) ?_
    refine z_is_n C hl dJ1_indexOf_4cfef_21 22 rfl (by decide) (lv' := [(3, .int (iI (sLen i))), (2, .int (iI (0))), (0, .ref (E.2.1 i)), (1, .int (iI (x)))]) rfl (fun ls hl => ?_)
    refine z_il_n C hl dJ1_indexOf_4cfef_22 1 rfl 23 rfl ?_
    refine z_il_n C hl dJ1_indexOf_4cfef_23 0 rfl 24 rfl ?_
    refine z_icmp_lt C dJ1_indexOf_4cfef_24 29 27 (by decide) rfl (by omega) (fun c24 => ?_) (fun c24 => ?_)
    · skip
      refine z_al_n C hl dJ1_indexOf_4cfef_29 2 rfl 30 rfl ?_
      refine z_il_n C hl dJ1_indexOf_4cfef_30 3 rfl 31 rfl ?_
      refine z_il_n C hl dJ1_indexOf_4cfef_31 1 rfl 32 rfl ?_
      refine z_il_n C hl dJ1_indexOf_4cfef_32 0 rfl 33 rfl ?_
      refine z_SRz (r := .int (iI (idxZ i x))) (rest := []) C (m_ixc l G E i x hi (by omega)) kS_J1_95 ⟨Nat.le_of_ble_eq_true rfl, Nat.le_of_ble_eq_true rfl⟩ (gP_nil) hK zr_blind (zr_of hZ va_S.rf) rfl hl.1 rfl (Nat.le_of_ble_eq_true rfl) dJ1_indexOf_4cfef_33 ⟨Nat.le_of_ble_eq_true rfl, Nat.le_of_ble_eq_true rfl⟩ 36 rfl ?_
      exact z_ri C dJ1_indexOf_4cfef_36 (rfl)
    · skip
      refine z_iconst C dJ1_indexOf_4cfef_27 28 rfl ?_
      exact z_ri C dJ1_indexOf_4cfef_28 (by unfold idxZ; unfold sLen at c24; rw [show lenJ.getD i 0 = 0 by omega]; rfl)
  · skip
    simp only [decide_eq_true_eq, decide_eq_false_iff_not] at c4
    refine z_iconst C dJ1_indexOf_4cfef_7 8 rfl ?_
    exact z_ri C dJ1_indexOf_4cfef_8 ((idxZ_out hi (by omega)).symm)

set_option maxHeartbeats 4000000 in
set_option maxRecDepth 100000 in
theorem m_ix2 (l : Launch) (G : gT) (E : eT) (i : Nat) (x : Int) (hi : i < 12) (hx : -2147483648 ≤ x ∧ x < 2147483648) : MR l G yJ0_indexOf_7cf53 cJ0_indexOf_7cf53 3 (some .int) 2 [.ref (E.1 i), .int (iI (x)), .int (iI (0))] [] (ZR E) (.int (iI (idxZ i x))) := by
  refine enterR (own := RJ0) (by decide +kernel) rfl (Nat.le_of_ble_eq_true rfl) ?_
  intro p e s m below meth c C hP hK hZ ls hl
  have hl : lv_has ls 3 [(0, .ref (E.1 i)), (1, .int (iI (x))), (2, .int (iI (0)))] := hl
  refine z_al_n C hl dJ0_indexOf_7cf53_0 0 rfl 1 rfl ?_
  refine z_VRs (E := E) (r := .int (iI (bZ (true)))) (rest := []) C (hi) rfl (m_isLatin1 l G E i  (hi) ) kV_J0_492 ⟨Nat.le_of_ble_eq_true rfl, Nat.le_of_ble_eq_true rfl⟩ hK hZ va_S.rf rfl hl.1 rfl (Nat.le_of_ble_eq_true rfl) dJ0_indexOf_7cf53_1 ⟨Nat.le_of_ble_eq_true rfl, Nat.le_of_ble_eq_true rfl⟩ 4 rfl ?_
  refine z_ifb_eq C dJ0_indexOf_7cf53_4 23 7 (by decide) rfl (fun c4 => ?_) (fun c4 => ?_)
  · exfalso; cases c4
  · skip
    refine z_al_n C hl dJ0_indexOf_7cf53_7 0 rfl 8 rfl ?_
    refine z_sval C hZ va_S.rf i (hi) rfl qc1065 dJ0_indexOf_7cf53_8 11 rfl ?_
    refine z_il_n C hl dJ0_indexOf_7cf53_11 1 rfl 12 rfl ?_
    refine z_il_n C hl dJ0_indexOf_7cf53_12 2 rfl 13 rfl ?_
    refine z_al_n C hl dJ0_indexOf_7cf53_13 0 rfl 14 rfl ?_
    refine z_VRs (E := E) (r := .int (iI (sLen i))) (rest := [.int (iI (0)), .int (iI (x)), .ref (E.2.1 i)]) C (hi) rfl (m_length l G E i  (hi) ) kV_J0_505 ⟨Nat.le_of_ble_eq_true rfl, Nat.le_of_ble_eq_true rfl⟩ hK hZ va_S.rf rfl hl.1 rfl (Nat.le_of_ble_eq_true rfl) dJ0_indexOf_7cf53_14 ⟨Nat.le_of_ble_eq_true rfl, Nat.le_of_ble_eq_true rfl⟩ 17 rfl ?_
    refine z_SRz (r := .int (iI (idxZ i x))) (rest := []) C (m_l1ix l G E i x hi (by omega)) kS_J0_637 ⟨Nat.le_of_ble_eq_true rfl, Nat.le_of_ble_eq_true rfl⟩ (gP_nil) hK zr_blind (zr_of hZ va_S.rf) rfl hl.1 rfl (Nat.le_of_ble_eq_true rfl) dJ0_indexOf_7cf53_17 ⟨Nat.le_of_ble_eq_true rfl, Nat.le_of_ble_eq_true rfl⟩ 20 rfl ?_
    refine z_goto C dJ0_indexOf_7cf53_20 36 (by decide) ?_
    exact z_ri C dJ0_indexOf_7cf53_36 (rfl)

set_option maxHeartbeats 4000000 in
set_option maxRecDepth 100000 in
theorem m_ix (l : Launch) (G : gT) (E : eT) (i : Nat) (x : Int) (hi : i < 12) (hx : -2147483648 ≤ x ∧ x < 2147483648) : MR l G yJ0_indexOf_0f7a4 cJ0_indexOf_0f7a4 2 (some .int) 3 [.ref (E.1 i), .int (iI (x))] [] (ZR E) (.int (iI (idxZ i x))) := by
  refine enterR (own := RJ0) (by decide +kernel) rfl (Nat.le_of_ble_eq_true rfl) ?_
  intro p e s m below meth c C hP hK hZ ls hl
  have hl : lv_has ls 2 [(0, .ref (E.1 i)), (1, .int (iI (x)))] := hl
  refine z_al_n C hl dJ0_indexOf_0f7a4_0 0 rfl 1 rfl ?_
  refine z_il_n C hl dJ0_indexOf_0f7a4_1 1 rfl 2 rfl ?_
  refine z_iconst C dJ0_indexOf_0f7a4_2 3 rfl ?_
  refine z_VRs (E := E) (r := .int (iI (idxZ i x))) (rest := []) C hi rfl (m_ix2 l G E i x hi hx) kV_J0_633 ⟨Nat.le_of_ble_eq_true rfl, Nat.le_of_ble_eq_true rfl⟩ hK hZ va_S.rf rfl hl.1 rfl (Nat.le_of_ble_eq_true rfl) dJ0_indexOf_0f7a4_3 ⟨Nat.le_of_ble_eq_true rfl, Nat.le_of_ble_eq_true rfl⟩ 6 rfl ?_
  exact z_ri C dJ0_indexOf_0f7a4_6 (rfl)
