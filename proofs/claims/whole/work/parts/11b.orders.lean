set_option maxHeartbeats 4000000 in
set_option maxRecDepth 100000 in
theorem m_signAt (l : Launch) (G : gT) (o sg : Nat) (n : Int) (tx : Int → Int) (k : Int) (wt : Ot n tx) (hk : -2147483648 ≤ k ∧ k < 2147483648) : MR l G yX2_signAt cX2_signAt 2 (some .char) 0 [.ref (o), .int (iI (k))] [[orO G o sg n], [arC G sg 60 tx]] ZT (.int (iI (sgC n tx k))) := by
  refine enterR (own := RX2) (by decide +kernel) rfl (Nat.le_of_ble_eq_true rfl) ?_
  intro p e s m below meth c C hP hK hZ ls hl
  have hl : lv_has ls 2 [(0, .ref (o)), (1, .int (iI (k)))] := hl
  have hn := wt.1
  refine z_il_n C hl dX2_signAt_0 1 rfl 1 rfl ?_
  refine z_if_lt C dX2_signAt_1 30 4 (by decide) rfl (by omega) (fun c1 => ?_) (fun c1 => ?_)
  · skip
    refine z_iconst C dX2_signAt_30 31 rfl ?_
    exact z_rn C dX2_signAt_31 (nar_char (by have := wt.2 k; omega)) (by unfold sgC; rw [if_neg (by omega)])
  · skip
    refine z_il_n C hl dX2_signAt_4 1 rfl 5 rfl ?_
    refine z_al_n C hl dX2_signAt_5 0 rfl 6 rfl ?_
    refine z_get C hP hK fl_X2_15 0 rfl rfl dX2_signAt_6 9 rfl ?_
    refine z_icmp_ge C dX2_signAt_9 30 12 (by decide) rfl (by omega) (fun c9 => ?_) (fun c9 => ?_)
    · skip
      refine z_iconst C dX2_signAt_30 31 rfl ?_
      exact z_rn C dX2_signAt_31 (nar_char (by have := wt.2 k; omega)) (by unfold sgC; rw [if_neg (by omega)])
    · skip
      refine z_il_n C hl dX2_signAt_12 1 rfl 13 rfl ?_
      refine z_al_n C hl dX2_signAt_13 0 rfl 14 rfl ?_
      refine z_get C hP hK fl_X2_9 0 rfl rfl dX2_signAt_14 17 rfl ?_
      refine z_alen C hP hK 1 2 rfl rfl (60) rfl dX2_signAt_17 18 rfl ?_
      refine z_icmp_ge C dX2_signAt_18 30 21 (by decide) rfl (by omega) (fun c18 => ?_) (fun c18 => ?_)
      · exfalso; omega
      · skip
        refine z_al_n C hl dX2_signAt_21 0 rfl 22 rfl ?_
        refine z_get C hP hK fl_X2_9 0 rfl rfl dX2_signAt_22 25 rfl ?_
        refine z_il_n C hl dX2_signAt_25 1 rfl 26 rfl ?_
        refine z_iaC C (tx) hP hK 1 rfl (by omega) (by decide) (tx k) (rfl) dX2_signAt_26 27 rfl ?_
        refine z_goto C dX2_signAt_27 31 (by decide) ?_
        exact z_rn C dX2_signAt_31 (nar_char (by have := wt.2 k; omega)) (by unfold sgC; rw [if_pos (by omega)])

set_option maxHeartbeats 4000000 in
set_option maxRecDepth 100000 in
theorem m_isRockAt (l : Launch) (G : gT) (o sg : Nat) (n : Int) (tx : Int → Int) (k : Int) (wt : Ot n tx) (hk : -2147483648 ≤ k ∧ k < 2147483648) : MR l G yX2_isRockAt cX2_isRockAt 2 (some .boolean) 1 [.ref (o), .int (iI (k))] [[orO G o sg n], [arC G sg 60 tx]] ZT (.int (iI (bZ (decide (sgC n tx k = 42))))) := by
  refine enterR (own := RX2) (by decide +kernel) rfl (Nat.le_of_ble_eq_true rfl) ?_
  intro p e s m below meth c C hP hK hZ ls hl
  have hl : lv_has ls 2 [(0, .ref (o)), (1, .int (iI (k)))] := hl
  refine z_al_n C hl dX2_isRockAt_0 0 rfl 1 rfl ?_
  refine z_il_n C hl dX2_isRockAt_1 1 rfl 2 rfl ?_
  refine z_VR (r := .int (iI (sgC n tx k))) (rest := []) C (m_signAt l G o sg n tx k wt (by omega)) kV_X2_23 ⟨Nat.le_of_ble_eq_true rfl, Nat.le_of_ble_eq_true rfl⟩ hP hK 0 rfl rfl rfl hl.1 rfl (Nat.le_of_ble_eq_true rfl) dX2_isRockAt_2 ⟨Nat.le_of_ble_eq_true rfl, Nat.le_of_ble_eq_true rfl⟩ 5 rfl ?_
  have r2 := sgC_rng wt k
  refine z_bipush C dX2_isRockAt_5 (by decide) 7 rfl ?_
  refine z_icmp_ne C dX2_isRockAt_7 14 10 (by decide) rfl (by omega) (fun c7 => ?_) (fun c7 => ?_)
  · skip
    refine z_iconst C dX2_isRockAt_14 15 rfl ?_
    exact z_rz C dX2_isRockAt_15 (bZ_df (by omega))
  · skip
    refine z_iconst C dX2_isRockAt_10 11 rfl ?_
    refine z_goto C dX2_isRockAt_11 15 (by decide) ?_
    exact z_rz C dX2_isRockAt_15 (bZ_dt (by omega))

set_option maxHeartbeats 4000000 in
set_option maxRecDepth 100000 in
theorem m_oheightAt (l : Launch) (G : gT) (E : eT) (o sg : Nat) (n : Int) (tx : Int → Int) (k : Int) (wt : Ot n tx) (hk : -2147483648 ≤ k ∧ k < 2147483600) : MR l G yX2_heightAt cX2_heightAt 2 (some .int) 4 [.ref (o), .int (iI (k))] [[orO G o sg n], [arC G sg 60 tx]] (ZR E) (.int (iI (ranZ 48 52 (sgC n tx k)))) := by
  refine enterR (own := RX2) (by decide +kernel) rfl (Nat.le_of_ble_eq_true rfl) ?_
  intro p e s m below meth c C hP hK hZ ls hl
  have hl : lv_has ls 2 [(0, .ref (o)), (1, .int (iI (k)))] := hl
  refine z_ldcS C hZ 7 (by decide) rfl rfl dX2_heightAt_0 2 rfl ?_
  refine z_al_n C hl dX2_heightAt_2 0 rfl 3 rfl ?_
  refine z_il_n C hl dX2_heightAt_3 1 rfl 4 rfl ?_
  refine z_VR (r := .int (iI (sgC n tx k))) (rest := [.ref (E.1 7)]) C (m_signAt l G o sg n tx k wt (by omega)) kV_X2_23 ⟨Nat.le_of_ble_eq_true rfl, Nat.le_of_ble_eq_true rfl⟩ hP hK 0 rfl rfl rfl hl.1 rfl (Nat.le_of_ble_eq_true rfl) dX2_heightAt_4 ⟨Nat.le_of_ble_eq_true rfl, Nat.le_of_ble_eq_true rfl⟩ 7 rfl ?_
  have r4 := sgC_rng wt k
  refine z_VRs (E := E) (r := .int (iI (idxZ 7 (sgC n tx k)))) (rest := []) C (by decide) rfl (m_ix l G E 7 (sgC n tx k) (by decide) (by omega)) kV_X2_53 ⟨Nat.le_of_ble_eq_true rfl, Nat.le_of_ble_eq_true rfl⟩ hK hZ va_S.rf rfl hl.1 rfl (Nat.le_of_ble_eq_true rfl) dX2_heightAt_7 ⟨Nat.le_of_ble_eq_true rfl, Nat.le_of_ble_eq_true rfl⟩ 10 rfl ?_
  refine z_top (b := .int (iI (ranZ 48 52 (sgC n tx k)))) (congrArg (fun z => Value.int (iI z)) (idx7 _)) ?_
  have i10 := ranZ_rng (lo := 48) (hi := 52) (sgC n tx k) (by omega)
  exact z_ri C dX2_heightAt_10 (rfl)

set_option maxHeartbeats 4000000 in
set_option maxRecDepth 100000 in
theorem m_oplayerAt (l : Launch) (G : gT) (E : eT) (o sg : Nat) (n : Int) (tx : Int → Int) (k : Int) (wt : Ot n tx) (hk : -2147483648 ≤ k ∧ k < 2147483600) : MR l G yX2_playerAt cX2_playerAt 2 (some .int) 4 [.ref (o), .int (iI (k))] [[orO G o sg n], [arC G sg 60 tx]] (ZR E) (.int (iI (ranZ 48 49 (sgC n tx k)))) := by
  refine enterR (own := RX2) (by decide +kernel) rfl (Nat.le_of_ble_eq_true rfl) ?_
  intro p e s m below meth c C hP hK hZ ls hl
  have hl : lv_has ls 2 [(0, .ref (o)), (1, .int (iI (k)))] := hl
  refine z_ldcS C hZ 8 (by decide) rfl rfl dX2_playerAt_0 2 rfl ?_
  refine z_al_n C hl dX2_playerAt_2 0 rfl 3 rfl ?_
  refine z_il_n C hl dX2_playerAt_3 1 rfl 4 rfl ?_
  refine z_VR (r := .int (iI (sgC n tx k))) (rest := [.ref (E.1 8)]) C (m_signAt l G o sg n tx k wt (by omega)) kV_X2_23 ⟨Nat.le_of_ble_eq_true rfl, Nat.le_of_ble_eq_true rfl⟩ hP hK 0 rfl rfl rfl hl.1 rfl (Nat.le_of_ble_eq_true rfl) dX2_playerAt_4 ⟨Nat.le_of_ble_eq_true rfl, Nat.le_of_ble_eq_true rfl⟩ 7 rfl ?_
  have r4 := sgC_rng wt k
  refine z_VRs (E := E) (r := .int (iI (idxZ 8 (sgC n tx k)))) (rest := []) C (by decide) rfl (m_ix l G E 8 (sgC n tx k) (by decide) (by omega)) kV_X2_53 ⟨Nat.le_of_ble_eq_true rfl, Nat.le_of_ble_eq_true rfl⟩ hK hZ va_S.rf rfl hl.1 rfl (Nat.le_of_ble_eq_true rfl) dX2_playerAt_7 ⟨Nat.le_of_ble_eq_true rfl, Nat.le_of_ble_eq_true rfl⟩ 10 rfl ?_
  refine z_top (b := .int (iI (ranZ 48 49 (sgC n tx k)))) (congrArg (fun z => Value.int (iI z)) (idx8 _)) ?_
  have i10 := ranZ_rng (lo := 48) (hi := 49) (sgC n tx k) (by omega)
  exact z_ri C dX2_playerAt_10 (rfl)

set_option maxHeartbeats 4000000 in
set_option maxRecDepth 100000 in
theorem m_odraftAt (l : Launch) (G : gT) (E : eT) (o sg : Nat) (n : Int) (tx : Int → Int) (k : Int) (wt : Ot n tx) (hk : -2147483648 ≤ k ∧ k < 2147483600) : MR l G yX2_draftAt cX2_draftAt 2 (some .int) 4 [.ref (o), .int (iI (k))] [[orO G o sg n], [arC G sg 60 tx]] (ZR E) (.int (iI (1 + ranZ 49 51 (sgC n tx k)))) := by
  refine enterR (own := RX2) (by decide +kernel) rfl (Nat.le_of_ble_eq_true rfl) ?_
  intro p e s m below meth c C hP hK hZ ls hl
  have hl : lv_has ls 2 [(0, .ref (o)), (1, .int (iI (k)))] := hl
  refine z_iconst C dX2_draftAt_0 1 rfl ?_
  refine z_ldcS C hZ 9 (by decide) rfl rfl dX2_draftAt_1 3 rfl ?_
  refine z_al_n C hl dX2_draftAt_3 0 rfl 4 rfl ?_
  refine z_il_n C hl dX2_draftAt_4 1 rfl 5 rfl ?_
  refine z_VR (r := .int (iI (sgC n tx k))) (rest := [.ref (E.1 9), .int (iI (1))]) C (m_signAt l G o sg n tx k wt (by omega)) kV_X2_23 ⟨Nat.le_of_ble_eq_true rfl, Nat.le_of_ble_eq_true rfl⟩ hP hK 0 rfl rfl rfl hl.1 rfl (Nat.le_of_ble_eq_true rfl) dX2_draftAt_5 ⟨Nat.le_of_ble_eq_true rfl, Nat.le_of_ble_eq_true rfl⟩ 8 rfl ?_
  have r5 := sgC_rng wt k
  refine z_VRs (E := E) (r := .int (iI (idxZ 9 (sgC n tx k)))) (rest := [.int (iI (1))]) C (by decide) rfl (m_ix l G E 9 (sgC n tx k) (by decide) (by omega)) kV_X2_53 ⟨Nat.le_of_ble_eq_true rfl, Nat.le_of_ble_eq_true rfl⟩ hK hZ va_S.rf rfl hl.1 rfl (Nat.le_of_ble_eq_true rfl) dX2_draftAt_8 ⟨Nat.le_of_ble_eq_true rfl, Nat.le_of_ble_eq_true rfl⟩ 11 rfl ?_
  refine z_top (b := .int (iI (ranZ 49 51 (sgC n tx k)))) (congrArg (fun z => Value.int (iI z)) (idx9 _)) ?_
  have i11 := ranZ_rng (lo := 49) (hi := 51) (sgC n tx k) (by omega)
  refine z_iadd C dX2_draftAt_11 12 rfl (1 + ranZ 49 51 (sgC n tx k)) (by omega) ?_
  exact z_ri C dX2_draftAt_12 (by omega)

set_option maxHeartbeats 4000000 in
set_option maxRecDepth 100000 in
theorem m_oboatAt (l : Launch) (G : gT) (E : eT) (o sg : Nat) (n : Int) (tx : Int → Int) (k : Int) (wt : Ot n tx) (hk : -2147483648 ≤ k ∧ k < 2147483600) : MR l G yX2_boatAt cX2_boatAt 2 (some .int) 4 [.ref (o), .int (iI (k))] [[orO G o sg n], [arC G sg 60 tx]] (ZR E) (.int (iI (ranZ 48 57 (sgC n tx k)))) := by
  refine enterR (own := RX2) (by decide +kernel) rfl (Nat.le_of_ble_eq_true rfl) ?_
  intro p e s m below meth c C hP hK hZ ls hl
  have hl : lv_has ls 2 [(0, .ref (o)), (1, .int (iI (k)))] := hl
  refine z_ldcS C hZ 3 (by decide) rfl rfl dX2_boatAt_0 2 rfl ?_
  refine z_al_n C hl dX2_boatAt_2 0 rfl 3 rfl ?_
  refine z_il_n C hl dX2_boatAt_3 1 rfl 4 rfl ?_
  refine z_VR (r := .int (iI (sgC n tx k))) (rest := [.ref (E.1 3)]) C (m_signAt l G o sg n tx k wt (by omega)) kV_X2_23 ⟨Nat.le_of_ble_eq_true rfl, Nat.le_of_ble_eq_true rfl⟩ hP hK 0 rfl rfl rfl hl.1 rfl (Nat.le_of_ble_eq_true rfl) dX2_boatAt_4 ⟨Nat.le_of_ble_eq_true rfl, Nat.le_of_ble_eq_true rfl⟩ 7 rfl ?_
  have r4 := sgC_rng wt k
  refine z_VRs (E := E) (r := .int (iI (idxZ 3 (sgC n tx k)))) (rest := []) C (by decide) rfl (m_ix l G E 3 (sgC n tx k) (by decide) (by omega)) kV_X2_53 ⟨Nat.le_of_ble_eq_true rfl, Nat.le_of_ble_eq_true rfl⟩ hK hZ va_S.rf rfl hl.1 rfl (Nat.le_of_ble_eq_true rfl) dX2_boatAt_7 ⟨Nat.le_of_ble_eq_true rfl, Nat.le_of_ble_eq_true rfl⟩ 10 rfl ?_
  refine z_top (b := .int (iI (ranZ 48 57 (sgC n tx k)))) (congrArg (fun z => Value.int (iI z)) (idx3 _)) ?_
  have i10 := ranZ_rng (lo := 48) (hi := 57) (sgC n tx k) (by omega)
  exact z_ri C dX2_boatAt_10 (rfl)

set_option maxHeartbeats 4000000 in
set_option maxRecDepth 100000 in
theorem m_odirectionAt (l : Launch) (G : gT) (E : eT) (o sg : Nat) (n : Int) (tx : Int → Int) (k : Int) (wt : Ot n tx) (hk : -2147483648 ≤ k ∧ k < 2147483600) : MR l G yX2_directionAt cX2_directionAt 2 (some .int) 4 [.ref (o), .int (iI (k))] [[orO G o sg n], [arC G sg 60 tx]] (ZR E) (.int (iI (dirZ (sgC n tx k)))) := by
  refine enterR (own := RX2) (by decide +kernel) rfl (Nat.le_of_ble_eq_true rfl) ?_
  intro p e s m below meth c C hP hK hZ ls hl
  have hl : lv_has ls 2 [(0, .ref (o)), (1, .int (iI (k)))] := hl
  refine z_ldcS C hZ 10 (by decide) rfl rfl dX2_directionAt_0 2 rfl ?_
  refine z_al_n C hl dX2_directionAt_2 0 rfl 3 rfl ?_
  refine z_il_n C hl dX2_directionAt_3 1 rfl 4 rfl ?_
  refine z_VR (r := .int (iI (sgC n tx k))) (rest := [.ref (E.1 10)]) C (m_signAt l G o sg n tx k wt (by omega)) kV_X2_23 ⟨Nat.le_of_ble_eq_true rfl, Nat.le_of_ble_eq_true rfl⟩ hP hK 0 rfl rfl rfl hl.1 rfl (Nat.le_of_ble_eq_true rfl) dX2_directionAt_4 ⟨Nat.le_of_ble_eq_true rfl, Nat.le_of_ble_eq_true rfl⟩ 7 rfl ?_
  have r4 := sgC_rng wt k
  refine z_VRs (E := E) (r := .int (iI (idxZ 10 (sgC n tx k)))) (rest := []) C (by decide) rfl (m_ix l G E 10 (sgC n tx k) (by decide) (by omega)) kV_X2_53 ⟨Nat.le_of_ble_eq_true rfl, Nat.le_of_ble_eq_true rfl⟩ hK hZ va_S.rf rfl hl.1 rfl (Nat.le_of_ble_eq_true rfl) dX2_directionAt_7 ⟨Nat.le_of_ble_eq_true rfl, Nat.le_of_ble_eq_true rfl⟩ 10 rfl ?_
  refine z_top (b := .int (iI (dirZ (sgC n tx k)))) (congrArg (fun z => Value.int (iI z)) (idx10 _)) ?_
  have i10 := dirZ_rng ((sgC n tx k))
  exact z_ri C dX2_directionAt_10 (rfl)

set_option maxHeartbeats 4000000 in
set_option maxRecDepth 100000 in
theorem m_ostepsAt (l : Launch) (G : gT) (E : eT) (o sg : Nat) (n : Int) (tx : Int → Int) (k : Int) (wt : Ot n tx) (hk : -2147483648 ≤ k ∧ k < 2147483600) : MR l G yX2_stepsAt cX2_stepsAt 2 (some .int) 4 [.ref (o), .int (iI (k))] [[orO G o sg n], [arC G sg 60 tx]] (ZR E) (.int (iI (1 + ranZ 49 51 (sgC n tx k)))) := by
  refine enterR (own := RX2) (by decide +kernel) rfl (Nat.le_of_ble_eq_true rfl) ?_
  intro p e s m below meth c C hP hK hZ ls hl
  have hl : lv_has ls 2 [(0, .ref (o)), (1, .int (iI (k)))] := hl
  refine z_iconst C dX2_stepsAt_0 1 rfl ?_
  refine z_ldcS C hZ 9 (by decide) rfl rfl dX2_stepsAt_1 3 rfl ?_
  refine z_al_n C hl dX2_stepsAt_3 0 rfl 4 rfl ?_
  refine z_il_n C hl dX2_stepsAt_4 1 rfl 5 rfl ?_
  refine z_VR (r := .int (iI (sgC n tx k))) (rest := [.ref (E.1 9), .int (iI (1))]) C (m_signAt l G o sg n tx k wt (by omega)) kV_X2_23 ⟨Nat.le_of_ble_eq_true rfl, Nat.le_of_ble_eq_true rfl⟩ hP hK 0 rfl rfl rfl hl.1 rfl (Nat.le_of_ble_eq_true rfl) dX2_stepsAt_5 ⟨Nat.le_of_ble_eq_true rfl, Nat.le_of_ble_eq_true rfl⟩ 8 rfl ?_
  have r5 := sgC_rng wt k
  refine z_VRs (E := E) (r := .int (iI (idxZ 9 (sgC n tx k)))) (rest := [.int (iI (1))]) C (by decide) rfl (m_ix l G E 9 (sgC n tx k) (by decide) (by omega)) kV_X2_53 ⟨Nat.le_of_ble_eq_true rfl, Nat.le_of_ble_eq_true rfl⟩ hK hZ va_S.rf rfl hl.1 rfl (Nat.le_of_ble_eq_true rfl) dX2_stepsAt_8 ⟨Nat.le_of_ble_eq_true rfl, Nat.le_of_ble_eq_true rfl⟩ 11 rfl ?_
  refine z_top (b := .int (iI (ranZ 49 51 (sgC n tx k)))) (congrArg (fun z => Value.int (iI z)) (idx9 _)) ?_
  have i11 := ranZ_rng (lo := 49) (hi := 51) (sgC n tx k) (by omega)
  refine z_iadd C dX2_stepsAt_11 12 rfl (1 + ranZ 49 51 (sgC n tx k)) (by omega) ?_
  exact z_ri C dX2_stepsAt_12 (by omega)

set_option maxHeartbeats 4000000 in
set_option maxRecDepth 100000 in
theorem m_cellAt (l : Launch) (G : gT) (E : eT) (o sg : Nat) (n : Int) (tx : Int → Int) (k : Int) (wt : Ot n tx) (hk : -2147483648 ≤ k ∧ k < 2147483600) : MR l G yX2_cellAt cX2_cellAt 2 (some .int) 4 [.ref (o), .int (iI (k))] [[orO G o sg n], [arC G sg 60 tx]] (ZR E) (.int (iI (celZ (sgC n tx) k))) := by
  refine enterR (own := RX2) (by decide +kernel) rfl (Nat.le_of_ble_eq_true rfl) ?_
  intro p e s m below meth c C hP hK hZ ls hl
  have hl : lv_has ls 2 [(0, .ref (o)), (1, .int (iI (k)))] := hl
  refine z_bipush C dX2_cellAt_0 (by decide) 2 rfl ?_
  refine z_ldcS C hZ 6 (by decide) rfl rfl dX2_cellAt_2 4 rfl ?_
  refine z_al_n C hl dX2_cellAt_4 0 rfl 5 rfl ?_
  refine z_il_n C hl dX2_cellAt_5 1 rfl 6 rfl ?_
  refine z_iconst C dX2_cellAt_6 7 rfl ?_
  refine z_iadd C dX2_cellAt_7 8 rfl (1 + k) (by omega) ?_
  refine z_VR (r := .int (iI (sgC n tx (1 + k)))) (rest := [.ref (E.1 6), .int (iI (6))]) C (m_signAt l G o sg n tx (1 + k) wt (by omega)) kV_X2_23 ⟨Nat.le_of_ble_eq_true rfl, Nat.le_of_ble_eq_true rfl⟩ hP hK 0 rfl rfl rfl hl.1 rfl (Nat.le_of_ble_eq_true rfl) dX2_cellAt_8 ⟨Nat.le_of_ble_eq_true rfl, Nat.le_of_ble_eq_true rfl⟩ 11 rfl ?_
  have r8 := sgC_rng wt (1 + k)
  refine z_VRs (E := E) (r := .int (iI (idxZ 6 (sgC n tx (1 + k))))) (rest := [.int (iI (6))]) C (by decide) rfl (m_ix l G E 6 (sgC n tx (1 + k)) (by decide) (by omega)) kV_X2_53 ⟨Nat.le_of_ble_eq_true rfl, Nat.le_of_ble_eq_true rfl⟩ hK hZ va_S.rf rfl hl.1 rfl (Nat.le_of_ble_eq_true rfl) dX2_cellAt_11 ⟨Nat.le_of_ble_eq_true rfl, Nat.le_of_ble_eq_true rfl⟩ 14 rfl ?_
  refine z_top (b := .int (iI (ranZ 49 54 (sgC n tx (1 + k))))) (congrArg (fun z => Value.int (iI z)) (idx6 _)) ?_
  have i14 := ranZ_rng (lo := 49) (hi := 54) (sgC n tx (1 + k)) (by omega)
  refine z_imul C dX2_cellAt_14 15 rfl (6 * ranZ 49 54 (sgC n tx (1 + k))) (by omega) ?_
  refine z_ldcS C hZ 0 (by decide) rfl rfl dX2_cellAt_15 17 rfl ?_
  refine z_al_n C hl dX2_cellAt_17 0 rfl 18 rfl ?_
  refine z_il_n C hl dX2_cellAt_18 1 rfl 19 rfl ?_
  refine z_VR (r := .int (iI (sgC n tx k))) (rest := [.ref (E.1 0), .int (iI (6 * ranZ 49 54 (sgC n tx (1 + k))))]) C (m_signAt l G o sg n tx k wt (by omega)) kV_X2_23 ⟨Nat.le_of_ble_eq_true rfl, Nat.le_of_ble_eq_true rfl⟩ hP hK 0 rfl rfl rfl hl.1 rfl (Nat.le_of_ble_eq_true rfl) dX2_cellAt_19 ⟨Nat.le_of_ble_eq_true rfl, Nat.le_of_ble_eq_true rfl⟩ 22 rfl ?_
  have r19 := sgC_rng wt k
  refine z_VRs (E := E) (r := .int (iI (idxZ 0 (sgC n tx k)))) (rest := [.int (iI (6 * ranZ 49 54 (sgC n tx (1 + k))))]) C (by decide) rfl (m_ix l G E 0 (sgC n tx k) (by decide) (by omega)) kV_X2_53 ⟨Nat.le_of_ble_eq_true rfl, Nat.le_of_ble_eq_true rfl⟩ hK hZ va_S.rf rfl hl.1 rfl (Nat.le_of_ble_eq_true rfl) dX2_cellAt_22 ⟨Nat.le_of_ble_eq_true rfl, Nat.le_of_ble_eq_true rfl⟩ 25 rfl ?_
  refine z_top (b := .int (iI (ranZ 97 102 (sgC n tx k)))) (congrArg (fun z => Value.int (iI z)) (idx0 _)) ?_
  have i25 := ranZ_rng (lo := 97) (hi := 102) (sgC n tx k) (by omega)
  refine z_iadd C dX2_cellAt_25 26 rfl (6 * ranZ 49 54 (sgC n tx (1 + k)) + ranZ 97 102 (sgC n tx k)) (by omega) ?_
  exact z_ri C dX2_cellAt_26 (by unfold celZ; omega)

set_option maxHeartbeats 4000000 in
set_option maxRecDepth 100000 in
theorem m_isColumn (l : Launch) (G : gT) (E : eT) (x : Int) (hx : 0 ≤ x ∧ x < 65536) : MR l G yX2_isColumn cX2_isColumn 1 (some .boolean) 4 [.int (iI (x))] [] (ZR E) (.int (iI (bZ (decide (97 ≤ x ∧ x ≤ 102))))) := by
  refine enterR (own := RX2) (by decide +kernel) rfl (Nat.le_of_ble_eq_true rfl) ?_
  intro p e s m below meth c C hP hK hZ ls hl
  have hl : lv_has ls 1 [(0, .int (iI (x)))] := hl
  refine z_ldcS C hZ 0 (by decide) rfl rfl dX2_isColumn_0 2 rfl ?_
  refine z_il_n C hl dX2_isColumn_2 0 rfl 3 rfl ?_
  refine z_VRs (E := E) (r := .int (iI (idxZ 0 x))) (rest := []) C (by decide) rfl (m_ix l G E 0 x (by decide) (by omega)) kV_X2_53 ⟨Nat.le_of_ble_eq_true rfl, Nat.le_of_ble_eq_true rfl⟩ hK hZ va_S.rf rfl hl.1 rfl (Nat.le_of_ble_eq_true rfl) dX2_isColumn_3 ⟨Nat.le_of_ble_eq_true rfl, Nat.le_of_ble_eq_true rfl⟩ 6 rfl ?_
  refine z_top (b := .int (iI (ranZ 97 102 x))) (congrArg (fun z => Value.int (iI z)) (idx0 _)) ?_
  have i6 := ranZ_rng (lo := 97) (hi := 102) x (by omega)
  refine z_if_lt C dX2_isColumn_6 13 9 (by decide) rfl (by omega) (fun c6 => ?_) (fun c6 => ?_)
  · skip
    refine z_iconst C dX2_isColumn_13 14 rfl ?_
    exact z_rz C dX2_isColumn_14 (by rw [← ran0]; exact bZ_df (by omega))
  · skip
    refine z_iconst C dX2_isColumn_9 10 rfl ?_
    refine z_goto C dX2_isColumn_10 14 (by decide) ?_
    exact z_rz C dX2_isColumn_14 (by rw [← ran0]; exact bZ_dt (by omega))

set_option maxHeartbeats 4000000 in
set_option maxRecDepth 100000 in
theorem m_allowedAt (l : Launch) (G : gT) (E : eT) (x : Int) (hx : 0 ≤ x ∧ x < 65536) : MR l G yX2_allowedAt cX2_allowedAt 1 (some (.object "java/lang/String")) 0 [.int (iI (x))] [] (ZR E) (.ref (E.1 (alZ x))) := by
  refine enterR (own := RX2) (by decide +kernel) rfl (Nat.le_of_ble_eq_true rfl) ?_
  intro p e s m below meth c C hP hK hZ ls hl
  have hl : lv_has ls 1 [(0, .int (iI (x)))] := hl
  refine z_il_n C hl dX2_allowedAt_0 0 rfl 1 rfl ?_
  refine z_bipush C dX2_allowedAt_1 (by decide) 3 rfl ?_
  refine z_icmp_ne C dX2_allowedAt_3 9 6 (by decide) rfl (by omega) (fun c3 => ?_) (fun c3 => ?_)
  · skip
    refine z_il_n C hl dX2_allowedAt_9 0 rfl 10 rfl ?_
    refine z_bipush C dX2_allowedAt_10 (by decide) 12 rfl ?_
    refine z_icmp_ne C dX2_allowedAt_12 18 15 (by decide) rfl (by omega) (fun c12 => ?_) (fun c12 => ?_)
    · skip
      refine z_il_n C hl dX2_allowedAt_18 0 rfl 19 rfl ?_
      refine z_bipush C dX2_allowedAt_19 (by decide) 21 rfl ?_
      refine z_icmp_ne C dX2_allowedAt_21 27 24 (by decide) rfl (by omega) (fun c21 => ?_) (fun c21 => ?_)
      · skip
        refine z_il_n C hl dX2_allowedAt_27 0 rfl 28 rfl ?_
        refine z_bipush C dX2_allowedAt_28 (by decide) 30 rfl ?_
        refine z_icmp_ne C dX2_allowedAt_30 36 33 (by decide) rfl (by omega) (fun c30 => ?_) (fun c30 => ?_)
        · skip
          refine z_il_n C hl dX2_allowedAt_36 0 rfl 37 rfl ?_
          refine z_bipush C dX2_allowedAt_37 (by decide) 39 rfl ?_
          refine z_icmp_ne C dX2_allowedAt_39 45 42 (by decide) rfl (by omega) (fun c39 => ?_) (fun c39 => ?_)
          · skip
            refine z_il_n C hl dX2_allowedAt_45 0 rfl 46 rfl ?_
            refine z_bipush C dX2_allowedAt_46 (by decide) 48 rfl ?_
            refine z_icmp_ne C dX2_allowedAt_48 54 51 (by decide) rfl (by omega) (fun c48 => ?_) (fun c48 => ?_)
            · skip
              refine z_il_n C hl dX2_allowedAt_54 0 rfl 55 rfl ?_
              refine z_bipush C dX2_allowedAt_55 (by decide) 57 rfl ?_
              refine z_icmp_ne C dX2_allowedAt_57 63 60 (by decide) rfl (by omega) (fun c57 => ?_) (fun c57 => ?_)
              · skip
                refine z_il_n C hl dX2_allowedAt_63 0 rfl 64 rfl ?_
                refine z_bipush C dX2_allowedAt_64 (by decide) 66 rfl ?_
                refine z_icmp_ne C dX2_allowedAt_66 74 69 (by decide) rfl (by omega) (fun c66 => ?_) (fun c66 => ?_)
                · skip
                  refine z_ldcS C hZ 11 (by decide) rfl rfl dX2_allowedAt_74 76 rfl ?_
                  exact z_ra C dX2_allowedAt_76 (Or.inl ⟨_, rfl⟩) (Or.inr ⟨_, rfl⟩) (by simp [alZ, c3, c12, c21, c30, c39, c48, c57, c66])
                · skip
                  refine z_ldcS C hZ 9 (by decide) rfl rfl dX2_allowedAt_69 71 rfl ?_
                  refine z_goto C dX2_allowedAt_71 76 (by decide) ?_
                  exact z_ra C dX2_allowedAt_76 (Or.inl ⟨_, rfl⟩) (Or.inr ⟨_, rfl⟩) (by simp [alZ, c3, c12, c21, c30, c39, c48, c57, c66])
              · skip
                refine z_ldcS C hZ 10 (by decide) rfl rfl dX2_allowedAt_60 62 rfl ?_
                exact z_ra C dX2_allowedAt_62 (Or.inl ⟨_, rfl⟩) (Or.inr ⟨_, rfl⟩) (by simp [alZ, c3, c12, c21, c30, c39, c48, c57])
            · skip
              refine z_ldcS C hZ 3 (by decide) rfl rfl dX2_allowedAt_51 53 rfl ?_
              exact z_ra C dX2_allowedAt_53 (Or.inl ⟨_, rfl⟩) (Or.inr ⟨_, rfl⟩) (by simp [alZ, c3, c12, c21, c30, c39, c48])
          · skip
            refine z_ldcS C hZ 9 (by decide) rfl rfl dX2_allowedAt_42 44 rfl ?_
            exact z_ra C dX2_allowedAt_44 (Or.inl ⟨_, rfl⟩) (Or.inr ⟨_, rfl⟩) (by simp [alZ, c3, c12, c21, c30, c39])
        · skip
          refine z_ldcS C hZ 8 (by decide) rfl rfl dX2_allowedAt_33 35 rfl ?_
          exact z_ra C dX2_allowedAt_35 (Or.inl ⟨_, rfl⟩) (Or.inr ⟨_, rfl⟩) (by simp [alZ, c3, c12, c21, c30])
      · skip
        refine z_ldcS C hZ 7 (by decide) rfl rfl dX2_allowedAt_24 26 rfl ?_
        exact z_ra C dX2_allowedAt_26 (Or.inl ⟨_, rfl⟩) (Or.inr ⟨_, rfl⟩) (by simp [alZ, c3, c12, c21])
    · skip
      refine z_ldcS C hZ 6 (by decide) rfl rfl dX2_allowedAt_15 17 rfl ?_
      exact z_ra C dX2_allowedAt_17 (Or.inl ⟨_, rfl⟩) (Or.inr ⟨_, rfl⟩) (by simp [alZ, c3, c12])
  · skip
    refine z_ldcS C hZ 0 (by decide) rfl rfl dX2_allowedAt_6 8 rfl ?_
    exact z_ra C dX2_allowedAt_8 (Or.inl ⟨_, rfl⟩) (Or.inr ⟨_, rfl⟩) (by simp [alZ, c3])

set_option maxHeartbeats 4000000 in
set_option maxRecDepth 100000 in
theorem m_placesOfOrder (l : Launch) (G : gT) (E : eT) (x : Int) (hx : 0 ≤ x ∧ x < 65536) : MR l G yX2_placesOfOrder cX2_placesOfOrder 1 (some (.object "java/lang/String")) 5 [.int (iI (x))] [] (ZR E) (.ref (E.1 (plZ x))) := by
  refine enterR (own := RX2) (by decide +kernel) rfl (Nat.le_of_ble_eq_true rfl) ?_
  intro p e s m below meth c C hP hK hZ ls hl
  have hl : lv_has ls 1 [(0, .int (iI (x)))] := hl
  refine z_il_n C hl dX2_placesOfOrder_0 0 rfl 1 rfl ?_
  refine z_SRz (r := .int (iI (bZ (decide (97 ≤ x ∧ x ≤ 102))))) (rest := []) C (m_isColumn l G E x (by omega)) kS_X2_43 ⟨Nat.le_of_ble_eq_true rfl, Nat.le_of_ble_eq_true rfl⟩ (gP_nil) hK zr_blind (zr_of hZ va_S.rf) rfl hl.1 rfl (Nat.le_of_ble_eq_true rfl) dX2_placesOfOrder_1 ⟨Nat.le_of_ble_eq_true rfl, Nat.le_of_ble_eq_true rfl⟩ 4 rfl ?_
  refine z_ifb_eq C dX2_placesOfOrder_4 10 7 (by decide) rfl (fun c4 => ?_) (fun c4 => ?_)
  · skip
    simp only [decide_eq_true_eq, decide_eq_false_iff_not] at c4
    refine z_il_n C hl dX2_placesOfOrder_10 0 rfl 11 rfl ?_
    refine z_bipush C dX2_placesOfOrder_11 (by decide) 13 rfl ?_
    refine z_icmp_ne C dX2_placesOfOrder_13 19 16 (by decide) rfl (by omega) (fun c13 => ?_) (fun c13 => ?_)
    · skip
      refine z_ldcS C hZ 3 (by decide) rfl rfl dX2_placesOfOrder_19 21 rfl ?_
      refine z_il_n C hl dX2_placesOfOrder_21 0 rfl 22 rfl ?_
      refine z_VRs (E := E) (r := .int (iI (idxZ 3 x))) (rest := []) C (by decide) rfl (m_ix l G E 3 x (by decide) (by omega)) kV_X2_53 ⟨Nat.le_of_ble_eq_true rfl, Nat.le_of_ble_eq_true rfl⟩ hK hZ va_S.rf rfl hl.1 rfl (Nat.le_of_ble_eq_true rfl) dX2_placesOfOrder_22 ⟨Nat.le_of_ble_eq_true rfl, Nat.le_of_ble_eq_true rfl⟩ 25 rfl ?_
      refine z_top (b := .int (iI (ranZ 48 57 x))) (congrArg (fun z => Value.int (iI z)) (idx3 _)) ?_
      have i25 := ranZ_rng (lo := 48) (hi := 57) x (by omega)
      refine z_if_lt C dX2_placesOfOrder_25 33 28 (by decide) rfl (by omega) (fun c25 => ?_) (fun c25 => ?_)
      · skip
        refine z_ldcS C hZ 5 (by decide) rfl rfl dX2_placesOfOrder_33 35 rfl ?_
        exact z_ra C dX2_placesOfOrder_35 (Or.inl ⟨_, rfl⟩) (Or.inr ⟨_, rfl⟩) (congrArg (fun z => Value.ref (E.1 z)) (by unfold plZ; (repeat' split) <;> (first | rfl | (exfalso; (try simp only [ranZ] at *); (repeat' split at *) <;> omega))))
      · skip
        refine z_ldcS C hZ 4 (by decide) rfl rfl dX2_placesOfOrder_28 30 rfl ?_
        refine z_goto C dX2_placesOfOrder_30 35 (by decide) ?_
        exact z_ra C dX2_placesOfOrder_35 (Or.inl ⟨_, rfl⟩) (Or.inr ⟨_, rfl⟩) (congrArg (fun z => Value.ref (E.1 z)) (by unfold plZ; (repeat' split) <;> (first | rfl | (exfalso; (try simp only [ranZ] at *); (repeat' split at *) <;> omega))))
    · skip
      refine z_ldcS C hZ 2 (by decide) rfl rfl dX2_placesOfOrder_16 18 rfl ?_
      exact z_ra C dX2_placesOfOrder_18 (Or.inl ⟨_, rfl⟩) (Or.inr ⟨_, rfl⟩) (congrArg (fun z => Value.ref (E.1 z)) (by unfold plZ; (repeat' split) <;> (first | rfl | (exfalso; (try simp only [ranZ] at *); (repeat' split at *) <;> omega))))
  · skip
    simp only [decide_eq_true_eq, decide_eq_false_iff_not] at c4
    refine z_ldcS C hZ 1 (by decide) rfl rfl dX2_placesOfOrder_7 9 rfl ?_
    exact z_ra C dX2_placesOfOrder_9 (Or.inl ⟨_, rfl⟩) (Or.inr ⟨_, rfl⟩) (congrArg (fun z => Value.ref (E.1 z)) (by unfold plZ; (repeat' split) <;> (first | rfl | (exfalso; (try simp only [ranZ] at *); (repeat' split at *) <;> omega))))

set_option maxHeartbeats 4000000 in
set_option maxRecDepth 100000 in
theorem m_fits (l : Launch) (G : gT) (E : eT) (x y : Int) (hx : 0 ≤ x ∧ x < 65536) (hy : 0 ≤ y ∧ y < 65536) : MR l G yX2_fits cX2_fits 3 (some .boolean) 4 [.int (iI (x)), .int (iI (y))] [] (ZR E) (.int (iI (bZ (fitB x y)))) := by
  refine enterR (own := RX2) (by decide +kernel) rfl (Nat.le_of_ble_eq_true rfl) ?_
  intro p e s m below meth c C hP hK hZ ls hl
  have hl : lv_has ls 3 [(0, .int (iI (x))), (1, .int (iI (y)))] := hl
  have hi := alZ_lt y
  refine z_il_n C hl dX2_fits_0 1 rfl 1 rfl ?_
  refine z_SRz (r := .ref (E.1 (alZ y))) (rest := []) C (m_allowedAt l G E y (by omega)) kS_X2_76 ⟨Nat.le_of_ble_eq_true rfl, Nat.le_of_ble_eq_true rfl⟩ (gP_nil) hK zr_blind (zr_of hZ va_S.rf) rfl hl.1 rfl (Nat.le_of_ble_eq_true rfl) dX2_fits_1 ⟨Nat.le_of_ble_eq_true rfl, Nat.le_of_ble_eq_true rfl⟩ 4 rfl ?_
  refine z_as_n C hl dX2_fits_4 5 rfl (by decide) (lv' := [(2, .ref (E.1 (alZ y))), (0, .int (iI (x))), (1, .int (iI (y)))]) rfl (fun ls hl => ?_)
  refine z_al_n C hl dX2_fits_5 0 rfl 6 rfl ?_
  refine z_VRs (E := E) (r := .int (iI (bZ (decide (sLen (alZ y) = 0))))) (rest := []) C (hi) rfl (m_isEmpty l G E (alZ y)  (hi) ) kV_X2_79 ⟨Nat.le_of_ble_eq_true rfl, Nat.le_of_ble_eq_true rfl⟩ hK hZ va_S.rf rfl hl.1 rfl (Nat.le_of_ble_eq_true rfl) dX2_fits_6 ⟨Nat.le_of_ble_eq_true rfl, Nat.le_of_ble_eq_true rfl⟩ 9 rfl ?_
  refine z_ifb_eq C dX2_fits_9 25 12 (by decide) rfl (fun c9 => ?_) (fun c9 => ?_)
  · skip
    simp only [decide_eq_true_eq, decide_eq_false_iff_not] at c9
    refine z_al_n C hl dX2_fits_25 0 rfl 26 rfl ?_
    refine z_il_n C hl dX2_fits_26 1 rfl 27 rfl ?_
    refine z_VRs (E := E) (r := .int (iI (idxZ (alZ y) x))) (rest := []) C (hi) rfl (m_ix l G E (alZ y) x (hi) (by omega)) kV_X2_53 ⟨Nat.le_of_ble_eq_true rfl, Nat.le_of_ble_eq_true rfl⟩ hK hZ va_S.rf rfl hl.1 rfl (Nat.le_of_ble_eq_true rfl) dX2_fits_27 ⟨Nat.le_of_ble_eq_true rfl, Nat.le_of_ble_eq_true rfl⟩ 30 rfl ?_
    refine z_if_lt C dX2_fits_30 37 33 (by decide) rfl (by have := idxZ_rng hi x; omega) (fun c30 => ?_) (fun c30 => ?_)
    · skip
      refine z_iconst C dX2_fits_37 38 rfl ?_
      exact z_rz C dX2_fits_38 (by rw [alZ_n c9]; exact bZ_df (by omega))
    · skip
      refine z_iconst C dX2_fits_33 34 rfl ?_
      refine z_goto C dX2_fits_34 38 (by decide) ?_
      exact z_rz C dX2_fits_38 (by rw [alZ_n c9]; exact bZ_dt (by omega))
  · skip
    simp only [decide_eq_true_eq, decide_eq_false_iff_not] at c9
    refine z_il_n C hl dX2_fits_12 1 rfl 13 rfl ?_
    refine z_il_n C hl dX2_fits_13 2 rfl 14 rfl ?_
    refine z_icmp_ne C dX2_fits_14 21 17 (by decide) rfl (by omega) (fun c14 => ?_) (fun c14 => ?_)
    · skip
      refine z_iconst C dX2_fits_21 22 rfl ?_
      refine z_goto C dX2_fits_22 38 (by decide) ?_
      exact z_rz C dX2_fits_38 (by rw [alZ_e c9]; exact bZ_df (by omega))
    · skip
      refine z_iconst C dX2_fits_17 18 rfl ?_
      refine z_goto C dX2_fits_18 38 (by decide) ?_
      exact z_rz C dX2_fits_38 (by rw [alZ_e c9]; exact bZ_dt (by omega))

set_option maxHeartbeats 4000000 in
set_option maxRecDepth 100000 in
theorem m_endOfOrder (l : Launch) (G : gT) (E : eT) (o sg : Nat) (n : Int) (tx : Int → Int) (k : Int) (wt : Ot n tx) (hk : 0 ≤ k ∧ k < 2147483600) : MR l G yX2_endOfOrder cX2_endOfOrder 5 (some .int) 6 [.ref (o), .int (iI (k))] [[orO G o sg n], [arC G sg 60 tx]] (ZR E) (.int (iI (endZ (sgC n tx) k))) := by
  refine enterR (own := RX2) (by decide +kernel) rfl (Nat.le_of_ble_eq_true rfl) ?_
  intro p e s m below meth c C hP hK hZ ls hl
  have hl : lv_has ls 5 [(0, .ref (o)), (1, .int (iI (k)))] := hl
  refine z_al_n C hl dX2_endOfOrder_0 0 rfl 1 rfl ?_
  refine z_il_n C hl dX2_endOfOrder_1 1 rfl 2 rfl ?_
  refine z_VR (r := .int (iI (sgC n tx k))) (rest := []) C (m_signAt l G o sg n tx k wt (by omega)) kV_X2_23 ⟨Nat.le_of_ble_eq_true rfl, Nat.le_of_ble_eq_true rfl⟩ hP hK 0 rfl rfl rfl hl.1 rfl (Nat.le_of_ble_eq_true rfl) dX2_endOfOrder_2 ⟨Nat.le_of_ble_eq_true rfl, Nat.le_of_ble_eq_true rfl⟩ 5 rfl ?_
  have r2 := sgC_rng wt k
  refine z_is_n C hl dX2_endOfOrder_5 6 rfl (by decide) (lv' := [(2, .int (iI (sgC n tx k))), (0, .ref (o)), (1, .int (iI (k)))]) rfl (fun ls hl => ?_)
  refine z_il_n C hl dX2_endOfOrder_6 0 rfl 7 rfl ?_
  refine z_SRz (r := .ref (E.1 (plZ (sgC n tx k)))) (rest := []) C (m_placesOfOrder l G E (sgC n tx k) (by omega)) kS_X2_27 ⟨Nat.le_of_ble_eq_true rfl, Nat.le_of_ble_eq_true rfl⟩ (gP_nil) hK zr_blind (zr_of hZ va_S.rf) rfl hl.1 rfl (Nat.le_of_ble_eq_true rfl) dX2_endOfOrder_7 ⟨Nat.le_of_ble_eq_true rfl, Nat.le_of_ble_eq_true rfl⟩ 10 rfl ?_
  have hpl := plZ_cases (sgC n tx k)
  rcases hpl with hpl | hpl | hpl | hpl
  · skip
    refine z_top (b := .ref (E.1 1)) (by rw [hpl.1]) ?_
    refine z_as_n C hl dX2_endOfOrder_10 11 rfl (by decide) (lv' := [(3, .ref (E.1 1)), (2, .int (iI (sgC n tx k))), (0, .ref (o)), (1, .int (iI (k)))]) rfl (fun ls hl => ?_)
    refine z_iconst C dX2_endOfOrder_11 12 rfl ?_
    refine z_is C hl dX2_endOfOrder_12 14 rfl (by decide) (lv' := [(4, .int (iI (0))), (3, .ref (E.1 1)), (2, .int (iI (sgC n tx k))), (0, .ref (o)), (1, .int (iI (k)))]) rfl (fun ls hl => ?_)
    refine z_il C hl dX2_endOfOrder_14 0 rfl 16 rfl ?_
    refine z_al_n C hl dX2_endOfOrder_16 1 rfl 17 rfl ?_
    refine z_VRs (E := E) (r := .int (iI (sLen 1))) (rest := [.int (iI (0))]) C (by decide) rfl (m_length l G E 1  (by decide) ) kV_X2_31 ⟨Nat.le_of_ble_eq_true rfl, Nat.le_of_ble_eq_true rfl⟩ hK hZ va_S.rf rfl hl.1 rfl (Nat.le_of_ble_eq_true rfl) dX2_endOfOrder_17 ⟨Nat.le_of_ble_eq_true rfl, Nat.le_of_ble_eq_true rfl⟩ 20 rfl ?_
    refine z_top (b := .int (iI 4)) rfl ?_
    refine z_icmp_ge C dX2_endOfOrder_20 56 23 (by decide) rfl (by omega) (fun c20 => ?_) (fun c20 => ?_)
    · exfalso; omega
    · skip
      refine z_al_n C hl dX2_endOfOrder_23 3 rfl 24 rfl ?_
      refine z_il_n C hl dX2_endOfOrder_24 4 rfl 25 rfl ?_
      refine z_il C hl dX2_endOfOrder_25 0 rfl 27 rfl ?_
      refine z_iadd C dX2_endOfOrder_27 28 rfl (k) (by omega) ?_
      refine z_VR (r := .int (iI (sgC n tx k))) (rest := []) C (m_signAt l G o sg n tx k wt (by omega)) kV_X2_23 ⟨Nat.le_of_ble_eq_true rfl, Nat.le_of_ble_eq_true rfl⟩ hP hK 0 rfl rfl rfl hl.1 rfl (Nat.le_of_ble_eq_true rfl) dX2_endOfOrder_28 ⟨Nat.le_of_ble_eq_true rfl, Nat.le_of_ble_eq_true rfl⟩ 31 rfl ?_
      have r28 := sgC_rng wt k
      refine z_al_n C hl dX2_endOfOrder_31 1 rfl 32 rfl ?_
      refine z_il C hl dX2_endOfOrder_32 0 rfl 34 rfl ?_
      refine z_VRs (E := E) (r := .int (iI (sCh 1 0))) (rest := [.int (iI (sgC n tx k))]) C (by decide) rfl (m_charAt l G E 1 0 (by decide) (by decide)) kV_X2_36 ⟨Nat.le_of_ble_eq_true rfl, Nat.le_of_ble_eq_true rfl⟩ hK hZ va_S.rf rfl hl.1 rfl (Nat.le_of_ble_eq_true rfl) dX2_endOfOrder_34 ⟨Nat.le_of_ble_eq_true rfl, Nat.le_of_ble_eq_true rfl⟩ 37 rfl ?_
      refine z_top (b := .int (iI 67)) rfl ?_
      refine z_SRz (r := .int (iI (bZ (fitB (sgC n tx k) 67)))) (rest := []) C (m_fits l G E (sgC n tx k) 67 (by omega) (by omega)) kS_X2_39 ⟨Nat.le_of_ble_eq_true rfl, Nat.le_of_ble_eq_true rfl⟩ (gP_nil) hK zr_blind (zr_of hZ va_S.rf) rfl hl.1 rfl (Nat.le_of_ble_eq_true rfl) dX2_endOfOrder_37 ⟨Nat.le_of_ble_eq_true rfl, Nat.le_of_ble_eq_true rfl⟩ 40 rfl ?_
      refine z_ifb_ne C dX2_endOfOrder_40 50 43 (by decide) rfl (fun c40 => ?_) (fun c40 => ?_)
      · skip
        have f0 := c40
        refine z_iinc C hl dX2_endOfOrder_50 53 rfl 0 rfl (z := 1) (by omega) (by decide) (lv' := [(4, .int (iI (1))), (3, .ref (E.1 1)), (2, .int (iI (sgC n tx k))), (0, .ref (o)), (1, .int (iI (k)))]) rfl (fun ls hl => ?_)
        refine z_goto C dX2_endOfOrder_53 14 (by decide) ?_
        refine z_il C hl dX2_endOfOrder_14 0 rfl 16 rfl ?_
        refine z_al_n C hl dX2_endOfOrder_16 1 rfl 17 rfl ?_
        refine z_VRs (E := E) (r := .int (iI (sLen 1))) (rest := [.int (iI (1))]) C (by decide) rfl (m_length l G E 1  (by decide) ) kV_X2_31 ⟨Nat.le_of_ble_eq_true rfl, Nat.le_of_ble_eq_true rfl⟩ hK hZ va_S.rf rfl hl.1 rfl (Nat.le_of_ble_eq_true rfl) dX2_endOfOrder_17 ⟨Nat.le_of_ble_eq_true rfl, Nat.le_of_ble_eq_true rfl⟩ 20 rfl ?_
        refine z_top (b := .int (iI 4)) rfl ?_
        refine z_icmp_ge C dX2_endOfOrder_20 56 23 (by decide) rfl (by omega) (fun c20 => ?_) (fun c20 => ?_)
        · exfalso; omega
        · skip
          refine z_al_n C hl dX2_endOfOrder_23 3 rfl 24 rfl ?_
          refine z_il_n C hl dX2_endOfOrder_24 4 rfl 25 rfl ?_
          refine z_il C hl dX2_endOfOrder_25 0 rfl 27 rfl ?_
          refine z_iadd C dX2_endOfOrder_27 28 rfl (1 + k) (by omega) ?_
          refine z_VR (r := .int (iI (sgC n tx (1 + k)))) (rest := []) C (m_signAt l G o sg n tx (1 + k) wt (by omega)) kV_X2_23 ⟨Nat.le_of_ble_eq_true rfl, Nat.le_of_ble_eq_true rfl⟩ hP hK 0 rfl rfl rfl hl.1 rfl (Nat.le_of_ble_eq_true rfl) dX2_endOfOrder_28 ⟨Nat.le_of_ble_eq_true rfl, Nat.le_of_ble_eq_true rfl⟩ 31 rfl ?_
          have r28 := sgC_rng wt (1 + k)
          refine z_al_n C hl dX2_endOfOrder_31 1 rfl 32 rfl ?_
          refine z_il C hl dX2_endOfOrder_32 0 rfl 34 rfl ?_
          refine z_VRs (E := E) (r := .int (iI (sCh 1 1))) (rest := [.int (iI (sgC n tx (1 + k)))]) C (by decide) rfl (m_charAt l G E 1 1 (by decide) (by decide)) kV_X2_36 ⟨Nat.le_of_ble_eq_true rfl, Nat.le_of_ble_eq_true rfl⟩ hK hZ va_S.rf rfl hl.1 rfl (Nat.le_of_ble_eq_true rfl) dX2_endOfOrder_34 ⟨Nat.le_of_ble_eq_true rfl, Nat.le_of_ble_eq_true rfl⟩ 37 rfl ?_
          refine z_top (b := .int (iI 82)) rfl ?_
          refine z_SRz (r := .int (iI (bZ (fitB (sgC n tx (1 + k)) 82)))) (rest := []) C (m_fits l G E (sgC n tx (1 + k)) 82 (by omega) (by omega)) kS_X2_39 ⟨Nat.le_of_ble_eq_true rfl, Nat.le_of_ble_eq_true rfl⟩ (gP_nil) hK zr_blind (zr_of hZ va_S.rf) rfl hl.1 rfl (Nat.le_of_ble_eq_true rfl) dX2_endOfOrder_37 ⟨Nat.le_of_ble_eq_true rfl, Nat.le_of_ble_eq_true rfl⟩ 40 rfl ?_
          refine z_ifb_ne C dX2_endOfOrder_40 50 43 (by decide) rfl (fun c40 => ?_) (fun c40 => ?_)
          · skip
            have f1 := c40
            refine z_iinc C hl dX2_endOfOrder_50 53 rfl 0 rfl (z := 2) (by omega) (by decide) (lv' := [(4, .int (iI (2))), (3, .ref (E.1 1)), (2, .int (iI (sgC n tx k))), (0, .ref (o)), (1, .int (iI (k)))]) rfl (fun ls hl => ?_)
            refine z_goto C dX2_endOfOrder_53 14 (by decide) ?_
            refine z_il C hl dX2_endOfOrder_14 0 rfl 16 rfl ?_
            refine z_al_n C hl dX2_endOfOrder_16 1 rfl 17 rfl ?_
            refine z_VRs (E := E) (r := .int (iI (sLen 1))) (rest := [.int (iI (2))]) C (by decide) rfl (m_length l G E 1  (by decide) ) kV_X2_31 ⟨Nat.le_of_ble_eq_true rfl, Nat.le_of_ble_eq_true rfl⟩ hK hZ va_S.rf rfl hl.1 rfl (Nat.le_of_ble_eq_true rfl) dX2_endOfOrder_17 ⟨Nat.le_of_ble_eq_true rfl, Nat.le_of_ble_eq_true rfl⟩ 20 rfl ?_
            refine z_top (b := .int (iI 4)) rfl ?_
            refine z_icmp_ge C dX2_endOfOrder_20 56 23 (by decide) rfl (by omega) (fun c20 => ?_) (fun c20 => ?_)
            · exfalso; omega
            · skip
              refine z_al_n C hl dX2_endOfOrder_23 3 rfl 24 rfl ?_
              refine z_il_n C hl dX2_endOfOrder_24 4 rfl 25 rfl ?_
              refine z_il C hl dX2_endOfOrder_25 0 rfl 27 rfl ?_
              refine z_iadd C dX2_endOfOrder_27 28 rfl (2 + k) (by omega) ?_
              refine z_VR (r := .int (iI (sgC n tx (2 + k)))) (rest := []) C (m_signAt l G o sg n tx (2 + k) wt (by omega)) kV_X2_23 ⟨Nat.le_of_ble_eq_true rfl, Nat.le_of_ble_eq_true rfl⟩ hP hK 0 rfl rfl rfl hl.1 rfl (Nat.le_of_ble_eq_true rfl) dX2_endOfOrder_28 ⟨Nat.le_of_ble_eq_true rfl, Nat.le_of_ble_eq_true rfl⟩ 31 rfl ?_
              have r28 := sgC_rng wt (2 + k)
              refine z_al_n C hl dX2_endOfOrder_31 1 rfl 32 rfl ?_
              refine z_il C hl dX2_endOfOrder_32 0 rfl 34 rfl ?_
              refine z_VRs (E := E) (r := .int (iI (sCh 1 2))) (rest := [.int (iI (sgC n tx (2 + k)))]) C (by decide) rfl (m_charAt l G E 1 2 (by decide) (by decide)) kV_X2_36 ⟨Nat.le_of_ble_eq_true rfl, Nat.le_of_ble_eq_true rfl⟩ hK hZ va_S.rf rfl hl.1 rfl (Nat.le_of_ble_eq_true rfl) dX2_endOfOrder_34 ⟨Nat.le_of_ble_eq_true rfl, Nat.le_of_ble_eq_true rfl⟩ 37 rfl ?_
              refine z_top (b := .int (iI 61)) rfl ?_
              refine z_SRz (r := .int (iI (bZ (fitB (sgC n tx (2 + k)) 61)))) (rest := []) C (m_fits l G E (sgC n tx (2 + k)) 61 (by omega) (by omega)) kS_X2_39 ⟨Nat.le_of_ble_eq_true rfl, Nat.le_of_ble_eq_true rfl⟩ (gP_nil) hK zr_blind (zr_of hZ va_S.rf) rfl hl.1 rfl (Nat.le_of_ble_eq_true rfl) dX2_endOfOrder_37 ⟨Nat.le_of_ble_eq_true rfl, Nat.le_of_ble_eq_true rfl⟩ 40 rfl ?_
              refine z_ifb_ne C dX2_endOfOrder_40 50 43 (by decide) rfl (fun c40 => ?_) (fun c40 => ?_)
              · skip
                have f2 := c40
                refine z_iinc C hl dX2_endOfOrder_50 53 rfl 0 rfl (z := 3) (by omega) (by decide) (lv' := [(4, .int (iI (3))), (3, .ref (E.1 1)), (2, .int (iI (sgC n tx k))), (0, .ref (o)), (1, .int (iI (k)))]) rfl (fun ls hl => ?_)
                refine z_goto C dX2_endOfOrder_53 14 (by decide) ?_
                refine z_il C hl dX2_endOfOrder_14 0 rfl 16 rfl ?_
                refine z_al_n C hl dX2_endOfOrder_16 1 rfl 17 rfl ?_
                refine z_VRs (E := E) (r := .int (iI (sLen 1))) (rest := [.int (iI (3))]) C (by decide) rfl (m_length l G E 1  (by decide) ) kV_X2_31 ⟨Nat.le_of_ble_eq_true rfl, Nat.le_of_ble_eq_true rfl⟩ hK hZ va_S.rf rfl hl.1 rfl (Nat.le_of_ble_eq_true rfl) dX2_endOfOrder_17 ⟨Nat.le_of_ble_eq_true rfl, Nat.le_of_ble_eq_true rfl⟩ 20 rfl ?_
                refine z_top (b := .int (iI 4)) rfl ?_
                refine z_icmp_ge C dX2_endOfOrder_20 56 23 (by decide) rfl (by omega) (fun c20 => ?_) (fun c20 => ?_)
                · exfalso; omega
                · skip
                  refine z_al_n C hl dX2_endOfOrder_23 3 rfl 24 rfl ?_
                  refine z_il_n C hl dX2_endOfOrder_24 4 rfl 25 rfl ?_
                  refine z_il C hl dX2_endOfOrder_25 0 rfl 27 rfl ?_
                  refine z_iadd C dX2_endOfOrder_27 28 rfl (3 + k) (by omega) ?_
                  refine z_VR (r := .int (iI (sgC n tx (3 + k)))) (rest := []) C (m_signAt l G o sg n tx (3 + k) wt (by omega)) kV_X2_23 ⟨Nat.le_of_ble_eq_true rfl, Nat.le_of_ble_eq_true rfl⟩ hP hK 0 rfl rfl rfl hl.1 rfl (Nat.le_of_ble_eq_true rfl) dX2_endOfOrder_28 ⟨Nat.le_of_ble_eq_true rfl, Nat.le_of_ble_eq_true rfl⟩ 31 rfl ?_
                  have r28 := sgC_rng wt (3 + k)
                  refine z_al_n C hl dX2_endOfOrder_31 1 rfl 32 rfl ?_
                  refine z_il C hl dX2_endOfOrder_32 0 rfl 34 rfl ?_
                  refine z_VRs (E := E) (r := .int (iI (sCh 1 3))) (rest := [.int (iI (sgC n tx (3 + k)))]) C (by decide) rfl (m_charAt l G E 1 3 (by decide) (by decide)) kV_X2_36 ⟨Nat.le_of_ble_eq_true rfl, Nat.le_of_ble_eq_true rfl⟩ hK hZ va_S.rf rfl hl.1 rfl (Nat.le_of_ble_eq_true rfl) dX2_endOfOrder_34 ⟨Nat.le_of_ble_eq_true rfl, Nat.le_of_ble_eq_true rfl⟩ 37 rfl ?_
                  refine z_top (b := .int (iI 72)) rfl ?_
                  refine z_SRz (r := .int (iI (bZ (fitB (sgC n tx (3 + k)) 72)))) (rest := []) C (m_fits l G E (sgC n tx (3 + k)) 72 (by omega) (by omega)) kS_X2_39 ⟨Nat.le_of_ble_eq_true rfl, Nat.le_of_ble_eq_true rfl⟩ (gP_nil) hK zr_blind (zr_of hZ va_S.rf) rfl hl.1 rfl (Nat.le_of_ble_eq_true rfl) dX2_endOfOrder_37 ⟨Nat.le_of_ble_eq_true rfl, Nat.le_of_ble_eq_true rfl⟩ 40 rfl ?_
                  refine z_ifb_ne C dX2_endOfOrder_40 50 43 (by decide) rfl (fun c40 => ?_) (fun c40 => ?_)
                  · skip
                    have f3 := c40
                    refine z_iinc C hl dX2_endOfOrder_50 53 rfl 0 rfl (z := 4) (by omega) (by decide) (lv' := [(4, .int (iI (4))), (3, .ref (E.1 1)), (2, .int (iI (sgC n tx k))), (0, .ref (o)), (1, .int (iI (k)))]) rfl (fun ls hl => ?_)
                    refine z_goto C dX2_endOfOrder_53 14 (by decide) ?_
                    refine z_il C hl dX2_endOfOrder_14 0 rfl 16 rfl ?_
                    refine z_al_n C hl dX2_endOfOrder_16 1 rfl 17 rfl ?_
                    refine z_VRs (E := E) (r := .int (iI (sLen 1))) (rest := [.int (iI (4))]) C (by decide) rfl (m_length l G E 1  (by decide) ) kV_X2_31 ⟨Nat.le_of_ble_eq_true rfl, Nat.le_of_ble_eq_true rfl⟩ hK hZ va_S.rf rfl hl.1 rfl (Nat.le_of_ble_eq_true rfl) dX2_endOfOrder_17 ⟨Nat.le_of_ble_eq_true rfl, Nat.le_of_ble_eq_true rfl⟩ 20 rfl ?_
                    refine z_top (b := .int (iI 4)) rfl ?_
                    refine z_icmp_ge C dX2_endOfOrder_20 56 23 (by decide) rfl (by omega) (fun c20 => ?_) (fun c20 => ?_)
                    · skip
                      refine z_il_n C hl dX2_endOfOrder_56 4 rfl 57 rfl ?_
                      refine z_al_n C hl dX2_endOfOrder_57 1 rfl 58 rfl ?_
                      refine z_VRs (E := E) (r := .int (iI (sLen 1))) (rest := [.int (iI (k))]) C (by decide) rfl (m_length l G E 1  (by decide) ) kV_X2_31 ⟨Nat.le_of_ble_eq_true rfl, Nat.le_of_ble_eq_true rfl⟩ hK hZ va_S.rf rfl hl.1 rfl (Nat.le_of_ble_eq_true rfl) dX2_endOfOrder_58 ⟨Nat.le_of_ble_eq_true rfl, Nat.le_of_ble_eq_true rfl⟩ 61 rfl ?_
                      refine z_top (b := .int (iI 4)) rfl ?_
                      refine z_iadd C dX2_endOfOrder_61 62 rfl (4 + k) (by omega) ?_
                      refine z_is C hl dX2_endOfOrder_62 64 rfl (by decide) (lv' := [(4, .int (iI (4 + k))), (3, .ref (E.1 1)), (2, .int (iI (sgC n tx k))), (0, .ref (o)), (1, .int (iI (k)))]) rfl (fun ls hl => ?_)
                      refine z_il_n C hl dX2_endOfOrder_64 2 rfl 65 rfl ?_
                      refine z_SRz (r := .int (iI (bZ (decide (97 ≤ (sgC n tx k) ∧ (sgC n tx k) ≤ 102))))) (rest := []) C (m_isColumn l G E (sgC n tx k) (by omega)) kS_X2_43 ⟨Nat.le_of_ble_eq_true rfl, Nat.le_of_ble_eq_true rfl⟩ (gP_nil) hK zr_blind (zr_of hZ va_S.rf) rfl hl.1 rfl (Nat.le_of_ble_eq_true rfl) dX2_endOfOrder_65 ⟨Nat.le_of_ble_eq_true rfl, Nat.le_of_ble_eq_true rfl⟩ 68 rfl ?_
                      refine z_ifb_eq C dX2_endOfOrder_68 87 71 (by decide) rfl (fun c68 => ?_) (fun c68 => ?_)
                      · exfalso; simp only [decide_eq_true_eq, decide_eq_false_iff_not] at c68; omega
                      · skip
                        simp only [decide_eq_true_eq, decide_eq_false_iff_not] at c68
                        refine z_al_n C hl dX2_endOfOrder_71 3 rfl 72 rfl ?_
                        refine z_il C hl dX2_endOfOrder_72 0 rfl 74 rfl ?_
                        refine z_VR (r := .int (iI (bZ (decide (sgC n tx (4 + k) = 42))))) (rest := []) C (m_isRockAt l G o sg n tx (4 + k) wt (by omega)) kV_X2_47 ⟨Nat.le_of_ble_eq_true rfl, Nat.le_of_ble_eq_true rfl⟩ hP hK 0 rfl rfl rfl hl.1 rfl (Nat.le_of_ble_eq_true rfl) dX2_endOfOrder_74 ⟨Nat.le_of_ble_eq_true rfl, Nat.le_of_ble_eq_true rfl⟩ 77 rfl ?_
                        refine z_ifb_eq C dX2_endOfOrder_77 87 80 (by decide) rfl (fun c77 => ?_) (fun c77 => ?_)
                        · skip
                          simp only [decide_eq_true_eq, decide_eq_false_iff_not] at c77
                          refine z_il C hl dX2_endOfOrder_87 0 rfl 89 rfl ?_
                          exact z_ri C dX2_endOfOrder_89 (by unfold endZ; rw [if_pos hpl.2, if_neg (by rw [f1]; decide), if_neg (by rw [f2]; decide), if_neg (by rw [f3]; decide), if_neg c77]; try omega)
                        · skip
                          simp only [decide_eq_true_eq, decide_eq_false_iff_not] at c77
                          refine z_il C hl dX2_endOfOrder_80 0 rfl 82 rfl ?_
                          refine z_iconst C dX2_endOfOrder_82 83 rfl ?_
                          refine z_iadd C dX2_endOfOrder_83 84 rfl (5 + k) (by omega) ?_
                          refine z_goto C dX2_endOfOrder_84 89 (by decide) ?_
                          exact z_ri C dX2_endOfOrder_89 (by unfold endZ; rw [if_pos hpl.2, if_neg (by rw [f1]; decide), if_neg (by rw [f2]; decide), if_neg (by rw [f3]; decide), if_pos c77]; try omega)
                    · exfalso; omega
                  · skip
                    have f3 := c40
                    refine z_iconst C dX2_endOfOrder_43 44 rfl ?_
                    refine z_il_n C hl dX2_endOfOrder_44 4 rfl 45 rfl ?_
                    refine z_il C hl dX2_endOfOrder_45 0 rfl 47 rfl ?_
                    refine z_iadd C dX2_endOfOrder_47 48 rfl (3 + k) (by omega) ?_
                    refine z_isub C dX2_endOfOrder_48 49 rfl (-4 - k) (by omega) ?_
                    exact z_ri C dX2_endOfOrder_49 (by unfold endZ; rw [if_pos hpl.2, if_neg (by rw [f1]; decide), if_neg (by rw [f2]; decide), if_pos f3]; try omega)
              · skip
                have f2 := c40
                refine z_iconst C dX2_endOfOrder_43 44 rfl ?_
                refine z_il_n C hl dX2_endOfOrder_44 4 rfl 45 rfl ?_
                refine z_il C hl dX2_endOfOrder_45 0 rfl 47 rfl ?_
                refine z_iadd C dX2_endOfOrder_47 48 rfl (2 + k) (by omega) ?_
                refine z_isub C dX2_endOfOrder_48 49 rfl (-3 - k) (by omega) ?_
                exact z_ri C dX2_endOfOrder_49 (by unfold endZ; rw [if_pos hpl.2, if_neg (by rw [f1]; decide), if_pos f2]; try omega)
          · skip
            have f1 := c40
            refine z_iconst C dX2_endOfOrder_43 44 rfl ?_
            refine z_il_n C hl dX2_endOfOrder_44 4 rfl 45 rfl ?_
            refine z_il C hl dX2_endOfOrder_45 0 rfl 47 rfl ?_
            refine z_iadd C dX2_endOfOrder_47 48 rfl (1 + k) (by omega) ?_
            refine z_isub C dX2_endOfOrder_48 49 rfl (-2 - k) (by omega) ?_
            exact z_ri C dX2_endOfOrder_49 (by unfold endZ; rw [if_pos hpl.2, if_pos f1]; try omega)
      · exfalso; simp [fitB] at c40; omega
  · skip
    refine z_top (b := .ref (E.1 2)) (by rw [hpl.1]) ?_
    refine z_as_n C hl dX2_endOfOrder_10 11 rfl (by decide) (lv' := [(3, .ref (E.1 2)), (2, .int (iI (sgC n tx k))), (0, .ref (o)), (1, .int (iI (k)))]) rfl (fun ls hl => ?_)
    refine z_iconst C dX2_endOfOrder_11 12 rfl ?_
    refine z_is C hl dX2_endOfOrder_12 14 rfl (by decide) (lv' := [(4, .int (iI (0))), (3, .ref (E.1 2)), (2, .int (iI (sgC n tx k))), (0, .ref (o)), (1, .int (iI (k)))]) rfl (fun ls hl => ?_)
    refine z_il C hl dX2_endOfOrder_14 0 rfl 16 rfl ?_
    refine z_al_n C hl dX2_endOfOrder_16 1 rfl 17 rfl ?_
    refine z_VRs (E := E) (r := .int (iI (sLen 2))) (rest := [.int (iI (0))]) C (by decide) rfl (m_length l G E 2  (by decide) ) kV_X2_31 ⟨Nat.le_of_ble_eq_true rfl, Nat.le_of_ble_eq_true rfl⟩ hK hZ va_S.rf rfl hl.1 rfl (Nat.le_of_ble_eq_true rfl) dX2_endOfOrder_17 ⟨Nat.le_of_ble_eq_true rfl, Nat.le_of_ble_eq_true rfl⟩ 20 rfl ?_
    refine z_top (b := .int (iI 5)) rfl ?_
    refine z_icmp_ge C dX2_endOfOrder_20 56 23 (by decide) rfl (by omega) (fun c20 => ?_) (fun c20 => ?_)
    · exfalso; omega
    · skip
      refine z_al_n C hl dX2_endOfOrder_23 3 rfl 24 rfl ?_
      refine z_il_n C hl dX2_endOfOrder_24 4 rfl 25 rfl ?_
      refine z_il C hl dX2_endOfOrder_25 0 rfl 27 rfl ?_
      refine z_iadd C dX2_endOfOrder_27 28 rfl (k) (by omega) ?_
      refine z_VR (r := .int (iI (sgC n tx k))) (rest := []) C (m_signAt l G o sg n tx k wt (by omega)) kV_X2_23 ⟨Nat.le_of_ble_eq_true rfl, Nat.le_of_ble_eq_true rfl⟩ hP hK 0 rfl rfl rfl hl.1 rfl (Nat.le_of_ble_eq_true rfl) dX2_endOfOrder_28 ⟨Nat.le_of_ble_eq_true rfl, Nat.le_of_ble_eq_true rfl⟩ 31 rfl ?_
      have r28 := sgC_rng wt k
      refine z_al_n C hl dX2_endOfOrder_31 1 rfl 32 rfl ?_
      refine z_il C hl dX2_endOfOrder_32 0 rfl 34 rfl ?_
      refine z_VRs (E := E) (r := .int (iI (sCh 2 0))) (rest := [.int (iI (sgC n tx k))]) C (by decide) rfl (m_charAt l G E 2 0 (by decide) (by decide)) kV_X2_36 ⟨Nat.le_of_ble_eq_true rfl, Nat.le_of_ble_eq_true rfl⟩ hK hZ va_S.rf rfl hl.1 rfl (Nat.le_of_ble_eq_true rfl) dX2_endOfOrder_34 ⟨Nat.le_of_ble_eq_true rfl, Nat.le_of_ble_eq_true rfl⟩ 37 rfl ?_
      refine z_top (b := .int (iI 43)) rfl ?_
      refine z_SRz (r := .int (iI (bZ (fitB (sgC n tx k) 43)))) (rest := []) C (m_fits l G E (sgC n tx k) 43 (by omega) (by omega)) kS_X2_39 ⟨Nat.le_of_ble_eq_true rfl, Nat.le_of_ble_eq_true rfl⟩ (gP_nil) hK zr_blind (zr_of hZ va_S.rf) rfl hl.1 rfl (Nat.le_of_ble_eq_true rfl) dX2_endOfOrder_37 ⟨Nat.le_of_ble_eq_true rfl, Nat.le_of_ble_eq_true rfl⟩ 40 rfl ?_
      refine z_ifb_ne C dX2_endOfOrder_40 50 43 (by decide) rfl (fun c40 => ?_) (fun c40 => ?_)
      · skip
        have f0 := c40
        refine z_iinc C hl dX2_endOfOrder_50 53 rfl 0 rfl (z := 1) (by omega) (by decide) (lv' := [(4, .int (iI (1))), (3, .ref (E.1 2)), (2, .int (iI (sgC n tx k))), (0, .ref (o)), (1, .int (iI (k)))]) rfl (fun ls hl => ?_)
        refine z_goto C dX2_endOfOrder_53 14 (by decide) ?_
        refine z_il C hl dX2_endOfOrder_14 0 rfl 16 rfl ?_
        refine z_al_n C hl dX2_endOfOrder_16 1 rfl 17 rfl ?_
        refine z_VRs (E := E) (r := .int (iI (sLen 2))) (rest := [.int (iI (1))]) C (by decide) rfl (m_length l G E 2  (by decide) ) kV_X2_31 ⟨Nat.le_of_ble_eq_true rfl, Nat.le_of_ble_eq_true rfl⟩ hK hZ va_S.rf rfl hl.1 rfl (Nat.le_of_ble_eq_true rfl) dX2_endOfOrder_17 ⟨Nat.le_of_ble_eq_true rfl, Nat.le_of_ble_eq_true rfl⟩ 20 rfl ?_
        refine z_top (b := .int (iI 5)) rfl ?_
        refine z_icmp_ge C dX2_endOfOrder_20 56 23 (by decide) rfl (by omega) (fun c20 => ?_) (fun c20 => ?_)
        · exfalso; omega
        · skip
          refine z_al_n C hl dX2_endOfOrder_23 3 rfl 24 rfl ?_
          refine z_il_n C hl dX2_endOfOrder_24 4 rfl 25 rfl ?_
          refine z_il C hl dX2_endOfOrder_25 0 rfl 27 rfl ?_
          refine z_iadd C dX2_endOfOrder_27 28 rfl (1 + k) (by omega) ?_
          refine z_VR (r := .int (iI (sgC n tx (1 + k)))) (rest := []) C (m_signAt l G o sg n tx (1 + k) wt (by omega)) kV_X2_23 ⟨Nat.le_of_ble_eq_true rfl, Nat.le_of_ble_eq_true rfl⟩ hP hK 0 rfl rfl rfl hl.1 rfl (Nat.le_of_ble_eq_true rfl) dX2_endOfOrder_28 ⟨Nat.le_of_ble_eq_true rfl, Nat.le_of_ble_eq_true rfl⟩ 31 rfl ?_
          have r28 := sgC_rng wt (1 + k)
          refine z_al_n C hl dX2_endOfOrder_31 1 rfl 32 rfl ?_
          refine z_il C hl dX2_endOfOrder_32 0 rfl 34 rfl ?_
          refine z_VRs (E := E) (r := .int (iI (sCh 2 1))) (rest := [.int (iI (sgC n tx (1 + k)))]) C (by decide) rfl (m_charAt l G E 2 1 (by decide) (by decide)) kV_X2_36 ⟨Nat.le_of_ble_eq_true rfl, Nat.le_of_ble_eq_true rfl⟩ hK hZ va_S.rf rfl hl.1 rfl (Nat.le_of_ble_eq_true rfl) dX2_endOfOrder_34 ⟨Nat.le_of_ble_eq_true rfl, Nat.le_of_ble_eq_true rfl⟩ 37 rfl ?_
          refine z_top (b := .int (iI 80)) rfl ?_
          refine z_SRz (r := .int (iI (bZ (fitB (sgC n tx (1 + k)) 80)))) (rest := []) C (m_fits l G E (sgC n tx (1 + k)) 80 (by omega) (by omega)) kS_X2_39 ⟨Nat.le_of_ble_eq_true rfl, Nat.le_of_ble_eq_true rfl⟩ (gP_nil) hK zr_blind (zr_of hZ va_S.rf) rfl hl.1 rfl (Nat.le_of_ble_eq_true rfl) dX2_endOfOrder_37 ⟨Nat.le_of_ble_eq_true rfl, Nat.le_of_ble_eq_true rfl⟩ 40 rfl ?_
          refine z_ifb_ne C dX2_endOfOrder_40 50 43 (by decide) rfl (fun c40 => ?_) (fun c40 => ?_)
          · skip
            have f1 := c40
            refine z_iinc C hl dX2_endOfOrder_50 53 rfl 0 rfl (z := 2) (by omega) (by decide) (lv' := [(4, .int (iI (2))), (3, .ref (E.1 2)), (2, .int (iI (sgC n tx k))), (0, .ref (o)), (1, .int (iI (k)))]) rfl (fun ls hl => ?_)
            refine z_goto C dX2_endOfOrder_53 14 (by decide) ?_
            refine z_il C hl dX2_endOfOrder_14 0 rfl 16 rfl ?_
            refine z_al_n C hl dX2_endOfOrder_16 1 rfl 17 rfl ?_
            refine z_VRs (E := E) (r := .int (iI (sLen 2))) (rest := [.int (iI (2))]) C (by decide) rfl (m_length l G E 2  (by decide) ) kV_X2_31 ⟨Nat.le_of_ble_eq_true rfl, Nat.le_of_ble_eq_true rfl⟩ hK hZ va_S.rf rfl hl.1 rfl (Nat.le_of_ble_eq_true rfl) dX2_endOfOrder_17 ⟨Nat.le_of_ble_eq_true rfl, Nat.le_of_ble_eq_true rfl⟩ 20 rfl ?_
            refine z_top (b := .int (iI 5)) rfl ?_
            refine z_icmp_ge C dX2_endOfOrder_20 56 23 (by decide) rfl (by omega) (fun c20 => ?_) (fun c20 => ?_)
            · exfalso; omega
            · skip
              refine z_al_n C hl dX2_endOfOrder_23 3 rfl 24 rfl ?_
              refine z_il_n C hl dX2_endOfOrder_24 4 rfl 25 rfl ?_
              refine z_il C hl dX2_endOfOrder_25 0 rfl 27 rfl ?_
              refine z_iadd C dX2_endOfOrder_27 28 rfl (2 + k) (by omega) ?_
              refine z_VR (r := .int (iI (sgC n tx (2 + k)))) (rest := []) C (m_signAt l G o sg n tx (2 + k) wt (by omega)) kV_X2_23 ⟨Nat.le_of_ble_eq_true rfl, Nat.le_of_ble_eq_true rfl⟩ hP hK 0 rfl rfl rfl hl.1 rfl (Nat.le_of_ble_eq_true rfl) dX2_endOfOrder_28 ⟨Nat.le_of_ble_eq_true rfl, Nat.le_of_ble_eq_true rfl⟩ 31 rfl ?_
              have r28 := sgC_rng wt (2 + k)
              refine z_al_n C hl dX2_endOfOrder_31 1 rfl 32 rfl ?_
              refine z_il C hl dX2_endOfOrder_32 0 rfl 34 rfl ?_
              refine z_VRs (E := E) (r := .int (iI (sCh 2 2))) (rest := [.int (iI (sgC n tx (2 + k)))]) C (by decide) rfl (m_charAt l G E 2 2 (by decide) (by decide)) kV_X2_36 ⟨Nat.le_of_ble_eq_true rfl, Nat.le_of_ble_eq_true rfl⟩ hK hZ va_S.rf rfl hl.1 rfl (Nat.le_of_ble_eq_true rfl) dX2_endOfOrder_34 ⟨Nat.le_of_ble_eq_true rfl, Nat.le_of_ble_eq_true rfl⟩ 37 rfl ?_
              refine z_top (b := .int (iI 68)) rfl ?_
              refine z_SRz (r := .int (iI (bZ (fitB (sgC n tx (2 + k)) 68)))) (rest := []) C (m_fits l G E (sgC n tx (2 + k)) 68 (by omega) (by omega)) kS_X2_39 ⟨Nat.le_of_ble_eq_true rfl, Nat.le_of_ble_eq_true rfl⟩ (gP_nil) hK zr_blind (zr_of hZ va_S.rf) rfl hl.1 rfl (Nat.le_of_ble_eq_true rfl) dX2_endOfOrder_37 ⟨Nat.le_of_ble_eq_true rfl, Nat.le_of_ble_eq_true rfl⟩ 40 rfl ?_
              refine z_ifb_ne C dX2_endOfOrder_40 50 43 (by decide) rfl (fun c40 => ?_) (fun c40 => ?_)
              · skip
                have f2 := c40
                refine z_iinc C hl dX2_endOfOrder_50 53 rfl 0 rfl (z := 3) (by omega) (by decide) (lv' := [(4, .int (iI (3))), (3, .ref (E.1 2)), (2, .int (iI (sgC n tx k))), (0, .ref (o)), (1, .int (iI (k)))]) rfl (fun ls hl => ?_)
                refine z_goto C dX2_endOfOrder_53 14 (by decide) ?_
                refine z_il C hl dX2_endOfOrder_14 0 rfl 16 rfl ?_
                refine z_al_n C hl dX2_endOfOrder_16 1 rfl 17 rfl ?_
                refine z_VRs (E := E) (r := .int (iI (sLen 2))) (rest := [.int (iI (3))]) C (by decide) rfl (m_length l G E 2  (by decide) ) kV_X2_31 ⟨Nat.le_of_ble_eq_true rfl, Nat.le_of_ble_eq_true rfl⟩ hK hZ va_S.rf rfl hl.1 rfl (Nat.le_of_ble_eq_true rfl) dX2_endOfOrder_17 ⟨Nat.le_of_ble_eq_true rfl, Nat.le_of_ble_eq_true rfl⟩ 20 rfl ?_
                refine z_top (b := .int (iI 5)) rfl ?_
                refine z_icmp_ge C dX2_endOfOrder_20 56 23 (by decide) rfl (by omega) (fun c20 => ?_) (fun c20 => ?_)
                · exfalso; omega
                · skip
                  refine z_al_n C hl dX2_endOfOrder_23 3 rfl 24 rfl ?_
                  refine z_il_n C hl dX2_endOfOrder_24 4 rfl 25 rfl ?_
                  refine z_il C hl dX2_endOfOrder_25 0 rfl 27 rfl ?_
                  refine z_iadd C dX2_endOfOrder_27 28 rfl (3 + k) (by omega) ?_
                  refine z_VR (r := .int (iI (sgC n tx (3 + k)))) (rest := []) C (m_signAt l G o sg n tx (3 + k) wt (by omega)) kV_X2_23 ⟨Nat.le_of_ble_eq_true rfl, Nat.le_of_ble_eq_true rfl⟩ hP hK 0 rfl rfl rfl hl.1 rfl (Nat.le_of_ble_eq_true rfl) dX2_endOfOrder_28 ⟨Nat.le_of_ble_eq_true rfl, Nat.le_of_ble_eq_true rfl⟩ 31 rfl ?_
                  have r28 := sgC_rng wt (3 + k)
                  refine z_al_n C hl dX2_endOfOrder_31 1 rfl 32 rfl ?_
                  refine z_il C hl dX2_endOfOrder_32 0 rfl 34 rfl ?_
                  refine z_VRs (E := E) (r := .int (iI (sCh 2 3))) (rest := [.int (iI (sgC n tx (3 + k)))]) C (by decide) rfl (m_charAt l G E 2 3 (by decide) (by decide)) kV_X2_36 ⟨Nat.le_of_ble_eq_true rfl, Nat.le_of_ble_eq_true rfl⟩ hK hZ va_S.rf rfl hl.1 rfl (Nat.le_of_ble_eq_true rfl) dX2_endOfOrder_34 ⟨Nat.le_of_ble_eq_true rfl, Nat.le_of_ble_eq_true rfl⟩ 37 rfl ?_
                  refine z_top (b := .int (iI 67)) rfl ?_
                  refine z_SRz (r := .int (iI (bZ (fitB (sgC n tx (3 + k)) 67)))) (rest := []) C (m_fits l G E (sgC n tx (3 + k)) 67 (by omega) (by omega)) kS_X2_39 ⟨Nat.le_of_ble_eq_true rfl, Nat.le_of_ble_eq_true rfl⟩ (gP_nil) hK zr_blind (zr_of hZ va_S.rf) rfl hl.1 rfl (Nat.le_of_ble_eq_true rfl) dX2_endOfOrder_37 ⟨Nat.le_of_ble_eq_true rfl, Nat.le_of_ble_eq_true rfl⟩ 40 rfl ?_
                  refine z_ifb_ne C dX2_endOfOrder_40 50 43 (by decide) rfl (fun c40 => ?_) (fun c40 => ?_)
                  · skip
                    have f3 := c40
                    refine z_iinc C hl dX2_endOfOrder_50 53 rfl 0 rfl (z := 4) (by omega) (by decide) (lv' := [(4, .int (iI (4))), (3, .ref (E.1 2)), (2, .int (iI (sgC n tx k))), (0, .ref (o)), (1, .int (iI (k)))]) rfl (fun ls hl => ?_)
                    refine z_goto C dX2_endOfOrder_53 14 (by decide) ?_
                    refine z_il C hl dX2_endOfOrder_14 0 rfl 16 rfl ?_
                    refine z_al_n C hl dX2_endOfOrder_16 1 rfl 17 rfl ?_
                    refine z_VRs (E := E) (r := .int (iI (sLen 2))) (rest := [.int (iI (4))]) C (by decide) rfl (m_length l G E 2  (by decide) ) kV_X2_31 ⟨Nat.le_of_ble_eq_true rfl, Nat.le_of_ble_eq_true rfl⟩ hK hZ va_S.rf rfl hl.1 rfl (Nat.le_of_ble_eq_true rfl) dX2_endOfOrder_17 ⟨Nat.le_of_ble_eq_true rfl, Nat.le_of_ble_eq_true rfl⟩ 20 rfl ?_
                    refine z_top (b := .int (iI 5)) rfl ?_
                    refine z_icmp_ge C dX2_endOfOrder_20 56 23 (by decide) rfl (by omega) (fun c20 => ?_) (fun c20 => ?_)
                    · exfalso; omega
                    · skip
                      refine z_al_n C hl dX2_endOfOrder_23 3 rfl 24 rfl ?_
                      refine z_il_n C hl dX2_endOfOrder_24 4 rfl 25 rfl ?_
                      refine z_il C hl dX2_endOfOrder_25 0 rfl 27 rfl ?_
                      refine z_iadd C dX2_endOfOrder_27 28 rfl (4 + k) (by omega) ?_
                      refine z_VR (r := .int (iI (sgC n tx (4 + k)))) (rest := []) C (m_signAt l G o sg n tx (4 + k) wt (by omega)) kV_X2_23 ⟨Nat.le_of_ble_eq_true rfl, Nat.le_of_ble_eq_true rfl⟩ hP hK 0 rfl rfl rfl hl.1 rfl (Nat.le_of_ble_eq_true rfl) dX2_endOfOrder_28 ⟨Nat.le_of_ble_eq_true rfl, Nat.le_of_ble_eq_true rfl⟩ 31 rfl ?_
                      have r28 := sgC_rng wt (4 + k)
                      refine z_al_n C hl dX2_endOfOrder_31 1 rfl 32 rfl ?_
                      refine z_il C hl dX2_endOfOrder_32 0 rfl 34 rfl ?_
                      refine z_VRs (E := E) (r := .int (iI (sCh 2 4))) (rest := [.int (iI (sgC n tx (4 + k)))]) C (by decide) rfl (m_charAt l G E 2 4 (by decide) (by decide)) kV_X2_36 ⟨Nat.le_of_ble_eq_true rfl, Nat.le_of_ble_eq_true rfl⟩ hK hZ va_S.rf rfl hl.1 rfl (Nat.le_of_ble_eq_true rfl) dX2_endOfOrder_34 ⟨Nat.le_of_ble_eq_true rfl, Nat.le_of_ble_eq_true rfl⟩ 37 rfl ?_
                      refine z_top (b := .int (iI 82)) rfl ?_
                      refine z_SRz (r := .int (iI (bZ (fitB (sgC n tx (4 + k)) 82)))) (rest := []) C (m_fits l G E (sgC n tx (4 + k)) 82 (by omega) (by omega)) kS_X2_39 ⟨Nat.le_of_ble_eq_true rfl, Nat.le_of_ble_eq_true rfl⟩ (gP_nil) hK zr_blind (zr_of hZ va_S.rf) rfl hl.1 rfl (Nat.le_of_ble_eq_true rfl) dX2_endOfOrder_37 ⟨Nat.le_of_ble_eq_true rfl, Nat.le_of_ble_eq_true rfl⟩ 40 rfl ?_
                      refine z_ifb_ne C dX2_endOfOrder_40 50 43 (by decide) rfl (fun c40 => ?_) (fun c40 => ?_)
                      · skip
                        have f4 := c40
                        refine z_iinc C hl dX2_endOfOrder_50 53 rfl 0 rfl (z := 5) (by omega) (by decide) (lv' := [(4, .int (iI (5))), (3, .ref (E.1 2)), (2, .int (iI (sgC n tx k))), (0, .ref (o)), (1, .int (iI (k)))]) rfl (fun ls hl => ?_)
                        refine z_goto C dX2_endOfOrder_53 14 (by decide) ?_
                        refine z_il C hl dX2_endOfOrder_14 0 rfl 16 rfl ?_
                        refine z_al_n C hl dX2_endOfOrder_16 1 rfl 17 rfl ?_
                        refine z_VRs (E := E) (r := .int (iI (sLen 2))) (rest := [.int (iI (5))]) C (by decide) rfl (m_length l G E 2  (by decide) ) kV_X2_31 ⟨Nat.le_of_ble_eq_true rfl, Nat.le_of_ble_eq_true rfl⟩ hK hZ va_S.rf rfl hl.1 rfl (Nat.le_of_ble_eq_true rfl) dX2_endOfOrder_17 ⟨Nat.le_of_ble_eq_true rfl, Nat.le_of_ble_eq_true rfl⟩ 20 rfl ?_
                        refine z_top (b := .int (iI 5)) rfl ?_
                        refine z_icmp_ge C dX2_endOfOrder_20 56 23 (by decide) rfl (by omega) (fun c20 => ?_) (fun c20 => ?_)
                        · skip
                          refine z_il_n C hl dX2_endOfOrder_56 4 rfl 57 rfl ?_
                          refine z_al_n C hl dX2_endOfOrder_57 1 rfl 58 rfl ?_
                          refine z_VRs (E := E) (r := .int (iI (sLen 2))) (rest := [.int (iI (k))]) C (by decide) rfl (m_length l G E 2  (by decide) ) kV_X2_31 ⟨Nat.le_of_ble_eq_true rfl, Nat.le_of_ble_eq_true rfl⟩ hK hZ va_S.rf rfl hl.1 rfl (Nat.le_of_ble_eq_true rfl) dX2_endOfOrder_58 ⟨Nat.le_of_ble_eq_true rfl, Nat.le_of_ble_eq_true rfl⟩ 61 rfl ?_
                          refine z_top (b := .int (iI 5)) rfl ?_
                          refine z_iadd C dX2_endOfOrder_61 62 rfl (5 + k) (by omega) ?_
                          refine z_is C hl dX2_endOfOrder_62 64 rfl (by decide) (lv' := [(4, .int (iI (5 + k))), (3, .ref (E.1 2)), (2, .int (iI (sgC n tx k))), (0, .ref (o)), (1, .int (iI (k)))]) rfl (fun ls hl => ?_)
                          refine z_il_n C hl dX2_endOfOrder_64 2 rfl 65 rfl ?_
                          refine z_SRz (r := .int (iI (bZ (decide (97 ≤ (sgC n tx k) ∧ (sgC n tx k) ≤ 102))))) (rest := []) C (m_isColumn l G E (sgC n tx k) (by omega)) kS_X2_43 ⟨Nat.le_of_ble_eq_true rfl, Nat.le_of_ble_eq_true rfl⟩ (gP_nil) hK zr_blind (zr_of hZ va_S.rf) rfl hl.1 rfl (Nat.le_of_ble_eq_true rfl) dX2_endOfOrder_65 ⟨Nat.le_of_ble_eq_true rfl, Nat.le_of_ble_eq_true rfl⟩ 68 rfl ?_
                          refine z_ifb_eq C dX2_endOfOrder_68 87 71 (by decide) rfl (fun c68 => ?_) (fun c68 => ?_)
                          · skip
                            simp only [decide_eq_true_eq, decide_eq_false_iff_not] at c68
                            refine z_il C hl dX2_endOfOrder_87 0 rfl 89 rfl ?_
                            exact z_ri C dX2_endOfOrder_89 (by unfold endZ; rw [if_neg (by omega), if_pos hpl.2, if_neg (by rw [f1]; decide), if_neg (by rw [f2]; decide), if_neg (by rw [f3]; decide), if_neg (by rw [f4]; decide)]; try omega)
                          · exfalso; simp only [decide_eq_true_eq, decide_eq_false_iff_not] at c68; omega
                        · exfalso; omega
                      · skip
                        have f4 := c40
                        refine z_iconst C dX2_endOfOrder_43 44 rfl ?_
                        refine z_il_n C hl dX2_endOfOrder_44 4 rfl 45 rfl ?_
                        refine z_il C hl dX2_endOfOrder_45 0 rfl 47 rfl ?_
                        refine z_iadd C dX2_endOfOrder_47 48 rfl (4 + k) (by omega) ?_
                        refine z_isub C dX2_endOfOrder_48 49 rfl (-5 - k) (by omega) ?_
                        exact z_ri C dX2_endOfOrder_49 (by unfold endZ; rw [if_neg (by omega), if_pos hpl.2, if_neg (by rw [f1]; decide), if_neg (by rw [f2]; decide), if_neg (by rw [f3]; decide), if_pos f4]; try omega)
                  · skip
                    have f3 := c40
                    refine z_iconst C dX2_endOfOrder_43 44 rfl ?_
                    refine z_il_n C hl dX2_endOfOrder_44 4 rfl 45 rfl ?_
                    refine z_il C hl dX2_endOfOrder_45 0 rfl 47 rfl ?_
                    refine z_iadd C dX2_endOfOrder_47 48 rfl (3 + k) (by omega) ?_
                    refine z_isub C dX2_endOfOrder_48 49 rfl (-4 - k) (by omega) ?_
                    exact z_ri C dX2_endOfOrder_49 (by unfold endZ; rw [if_neg (by omega), if_pos hpl.2, if_neg (by rw [f1]; decide), if_neg (by rw [f2]; decide), if_pos f3]; try omega)
              · skip
                have f2 := c40
                refine z_iconst C dX2_endOfOrder_43 44 rfl ?_
                refine z_il_n C hl dX2_endOfOrder_44 4 rfl 45 rfl ?_
                refine z_il C hl dX2_endOfOrder_45 0 rfl 47 rfl ?_
                refine z_iadd C dX2_endOfOrder_47 48 rfl (2 + k) (by omega) ?_
                refine z_isub C dX2_endOfOrder_48 49 rfl (-3 - k) (by omega) ?_
                exact z_ri C dX2_endOfOrder_49 (by unfold endZ; rw [if_neg (by omega), if_pos hpl.2, if_neg (by rw [f1]; decide), if_pos f2]; try omega)
          · skip
            have f1 := c40
            refine z_iconst C dX2_endOfOrder_43 44 rfl ?_
            refine z_il_n C hl dX2_endOfOrder_44 4 rfl 45 rfl ?_
            refine z_il C hl dX2_endOfOrder_45 0 rfl 47 rfl ?_
            refine z_iadd C dX2_endOfOrder_47 48 rfl (1 + k) (by omega) ?_
            refine z_isub C dX2_endOfOrder_48 49 rfl (-2 - k) (by omega) ?_
            exact z_ri C dX2_endOfOrder_49 (by unfold endZ; rw [if_neg (by omega), if_pos hpl.2, if_pos f1]; try omega)
      · exfalso; simp [fitB] at c40; omega
  · skip
    refine z_top (b := .ref (E.1 4)) (by rw [hpl.1]) ?_
    refine z_as_n C hl dX2_endOfOrder_10 11 rfl (by decide) (lv' := [(3, .ref (E.1 4)), (2, .int (iI (sgC n tx k))), (0, .ref (o)), (1, .int (iI (k)))]) rfl (fun ls hl => ?_)
    refine z_iconst C dX2_endOfOrder_11 12 rfl ?_
    refine z_is C hl dX2_endOfOrder_12 14 rfl (by decide) (lv' := [(4, .int (iI (0))), (3, .ref (E.1 4)), (2, .int (iI (sgC n tx k))), (0, .ref (o)), (1, .int (iI (k)))]) rfl (fun ls hl => ?_)
    refine z_il C hl dX2_endOfOrder_14 0 rfl 16 rfl ?_
    refine z_al_n C hl dX2_endOfOrder_16 1 rfl 17 rfl ?_
    refine z_VRs (E := E) (r := .int (iI (sLen 4))) (rest := [.int (iI (0))]) C (by decide) rfl (m_length l G E 4  (by decide) ) kV_X2_31 ⟨Nat.le_of_ble_eq_true rfl, Nat.le_of_ble_eq_true rfl⟩ hK hZ va_S.rf rfl hl.1 rfl (Nat.le_of_ble_eq_true rfl) dX2_endOfOrder_17 ⟨Nat.le_of_ble_eq_true rfl, Nat.le_of_ble_eq_true rfl⟩ 20 rfl ?_
    refine z_top (b := .int (iI 3)) rfl ?_
    refine z_icmp_ge C dX2_endOfOrder_20 56 23 (by decide) rfl (by omega) (fun c20 => ?_) (fun c20 => ?_)
    · exfalso; omega
    · skip
      refine z_al_n C hl dX2_endOfOrder_23 3 rfl 24 rfl ?_
      refine z_il_n C hl dX2_endOfOrder_24 4 rfl 25 rfl ?_
      refine z_il C hl dX2_endOfOrder_25 0 rfl 27 rfl ?_
      refine z_iadd C dX2_endOfOrder_27 28 rfl (k) (by omega) ?_
      refine z_VR (r := .int (iI (sgC n tx k))) (rest := []) C (m_signAt l G o sg n tx k wt (by omega)) kV_X2_23 ⟨Nat.le_of_ble_eq_true rfl, Nat.le_of_ble_eq_true rfl⟩ hP hK 0 rfl rfl rfl hl.1 rfl (Nat.le_of_ble_eq_true rfl) dX2_endOfOrder_28 ⟨Nat.le_of_ble_eq_true rfl, Nat.le_of_ble_eq_true rfl⟩ 31 rfl ?_
      have r28 := sgC_rng wt k
      refine z_al_n C hl dX2_endOfOrder_31 1 rfl 32 rfl ?_
      refine z_il C hl dX2_endOfOrder_32 0 rfl 34 rfl ?_
      refine z_VRs (E := E) (r := .int (iI (sCh 4 0))) (rest := [.int (iI (sgC n tx k))]) C (by decide) rfl (m_charAt l G E 4 0 (by decide) (by decide)) kV_X2_36 ⟨Nat.le_of_ble_eq_true rfl, Nat.le_of_ble_eq_true rfl⟩ hK hZ va_S.rf rfl hl.1 rfl (Nat.le_of_ble_eq_true rfl) dX2_endOfOrder_34 ⟨Nat.le_of_ble_eq_true rfl, Nat.le_of_ble_eq_true rfl⟩ 37 rfl ?_
      refine z_top (b := .int (iI 66)) rfl ?_
      refine z_SRz (r := .int (iI (bZ (fitB (sgC n tx k) 66)))) (rest := []) C (m_fits l G E (sgC n tx k) 66 (by omega) (by omega)) kS_X2_39 ⟨Nat.le_of_ble_eq_true rfl, Nat.le_of_ble_eq_true rfl⟩ (gP_nil) hK zr_blind (zr_of hZ va_S.rf) rfl hl.1 rfl (Nat.le_of_ble_eq_true rfl) dX2_endOfOrder_37 ⟨Nat.le_of_ble_eq_true rfl, Nat.le_of_ble_eq_true rfl⟩ 40 rfl ?_
      refine z_ifb_ne C dX2_endOfOrder_40 50 43 (by decide) rfl (fun c40 => ?_) (fun c40 => ?_)
      · skip
        have f0 := c40
        refine z_iinc C hl dX2_endOfOrder_50 53 rfl 0 rfl (z := 1) (by omega) (by decide) (lv' := [(4, .int (iI (1))), (3, .ref (E.1 4)), (2, .int (iI (sgC n tx k))), (0, .ref (o)), (1, .int (iI (k)))]) rfl (fun ls hl => ?_)
        refine z_goto C dX2_endOfOrder_53 14 (by decide) ?_
        refine z_il C hl dX2_endOfOrder_14 0 rfl 16 rfl ?_
        refine z_al_n C hl dX2_endOfOrder_16 1 rfl 17 rfl ?_
        refine z_VRs (E := E) (r := .int (iI (sLen 4))) (rest := [.int (iI (1))]) C (by decide) rfl (m_length l G E 4  (by decide) ) kV_X2_31 ⟨Nat.le_of_ble_eq_true rfl, Nat.le_of_ble_eq_true rfl⟩ hK hZ va_S.rf rfl hl.1 rfl (Nat.le_of_ble_eq_true rfl) dX2_endOfOrder_17 ⟨Nat.le_of_ble_eq_true rfl, Nat.le_of_ble_eq_true rfl⟩ 20 rfl ?_
        refine z_top (b := .int (iI 3)) rfl ?_
        refine z_icmp_ge C dX2_endOfOrder_20 56 23 (by decide) rfl (by omega) (fun c20 => ?_) (fun c20 => ?_)
        · exfalso; omega
        · skip
          refine z_al_n C hl dX2_endOfOrder_23 3 rfl 24 rfl ?_
          refine z_il_n C hl dX2_endOfOrder_24 4 rfl 25 rfl ?_
          refine z_il C hl dX2_endOfOrder_25 0 rfl 27 rfl ?_
          refine z_iadd C dX2_endOfOrder_27 28 rfl (1 + k) (by omega) ?_
          refine z_VR (r := .int (iI (sgC n tx (1 + k)))) (rest := []) C (m_signAt l G o sg n tx (1 + k) wt (by omega)) kV_X2_23 ⟨Nat.le_of_ble_eq_true rfl, Nat.le_of_ble_eq_true rfl⟩ hP hK 0 rfl rfl rfl hl.1 rfl (Nat.le_of_ble_eq_true rfl) dX2_endOfOrder_28 ⟨Nat.le_of_ble_eq_true rfl, Nat.le_of_ble_eq_true rfl⟩ 31 rfl ?_
          have r28 := sgC_rng wt (1 + k)
          refine z_al_n C hl dX2_endOfOrder_31 1 rfl 32 rfl ?_
          refine z_il C hl dX2_endOfOrder_32 0 rfl 34 rfl ?_
          refine z_VRs (E := E) (r := .int (iI (sCh 4 1))) (rest := [.int (iI (sgC n tx (1 + k)))]) C (by decide) rfl (m_charAt l G E 4 1 (by decide) (by decide)) kV_X2_36 ⟨Nat.le_of_ble_eq_true rfl, Nat.le_of_ble_eq_true rfl⟩ hK hZ va_S.rf rfl hl.1 rfl (Nat.le_of_ble_eq_true rfl) dX2_endOfOrder_34 ⟨Nat.le_of_ble_eq_true rfl, Nat.le_of_ble_eq_true rfl⟩ 37 rfl ?_
          refine z_top (b := .int (iI 87)) rfl ?_
          refine z_SRz (r := .int (iI (bZ (fitB (sgC n tx (1 + k)) 87)))) (rest := []) C (m_fits l G E (sgC n tx (1 + k)) 87 (by omega) (by omega)) kS_X2_39 ⟨Nat.le_of_ble_eq_true rfl, Nat.le_of_ble_eq_true rfl⟩ (gP_nil) hK zr_blind (zr_of hZ va_S.rf) rfl hl.1 rfl (Nat.le_of_ble_eq_true rfl) dX2_endOfOrder_37 ⟨Nat.le_of_ble_eq_true rfl, Nat.le_of_ble_eq_true rfl⟩ 40 rfl ?_
          refine z_ifb_ne C dX2_endOfOrder_40 50 43 (by decide) rfl (fun c40 => ?_) (fun c40 => ?_)
          · skip
            have f1 := c40
            refine z_iinc C hl dX2_endOfOrder_50 53 rfl 0 rfl (z := 2) (by omega) (by decide) (lv' := [(4, .int (iI (2))), (3, .ref (E.1 4)), (2, .int (iI (sgC n tx k))), (0, .ref (o)), (1, .int (iI (k)))]) rfl (fun ls hl => ?_)
            refine z_goto C dX2_endOfOrder_53 14 (by decide) ?_
            refine z_il C hl dX2_endOfOrder_14 0 rfl 16 rfl ?_
            refine z_al_n C hl dX2_endOfOrder_16 1 rfl 17 rfl ?_
            refine z_VRs (E := E) (r := .int (iI (sLen 4))) (rest := [.int (iI (2))]) C (by decide) rfl (m_length l G E 4  (by decide) ) kV_X2_31 ⟨Nat.le_of_ble_eq_true rfl, Nat.le_of_ble_eq_true rfl⟩ hK hZ va_S.rf rfl hl.1 rfl (Nat.le_of_ble_eq_true rfl) dX2_endOfOrder_17 ⟨Nat.le_of_ble_eq_true rfl, Nat.le_of_ble_eq_true rfl⟩ 20 rfl ?_
            refine z_top (b := .int (iI 3)) rfl ?_
            refine z_icmp_ge C dX2_endOfOrder_20 56 23 (by decide) rfl (by omega) (fun c20 => ?_) (fun c20 => ?_)
            · exfalso; omega
            · skip
              refine z_al_n C hl dX2_endOfOrder_23 3 rfl 24 rfl ?_
              refine z_il_n C hl dX2_endOfOrder_24 4 rfl 25 rfl ?_
              refine z_il C hl dX2_endOfOrder_25 0 rfl 27 rfl ?_
              refine z_iadd C dX2_endOfOrder_27 28 rfl (2 + k) (by omega) ?_
              refine z_VR (r := .int (iI (sgC n tx (2 + k)))) (rest := []) C (m_signAt l G o sg n tx (2 + k) wt (by omega)) kV_X2_23 ⟨Nat.le_of_ble_eq_true rfl, Nat.le_of_ble_eq_true rfl⟩ hP hK 0 rfl rfl rfl hl.1 rfl (Nat.le_of_ble_eq_true rfl) dX2_endOfOrder_28 ⟨Nat.le_of_ble_eq_true rfl, Nat.le_of_ble_eq_true rfl⟩ 31 rfl ?_
              have r28 := sgC_rng wt (2 + k)
              refine z_al_n C hl dX2_endOfOrder_31 1 rfl 32 rfl ?_
              refine z_il C hl dX2_endOfOrder_32 0 rfl 34 rfl ?_
              refine z_VRs (E := E) (r := .int (iI (sCh 4 2))) (rest := [.int (iI (sgC n tx (2 + k)))]) C (by decide) rfl (m_charAt l G E 4 2 (by decide) (by decide)) kV_X2_36 ⟨Nat.le_of_ble_eq_true rfl, Nat.le_of_ble_eq_true rfl⟩ hK hZ va_S.rf rfl hl.1 rfl (Nat.le_of_ble_eq_true rfl) dX2_endOfOrder_34 ⟨Nat.le_of_ble_eq_true rfl, Nat.le_of_ble_eq_true rfl⟩ 37 rfl ?_
              refine z_top (b := .int (iI 83)) rfl ?_
              refine z_SRz (r := .int (iI (bZ (fitB (sgC n tx (2 + k)) 83)))) (rest := []) C (m_fits l G E (sgC n tx (2 + k)) 83 (by omega) (by omega)) kS_X2_39 ⟨Nat.le_of_ble_eq_true rfl, Nat.le_of_ble_eq_true rfl⟩ (gP_nil) hK zr_blind (zr_of hZ va_S.rf) rfl hl.1 rfl (Nat.le_of_ble_eq_true rfl) dX2_endOfOrder_37 ⟨Nat.le_of_ble_eq_true rfl, Nat.le_of_ble_eq_true rfl⟩ 40 rfl ?_
              refine z_ifb_ne C dX2_endOfOrder_40 50 43 (by decide) rfl (fun c40 => ?_) (fun c40 => ?_)
              · skip
                have f2 := c40
                refine z_iinc C hl dX2_endOfOrder_50 53 rfl 0 rfl (z := 3) (by omega) (by decide) (lv' := [(4, .int (iI (3))), (3, .ref (E.1 4)), (2, .int (iI (sgC n tx k))), (0, .ref (o)), (1, .int (iI (k)))]) rfl (fun ls hl => ?_)
                refine z_goto C dX2_endOfOrder_53 14 (by decide) ?_
                refine z_il C hl dX2_endOfOrder_14 0 rfl 16 rfl ?_
                refine z_al_n C hl dX2_endOfOrder_16 1 rfl 17 rfl ?_
                refine z_VRs (E := E) (r := .int (iI (sLen 4))) (rest := [.int (iI (3))]) C (by decide) rfl (m_length l G E 4  (by decide) ) kV_X2_31 ⟨Nat.le_of_ble_eq_true rfl, Nat.le_of_ble_eq_true rfl⟩ hK hZ va_S.rf rfl hl.1 rfl (Nat.le_of_ble_eq_true rfl) dX2_endOfOrder_17 ⟨Nat.le_of_ble_eq_true rfl, Nat.le_of_ble_eq_true rfl⟩ 20 rfl ?_
                refine z_top (b := .int (iI 3)) rfl ?_
                refine z_icmp_ge C dX2_endOfOrder_20 56 23 (by decide) rfl (by omega) (fun c20 => ?_) (fun c20 => ?_)
                · skip
                  refine z_il_n C hl dX2_endOfOrder_56 4 rfl 57 rfl ?_
                  refine z_al_n C hl dX2_endOfOrder_57 1 rfl 58 rfl ?_
                  refine z_VRs (E := E) (r := .int (iI (sLen 4))) (rest := [.int (iI (k))]) C (by decide) rfl (m_length l G E 4  (by decide) ) kV_X2_31 ⟨Nat.le_of_ble_eq_true rfl, Nat.le_of_ble_eq_true rfl⟩ hK hZ va_S.rf rfl hl.1 rfl (Nat.le_of_ble_eq_true rfl) dX2_endOfOrder_58 ⟨Nat.le_of_ble_eq_true rfl, Nat.le_of_ble_eq_true rfl⟩ 61 rfl ?_
                  refine z_top (b := .int (iI 3)) rfl ?_
                  refine z_iadd C dX2_endOfOrder_61 62 rfl (3 + k) (by omega) ?_
                  refine z_is C hl dX2_endOfOrder_62 64 rfl (by decide) (lv' := [(4, .int (iI (3 + k))), (3, .ref (E.1 4)), (2, .int (iI (sgC n tx k))), (0, .ref (o)), (1, .int (iI (k)))]) rfl (fun ls hl => ?_)
                  refine z_il_n C hl dX2_endOfOrder_64 2 rfl 65 rfl ?_
                  refine z_SRz (r := .int (iI (bZ (decide (97 ≤ (sgC n tx k) ∧ (sgC n tx k) ≤ 102))))) (rest := []) C (m_isColumn l G E (sgC n tx k) (by omega)) kS_X2_43 ⟨Nat.le_of_ble_eq_true rfl, Nat.le_of_ble_eq_true rfl⟩ (gP_nil) hK zr_blind (zr_of hZ va_S.rf) rfl hl.1 rfl (Nat.le_of_ble_eq_true rfl) dX2_endOfOrder_65 ⟨Nat.le_of_ble_eq_true rfl, Nat.le_of_ble_eq_true rfl⟩ 68 rfl ?_
                  refine z_ifb_eq C dX2_endOfOrder_68 87 71 (by decide) rfl (fun c68 => ?_) (fun c68 => ?_)
                  · skip
                    simp only [decide_eq_true_eq, decide_eq_false_iff_not] at c68
                    refine z_il C hl dX2_endOfOrder_87 0 rfl 89 rfl ?_
                    exact z_ri C dX2_endOfOrder_89 (by unfold endZ; rw [if_neg (by omega), if_neg (by omega), if_pos hpl.2, if_neg (by rw [f1]; decide), if_neg (by rw [f2]; decide)]; try omega)
                  · exfalso; simp only [decide_eq_true_eq, decide_eq_false_iff_not] at c68; omega
                · exfalso; omega
              · skip
                have f2 := c40
                refine z_iconst C dX2_endOfOrder_43 44 rfl ?_
                refine z_il_n C hl dX2_endOfOrder_44 4 rfl 45 rfl ?_
                refine z_il C hl dX2_endOfOrder_45 0 rfl 47 rfl ?_
                refine z_iadd C dX2_endOfOrder_47 48 rfl (2 + k) (by omega) ?_
                refine z_isub C dX2_endOfOrder_48 49 rfl (-3 - k) (by omega) ?_
                exact z_ri C dX2_endOfOrder_49 (by unfold endZ; rw [if_neg (by omega), if_neg (by omega), if_pos hpl.2, if_neg (by rw [f1]; decide), if_pos f2]; try omega)
          · skip
            have f1 := c40
            refine z_iconst C dX2_endOfOrder_43 44 rfl ?_
            refine z_il_n C hl dX2_endOfOrder_44 4 rfl 45 rfl ?_
            refine z_il C hl dX2_endOfOrder_45 0 rfl 47 rfl ?_
            refine z_iadd C dX2_endOfOrder_47 48 rfl (1 + k) (by omega) ?_
            refine z_isub C dX2_endOfOrder_48 49 rfl (-2 - k) (by omega) ?_
            exact z_ri C dX2_endOfOrder_49 (by unfold endZ; rw [if_neg (by omega), if_neg (by omega), if_pos hpl.2, if_pos f1]; try omega)
      · exfalso; simp [fitB] at c40; omega
  · skip
    refine z_top (b := .ref (E.1 5)) (by rw [hpl.1]) ?_
    refine z_as_n C hl dX2_endOfOrder_10 11 rfl (by decide) (lv' := [(3, .ref (E.1 5)), (2, .int (iI (sgC n tx k))), (0, .ref (o)), (1, .int (iI (k)))]) rfl (fun ls hl => ?_)
    refine z_iconst C dX2_endOfOrder_11 12 rfl ?_
    refine z_is C hl dX2_endOfOrder_12 14 rfl (by decide) (lv' := [(4, .int (iI (0))), (3, .ref (E.1 5)), (2, .int (iI (sgC n tx k))), (0, .ref (o)), (1, .int (iI (k)))]) rfl (fun ls hl => ?_)
    refine z_il C hl dX2_endOfOrder_14 0 rfl 16 rfl ?_
    refine z_al_n C hl dX2_endOfOrder_16 1 rfl 17 rfl ?_
    refine z_VRs (E := E) (r := .int (iI (sLen 5))) (rest := [.int (iI (0))]) C (by decide) rfl (m_length l G E 5  (by decide) ) kV_X2_31 ⟨Nat.le_of_ble_eq_true rfl, Nat.le_of_ble_eq_true rfl⟩ hK hZ va_S.rf rfl hl.1 rfl (Nat.le_of_ble_eq_true rfl) dX2_endOfOrder_17 ⟨Nat.le_of_ble_eq_true rfl, Nat.le_of_ble_eq_true rfl⟩ 20 rfl ?_
    refine z_top (b := .int (iI 1)) rfl ?_
    refine z_icmp_ge C dX2_endOfOrder_20 56 23 (by decide) rfl (by omega) (fun c20 => ?_) (fun c20 => ?_)
    · exfalso; omega
    · skip
      refine z_al_n C hl dX2_endOfOrder_23 3 rfl 24 rfl ?_
      refine z_il_n C hl dX2_endOfOrder_24 4 rfl 25 rfl ?_
      refine z_il C hl dX2_endOfOrder_25 0 rfl 27 rfl ?_
      refine z_iadd C dX2_endOfOrder_27 28 rfl (k) (by omega) ?_
      refine z_VR (r := .int (iI (sgC n tx k))) (rest := []) C (m_signAt l G o sg n tx k wt (by omega)) kV_X2_23 ⟨Nat.le_of_ble_eq_true rfl, Nat.le_of_ble_eq_true rfl⟩ hP hK 0 rfl rfl rfl hl.1 rfl (Nat.le_of_ble_eq_true rfl) dX2_endOfOrder_28 ⟨Nat.le_of_ble_eq_true rfl, Nat.le_of_ble_eq_true rfl⟩ 31 rfl ?_
      have r28 := sgC_rng wt k
      refine z_al_n C hl dX2_endOfOrder_31 1 rfl 32 rfl ?_
      refine z_il C hl dX2_endOfOrder_32 0 rfl 34 rfl ?_
      refine z_VRs (E := E) (r := .int (iI (sCh 5 0))) (rest := [.int (iI (sgC n tx k))]) C (by decide) rfl (m_charAt l G E 5 0 (by decide) (by decide)) kV_X2_36 ⟨Nat.le_of_ble_eq_true rfl, Nat.le_of_ble_eq_true rfl⟩ hK hZ va_S.rf rfl hl.1 rfl (Nat.le_of_ble_eq_true rfl) dX2_endOfOrder_34 ⟨Nat.le_of_ble_eq_true rfl, Nat.le_of_ble_eq_true rfl⟩ 37 rfl ?_
      refine z_top (b := .int (iI 119)) rfl ?_
      refine z_SRz (r := .int (iI (bZ (fitB (sgC n tx k) 119)))) (rest := []) C (m_fits l G E (sgC n tx k) 119 (by omega) (by omega)) kS_X2_39 ⟨Nat.le_of_ble_eq_true rfl, Nat.le_of_ble_eq_true rfl⟩ (gP_nil) hK zr_blind (zr_of hZ va_S.rf) rfl hl.1 rfl (Nat.le_of_ble_eq_true rfl) dX2_endOfOrder_37 ⟨Nat.le_of_ble_eq_true rfl, Nat.le_of_ble_eq_true rfl⟩ 40 rfl ?_
      refine z_ifb_ne C dX2_endOfOrder_40 50 43 (by decide) rfl (fun c40 => ?_) (fun c40 => ?_)
      · skip
        have f0 := c40
        refine z_iinc C hl dX2_endOfOrder_50 53 rfl 0 rfl (z := 1) (by omega) (by decide) (lv' := [(4, .int (iI (1))), (3, .ref (E.1 5)), (2, .int (iI (sgC n tx k))), (0, .ref (o)), (1, .int (iI (k)))]) rfl (fun ls hl => ?_)
        refine z_goto C dX2_endOfOrder_53 14 (by decide) ?_
        refine z_il C hl dX2_endOfOrder_14 0 rfl 16 rfl ?_
        refine z_al_n C hl dX2_endOfOrder_16 1 rfl 17 rfl ?_
        refine z_VRs (E := E) (r := .int (iI (sLen 5))) (rest := [.int (iI (1))]) C (by decide) rfl (m_length l G E 5  (by decide) ) kV_X2_31 ⟨Nat.le_of_ble_eq_true rfl, Nat.le_of_ble_eq_true rfl⟩ hK hZ va_S.rf rfl hl.1 rfl (Nat.le_of_ble_eq_true rfl) dX2_endOfOrder_17 ⟨Nat.le_of_ble_eq_true rfl, Nat.le_of_ble_eq_true rfl⟩ 20 rfl ?_
        refine z_top (b := .int (iI 1)) rfl ?_
        refine z_icmp_ge C dX2_endOfOrder_20 56 23 (by decide) rfl (by omega) (fun c20 => ?_) (fun c20 => ?_)
        · skip
          refine z_il_n C hl dX2_endOfOrder_56 4 rfl 57 rfl ?_
          refine z_al_n C hl dX2_endOfOrder_57 1 rfl 58 rfl ?_
          refine z_VRs (E := E) (r := .int (iI (sLen 5))) (rest := [.int (iI (k))]) C (by decide) rfl (m_length l G E 5  (by decide) ) kV_X2_31 ⟨Nat.le_of_ble_eq_true rfl, Nat.le_of_ble_eq_true rfl⟩ hK hZ va_S.rf rfl hl.1 rfl (Nat.le_of_ble_eq_true rfl) dX2_endOfOrder_58 ⟨Nat.le_of_ble_eq_true rfl, Nat.le_of_ble_eq_true rfl⟩ 61 rfl ?_
          refine z_top (b := .int (iI 1)) rfl ?_
          refine z_iadd C dX2_endOfOrder_61 62 rfl (1 + k) (by omega) ?_
          refine z_is C hl dX2_endOfOrder_62 64 rfl (by decide) (lv' := [(4, .int (iI (1 + k))), (3, .ref (E.1 5)), (2, .int (iI (sgC n tx k))), (0, .ref (o)), (1, .int (iI (k)))]) rfl (fun ls hl => ?_)
          refine z_il_n C hl dX2_endOfOrder_64 2 rfl 65 rfl ?_
          refine z_SRz (r := .int (iI (bZ (decide (97 ≤ (sgC n tx k) ∧ (sgC n tx k) ≤ 102))))) (rest := []) C (m_isColumn l G E (sgC n tx k) (by omega)) kS_X2_43 ⟨Nat.le_of_ble_eq_true rfl, Nat.le_of_ble_eq_true rfl⟩ (gP_nil) hK zr_blind (zr_of hZ va_S.rf) rfl hl.1 rfl (Nat.le_of_ble_eq_true rfl) dX2_endOfOrder_65 ⟨Nat.le_of_ble_eq_true rfl, Nat.le_of_ble_eq_true rfl⟩ 68 rfl ?_
          refine z_ifb_eq C dX2_endOfOrder_68 87 71 (by decide) rfl (fun c68 => ?_) (fun c68 => ?_)
          · skip
            simp only [decide_eq_true_eq, decide_eq_false_iff_not] at c68
            refine z_il C hl dX2_endOfOrder_87 0 rfl 89 rfl ?_
            exact z_ri C dX2_endOfOrder_89 (by simp [fitB] at f0; unfold endZ; rw [if_neg hpl.2.1, if_neg hpl.2.2.1, if_neg hpl.2.2.2, if_pos f0])
          · exfalso; simp only [decide_eq_true_eq, decide_eq_false_iff_not] at c68; omega
        · exfalso; omega
      · skip
        have f0 := c40
        refine z_iconst C dX2_endOfOrder_43 44 rfl ?_
        refine z_il_n C hl dX2_endOfOrder_44 4 rfl 45 rfl ?_
        refine z_il C hl dX2_endOfOrder_45 0 rfl 47 rfl ?_
        refine z_iadd C dX2_endOfOrder_47 48 rfl (k) (by omega) ?_
        refine z_isub C dX2_endOfOrder_48 49 rfl (-1 - k) (by omega) ?_
        exact z_ri C dX2_endOfOrder_49 (by simp [fitB] at f0; unfold endZ; rw [if_neg hpl.2.1, if_neg hpl.2.2.1, if_neg hpl.2.2.2, if_neg f0])

set_option maxHeartbeats 4000000 in
set_option maxRecDepth 100000 in
theorem m_findFault (l : Launch) (G : gT) (E : eT) (o sg : Nat) (n : Int) (tx : Int → Int) (wt : Ot n tx) : MR l G yX2_findFault cX2_findFault 4 (some .int) 7 [.ref (o)] [[orO G o sg n], [arC G sg 60 tx]] (ZR E) (.int (iI (fltZ n (sgC n tx)))) := by
  refine enterR (own := RX2) (by decide +kernel) rfl (Nat.le_of_ble_eq_true rfl) ?_
  intro p e s m below meth c C hP hK hZ ls hl
  have hl : lv_has ls 4 [(0, .ref (o))] := hl
  have hn := wt.1
  refine z_iconst C dX2_findFault_0 1 rfl ?_
  refine z_is_n C hl dX2_findFault_1 2 rfl (by decide) (lv' := [(1, .int (iI (0))), (0, .ref (o))]) rfl (fun ls hl => ?_)
  refine z_iconst C dX2_findFault_2 3 rfl ?_
  refine z_is_n C hl dX2_findFault_3 4 rfl (by decide) (lv' := [(2, .int (iI (0))), (1, .int (iI (0))), (0, .ref (o))]) rfl (fun ls hl => ?_)
  have L4 : ∀ (fu : Nat) (a : Int) (k : Int) (h1 : 0 ≤ k ∧ 2 * k ≤ a ∧ a ≤ n) (h2 : fltN n (sgC n tx) (61 - k).toNat a = fltZ n (sgC n tx)) (hm : 61 - k < (fu : Int)) (ls : Array Slot) (hl : lv_has ls 4 [(2, .int (iI (k))), (1, .int (iI (a))), (0, .ref (o))]), W p l e (rmN 7) s m [.ref (o)].toArray below meth c s.heap [] 0 0 (MQ below (QR (.int (iI (fltZ n (sgC n tx))))) [.ref (o)].toArray s 0 0 (fun _ => False)) (F0 m 4 ls []) := by
    intro fu
    induction fu with
    | zero => intro a k h1 h2 hm ls hl; exfalso; omega
    | succ fu ih =>
      intro a k h1 h2 hm ls hl
      have ih4 := ih
      refine z_il_n C hl dX2_findFault_4 0 rfl 5 rfl ?_
      refine z_bipush C dX2_findFault_5 (by decide) 7 rfl ?_
      refine z_icmp_gt C dX2_findFault_7 57 10 (by decide) rfl (by omega) (fun c7 => ?_) (fun c7 => ?_)
      · exfalso; omega
      · skip
        refine z_al_n C hl dX2_findFault_10 2 rfl 11 rfl ?_
        refine z_il_n C hl dX2_findFault_11 1 rfl 12 rfl ?_
        refine z_VRz (r := .int (iI (endZ (sgC n tx) a))) (rest := []) C (m_endOfOrder l G E o sg n tx a wt (by omega)) kV_X2_19 ⟨Nat.le_of_ble_eq_true rfl, Nat.le_of_ble_eq_true rfl⟩ hP hK zr_blind (zr_of hZ va_S.rf) 0 rfl rfl rfl hl.1 rfl (Nat.le_of_ble_eq_true rfl) dX2_findFault_12 ⟨Nat.le_of_ble_eq_true rfl, Nat.le_of_ble_eq_true rfl⟩ 15 rfl ?_
        have e12 := endZ_rng (sgC n tx) a (by omega)
        refine z_is_n C hl dX2_findFault_15 16 rfl (by decide) (lv' := [(3, .int (iI (endZ (sgC n tx) a))), (2, .int (iI (k))), (1, .int (iI (a))), (0, .ref (o))]) rfl (fun ls hl => ?_)
        refine z_il_n C hl dX2_findFault_16 0 rfl 17 rfl ?_
        refine z_if_ge C dX2_findFault_17 24 20 (by decide) rfl (by omega) (fun c17 => ?_) (fun c17 => ?_)
        · skip
          refine z_il_n C hl dX2_findFault_24 0 rfl 25 rfl ?_
          refine z_al_n C hl dX2_findFault_25 3 rfl 26 rfl ?_
          refine z_get C hP hK fl_X2_15 0 rfl rfl dX2_findFault_26 29 rfl ?_
          refine z_icmp_lt C dX2_findFault_29 35 32 (by decide) rfl (by omega) (fun c29 => ?_) (fun c29 => ?_)
          · skip
            refine z_al_n C hl dX2_findFault_35 3 rfl 36 rfl ?_
            refine z_il_n C hl dX2_findFault_36 0 rfl 37 rfl ?_
            refine z_VR (r := .int (iI (sgC n tx (endZ (sgC n tx) a)))) (rest := []) C (m_signAt l G o sg n tx (endZ (sgC n tx) a) wt (by omega)) kV_X2_23 ⟨Nat.le_of_ble_eq_true rfl, Nat.le_of_ble_eq_true rfl⟩ hP hK 0 rfl rfl rfl hl.1 rfl (Nat.le_of_ble_eq_true rfl) dX2_findFault_37 ⟨Nat.le_of_ble_eq_true rfl, Nat.le_of_ble_eq_true rfl⟩ 40 rfl ?_
            have r37 := sgC_rng wt (endZ (sgC n tx) a)
            refine z_bipush C dX2_findFault_40 (by decide) 42 rfl ?_
            refine z_icmp_eq C dX2_findFault_42 47 45 (by decide) rfl (by omega) (fun c42 => ?_) (fun c42 => ?_)
            · skip
              refine z_il_n C hl dX2_findFault_47 0 rfl 48 rfl ?_
              refine z_iconst C dX2_findFault_48 49 rfl ?_
              refine z_iadd C dX2_findFault_49 50 rfl (1 + endZ (sgC n tx) a) (by omega) ?_
              refine z_is_n C hl dX2_findFault_50 51 rfl (by decide) (lv' := [(1, .int (iI (1 + endZ (sgC n tx) a))), (3, .int (iI (endZ (sgC n tx) a))), (2, .int (iI (k))), (0, .ref (o))]) rfl (fun ls hl => ?_)
              refine z_iinc C hl dX2_findFault_51 54 rfl 2 rfl (z := 1 + k) (by omega) (by decide) (lv' := [(2, .int (iI (1 + k))), (1, .int (iI (1 + endZ (sgC n tx) a))), (3, .int (iI (endZ (sgC n tx) a))), (0, .ref (o))]) rfl (fun ls hl => ?_)
              refine z_goto C dX2_findFault_54 4 (by decide) ?_
              exact ih4 (1 + endZ (sgC n tx) a) (1 + k) (by omega) (by rw [← h2, fltN_1 (k := 61 - k) (by omega), if_neg (by omega), if_neg (by omega), if_neg (by omega), show 61 - k - 1 = 61 - (1 + k) by omega]) (by omega) ls (lv_sub hl [0, 1, 3] rfl)
            · skip
              refine z_il_n C hl dX2_findFault_45 0 rfl 46 rfl ?_
              exact z_ri C dX2_findFault_46 (by rw [← h2, fltN_1 (k := 61 - k) (by omega), if_neg (by omega), if_neg (by omega), if_pos (by omega)])
          · skip
            refine z_bipush C dX2_findFault_32 (by decide) 34 rfl ?_
            exact z_ri C dX2_findFault_34 (by rw [← h2, fltN_1 (k := 61 - k) (by omega), if_neg (by omega), if_pos (by omega)])
        · skip
          refine z_iconst C dX2_findFault_20 21 rfl ?_
          refine z_il_n C hl dX2_findFault_21 0 rfl 22 rfl ?_
          refine z_isub C dX2_findFault_22 23 rfl (-1 - endZ (sgC n tx) a) (by omega) ?_
          exact z_ri C dX2_findFault_23 (by rw [← h2, fltN_1 (k := 61 - k) (by omega), if_pos (by omega)])
  exact L4 (Int.toNat (61 - 0) + 1) 0 0 (by omega) (rfl) (by omega) ls (lv_sub hl [0, 1, 2] rfl)

set_option maxHeartbeats 4000000 in
set_option maxRecDepth 100000 in
theorem m_append (l : Launch) (G : gT) (o sg : Nat) (n : Int) (tx : Int → Int) (x : Int) (wt : Ot n tx) (hx : 0 ≤ x ∧ x < 65536) (hD : gD ([[orO G o sg n], [arC G sg 60 tx]] : List va_W).flatten) : MW l G yX2_append cX2_append 2 (some .int) 0 [.ref (o), .int (iI (x))] [[orO G o sg n], [arC G sg 60 tx]] [[orO G o sg (apN n)], [arC G sg 60 (apT n tx x)]] ZT (some (.int (iI (apR n)))) := by
  refine enterW (own := RX2) (by decide +kernel) rfl (Nat.le_of_ble_eq_true rfl) hD ?_
  intro p e s m below meth c C hW hK hZ ls hl
  have hl : lv_has ls 2 [(0, .ref (o)), (1, .int (iI (x)))] := hl
  have hn := wt.1
  refine z_al_n C hl dX2_append_0 0 rfl 1 rfl ?_
  refine z_get C hW.1 hK fl_X2_15 0 rfl rfl dX2_append_1 4 rfl ?_
  refine z_if_lt C dX2_append_4 19 7 (by decide) rfl (by omega) (fun c4 => ?_) (fun c4 => ?_)
  · exfalso; omega
  · skip
    refine z_al_n C hl dX2_append_7 0 rfl 8 rfl ?_
    refine z_get C hW.1 hK fl_X2_15 0 rfl rfl dX2_append_8 11 rfl ?_
    refine z_al_n C hl dX2_append_11 0 rfl 12 rfl ?_
    refine z_get C hW.1 hK fl_X2_9 0 rfl rfl dX2_append_12 15 rfl ?_
    refine z_alen C hW.1 hK 1 2 rfl rfl (60) rfl dX2_append_15 16 rfl ?_
    refine z_icmp_lt C dX2_append_16 22 19 (by decide) rfl (by omega) (fun c16 => ?_) (fun c16 => ?_)
    · skip
      refine z_al_n C hl dX2_append_22 0 rfl 23 rfl ?_
      refine z_get C hW.1 hK fl_X2_9 0 rfl rfl dX2_append_23 26 rfl ?_
      refine z_al_n C hl dX2_append_26 0 rfl 27 rfl ?_
      refine z_get C hW.1 hK fl_X2_15 0 rfl rfl dX2_append_27 30 rfl ?_
      refine z_il_n C hl dX2_append_30 1 rfl 31 rfl ?_
      refine z_iasC C (tx) hW hK 1 rfl (by omega) (by decide) (by omega) dX2_append_31 32 rfl (rs' := [[orO G o sg n], [arC G sg 60 (updZ tx n x)]]) rfl (fun H locs hW => ?_)
      refine z_al_n C hl dX2_append_32 0 rfl 33 rfl ?_
      refine z_dup C dX2_append_33 rfl 34 rfl ?_
      refine z_get C hW.1 hK fl_X2_15 0 rfl rfl dX2_append_34 37 rfl ?_
      refine z_iconst C dX2_append_37 38 rfl ?_
      refine z_iadd C dX2_append_38 39 rfl (1 + n) (by omega) ?_
      refine z_put C hW hK fl_X2_15 fc_X2_1 0 rfl (rfl) (rfl) (Nat.le_of_ble_eq_true rfl) dX2_append_39 42 rfl (rs' := [[(o, .inr (2, [.ref (sg), .int (iI (1 + n))]))], [arC G sg 60 (updZ tx n x)]]) rfl (fun H locs hW => ?_)
      refine z_al_n C hl dX2_append_42 0 rfl 43 rfl ?_
      refine z_get C hW.1 hK fl_X2_15 0 rfl rfl dX2_append_43 46 rfl ?_
      have e1 : apR n = 1 + n := by unfold apR; rw [if_neg (by omega)]
      have e2 : apN n = 1 + n := by unfold apN; rw [if_neg (by omega)]
      have e3 : apT n tx x = updZ tx n x := by unfold apT; rw [if_neg (by omega)]
      rw [e1, e2, e3]
      exact z_wi C hW dX2_append_46 rfl rfl
    · skip
      refine z_bipush C dX2_append_19 (by decide) 21 rfl ?_
      have e1 : apR n = -3 := by unfold apR; rw [if_pos (by omega)]
      have e2 : apN n = n := by unfold apN; rw [if_pos (by omega)]
      have e3 : apT n tx x = tx := by unfold apT; rw [if_pos (by omega)]
      rw [e1, e2, e3]
      exact z_wi C hW dX2_append_21 rfl rfl

set_option maxHeartbeats 4000000 in
set_option maxRecDepth 100000 in
theorem m_removeAll (l : Launch) (G : gT) (o sg : Nat) (n : Int) (tx : Int → Int) (wt : Ot n tx) (hD : gD ([[orO G o sg n], [arC G sg 60 tx]] : List va_W).flatten) : MW l G yX2_removeAll cX2_removeAll 2 (some .int) 0 [.ref (o)] [[orO G o sg n], [arC G sg 60 tx]] [[orO G o sg 0], [arC G sg 60 tx]] ZT (some (.int (iI (n)))) := by
  refine enterW (own := RX2) (by decide +kernel) rfl (Nat.le_of_ble_eq_true rfl) hD ?_
  intro p e s m below meth c C hW hK hZ ls hl
  have hl : lv_has ls 2 [(0, .ref (o))] := hl
  have hn := wt.1
  refine z_al_n C hl dX2_removeAll_0 0 rfl 1 rfl ?_
  refine z_get C hW.1 hK fl_X2_15 0 rfl rfl dX2_removeAll_1 4 rfl ?_
  refine z_is_n C hl dX2_removeAll_4 5 rfl (by decide) (lv' := [(1, .int (iI (n))), (0, .ref (o))]) rfl (fun ls hl => ?_)
  refine z_al_n C hl dX2_removeAll_5 1 rfl 6 rfl ?_
  refine z_iconst C dX2_removeAll_6 7 rfl ?_
  refine z_put C hW hK fl_X2_15 fc_X2_1 0 rfl (rfl) (rfl) (Nat.le_of_ble_eq_true rfl) dX2_removeAll_7 10 rfl (rs' := [[(o, .inr (2, [.ref (sg), .int (iI (0))]))], [arC G sg 60 tx]]) rfl (fun H locs hW => ?_)
  refine z_il_n C hl dX2_removeAll_10 0 rfl 11 rfl ?_
  exact z_wi C hW dX2_removeAll_11 (rfl) rfl
