set_option maxHeartbeats 4000000 in
set_option maxRecDepth 100000 in
theorem m_setOf (l : Launch) (G : gT) (x : Int) (hx : -2147483648 ≤ x ∧ x < 2147483648) : MR l G yX1_setOf cX1_setOf 1 (some .long) 1 [.int (iI (x))] [] ZT (.long (bL (oneS x))) := by
  refine enterR (own := RX1) (by decide +kernel) rfl (Nat.le_of_ble_eq_true rfl) ?_
  intro p e s m below meth c C hP hK hZ ls hl
  have hl : lv_has ls 1 [(0, .int (iI (x)))] := hl
  refine z_il_n C hl dX1_setOf_0 0 rfl 1 rfl ?_
  refine z_NR (r := .int (iI (bZ (decide (0 ≤ x ∧ x < 36))))) (rest := []) C (m_isCell l G (x) (by omega)) kN_X1_104 ⟨Nat.le_of_ble_eq_true rfl, Nat.le_of_ble_eq_true rfl⟩ (gP_nil) hK rfl hl.1 rfl (Nat.le_of_ble_eq_true rfl) dX1_setOf_1 ⟨Nat.le_of_ble_eq_true rfl, Nat.le_of_ble_eq_true rfl⟩ 4 rfl ?_
  refine z_ifb_eq C dX1_setOf_4 13 7 (by decide) rfl (fun c4 => ?_) (fun c4 => ?_)
  · skip
    simp only [decide_eq_true_eq, decide_eq_false_iff_not] at c4
    refine z_lconst0 C dX1_setOf_13 14 rfl ?_
    exact z_rl C dX1_setOf_14 (bL_out (by omega))
  · skip
    simp only [decide_eq_true_eq, decide_eq_false_iff_not] at c4
    refine z_lconst1 C dX1_setOf_7 8 rfl ?_
    refine z_il_n C hl dX1_setOf_8 0 rfl 9 rfl ?_
    refine z_lshl C (v := (bL (oneS x))) dX1_setOf_9 (bL_one (by omega)) 10 rfl ?_
    refine z_goto C dX1_setOf_10 14 (by decide) ?_
    exact z_rl C dX1_setOf_14 (rfl)

set_option maxHeartbeats 4000000 in
set_option maxRecDepth 100000 in
theorem m_beside (l : Launch) (G : gT) (S : Int → Bool) (d : Int) (hd : 0 ≤ d ∧ d < 4) : MR l G yX1_beside cX1_beside 3 (some .long) 0 [.long (bL (S)), .int (iI (d))] [] ZT (.long (bL (imgS d S))) := by
  refine enterR (own := RX1) (by decide +kernel) rfl (Nat.le_of_ble_eq_true rfl) ?_
  intro p e s m below meth c C hP hK hZ ls hl
  have hl : lv_has ls 3 [(0, .long (bL (S))), (2, .int (iI (d)))] := hl
  refine z_il_n C hl dX1_beside_0 1 rfl 1 rfl ?_
  have hsw1 : (d) = 0 ∨ (d) = 1 ∨ (d) = 2 ∨ (d) = 3 ∨ ((d) < 0 ∨ 3 < (d)) := by omega
  rcases hsw1 with h1 | h1 | h1 | h1 | h1
  · skip
    refine z_swIn C dX1_beside_1 (by omega) (by omega) 31 32 (by rw [h1]; rfl) (by decide) ?_
    refine z_ll_n C hl dX1_beside_32 0 rfl 33 rfl ?_
    refine z_ldc2 C qc465 dX1_beside_33 36 rfl ?_
    refine z_land C dX1_beside_36 37 rfl ?_
    refine z_iconst C dX1_beside_37 38 rfl ?_
    refine z_lshl C (v := (bL (imgS 0 S))) dX1_beside_38 (bsd0 S) 39 rfl ?_
    exact z_rl C dX1_beside_39 (by rw [h1])
  · skip
    refine z_swIn C dX1_beside_1 (by omega) (by omega) 39 40 (by rw [h1]; rfl) (by decide) ?_
    refine z_ll_n C hl dX1_beside_40 0 rfl 41 rfl ?_
    refine z_bipush C dX1_beside_41 (by decide) 43 rfl ?_
    refine z_lshl C (v := (bL S <<< ((iI 6).toInt64 &&& 63))) dX1_beside_43 (rfl) 44 rfl ?_
    refine z_ldc2 C qc466 dX1_beside_44 47 rfl ?_
    refine z_land C dX1_beside_47 48 rfl ?_
    refine z_top (b := .long (bL (imgS 1 S))) (congrArg Value.long (bsd1 S)) ?_
    exact z_rl C dX1_beside_48 (by rw [h1])
  · skip
    refine z_swIn C dX1_beside_1 (by omega) (by omega) 48 49 (by rw [h1]; rfl) (by decide) ?_
    refine z_ll_n C hl dX1_beside_49 0 rfl 50 rfl ?_
    refine z_ldc2 C qc467 dX1_beside_50 53 rfl ?_
    refine z_land C dX1_beside_53 54 rfl ?_
    refine z_iconst C dX1_beside_54 55 rfl ?_
    refine z_lushr C (v := (bL (imgS 2 S))) dX1_beside_55 (bsd2 S) 56 rfl ?_
    exact z_rl C dX1_beside_56 (by rw [h1])
  · skip
    refine z_swIn C dX1_beside_1 (by omega) (by omega) 56 57 (by rw [h1]; rfl) (by decide) ?_
    refine z_ll_n C hl dX1_beside_57 0 rfl 58 rfl ?_
    refine z_bipush C dX1_beside_58 (by decide) 60 rfl ?_
    refine z_lushr C (v := (bL (imgS 3 S))) dX1_beside_60 (bsd3 S) 61 rfl ?_
    exact z_rl C dX1_beside_61 (by rw [h1])
  · skip
    exfalso; omega

set_option maxHeartbeats 4000000 in
set_option maxRecDepth 100000 in
theorem m_wetCells (l : Launch) (G : gT) (x cu : Nat) (q : Nat → Nat) (v : Int → Int) (P D : Int) (t : Int) (w : Wf v) (hpp : 0 ≤ P ∧ P ≤ 1) (hdd : 1 ≤ D ∧ D ≤ 3) (ht : 0 ≤ t ∧ t < 1000000) : MR l G yX1_wetCells cX1_wetCells 3 (some .long) 1 [.ref (x), .int (iI (t))] [[sxO x cu q v P D], [arL G cu 5 (fun k => bL (upS v k))], stW G q v] ZT (.long (bL (wtS v D t))) := by
  refine enterR (own := RX1) (by decide +kernel) rfl (Nat.le_of_ble_eq_true rfl) ?_
  intro p e s m below meth c C hP hK hZ ls hl
  have hl : lv_has ls 3 [(0, .ref (x)), (1, .int (iI (t)))] := hl
  refine z_al_n C hl dX1_wetCells_0 0 rfl 1 rfl ?_
  refine z_get C hP hK fl_X1_15 0 rfl rfl dX1_wetCells_1 4 rfl ?_
  refine z_il_n C hl dX1_wetCells_4 1 rfl 5 rfl ?_
  refine z_VR (r := .int (iI (tideZ v t))) (rest := []) C (m_tideIn l G q v t w (by omega)) kV_X1_98 ⟨Nat.le_of_ble_eq_true rfl, Nat.le_of_ble_eq_true rfl⟩ (gP_rg hP [2] rfl) hK 0 rfl rfl rfl hl.1 rfl (Nat.le_of_ble_eq_true rfl) dX1_wetCells_5 ⟨Nat.le_of_ble_eq_true rfl, Nat.le_of_ble_eq_true rfl⟩ 8 rfl ?_
  have r5 := tideZ_rng w t
  refine z_al_n C hl dX1_wetCells_8 0 rfl 9 rfl ?_
  refine z_get C hP hK fl_X1_36 0 rfl rfl dX1_wetCells_9 12 rfl ?_
  refine z_isub C dX1_wetCells_12 13 rfl (tideZ v t - D) (by omega) ?_
  refine z_iconst C dX1_wetCells_13 14 rfl ?_
  refine z_SR (r := .int (iI (minZ (tideZ v t - D) 4))) (rest := []) C (m_min l G (tideZ v t - D) (4) (by omega) (by omega)) kS_X1_101 ⟨Nat.le_of_ble_eq_true rfl, Nat.le_of_ble_eq_true rfl⟩ (gP_nil) hK rfl hl.1 rfl (Nat.le_of_ble_eq_true rfl) dX1_wetCells_14 ⟨Nat.le_of_ble_eq_true rfl, Nat.le_of_ble_eq_true rfl⟩ 17 rfl ?_
  refine z_is_n C hl dX1_wetCells_17 18 rfl (by decide) (lv' := [(2, .int (iI (minZ (tideZ v t - D) 4))), (0, .ref (x)), (1, .int (iI (t)))]) rfl (fun ls hl => ?_)
  refine z_il_n C hl dX1_wetCells_18 0 rfl 19 rfl ?_
  refine z_if_lt C dX1_wetCells_19 40 22 (by decide) rfl (by unfold minZ; split <;> omega) (fun c19 => ?_) (fun c19 => ?_)
  · skip
    refine z_lconst0 C dX1_wetCells_40 41 rfl ?_
    exact z_rl C dX1_wetCells_41 (wt_neg w (by omega))
  · skip
    refine z_il_n C hl dX1_wetCells_22 0 rfl 23 rfl ?_
    refine z_al_n C hl dX1_wetCells_23 1 rfl 24 rfl ?_
    refine z_get C hP hK fl_X1_9 0 rfl rfl dX1_wetCells_24 27 rfl ?_
    refine z_alen C hP hK 1 1 rfl rfl (5) rfl dX1_wetCells_27 28 rfl ?_
    refine z_icmp_ge C dX1_wetCells_28 40 31 (by decide) rfl (by unfold minZ; split <;> omega) (fun c28 => ?_) (fun c28 => ?_)
    · exfalso; unfold minZ at *; split at c28 <;> omega
    · skip
      refine z_al_n C hl dX1_wetCells_31 1 rfl 32 rfl ?_
      refine z_get C hP hK fl_X1_9 0 rfl rfl dX1_wetCells_32 35 rfl ?_
      refine z_il_n C hl dX1_wetCells_35 0 rfl 36 rfl ?_
      refine z_iaL C (fun k => bL (upS v k)) hP hK 1 rfl (by unfold minZ at *; split at c28 <;> (rename_i hq; first | rw [if_pos hq] at c19 | rw [if_neg hq] at c19) <;> (first | rw [if_pos hq] | rw [if_neg hq]) <;> omega) (by decide) (bL (upS v (minZ (tideZ v t - D) 4))) (rfl) dX1_wetCells_36 37 rfl ?_
      refine z_goto C dX1_wetCells_37 41 (by decide) ?_
      exact z_rl C dX1_wetCells_41 (wt_up w D t)

set_option maxHeartbeats 4000000 in
set_option maxRecDepth 100000 in
theorem m_wreckingCells (l : Launch) (G : gT) (x cu : Nat) (q : Nat → Nat) (v : Int → Int) (P D : Int) (t : Int) (w : Wf v) (hpp : 0 ≤ P ∧ P ≤ 1) (hdd : 1 ≤ D ∧ D ≤ 3) (ht : 0 ≤ t ∧ t < 999999) : MR l G yX1_wreckingCells cX1_wreckingCells 2 (some .long) 2 [.ref (x), .int (iI (t))] [[sxO x cu q v P D], [arL G cu 5 (fun k => bL (upS v k))], stW G q v] ZT (.long (bL (wrS v D t))) := by
  refine enterR (own := RX1) (by decide +kernel) rfl (Nat.le_of_ble_eq_true rfl) ?_
  intro p e s m below meth c C hP hK hZ ls hl
  have hl : lv_has ls 2 [(0, .ref (x)), (1, .int (iI (t)))] := hl
  refine z_al_n C hl dX1_wreckingCells_0 0 rfl 1 rfl ?_
  refine z_get C hP hK fl_X1_54 0 rfl rfl dX1_wreckingCells_1 4 rfl ?_
  refine z_al_n C hl dX1_wreckingCells_4 0 rfl 5 rfl ?_
  refine z_il_n C hl dX1_wreckingCells_5 1 rfl 6 rfl ?_
  refine z_VR (r := .long (bL (wtS v D t))) (rest := [.long (bL (rkS v))]) C (m_wetCells l G x cu q v P D t w hpp hdd (by omega)) kV_X1_72 ⟨Nat.le_of_ble_eq_true rfl, Nat.le_of_ble_eq_true rfl⟩ hP hK 0 rfl rfl rfl hl.1 rfl (Nat.le_of_ble_eq_true rfl) dX1_wreckingCells_6 ⟨Nat.le_of_ble_eq_true rfl, Nat.le_of_ble_eq_true rfl⟩ 9 rfl ?_
  refine z_landS C dX1_wreckingCells_9 10 rfl ?_
  refine z_al_n C hl dX1_wreckingCells_10 0 rfl 11 rfl ?_
  refine z_il_n C hl dX1_wreckingCells_11 1 rfl 12 rfl ?_
  refine z_iconst C dX1_wreckingCells_12 13 rfl ?_
  refine z_iadd C dX1_wreckingCells_13 14 rfl (1 + t) (by omega) ?_
  refine z_VR (r := .long (bL (wtS v D (1 + t)))) (rest := [.long (bL (andS (rkS v) (wtS v D t)))]) C (m_wetCells l G x cu q v P D (1 + t) w hpp hdd (by omega)) kV_X1_72 ⟨Nat.le_of_ble_eq_true rfl, Nat.le_of_ble_eq_true rfl⟩ hP hK 0 rfl rfl rfl hl.1 rfl (Nat.le_of_ble_eq_true rfl) dX1_wreckingCells_14 ⟨Nat.le_of_ble_eq_true rfl, Nat.le_of_ble_eq_true rfl⟩ 17 rfl ?_
  refine z_ldc2 C qc453 dX1_wreckingCells_17 20 rfl ?_
  refine z_lxor C dX1_wreckingCells_20 21 rfl ?_
  refine z_ldifS C dX1_wreckingCells_21 22 rfl ?_
  exact z_rl C dX1_wreckingCells_22 (rfl)

set_option maxHeartbeats 4000000 in
set_option maxRecDepth 100000 in
theorem m_goalsOf (l : Launch) (G : gT) (x cu : Nat) (q : Nat → Nat) (v : Int → Int) (P D : Int) (S Y : Int → Bool) : MR l G yX1_goalsOf cX1_goalsOf 11 (some .long) 1 [.ref (x), .long (bL (S)), .long (bL (Y))] [[sxO x cu q v P D], [arL G cu 5 (fun k => bL (upS v k))], stW G q v] ZT (.long (bL (golS P Y S))) := by
  refine enterR (own := RX1) (by decide +kernel) rfl (Nat.le_of_ble_eq_true rfl) ?_
  intro p e s m below meth c C hP hK hZ ls hl
  have hl : lv_has ls 11 [(0, .ref (x)), (1, .long (bL (S))), (3, .long (bL (Y)))] := hl
  refine z_lconst0 C dX1_goalsOf_0 1 rfl ?_
  refine z_top (b := .long (bL botS)) (congrArg Value.long bL_bot) ?_
  refine z_ls C hl dX1_goalsOf_1 3 rfl (by decide) (lv' := [(5, .long (bL (botS))), (0, .ref (x)), (1, .long (bL (S))), (3, .long (bL (Y)))]) rfl (fun ls hl => ?_)
  refine z_iconst C dX1_goalsOf_3 4 rfl ?_
  refine z_is C hl dX1_goalsOf_4 6 rfl (by decide) (lv' := [(7, .int (iI (0))), (5, .long (bL (botS))), (0, .ref (x)), (1, .long (bL (S))), (3, .long (bL (Y)))]) rfl (fun ls hl => ?_)
  have L6 : ∀ (fu : Nat) (A : Int → Bool) (d : Int) (h1 : 0 ≤ d ∧ d ≤ 4) (h2 : A = gacS P Y S d.toNat) (hm : 4 - d < (fu : Int)) (ls : Array Slot) (hl : lv_has ls 11 [(7, .int (iI (d))), (5, .long (bL (A))), (3, .long (bL (Y))), (1, .long (bL (S))), (0, .ref (x))]), W p l e (rmN 1) s m [.ref (x), .long (bL (S)), .long (bL (Y))].toArray below meth c s.heap [] 0 0 (MQ below (QR (.long (bL (golS P Y S)))) [.ref (x), .long (bL (S)), .long (bL (Y))].toArray s 0 0 (fun _ => False)) (F0 m 6 ls []) := by
    intro fu
    induction fu with
    | zero => intro A d h1 h2 hm ls hl; exfalso; omega
    | succ fu ih =>
      intro A d h1 h2 hm ls hl
      have ih6 := ih
      refine z_il C hl dX1_goalsOf_6 0 rfl 8 rfl ?_
      refine z_iconst C dX1_goalsOf_8 9 rfl ?_
      refine z_icmp_ge C dX1_goalsOf_9 74 12 (by decide) rfl (by omega) (fun c9 => ?_) (fun c9 => ?_)
      · skip
        refine z_ll C hl dX1_goalsOf_74 1 rfl 76 rfl ?_
        exact z_rl C dX1_goalsOf_76 (by rw [h2, show d = 4 by omega]; rfl)
      · skip
        refine z_ll_n C hl dX1_goalsOf_12 3 rfl 13 rfl ?_
        refine z_ll_n C hl dX1_goalsOf_13 2 rfl 14 rfl ?_
        refine z_landS C dX1_goalsOf_14 15 rfl ?_
        refine z_ls C hl dX1_goalsOf_15 17 rfl (by decide) (lv' := [(8, .long (bL (andS S Y))), (7, .int (iI (d))), (5, .long (bL (A))), (3, .long (bL (Y))), (1, .long (bL (S))), (0, .ref (x))]) rfl (fun ls hl => ?_)
        refine z_iconst C dX1_goalsOf_17 18 rfl ?_
        refine z_is C hl dX1_goalsOf_18 20 rfl (by decide) (lv' := [(10, .int (iI (0))), (8, .long (bL (andS S Y))), (7, .int (iI (d))), (5, .long (bL (A))), (3, .long (bL (Y))), (1, .long (bL (S))), (0, .ref (x))]) rfl (fun ls hl => ?_)
        refine z_il C hl dX1_goalsOf_20 0 rfl 22 rfl ?_
        refine z_iconst C dX1_goalsOf_22 23 rfl ?_
        refine z_icmp_ge C dX1_goalsOf_23 68 26 (by decide) rfl (by omega) (fun c23 => ?_) (fun c23 => ?_)
        · exfalso; omega
        · skip
          refine z_ll C hl dX1_goalsOf_26 1 rfl 28 rfl ?_
          refine z_al_n C hl dX1_goalsOf_28 6 rfl 29 rfl ?_
          refine z_get C hP hK fl_X1_47 0 rfl rfl dX1_goalsOf_29 32 rfl ?_
          refine z_ldc2 C qc453 dX1_goalsOf_32 35 rfl ?_
          refine z_lxor C dX1_goalsOf_35 36 rfl ?_
          refine z_ldifS C dX1_goalsOf_36 37 rfl ?_
          refine z_il C hl dX1_goalsOf_37 2 rfl 39 rfl ?_
          refine z_SR (r := .long (bL (imgS d (difS (andS S Y) (oneS (harZ P)))))) (rest := []) C (m_beside l G (difS (andS S Y) (oneS (harZ P))) (d) (by omega)) kS_X1_94 ⟨Nat.le_of_ble_eq_true rfl, Nat.le_of_ble_eq_true rfl⟩ (gP_nil) hK rfl hl.1 rfl (Nat.le_of_ble_eq_true rfl) dX1_goalsOf_39 ⟨Nat.le_of_ble_eq_true rfl, Nat.le_of_ble_eq_true rfl⟩ 42 rfl ?_
          refine z_ll_n C hl dX1_goalsOf_42 4 rfl 43 rfl ?_
          refine z_landS C dX1_goalsOf_43 44 rfl ?_
          refine z_al_n C hl dX1_goalsOf_44 6 rfl 45 rfl ?_
          refine z_get C hP hK fl_X1_51 0 rfl rfl dX1_goalsOf_45 48 rfl ?_
          refine z_ldc2 C qc453 dX1_goalsOf_48 51 rfl ?_
          refine z_lxor C dX1_goalsOf_51 52 rfl ?_
          refine z_ldifS C dX1_goalsOf_52 53 rfl ?_
          refine z_ls C hl dX1_goalsOf_53 55 rfl (by decide) (lv' := [(8, .long (bL (difS (andS (imgS d (difS (andS S Y) (oneS (harZ P)))) Y) (oneS (harZ (1 - P)))))), (10, .int (iI (0))), (7, .int (iI (d))), (5, .long (bL (A))), (3, .long (bL (Y))), (1, .long (bL (S))), (0, .ref (x))]) rfl (fun ls hl => ?_)
          refine z_ll C hl dX1_goalsOf_55 3 rfl 57 rfl ?_
          refine z_ll C hl dX1_goalsOf_57 0 rfl 59 rfl ?_
          refine z_lorS C dX1_goalsOf_59 60 rfl ?_
          refine z_ls C hl dX1_goalsOf_60 62 rfl (by decide) (lv' := [(5, .long (bL (orS A (difS (andS (imgS d (difS (andS S Y) (oneS (harZ P)))) Y) (oneS (harZ (1 - P))))))), (8, .long (bL (difS (andS (imgS d (difS (andS S Y) (oneS (harZ P)))) Y) (oneS (harZ (1 - P)))))), (10, .int (iI (0))), (7, .int (iI (d))), (3, .long (bL (Y))), (1, .long (bL (S))), (0, .ref (x))]) rfl (fun ls hl => ?_)
          refine z_iinc C hl dX1_goalsOf_62 65 rfl 2 rfl (z := 1) (by omega) (by decide) (lv' := [(10, .int (iI (1))), (5, .long (bL (orS A (difS (andS (imgS d (difS (andS S Y) (oneS (harZ P)))) Y) (oneS (harZ (1 - P))))))), (8, .long (bL (difS (andS (imgS d (difS (andS S Y) (oneS (harZ P)))) Y) (oneS (harZ (1 - P)))))), (7, .int (iI (d))), (3, .long (bL (Y))), (1, .long (bL (S))), (0, .ref (x))]) rfl (fun ls hl => ?_)
          refine z_goto C dX1_goalsOf_65 20 (by decide) ?_
          refine z_il C hl dX1_goalsOf_20 0 rfl 22 rfl ?_
          refine z_iconst C dX1_goalsOf_22 23 rfl ?_
          refine z_icmp_ge C dX1_goalsOf_23 68 26 (by decide) rfl (by omega) (fun c23 => ?_) (fun c23 => ?_)
          · exfalso; omega
          · skip
            refine z_ll C hl dX1_goalsOf_26 2 rfl 28 rfl ?_
            refine z_al_n C hl dX1_goalsOf_28 6 rfl 29 rfl ?_
            refine z_get C hP hK fl_X1_47 0 rfl rfl dX1_goalsOf_29 32 rfl ?_
            refine z_ldc2 C qc453 dX1_goalsOf_32 35 rfl ?_
            refine z_lxor C dX1_goalsOf_35 36 rfl ?_
            refine z_ldifS C dX1_goalsOf_36 37 rfl ?_
            refine z_il C hl dX1_goalsOf_37 3 rfl 39 rfl ?_
            refine z_SR (r := .long (bL (imgS d (difS (difS (andS (imgS d (difS (andS S Y) (oneS (harZ P)))) Y) (oneS (harZ (1 - P)))) (oneS (harZ P)))))) (rest := []) C (m_beside l G (difS (difS (andS (imgS d (difS (andS S Y) (oneS (harZ P)))) Y) (oneS (harZ (1 - P)))) (oneS (harZ P))) (d) (by omega)) kS_X1_94 ⟨Nat.le_of_ble_eq_true rfl, Nat.le_of_ble_eq_true rfl⟩ (gP_nil) hK rfl hl.1 rfl (Nat.le_of_ble_eq_true rfl) dX1_goalsOf_39 ⟨Nat.le_of_ble_eq_true rfl, Nat.le_of_ble_eq_true rfl⟩ 42 rfl ?_
            refine z_ll_n C hl dX1_goalsOf_42 4 rfl 43 rfl ?_
            refine z_landS C dX1_goalsOf_43 44 rfl ?_
            refine z_al_n C hl dX1_goalsOf_44 6 rfl 45 rfl ?_
            refine z_get C hP hK fl_X1_51 0 rfl rfl dX1_goalsOf_45 48 rfl ?_
            refine z_ldc2 C qc453 dX1_goalsOf_48 51 rfl ?_
            refine z_lxor C dX1_goalsOf_51 52 rfl ?_
            refine z_ldifS C dX1_goalsOf_52 53 rfl ?_
            refine z_ls C hl dX1_goalsOf_53 55 rfl (by decide) (lv' := [(8, .long (bL (difS (andS (imgS d (difS (difS (andS (imgS d (difS (andS S Y) (oneS (harZ P)))) Y) (oneS (harZ (1 - P)))) (oneS (harZ P)))) Y) (oneS (harZ (1 - P)))))), (10, .int (iI (1))), (5, .long (bL (orS A (difS (andS (imgS d (difS (andS S Y) (oneS (harZ P)))) Y) (oneS (harZ (1 - P))))))), (7, .int (iI (d))), (3, .long (bL (Y))), (1, .long (bL (S))), (0, .ref (x))]) rfl (fun ls hl => ?_)
            refine z_ll C hl dX1_goalsOf_55 2 rfl 57 rfl ?_
            refine z_ll C hl dX1_goalsOf_57 0 rfl 59 rfl ?_
            refine z_lorS C dX1_goalsOf_59 60 rfl ?_
            refine z_ls C hl dX1_goalsOf_60 62 rfl (by decide) (lv' := [(5, .long (bL (orS (orS A (difS (andS (imgS d (difS (andS S Y) (oneS (harZ P)))) Y) (oneS (harZ (1 - P))))) (difS (andS (imgS d (difS (difS (andS (imgS d (difS (andS S Y) (oneS (harZ P)))) Y) (oneS (harZ (1 - P)))) (oneS (harZ P)))) Y) (oneS (harZ (1 - P))))))), (8, .long (bL (difS (andS (imgS d (difS (difS (andS (imgS d (difS (andS S Y) (oneS (harZ P)))) Y) (oneS (harZ (1 - P)))) (oneS (harZ P)))) Y) (oneS (harZ (1 - P)))))), (10, .int (iI (1))), (7, .int (iI (d))), (3, .long (bL (Y))), (1, .long (bL (S))), (0, .ref (x))]) rfl (fun ls hl => ?_)
            refine z_iinc C hl dX1_goalsOf_62 65 rfl 2 rfl (z := 2) (by omega) (by decide) (lv' := [(10, .int (iI (2))), (5, .long (bL (orS (orS A (difS (andS (imgS d (difS (andS S Y) (oneS (harZ P)))) Y) (oneS (harZ (1 - P))))) (difS (andS (imgS d (difS (difS (andS (imgS d (difS (andS S Y) (oneS (harZ P)))) Y) (oneS (harZ (1 - P)))) (oneS (harZ P)))) Y) (oneS (harZ (1 - P))))))), (8, .long (bL (difS (andS (imgS d (difS (difS (andS (imgS d (difS (andS S Y) (oneS (harZ P)))) Y) (oneS (harZ (1 - P)))) (oneS (harZ P)))) Y) (oneS (harZ (1 - P)))))), (7, .int (iI (d))), (3, .long (bL (Y))), (1, .long (bL (S))), (0, .ref (x))]) rfl (fun ls hl => ?_)
            refine z_goto C dX1_goalsOf_65 20 (by decide) ?_
            refine z_il C hl dX1_goalsOf_20 0 rfl 22 rfl ?_
            refine z_iconst C dX1_goalsOf_22 23 rfl ?_
            refine z_icmp_ge C dX1_goalsOf_23 68 26 (by decide) rfl (by omega) (fun c23 => ?_) (fun c23 => ?_)
            · exfalso; omega
            · skip
              refine z_ll C hl dX1_goalsOf_26 2 rfl 28 rfl ?_
              refine z_al_n C hl dX1_goalsOf_28 6 rfl 29 rfl ?_
              refine z_get C hP hK fl_X1_47 0 rfl rfl dX1_goalsOf_29 32 rfl ?_
              refine z_ldc2 C qc453 dX1_goalsOf_32 35 rfl ?_
              refine z_lxor C dX1_goalsOf_35 36 rfl ?_
              refine z_ldifS C dX1_goalsOf_36 37 rfl ?_
              refine z_il C hl dX1_goalsOf_37 3 rfl 39 rfl ?_
              refine z_SR (r := .long (bL (imgS d (difS (difS (andS (imgS d (difS (difS (andS (imgS d (difS (andS S Y) (oneS (harZ P)))) Y) (oneS (harZ (1 - P)))) (oneS (harZ P)))) Y) (oneS (harZ (1 - P)))) (oneS (harZ P)))))) (rest := []) C (m_beside l G (difS (difS (andS (imgS d (difS (difS (andS (imgS d (difS (andS S Y) (oneS (harZ P)))) Y) (oneS (harZ (1 - P)))) (oneS (harZ P)))) Y) (oneS (harZ (1 - P)))) (oneS (harZ P))) (d) (by omega)) kS_X1_94 ⟨Nat.le_of_ble_eq_true rfl, Nat.le_of_ble_eq_true rfl⟩ (gP_nil) hK rfl hl.1 rfl (Nat.le_of_ble_eq_true rfl) dX1_goalsOf_39 ⟨Nat.le_of_ble_eq_true rfl, Nat.le_of_ble_eq_true rfl⟩ 42 rfl ?_
              refine z_ll_n C hl dX1_goalsOf_42 4 rfl 43 rfl ?_
              refine z_landS C dX1_goalsOf_43 44 rfl ?_
              refine z_al_n C hl dX1_goalsOf_44 6 rfl 45 rfl ?_
              refine z_get C hP hK fl_X1_51 0 rfl rfl dX1_goalsOf_45 48 rfl ?_
              refine z_ldc2 C qc453 dX1_goalsOf_48 51 rfl ?_
              refine z_lxor C dX1_goalsOf_51 52 rfl ?_
              refine z_ldifS C dX1_goalsOf_52 53 rfl ?_
              refine z_ls C hl dX1_goalsOf_53 55 rfl (by decide) (lv' := [(8, .long (bL (difS (andS (imgS d (difS (difS (andS (imgS d (difS (difS (andS (imgS d (difS (andS S Y) (oneS (harZ P)))) Y) (oneS (harZ (1 - P)))) (oneS (harZ P)))) Y) (oneS (harZ (1 - P)))) (oneS (harZ P)))) Y) (oneS (harZ (1 - P)))))), (10, .int (iI (2))), (5, .long (bL (orS (orS A (difS (andS (imgS d (difS (andS S Y) (oneS (harZ P)))) Y) (oneS (harZ (1 - P))))) (difS (andS (imgS d (difS (difS (andS (imgS d (difS (andS S Y) (oneS (harZ P)))) Y) (oneS (harZ (1 - P)))) (oneS (harZ P)))) Y) (oneS (harZ (1 - P))))))), (7, .int (iI (d))), (3, .long (bL (Y))), (1, .long (bL (S))), (0, .ref (x))]) rfl (fun ls hl => ?_)
              refine z_ll C hl dX1_goalsOf_55 2 rfl 57 rfl ?_
              refine z_ll C hl dX1_goalsOf_57 0 rfl 59 rfl ?_
              refine z_lorS C dX1_goalsOf_59 60 rfl ?_
              refine z_ls C hl dX1_goalsOf_60 62 rfl (by decide) (lv' := [(5, .long (bL (orS (orS (orS A (difS (andS (imgS d (difS (andS S Y) (oneS (harZ P)))) Y) (oneS (harZ (1 - P))))) (difS (andS (imgS d (difS (difS (andS (imgS d (difS (andS S Y) (oneS (harZ P)))) Y) (oneS (harZ (1 - P)))) (oneS (harZ P)))) Y) (oneS (harZ (1 - P))))) (difS (andS (imgS d (difS (difS (andS (imgS d (difS (difS (andS (imgS d (difS (andS S Y) (oneS (harZ P)))) Y) (oneS (harZ (1 - P)))) (oneS (harZ P)))) Y) (oneS (harZ (1 - P)))) (oneS (harZ P)))) Y) (oneS (harZ (1 - P))))))), (8, .long (bL (difS (andS (imgS d (difS (difS (andS (imgS d (difS (difS (andS (imgS d (difS (andS S Y) (oneS (harZ P)))) Y) (oneS (harZ (1 - P)))) (oneS (harZ P)))) Y) (oneS (harZ (1 - P)))) (oneS (harZ P)))) Y) (oneS (harZ (1 - P)))))), (10, .int (iI (2))), (7, .int (iI (d))), (3, .long (bL (Y))), (1, .long (bL (S))), (0, .ref (x))]) rfl (fun ls hl => ?_)
              refine z_iinc C hl dX1_goalsOf_62 65 rfl 2 rfl (z := 3) (by omega) (by decide) (lv' := [(10, .int (iI (3))), (5, .long (bL (orS (orS (orS A (difS (andS (imgS d (difS (andS S Y) (oneS (harZ P)))) Y) (oneS (harZ (1 - P))))) (difS (andS (imgS d (difS (difS (andS (imgS d (difS (andS S Y) (oneS (harZ P)))) Y) (oneS (harZ (1 - P)))) (oneS (harZ P)))) Y) (oneS (harZ (1 - P))))) (difS (andS (imgS d (difS (difS (andS (imgS d (difS (difS (andS (imgS d (difS (andS S Y) (oneS (harZ P)))) Y) (oneS (harZ (1 - P)))) (oneS (harZ P)))) Y) (oneS (harZ (1 - P)))) (oneS (harZ P)))) Y) (oneS (harZ (1 - P))))))), (8, .long (bL (difS (andS (imgS d (difS (difS (andS (imgS d (difS (difS (andS (imgS d (difS (andS S Y) (oneS (harZ P)))) Y) (oneS (harZ (1 - P)))) (oneS (harZ P)))) Y) (oneS (harZ (1 - P)))) (oneS (harZ P)))) Y) (oneS (harZ (1 - P)))))), (7, .int (iI (d))), (3, .long (bL (Y))), (1, .long (bL (S))), (0, .ref (x))]) rfl (fun ls hl => ?_)
              refine z_goto C dX1_goalsOf_65 20 (by decide) ?_
              refine z_il C hl dX1_goalsOf_20 0 rfl 22 rfl ?_
              refine z_iconst C dX1_goalsOf_22 23 rfl ?_
              refine z_icmp_ge C dX1_goalsOf_23 68 26 (by decide) rfl (by omega) (fun c23 => ?_) (fun c23 => ?_)
              · skip
                refine z_iinc C hl dX1_goalsOf_68 71 rfl 3 rfl (z := 1 + d) (by omega) (by decide) (lv' := [(7, .int (iI (1 + d))), (10, .int (iI (3))), (5, .long (bL (orS (orS (orS A (difS (andS (imgS d (difS (andS S Y) (oneS (harZ P)))) Y) (oneS (harZ (1 - P))))) (difS (andS (imgS d (difS (difS (andS (imgS d (difS (andS S Y) (oneS (harZ P)))) Y) (oneS (harZ (1 - P)))) (oneS (harZ P)))) Y) (oneS (harZ (1 - P))))) (difS (andS (imgS d (difS (difS (andS (imgS d (difS (difS (andS (imgS d (difS (andS S Y) (oneS (harZ P)))) Y) (oneS (harZ (1 - P)))) (oneS (harZ P)))) Y) (oneS (harZ (1 - P)))) (oneS (harZ P)))) Y) (oneS (harZ (1 - P))))))), (8, .long (bL (difS (andS (imgS d (difS (difS (andS (imgS d (difS (difS (andS (imgS d (difS (andS S Y) (oneS (harZ P)))) Y) (oneS (harZ (1 - P)))) (oneS (harZ P)))) Y) (oneS (harZ (1 - P)))) (oneS (harZ P)))) Y) (oneS (harZ (1 - P)))))), (3, .long (bL (Y))), (1, .long (bL (S))), (0, .ref (x))]) rfl (fun ls hl => ?_)
                refine z_goto C dX1_goalsOf_71 6 (by decide) ?_
                exact ih6 (orS (orS (orS A (difS (andS (imgS d (difS (andS S Y) (oneS (harZ P)))) Y) (oneS (harZ (1 - P))))) (difS (andS (imgS d (difS (difS (andS (imgS d (difS (andS S Y) (oneS (harZ P)))) Y) (oneS (harZ (1 - P)))) (oneS (harZ P)))) Y) (oneS (harZ (1 - P))))) (difS (andS (imgS d (difS (difS (andS (imgS d (difS (difS (andS (imgS d (difS (andS S Y) (oneS (harZ P)))) Y) (oneS (harZ (1 - P)))) (oneS (harZ P)))) Y) (oneS (harZ (1 - P)))) (oneS (harZ P)))) Y) (oneS (harZ (1 - P))))) (1 + d) (by omega) (by rw [show (1 + d).toNat = d.toNat + 1 by omega]; unfold gacS; rw [← h2, Int.toNat_of_nonneg h1.1]; rfl) (by omega) ls (lv_sub hl [0, 2, 4, 5, 6] rfl)
              · exfalso; omega
  exact L6 (Int.toNat (4 - 0) + 1) botS 0 (by omega) (rfl) (by omega) ls (lv_sub hl [0, 1, 4, 3, 2] rfl)

set_option maxHeartbeats 4000000 in
set_option maxRecDepth 100000 in
theorem m_startsFor (l : Launch) (G : gT) (x cu : Nat) (q : Nat → Nat) (v : Int → Int) (P D : Int) (S Y : Int → Bool) : MR l G yX1_startsFor cX1_startsFor 13 (some .long) 1 [.ref (x), .long (bL (S)), .long (bL (Y))] [[sxO x cu q v P D], [arL G cu 5 (fun k => bL (upS v k))], stW G q v] ZT (.long (bL (staS P Y S))) := by
  refine enterR (own := RX1) (by decide +kernel) rfl (Nat.le_of_ble_eq_true rfl) ?_
  intro p e s m below meth c C hP hK hZ ls hl
  have hl : lv_has ls 13 [(0, .ref (x)), (1, .long (bL (S))), (3, .long (bL (Y)))] := hl
  refine z_ll_n C hl dX1_startsFor_0 2 rfl 1 rfl ?_
  refine z_al_n C hl dX1_startsFor_1 0 rfl 2 rfl ?_
  refine z_get C hP hK fl_X1_47 0 rfl rfl dX1_startsFor_2 5 rfl ?_
  refine z_ldc2 C qc453 dX1_startsFor_5 8 rfl ?_
  refine z_lxor C dX1_startsFor_8 9 rfl ?_
  refine z_ldifS C dX1_startsFor_9 10 rfl ?_
  refine z_al_n C hl dX1_startsFor_10 0 rfl 11 rfl ?_
  refine z_get C hP hK fl_X1_51 0 rfl rfl dX1_startsFor_11 14 rfl ?_
  refine z_ldc2 C qc453 dX1_startsFor_14 17 rfl ?_
  refine z_lxor C dX1_startsFor_17 18 rfl ?_
  refine z_ldifS C dX1_startsFor_18 19 rfl ?_
  refine z_top (b := .long (bL (opnS P Y))) rfl ?_
  refine z_ls C hl dX1_startsFor_19 21 rfl (by decide) (lv' := [(5, .long (bL (opnS P Y))), (0, .ref (x)), (1, .long (bL (S))), (3, .long (bL (Y)))]) rfl (fun ls hl => ?_)
  refine z_lconst0 C dX1_startsFor_21 22 rfl ?_
  refine z_top (b := .long (bL botS)) (congrArg Value.long bL_bot) ?_
  refine z_ls C hl dX1_startsFor_22 24 rfl (by decide) (lv' := [(7, .long (bL (botS))), (5, .long (bL (opnS P Y))), (0, .ref (x)), (1, .long (bL (S))), (3, .long (bL (Y)))]) rfl (fun ls hl => ?_)
  refine z_iconst C dX1_startsFor_24 25 rfl ?_
  refine z_is C hl dX1_startsFor_25 27 rfl (by decide) (lv' := [(9, .int (iI (0))), (7, .long (bL (botS))), (5, .long (bL (opnS P Y))), (0, .ref (x)), (1, .long (bL (S))), (3, .long (bL (Y)))]) rfl (fun ls hl => ?_)
  have L27 : ∀ (fu : Nat) (A : Int → Bool) (d : Int) (h1 : 0 ≤ d ∧ d ≤ 4) (h2 : A = sacS P Y S d.toNat) (hm : 4 - d < (fu : Int)) (ls : Array Slot) (hl : lv_has ls 13 [(9, .int (iI (d))), (7, .long (bL (A))), (5, .long (bL (opnS P Y))), (3, .long (bL (Y))), (1, .long (bL (S))), (0, .ref (x))]), W p l e (rmN 1) s m [.ref (x), .long (bL (S)), .long (bL (Y))].toArray below meth c s.heap [] 0 0 (MQ below (QR (.long (bL (staS P Y S)))) [.ref (x), .long (bL (S)), .long (bL (Y))].toArray s 0 0 (fun _ => False)) (F0 m 27 ls []) := by
    intro fu
    induction fu with
    | zero => intro A d h1 h2 hm ls hl; exfalso; omega
    | succ fu ih =>
      intro A d h1 h2 hm ls hl
      have ih27 := ih
      refine z_il C hl dX1_startsFor_27 0 rfl 29 rfl ?_
      refine z_iconst C dX1_startsFor_29 30 rfl ?_
      refine z_icmp_ge C dX1_startsFor_30 78 33 (by decide) rfl (by omega) (fun c30 => ?_) (fun c30 => ?_)
      · skip
        refine z_ll C hl dX1_startsFor_78 1 rfl 80 rfl ?_
        exact z_rl C dX1_startsFor_80 (by rw [h2, show d = 4 by omega]; rfl)
      · skip
        refine z_ll_n C hl dX1_startsFor_33 4 rfl 34 rfl ?_
        refine z_ll_n C hl dX1_startsFor_34 3 rfl 35 rfl ?_
        refine z_landS C dX1_startsFor_35 36 rfl ?_
        refine z_ls C hl dX1_startsFor_36 38 rfl (by decide) (lv' := [(10, .long (bL (andS S Y))), (9, .int (iI (d))), (7, .long (bL (A))), (5, .long (bL (opnS P Y))), (3, .long (bL (Y))), (1, .long (bL (S))), (0, .ref (x))]) rfl (fun ls hl => ?_)
        refine z_iconst C dX1_startsFor_38 39 rfl ?_
        refine z_is C hl dX1_startsFor_39 41 rfl (by decide) (lv' := [(12, .int (iI (0))), (10, .long (bL (andS S Y))), (9, .int (iI (d))), (7, .long (bL (A))), (5, .long (bL (opnS P Y))), (3, .long (bL (Y))), (1, .long (bL (S))), (0, .ref (x))]) rfl (fun ls hl => ?_)
        refine z_il C hl dX1_startsFor_41 0 rfl 43 rfl ?_
        refine z_iconst C dX1_startsFor_43 44 rfl ?_
        refine z_icmp_ge C dX1_startsFor_44 72 47 (by decide) rfl (by omega) (fun c44 => ?_) (fun c44 => ?_)
        · exfalso; omega
        · skip
          refine z_ll C hl dX1_startsFor_47 1 rfl 49 rfl ?_
          refine z_il C hl dX1_startsFor_49 2 rfl 51 rfl ?_
          refine z_SR (r := .long (bL (imgS d (andS S Y)))) (rest := []) C (m_beside l G (andS S Y) (d) (by omega)) kS_X1_94 ⟨Nat.le_of_ble_eq_true rfl, Nat.le_of_ble_eq_true rfl⟩ (gP_nil) hK rfl hl.1 rfl (Nat.le_of_ble_eq_true rfl) dX1_startsFor_51 ⟨Nat.le_of_ble_eq_true rfl, Nat.le_of_ble_eq_true rfl⟩ 54 rfl ?_
          refine z_ll C hl dX1_startsFor_54 4 rfl 56 rfl ?_
          refine z_landS C dX1_startsFor_56 57 rfl ?_
          refine z_ls C hl dX1_startsFor_57 59 rfl (by decide) (lv' := [(10, .long (bL (andS (imgS d (andS S Y)) (opnS P Y)))), (12, .int (iI (0))), (9, .int (iI (d))), (7, .long (bL (A))), (5, .long (bL (opnS P Y))), (3, .long (bL (Y))), (1, .long (bL (S))), (0, .ref (x))]) rfl (fun ls hl => ?_)
          refine z_ll C hl dX1_startsFor_59 3 rfl 61 rfl ?_
          refine z_ll C hl dX1_startsFor_61 0 rfl 63 rfl ?_
          refine z_lorS C dX1_startsFor_63 64 rfl ?_
          refine z_ls C hl dX1_startsFor_64 66 rfl (by decide) (lv' := [(7, .long (bL (orS A (andS (imgS d (andS S Y)) (opnS P Y))))), (10, .long (bL (andS (imgS d (andS S Y)) (opnS P Y)))), (12, .int (iI (0))), (9, .int (iI (d))), (5, .long (bL (opnS P Y))), (3, .long (bL (Y))), (1, .long (bL (S))), (0, .ref (x))]) rfl (fun ls hl => ?_)
          refine z_iinc C hl dX1_startsFor_66 69 rfl 2 rfl (z := 1) (by omega) (by decide) (lv' := [(12, .int (iI (1))), (7, .long (bL (orS A (andS (imgS d (andS S Y)) (opnS P Y))))), (10, .long (bL (andS (imgS d (andS S Y)) (opnS P Y)))), (9, .int (iI (d))), (5, .long (bL (opnS P Y))), (3, .long (bL (Y))), (1, .long (bL (S))), (0, .ref (x))]) rfl (fun ls hl => ?_)
          refine z_goto C dX1_startsFor_69 41 (by decide) ?_
          refine z_il C hl dX1_startsFor_41 0 rfl 43 rfl ?_
          refine z_iconst C dX1_startsFor_43 44 rfl ?_
          refine z_icmp_ge C dX1_startsFor_44 72 47 (by decide) rfl (by omega) (fun c44 => ?_) (fun c44 => ?_)
          · exfalso; omega
          · skip
            refine z_ll C hl dX1_startsFor_47 2 rfl 49 rfl ?_
            refine z_il C hl dX1_startsFor_49 3 rfl 51 rfl ?_
            refine z_SR (r := .long (bL (imgS d (andS (imgS d (andS S Y)) (opnS P Y))))) (rest := []) C (m_beside l G (andS (imgS d (andS S Y)) (opnS P Y)) (d) (by omega)) kS_X1_94 ⟨Nat.le_of_ble_eq_true rfl, Nat.le_of_ble_eq_true rfl⟩ (gP_nil) hK rfl hl.1 rfl (Nat.le_of_ble_eq_true rfl) dX1_startsFor_51 ⟨Nat.le_of_ble_eq_true rfl, Nat.le_of_ble_eq_true rfl⟩ 54 rfl ?_
            refine z_ll C hl dX1_startsFor_54 4 rfl 56 rfl ?_
            refine z_landS C dX1_startsFor_56 57 rfl ?_
            refine z_ls C hl dX1_startsFor_57 59 rfl (by decide) (lv' := [(10, .long (bL (andS (imgS d (andS (imgS d (andS S Y)) (opnS P Y))) (opnS P Y)))), (12, .int (iI (1))), (7, .long (bL (orS A (andS (imgS d (andS S Y)) (opnS P Y))))), (9, .int (iI (d))), (5, .long (bL (opnS P Y))), (3, .long (bL (Y))), (1, .long (bL (S))), (0, .ref (x))]) rfl (fun ls hl => ?_)
            refine z_ll C hl dX1_startsFor_59 2 rfl 61 rfl ?_
            refine z_ll C hl dX1_startsFor_61 0 rfl 63 rfl ?_
            refine z_lorS C dX1_startsFor_63 64 rfl ?_
            refine z_ls C hl dX1_startsFor_64 66 rfl (by decide) (lv' := [(7, .long (bL (orS (orS A (andS (imgS d (andS S Y)) (opnS P Y))) (andS (imgS d (andS (imgS d (andS S Y)) (opnS P Y))) (opnS P Y))))), (10, .long (bL (andS (imgS d (andS (imgS d (andS S Y)) (opnS P Y))) (opnS P Y)))), (12, .int (iI (1))), (9, .int (iI (d))), (5, .long (bL (opnS P Y))), (3, .long (bL (Y))), (1, .long (bL (S))), (0, .ref (x))]) rfl (fun ls hl => ?_)
            refine z_iinc C hl dX1_startsFor_66 69 rfl 2 rfl (z := 2) (by omega) (by decide) (lv' := [(12, .int (iI (2))), (7, .long (bL (orS (orS A (andS (imgS d (andS S Y)) (opnS P Y))) (andS (imgS d (andS (imgS d (andS S Y)) (opnS P Y))) (opnS P Y))))), (10, .long (bL (andS (imgS d (andS (imgS d (andS S Y)) (opnS P Y))) (opnS P Y)))), (9, .int (iI (d))), (5, .long (bL (opnS P Y))), (3, .long (bL (Y))), (1, .long (bL (S))), (0, .ref (x))]) rfl (fun ls hl => ?_)
            refine z_goto C dX1_startsFor_69 41 (by decide) ?_
            refine z_il C hl dX1_startsFor_41 0 rfl 43 rfl ?_
            refine z_iconst C dX1_startsFor_43 44 rfl ?_
            refine z_icmp_ge C dX1_startsFor_44 72 47 (by decide) rfl (by omega) (fun c44 => ?_) (fun c44 => ?_)
            · exfalso; omega
            · skip
              refine z_ll C hl dX1_startsFor_47 2 rfl 49 rfl ?_
              refine z_il C hl dX1_startsFor_49 3 rfl 51 rfl ?_
              refine z_SR (r := .long (bL (imgS d (andS (imgS d (andS (imgS d (andS S Y)) (opnS P Y))) (opnS P Y))))) (rest := []) C (m_beside l G (andS (imgS d (andS (imgS d (andS S Y)) (opnS P Y))) (opnS P Y)) (d) (by omega)) kS_X1_94 ⟨Nat.le_of_ble_eq_true rfl, Nat.le_of_ble_eq_true rfl⟩ (gP_nil) hK rfl hl.1 rfl (Nat.le_of_ble_eq_true rfl) dX1_startsFor_51 ⟨Nat.le_of_ble_eq_true rfl, Nat.le_of_ble_eq_true rfl⟩ 54 rfl ?_
              refine z_ll C hl dX1_startsFor_54 4 rfl 56 rfl ?_
              refine z_landS C dX1_startsFor_56 57 rfl ?_
              refine z_ls C hl dX1_startsFor_57 59 rfl (by decide) (lv' := [(10, .long (bL (andS (imgS d (andS (imgS d (andS (imgS d (andS S Y)) (opnS P Y))) (opnS P Y))) (opnS P Y)))), (12, .int (iI (2))), (7, .long (bL (orS (orS A (andS (imgS d (andS S Y)) (opnS P Y))) (andS (imgS d (andS (imgS d (andS S Y)) (opnS P Y))) (opnS P Y))))), (9, .int (iI (d))), (5, .long (bL (opnS P Y))), (3, .long (bL (Y))), (1, .long (bL (S))), (0, .ref (x))]) rfl (fun ls hl => ?_)
              refine z_ll C hl dX1_startsFor_59 2 rfl 61 rfl ?_
              refine z_ll C hl dX1_startsFor_61 0 rfl 63 rfl ?_
              refine z_lorS C dX1_startsFor_63 64 rfl ?_
              refine z_ls C hl dX1_startsFor_64 66 rfl (by decide) (lv' := [(7, .long (bL (orS (orS (orS A (andS (imgS d (andS S Y)) (opnS P Y))) (andS (imgS d (andS (imgS d (andS S Y)) (opnS P Y))) (opnS P Y))) (andS (imgS d (andS (imgS d (andS (imgS d (andS S Y)) (opnS P Y))) (opnS P Y))) (opnS P Y))))), (10, .long (bL (andS (imgS d (andS (imgS d (andS (imgS d (andS S Y)) (opnS P Y))) (opnS P Y))) (opnS P Y)))), (12, .int (iI (2))), (9, .int (iI (d))), (5, .long (bL (opnS P Y))), (3, .long (bL (Y))), (1, .long (bL (S))), (0, .ref (x))]) rfl (fun ls hl => ?_)
              refine z_iinc C hl dX1_startsFor_66 69 rfl 2 rfl (z := 3) (by omega) (by decide) (lv' := [(12, .int (iI (3))), (7, .long (bL (orS (orS (orS A (andS (imgS d (andS S Y)) (opnS P Y))) (andS (imgS d (andS (imgS d (andS S Y)) (opnS P Y))) (opnS P Y))) (andS (imgS d (andS (imgS d (andS (imgS d (andS S Y)) (opnS P Y))) (opnS P Y))) (opnS P Y))))), (10, .long (bL (andS (imgS d (andS (imgS d (andS (imgS d (andS S Y)) (opnS P Y))) (opnS P Y))) (opnS P Y)))), (9, .int (iI (d))), (5, .long (bL (opnS P Y))), (3, .long (bL (Y))), (1, .long (bL (S))), (0, .ref (x))]) rfl (fun ls hl => ?_)
              refine z_goto C dX1_startsFor_69 41 (by decide) ?_
              refine z_il C hl dX1_startsFor_41 0 rfl 43 rfl ?_
              refine z_iconst C dX1_startsFor_43 44 rfl ?_
              refine z_icmp_ge C dX1_startsFor_44 72 47 (by decide) rfl (by omega) (fun c44 => ?_) (fun c44 => ?_)
              · skip
                refine z_iinc C hl dX1_startsFor_72 75 rfl 3 rfl (z := 1 + d) (by omega) (by decide) (lv' := [(9, .int (iI (1 + d))), (12, .int (iI (3))), (7, .long (bL (orS (orS (orS A (andS (imgS d (andS S Y)) (opnS P Y))) (andS (imgS d (andS (imgS d (andS S Y)) (opnS P Y))) (opnS P Y))) (andS (imgS d (andS (imgS d (andS (imgS d (andS S Y)) (opnS P Y))) (opnS P Y))) (opnS P Y))))), (10, .long (bL (andS (imgS d (andS (imgS d (andS (imgS d (andS S Y)) (opnS P Y))) (opnS P Y))) (opnS P Y)))), (5, .long (bL (opnS P Y))), (3, .long (bL (Y))), (1, .long (bL (S))), (0, .ref (x))]) rfl (fun ls hl => ?_)
                refine z_goto C dX1_startsFor_75 27 (by decide) ?_
                exact ih27 (orS (orS (orS A (andS (imgS d (andS S Y)) (opnS P Y))) (andS (imgS d (andS (imgS d (andS S Y)) (opnS P Y))) (opnS P Y))) (andS (imgS d (andS (imgS d (andS (imgS d (andS S Y)) (opnS P Y))) (opnS P Y))) (opnS P Y))) (1 + d) (by omega) (by rw [show (1 + d).toNat = d.toNat + 1 by omega]; unfold sacS; rw [← h2, Int.toNat_of_nonneg h1.1]; rfl) (by omega) ls (lv_sub hl [0, 2, 4, 5, 6, 7] rfl)
              · exfalso; omega
  exact L27 (Int.toNat (4 - 0) + 1) botS 0 (by omega) (rfl) (by omega) ls (lv_sub hl [0, 1, 2, 5, 4, 3] rfl)

set_option maxHeartbeats 4000000 in
set_option maxRecDepth 100000 in
theorem m_turnsForwards (l : Launch) (G : gT) (x cu : Nat) (q : Nat → Nat) (v : Int → Int) (P D : Int) (c0 f : Int) (w : Wf v) (hpp : 0 ≤ P ∧ P ≤ 1) (hdd : 1 ≤ D ∧ D ≤ 3) (hc : -2147483648 ≤ c0 ∧ c0 < 2147483648) (hf : 0 ≤ f ∧ f ≤ 200) (hne : c0 ≠ harZ P) : MR l G yX1_turnsForwards cX1_turnsForwards 6 (some .int) 3 [.ref (x), .int (iI (c0)), .int (iI (f))] [[sxO x cu q v P D], [arL G cu 5 (fun k => bL (upS v k))], stW G q v] ZT (.int (iI (fwZ v P D c0 f))) := by
  refine enterR (own := RX1) (by decide +kernel) rfl (Nat.le_of_ble_eq_true rfl) ?_
  intro p e s m below meth c C hP hK hZ ls hl
  have hl : lv_has ls 6 [(0, .ref (x)), (1, .int (iI (c0))), (2, .int (iI (f)))] := hl
  have hs := w.s
  refine z_il_n C hl dX1_turnsForwards_0 1 rfl 1 rfl ?_
  refine z_SR (r := .long (bL (oneS c0))) (rest := []) C (m_setOf l G (c0) (by omega)) kS_X1_43 ⟨Nat.le_of_ble_eq_true rfl, Nat.le_of_ble_eq_true rfl⟩ (gP_nil) hK rfl hl.1 rfl (Nat.le_of_ble_eq_true rfl) dX1_turnsForwards_1 ⟨Nat.le_of_ble_eq_true rfl, Nat.le_of_ble_eq_true rfl⟩ 4 rfl ?_
  refine z_ls_n C hl dX1_turnsForwards_4 5 rfl (by decide) (lv' := [(3, .long (bL (oneS c0))), (0, .ref (x)), (1, .int (iI (c0))), (2, .int (iI (f)))]) rfl (fun ls hl => ?_)
  refine z_il_n C hl dX1_turnsForwards_5 3 rfl 6 rfl ?_
  refine z_is C hl dX1_turnsForwards_6 8 rfl (by decide) (lv' := [(5, .int (iI (f))), (3, .long (bL (oneS c0))), (0, .ref (x)), (1, .int (iI (c0))), (2, .int (iI (f)))]) rfl (fun ls hl => ?_)
  have L8 : ∀ (fu : Nat) (S : Int → Bool) (t : Int) (h1 : f ≤ t ∧ t ≤ 300) (h4 : S (harZ P) = false) (h2 : fwN v P D f (v 125 + 1 - t).toNat S t = fwZ v P D c0 f) (hm : 300 - t < (fu : Int)) (ls : Array Slot) (hl : lv_has ls 6 [(5, .int (iI (t))), (3, .long (bL (S))), (2, .int (iI (f))), (1, .int (iI (c0))), (0, .ref (x))]), W p l e (rmN 3) s m [.ref (x), .int (iI (c0)), .int (iI (f))].toArray below meth c s.heap [] 0 0 (MQ below (QR (.int (iI (fwZ v P D c0 f)))) [.ref (x), .int (iI (c0)), .int (iI (f))].toArray s 0 0 (fun _ => False)) (F0 m 8 ls []) := by
    intro fu
    induction fu with
    | zero => intro S t h1 h4 h2 hm ls hl; exfalso; omega
    | succ fu ih =>
      intro S t h1 h4 h2 hm ls hl
      have ih8 := ih
      refine z_il C hl dX1_turnsForwards_8 0 rfl 10 rfl ?_
      refine z_al_n C hl dX1_turnsForwards_10 4 rfl 11 rfl ?_
      refine z_get C hP hK fl_X1_15 0 rfl rfl dX1_turnsForwards_11 14 rfl ?_
      refine z_getN C hP hK fl_X1_69 2 rfl rfl dX1_turnsForwards_14 17 rfl ?_
      refine z_icmp_gt C dX1_turnsForwards_17 88 20 (by decide) rfl (by omega) (fun c17 => ?_) (fun c17 => ?_)
      · skip
        refine z_bipush C dX1_turnsForwards_88 (by decide) 90 rfl ?_
        exact z_ri C dX1_turnsForwards_90 (by rw [← h2, fwN_0 (by omega)])
      · skip
        refine z_ll_n C hl dX1_turnsForwards_20 1 rfl 21 rfl ?_
        refine z_lconst0 C dX1_turnsForwards_21 22 rfl ?_
        refine z_lcmp C dX1_turnsForwards_22 23 rfl ?_
        refine z_ifl_eq C dX1_turnsForwards_23 88 26 (by decide) rfl (fun c23 => ?_) (fun c23 => ?_)
        · skip
          refine z_bipush C dX1_turnsForwards_88 (by decide) 90 rfl ?_
          exact z_ri C dX1_turnsForwards_90 (by rw [← h2]; exact (fwN_emp _ _ _ (bL_0.mp c23)).symm)
        · skip
          refine z_il C hl dX1_turnsForwards_26 0 rfl 28 rfl ?_
          refine z_iconst C dX1_turnsForwards_28 29 rfl ?_
          refine z_irem C dX1_turnsForwards_29 30 rfl (by omega) ((t % 2)) (rfl) ?_
          refine z_al_n C hl dX1_turnsForwards_30 4 rfl 31 rfl ?_
          refine z_get C hP hK fl_X1_29 0 rfl rfl dX1_turnsForwards_31 34 rfl ?_
          refine z_icmp_ne C dX1_turnsForwards_34 69 37 (by decide) rfl (by omega) (fun c34 => ?_) (fun c34 => ?_)
          · skip
            refine z_ll_n C hl dX1_turnsForwards_69 1 rfl 70 rfl ?_
            refine z_al_n C hl dX1_turnsForwards_70 4 rfl 71 rfl ?_
            refine z_il C hl dX1_turnsForwards_71 0 rfl 73 rfl ?_
            refine z_VR (r := .long (bL (wrS v D t))) (rest := [.long (bL (S))]) C (m_wreckingCells l G x cu q v P D t w hpp hdd (by omega)) kV_X1_79 ⟨Nat.le_of_ble_eq_true rfl, Nat.le_of_ble_eq_true rfl⟩ hP hK 0 rfl rfl rfl hl.1 rfl (Nat.le_of_ble_eq_true rfl) dX1_turnsForwards_73 ⟨Nat.le_of_ble_eq_true rfl, Nat.le_of_ble_eq_true rfl⟩ 76 rfl ?_
            refine z_ldc2 C qc453 dX1_turnsForwards_76 79 rfl ?_
            refine z_lxor C dX1_turnsForwards_79 80 rfl ?_
            refine z_ldifS C dX1_turnsForwards_80 81 rfl ?_
            refine z_ls_n C hl dX1_turnsForwards_81 82 rfl (by decide) (lv' := [(3, .long (bL (difS S (wrS v D t)))), (5, .int (iI (t))), (2, .int (iI (f))), (1, .int (iI (c0))), (0, .ref (x))]) rfl (fun ls hl => ?_)
            refine z_iinc C hl dX1_turnsForwards_82 85 rfl 1 rfl (z := 1 + t) (by omega) (by decide) (lv' := [(5, .int (iI (1 + t))), (3, .long (bL (difS S (wrS v D t)))), (2, .int (iI (f))), (1, .int (iI (c0))), (0, .ref (x))]) rfl (fun ls hl => ?_)
            refine z_goto C dX1_turnsForwards_85 8 (by decide) ?_
            exact ih8 (difS S (wrS v D t)) (1 + t) (by omega) (by unfold difS; rw [h4]; rfl) (by rw [← h2, fwN_1 (k := v 125 + 1 - t) (by omega), if_neg (fun z => c34 z.1), show v 125 + 1 - t - 1 = v 125 + 1 - (1 + t) by omega]; unfold nxS; rw [if_neg c34]) (by omega) ls (lv_sub hl [0, 1, 2, 3, 4] rfl)
          · skip
            refine z_ll_n C hl dX1_turnsForwards_37 1 rfl 38 rfl ?_
            refine z_al_n C hl dX1_turnsForwards_38 4 rfl 39 rfl ?_
            refine z_ll_n C hl dX1_turnsForwards_39 1 rfl 40 rfl ?_
            refine z_al_n C hl dX1_turnsForwards_40 4 rfl 41 rfl ?_
            refine z_il C hl dX1_turnsForwards_41 0 rfl 43 rfl ?_
            refine z_VR (r := .long (bL (wtS v D t))) (rest := [.long (bL (S)), .ref (x), .long (bL (S))]) C (m_wetCells l G x cu q v P D t w hpp hdd (by omega)) kV_X1_72 ⟨Nat.le_of_ble_eq_true rfl, Nat.le_of_ble_eq_true rfl⟩ hP hK 0 rfl rfl rfl hl.1 rfl (Nat.le_of_ble_eq_true rfl) dX1_turnsForwards_43 ⟨Nat.le_of_ble_eq_true rfl, Nat.le_of_ble_eq_true rfl⟩ 46 rfl ?_
            refine z_VR (r := .long (bL (golS P (wtS v D t) S))) (rest := [.long (bL (S))]) C (m_goalsOf l G x cu q v P D S (wtS v D t)) kV_X1_75 ⟨Nat.le_of_ble_eq_true rfl, Nat.le_of_ble_eq_true rfl⟩ hP hK 0 rfl rfl rfl hl.1 rfl (Nat.le_of_ble_eq_true rfl) dX1_turnsForwards_46 ⟨Nat.le_of_ble_eq_true rfl, Nat.le_of_ble_eq_true rfl⟩ 49 rfl ?_
            refine z_lorS C dX1_turnsForwards_49 50 rfl ?_
            refine z_ls_n C hl dX1_turnsForwards_50 51 rfl (by decide) (lv' := [(3, .long (bL (orS S (golS P (wtS v D t) S)))), (5, .int (iI (t))), (2, .int (iI (f))), (1, .int (iI (c0))), (0, .ref (x))]) rfl (fun ls hl => ?_)
            refine z_ll_n C hl dX1_turnsForwards_51 0 rfl 52 rfl ?_
            refine z_al_n C hl dX1_turnsForwards_52 4 rfl 53 rfl ?_
            refine z_get C hP hK fl_X1_47 0 rfl rfl dX1_turnsForwards_53 56 rfl ?_
            refine z_landS C dX1_turnsForwards_56 57 rfl ?_
            refine z_lconst0 C dX1_turnsForwards_57 58 rfl ?_
            refine z_lcmp C dX1_turnsForwards_58 59 rfl ?_
            refine z_ifl_eq C dX1_turnsForwards_59 69 62 (by decide) rfl (fun c59 => ?_) (fun c59 => ?_)
            · skip
              rw [or_own h4] at c59
              refine z_ll_n C hl dX1_turnsForwards_69 0 rfl 70 rfl ?_
              refine z_al_n C hl dX1_turnsForwards_70 4 rfl 71 rfl ?_
              refine z_il C hl dX1_turnsForwards_71 1 rfl 73 rfl ?_
              refine z_VR (r := .long (bL (wrS v D t))) (rest := [.long (bL (orS S (golS P (wtS v D t) S)))]) C (m_wreckingCells l G x cu q v P D t w hpp hdd (by omega)) kV_X1_79 ⟨Nat.le_of_ble_eq_true rfl, Nat.le_of_ble_eq_true rfl⟩ hP hK 0 rfl rfl rfl hl.1 rfl (Nat.le_of_ble_eq_true rfl) dX1_turnsForwards_73 ⟨Nat.le_of_ble_eq_true rfl, Nat.le_of_ble_eq_true rfl⟩ 76 rfl ?_
              refine z_ldc2 C qc453 dX1_turnsForwards_76 79 rfl ?_
              refine z_lxor C dX1_turnsForwards_79 80 rfl ?_
              refine z_ldifS C dX1_turnsForwards_80 81 rfl ?_
              refine z_ls_n C hl dX1_turnsForwards_81 82 rfl (by decide) (lv' := [(3, .long (bL (difS (orS S (golS P (wtS v D t) S)) (wrS v D t)))), (5, .int (iI (t))), (2, .int (iI (f))), (1, .int (iI (c0))), (0, .ref (x))]) rfl (fun ls hl => ?_)
              refine z_iinc C hl dX1_turnsForwards_82 85 rfl 1 rfl (z := 1 + t) (by omega) (by decide) (lv' := [(5, .int (iI (1 + t))), (3, .long (bL (difS (orS S (golS P (wtS v D t) S)) (wrS v D t)))), (2, .int (iI (f))), (1, .int (iI (c0))), (0, .ref (x))]) rfl (fun ls hl => ?_)
              refine z_goto C dX1_turnsForwards_85 8 (by decide) ?_
              exact ih8 (difS (orS S (golS P (wtS v D t) S)) (wrS v D t)) (1 + t) (by omega) (by unfold difS orS; rw [h4, c59]; rfl) (by rw [← h2, fwN_1 (k := v 125 + 1 - t) (by omega), if_neg (fun z => by rw [c59] at z; cases z.2), show v 125 + 1 - t - 1 = v 125 + 1 - (1 + t) by omega]; unfold nxS; rw [if_pos c34]) (by omega) ls (lv_sub hl [0, 1, 2, 3, 4] rfl)
            · skip
              rw [or_own h4] at c59
              simp only [Bool.not_eq_false] at c59
              refine z_il C hl dX1_turnsForwards_62 1 rfl 64 rfl ?_
              refine z_il_n C hl dX1_turnsForwards_64 2 rfl 65 rfl ?_
              refine z_isub C dX1_turnsForwards_65 66 rfl (t - f) (rfl) ?_
              refine z_iconst C dX1_turnsForwards_66 67 rfl ?_
              refine z_iadd C dX1_turnsForwards_67 68 rfl (1 + t - f) (by omega) ?_
              exact z_ri C dX1_turnsForwards_68 (by rw [← h2, fwN_1 (k := v 125 + 1 - t) (by omega), if_pos ⟨c34, c59⟩])
  exact L8 (Int.toNat (300 - f) + 1) (oneS c0) f (by omega) (decide_eq_false (fun z => hne z.symm)) (rfl) (by omega) ls (lv_sub hl [0, 1, 4, 3, 2] rfl)

set_option maxHeartbeats 4000000 in
set_option maxRecDepth 100000 in
theorem m_cellsThatLeadHome (l : Launch) (G : gT) (x cu : Nat) (q : Nat → Nat) (v : Int → Int) (P D : Int) (f T : Int) (w : Wf v) (hpp : 0 ≤ P ∧ P ≤ 1) (hdd : 1 ≤ D ∧ D ≤ 3) (hf : 0 ≤ f ∧ f ≤ T) (hT : T ≤ 300) : MR l G yX1_cellsThatLeadHome cX1_cellsThatLeadHome 6 (some .long) 3 [.ref (x), .int (iI (f)), .int (iI (T))] [[sxO x cu q v P D], [arL G cu 5 (fun k => bL (upS v k))], stW G q v] ZT (.long (bL (ldN v P D T (T - f).toNat))) := by
  refine enterR (own := RX1) (by decide +kernel) rfl (Nat.le_of_ble_eq_true rfl) ?_
  intro p e s m below meth c C hP hK hZ ls hl
  have hl : lv_has ls 6 [(0, .ref (x)), (1, .int (iI (f))), (2, .int (iI (T)))] := hl
  refine z_al_n C hl dX1_cellsThatLeadHome_0 0 rfl 1 rfl ?_
  refine z_al_n C hl dX1_cellsThatLeadHome_1 0 rfl 2 rfl ?_
  refine z_get C hP hK fl_X1_47 0 rfl rfl dX1_cellsThatLeadHome_2 5 rfl ?_
  refine z_al_n C hl dX1_cellsThatLeadHome_5 0 rfl 6 rfl ?_
  refine z_il_n C hl dX1_cellsThatLeadHome_6 2 rfl 7 rfl ?_
  refine z_VR (r := .long (bL (wtS v D T))) (rest := [.long (bL (oneS (harZ P))), .ref (x)]) C (m_wetCells l G x cu q v P D T w hpp hdd (by omega)) kV_X1_72 ⟨Nat.le_of_ble_eq_true rfl, Nat.le_of_ble_eq_true rfl⟩ hP hK 0 rfl rfl rfl hl.1 rfl (Nat.le_of_ble_eq_true rfl) dX1_cellsThatLeadHome_7 ⟨Nat.le_of_ble_eq_true rfl, Nat.le_of_ble_eq_true rfl⟩ 10 rfl ?_
  refine z_VR (r := .long (bL (staS P (wtS v D T) (oneS (harZ P))))) (rest := []) C (m_startsFor l G x cu q v P D (oneS (harZ P)) (wtS v D T)) kV_X1_91 ⟨Nat.le_of_ble_eq_true rfl, Nat.le_of_ble_eq_true rfl⟩ hP hK 0 rfl rfl rfl hl.1 rfl (Nat.le_of_ble_eq_true rfl) dX1_cellsThatLeadHome_10 ⟨Nat.le_of_ble_eq_true rfl, Nat.le_of_ble_eq_true rfl⟩ 13 rfl ?_
  refine z_ls_n C hl dX1_cellsThatLeadHome_13 14 rfl (by decide) (lv' := [(3, .long (bL (staS P (wtS v D T) (oneS (harZ P))))), (0, .ref (x)), (1, .int (iI (f))), (2, .int (iI (T)))]) rfl (fun ls hl => ?_)
  refine z_il_n C hl dX1_cellsThatLeadHome_14 3 rfl 15 rfl ?_
  refine z_iconst C dX1_cellsThatLeadHome_15 16 rfl ?_
  refine z_isub C dX1_cellsThatLeadHome_16 17 rfl (T - 1) (rfl) ?_
  refine z_is C hl dX1_cellsThatLeadHome_17 19 rfl (by decide) (lv' := [(5, .int (iI (T - 1))), (3, .long (bL (staS P (wtS v D T) (oneS (harZ P))))), (0, .ref (x)), (1, .int (iI (f))), (2, .int (iI (T)))]) rfl (fun ls hl => ?_)
  have L19 : ∀ (fu : Nat) (S : Int → Bool) (t : Int) (h1 : f - 1 ≤ t ∧ t ≤ T - 1) (h2 : S = ldN v P D T (T - 1 - t).toNat) (hm : t + 1 < (fu : Int)) (ls : Array Slot) (hl : lv_has ls 6 [(5, .int (iI (t))), (3, .long (bL (S))), (2, .int (iI (T))), (1, .int (iI (f))), (0, .ref (x))]), W p l e (rmN 3) s m [.ref (x), .int (iI (f)), .int (iI (T))].toArray below meth c s.heap [] 0 0 (MQ below (QR (.long (bL (ldN v P D T (T - f).toNat)))) [.ref (x), .int (iI (f)), .int (iI (T))].toArray s 0 0 (fun _ => False)) (F0 m 19 ls []) := by
    intro fu
    induction fu with
    | zero => intro S t h1 h2 hm ls hl; exfalso; omega
    | succ fu ih =>
      intro S t h1 h2 hm ls hl
      have ih19 := ih
      refine z_il C hl dX1_cellsThatLeadHome_19 0 rfl 21 rfl ?_
      refine z_il_n C hl dX1_cellsThatLeadHome_21 3 rfl 22 rfl ?_
      refine z_icmp_lt C dX1_cellsThatLeadHome_22 75 25 (by decide) rfl (by omega) (fun c22 => ?_) (fun c22 => ?_)
      · skip
        refine z_ll_n C hl dX1_cellsThatLeadHome_75 1 rfl 76 rfl ?_
        exact z_rl C dX1_cellsThatLeadHome_76 (by rw [h2, show T - 1 - t = T - f by omega])
      · skip
        refine z_ll_n C hl dX1_cellsThatLeadHome_25 1 rfl 26 rfl ?_
        refine z_lconst0 C dX1_cellsThatLeadHome_26 27 rfl ?_
        refine z_lcmp C dX1_cellsThatLeadHome_27 28 rfl ?_
        refine z_ifl_eq C dX1_cellsThatLeadHome_28 75 31 (by decide) rfl (fun c28 => ?_) (fun c28 => ?_)
        · skip
          refine z_ll_n C hl dX1_cellsThatLeadHome_75 1 rfl 76 rfl ?_
          exact z_rl C dX1_cellsThatLeadHome_76 (bL_ext (fun i h3 h4 => by rw [show (T - f).toNat = (T - 1 - t).toNat + (T - f - (T - 1 - t)).toNat by omega]; rw [ld_emp (fun i h5 h6 => by rw [← h2]; exact bL_0.mp c28 i h5 h6) _ i h3 h4]; exact bL_0.mp c28 i h3 h4))
        · skip
          refine z_ll_n C hl dX1_cellsThatLeadHome_31 1 rfl 32 rfl ?_
          refine z_al_n C hl dX1_cellsThatLeadHome_32 4 rfl 33 rfl ?_
          refine z_il C hl dX1_cellsThatLeadHome_33 0 rfl 35 rfl ?_
          refine z_VR (r := .long (bL (wrS v D t))) (rest := [.long (bL (S))]) C (m_wreckingCells l G x cu q v P D t w hpp hdd (by omega)) kV_X1_79 ⟨Nat.le_of_ble_eq_true rfl, Nat.le_of_ble_eq_true rfl⟩ hP hK 0 rfl rfl rfl hl.1 rfl (Nat.le_of_ble_eq_true rfl) dX1_cellsThatLeadHome_35 ⟨Nat.le_of_ble_eq_true rfl, Nat.le_of_ble_eq_true rfl⟩ 38 rfl ?_
          refine z_ldc2 C qc453 dX1_cellsThatLeadHome_38 41 rfl ?_
          refine z_lxor C dX1_cellsThatLeadHome_41 42 rfl ?_
          refine z_ldifS C dX1_cellsThatLeadHome_42 43 rfl ?_
          refine z_ls_n C hl dX1_cellsThatLeadHome_43 44 rfl (by decide) (lv' := [(3, .long (bL (difS S (wrS v D t)))), (5, .int (iI (t))), (2, .int (iI (T))), (1, .int (iI (f))), (0, .ref (x))]) rfl (fun ls hl => ?_)
          refine z_il C hl dX1_cellsThatLeadHome_44 1 rfl 46 rfl ?_
          refine z_iconst C dX1_cellsThatLeadHome_46 47 rfl ?_
          refine z_irem C dX1_cellsThatLeadHome_47 48 rfl (by omega) ((t % 2)) (rfl) ?_
          refine z_al_n C hl dX1_cellsThatLeadHome_48 4 rfl 49 rfl ?_
          refine z_get C hP hK fl_X1_29 0 rfl rfl dX1_cellsThatLeadHome_49 52 rfl ?_
          refine z_icmp_ne C dX1_cellsThatLeadHome_52 69 55 (by decide) rfl (by omega) (fun c52 => ?_) (fun c52 => ?_)
          · skip
            skip
            refine z_iinc C hl dX1_cellsThatLeadHome_69 72 rfl 1 rfl (z := t - 1) (by omega) (by decide) (lv' := [(5, .int (iI (t - 1))), (3, .long (bL (difS S (wrS v D t)))), (2, .int (iI (T))), (1, .int (iI (f))), (0, .ref (x))]) rfl (fun ls hl => ?_)
            refine z_goto C dX1_cellsThatLeadHome_72 19 (by decide) ?_
            exact ih19 (difS S (wrS v D t)) (t - 1) (by omega) (by rw [show (T - 1 - (t - 1)).toNat = (T - 1 - t).toNat + 1 by omega]; unfold ldN; rw [show (T - 1 - ((T - 1 - t).toNat : Int)) = t by omega, if_neg c52, ← h2]) (by omega) ls (lv_sub hl [0, 1, 2, 3, 4] rfl)
          · skip
            skip
            refine z_ll_n C hl dX1_cellsThatLeadHome_55 0 rfl 56 rfl ?_
            refine z_al_n C hl dX1_cellsThatLeadHome_56 4 rfl 57 rfl ?_
            refine z_ll_n C hl dX1_cellsThatLeadHome_57 0 rfl 58 rfl ?_
            refine z_al_n C hl dX1_cellsThatLeadHome_58 4 rfl 59 rfl ?_
            refine z_il C hl dX1_cellsThatLeadHome_59 1 rfl 61 rfl ?_
            refine z_VR (r := .long (bL (wtS v D t))) (rest := [.long (bL (difS S (wrS v D t))), .ref (x), .long (bL (difS S (wrS v D t)))]) C (m_wetCells l G x cu q v P D t w hpp hdd (by omega)) kV_X1_72 ⟨Nat.le_of_ble_eq_true rfl, Nat.le_of_ble_eq_true rfl⟩ hP hK 0 rfl rfl rfl hl.1 rfl (Nat.le_of_ble_eq_true rfl) dX1_cellsThatLeadHome_61 ⟨Nat.le_of_ble_eq_true rfl, Nat.le_of_ble_eq_true rfl⟩ 64 rfl ?_
            refine z_VR (r := .long (bL (staS P (wtS v D t) (difS S (wrS v D t))))) (rest := [.long (bL (difS S (wrS v D t)))]) C (m_startsFor l G x cu q v P D (difS S (wrS v D t)) (wtS v D t)) kV_X1_91 ⟨Nat.le_of_ble_eq_true rfl, Nat.le_of_ble_eq_true rfl⟩ hP hK 0 rfl rfl rfl hl.1 rfl (Nat.le_of_ble_eq_true rfl) dX1_cellsThatLeadHome_64 ⟨Nat.le_of_ble_eq_true rfl, Nat.le_of_ble_eq_true rfl⟩ 67 rfl ?_
            refine z_lorS C dX1_cellsThatLeadHome_67 68 rfl ?_
            refine z_ls_n C hl dX1_cellsThatLeadHome_68 69 rfl (by decide) (lv' := [(3, .long (bL (orS (difS S (wrS v D t)) (staS P (wtS v D t) (difS S (wrS v D t)))))), (5, .int (iI (t))), (2, .int (iI (T))), (1, .int (iI (f))), (0, .ref (x))]) rfl (fun ls hl => ?_)
            refine z_iinc C hl dX1_cellsThatLeadHome_69 72 rfl 1 rfl (z := t - 1) (by omega) (by decide) (lv' := [(5, .int (iI (t - 1))), (3, .long (bL (orS (difS S (wrS v D t)) (staS P (wtS v D t) (difS S (wrS v D t)))))), (2, .int (iI (T))), (1, .int (iI (f))), (0, .ref (x))]) rfl (fun ls hl => ?_)
            refine z_goto C dX1_cellsThatLeadHome_72 19 (by decide) ?_
            exact ih19 (orS (difS S (wrS v D t)) (staS P (wtS v D t) (difS S (wrS v D t)))) (t - 1) (by omega) (by rw [show (T - 1 - (t - 1)).toNat = (T - 1 - t).toNat + 1 by omega]; unfold ldN; rw [show (T - 1 - ((T - 1 - t).toNat : Int)) = t by omega, if_pos c52, ← h2]) (by omega) ls (lv_sub hl [0, 1, 2, 3, 4] rfl)
  exact L19 (Int.toNat ((T - 1) + 1) + 1) (staS P (wtS v D T) (oneS (harZ P))) (T - 1) (by omega) (by rw [show T - 1 - (T - 1) = 0 by omega]; rfl) (by omega) ls (lv_sub hl [0, 1, 4, 3, 2] rfl)

set_option maxHeartbeats 4000000 in
set_option maxRecDepth 100000 in
theorem m_turnsBackwards (l : Launch) (G : gT) (x cu : Nat) (q : Nat → Nat) (v : Int → Int) (P D : Int) (c0 f : Int) (w : Wf v) (hpp : 0 ≤ P ∧ P ≤ 1) (hdd : 1 ≤ D ∧ D ≤ 3) (hc : 0 ≤ c0 ∧ c0 < 36) (hf : 0 ≤ f ∧ f ≤ 200) : MR l G yX1_turnsBackwards cX1_turnsBackwards 4 (some .int) 4 [.ref (x), .int (iI (c0)), .int (iI (f))] [[sxO x cu q v P D], [arL G cu 5 (fun k => bL (upS v k))], stW G q v] ZT (.int (iI (bwZ v P D c0 f))) := by
  refine enterR (own := RX1) (by decide +kernel) rfl (Nat.le_of_ble_eq_true rfl) ?_
  intro p e s m below meth c C hP hK hZ ls hl
  have hl : lv_has ls 4 [(0, .ref (x)), (1, .int (iI (c0))), (2, .int (iI (f)))] := hl
  have hs := w.s
  refine z_il_n C hl dX1_turnsBackwards_0 2 rfl 1 rfl ?_
  refine z_is_n C hl dX1_turnsBackwards_1 2 rfl (by decide) (lv' := [(3, .int (iI (f))), (0, .ref (x)), (1, .int (iI (c0))), (2, .int (iI (f)))]) rfl (fun ls hl => ?_)
  have L2 : ∀ (fu : Nat) (T : Int) (h1 : f ≤ T ∧ T ≤ 300) (h2 : bwN v P D c0 f (v 125 + 1 - T).toNat T = bwZ v P D c0 f) (hm : 300 - T < (fu : Int)) (ls : Array Slot) (hl : lv_has ls 4 [(3, .int (iI (T))), (2, .int (iI (f))), (1, .int (iI (c0))), (0, .ref (x))]), W p l e (rmN 4) s m [.ref (x), .int (iI (c0)), .int (iI (f))].toArray below meth c s.heap [] 0 0 (MQ below (QR (.int (iI (bwZ v P D c0 f)))) [.ref (x), .int (iI (c0)), .int (iI (f))].toArray s 0 0 (fun _ => False)) (F0 m 2 ls []) := by
    intro fu
    induction fu with
    | zero => intro T h1 h2 hm ls hl; exfalso; omega
    | succ fu ih =>
      intro T h1 h2 hm ls hl
      have ih2 := ih
      refine z_il_n C hl dX1_turnsBackwards_2 0 rfl 3 rfl ?_
      refine z_al_n C hl dX1_turnsBackwards_3 3 rfl 4 rfl ?_
      refine z_get C hP hK fl_X1_15 0 rfl rfl dX1_turnsBackwards_4 7 rfl ?_
      refine z_getN C hP hK fl_X1_69 2 rfl rfl dX1_turnsBackwards_7 10 rfl ?_
      refine z_icmp_gt C dX1_turnsBackwards_10 51 13 (by decide) rfl (by omega) (fun c10 => ?_) (fun c10 => ?_)
      · skip
        refine z_bipush C dX1_turnsBackwards_51 (by decide) 53 rfl ?_
        exact z_ri C dX1_turnsBackwards_53 (by rw [← h2, bwN_0 (by omega)])
      · skip
        refine z_il_n C hl dX1_turnsBackwards_13 0 rfl 14 rfl ?_
        refine z_iconst C dX1_turnsBackwards_14 15 rfl ?_
        refine z_irem C dX1_turnsBackwards_15 16 rfl (by omega) ((T % 2)) (rfl) ?_
        refine z_al_n C hl dX1_turnsBackwards_16 3 rfl 17 rfl ?_
        refine z_get C hP hK fl_X1_29 0 rfl rfl dX1_turnsBackwards_17 20 rfl ?_
        refine z_icmp_ne C dX1_turnsBackwards_20 45 23 (by decide) rfl (by omega) (fun c20 => ?_) (fun c20 => ?_)
        · skip
          refine z_iinc C hl dX1_turnsBackwards_45 48 rfl 0 rfl (z := 1 + T) (by omega) (by decide) (lv' := [(3, .int (iI (1 + T))), (2, .int (iI (f))), (1, .int (iI (c0))), (0, .ref (x))]) rfl (fun ls hl => ?_)
          refine z_goto C dX1_turnsBackwards_48 2 (by decide) ?_
          exact ih2 (1 + T) (by omega) (by rw [← h2, bwN_1 (k := v 125 + 1 - T) (by omega), if_neg (fun z => c20 z.1), show v 125 + 1 - T - 1 = v 125 + 1 - (1 + T) by omega]) (by omega) ls (lv_sub hl [0, 1, 2, 3] rfl)
        · skip
          refine z_al_n C hl dX1_turnsBackwards_23 3 rfl 24 rfl ?_
          refine z_il_n C hl dX1_turnsBackwards_24 1 rfl 25 rfl ?_
          refine z_il_n C hl dX1_turnsBackwards_25 0 rfl 26 rfl ?_
          refine z_VR (r := .long (bL (ldN v P D T (Int.toNat (T - f))))) (rest := []) C (m_cellsThatLeadHome l G x cu q v P D f T w hpp hdd (by omega) (by omega)) kV_X1_84 ⟨Nat.le_of_ble_eq_true rfl, Nat.le_of_ble_eq_true rfl⟩ hP hK 0 rfl rfl rfl hl.1 rfl (Nat.le_of_ble_eq_true rfl) dX1_turnsBackwards_26 ⟨Nat.le_of_ble_eq_true rfl, Nat.le_of_ble_eq_true rfl⟩ 29 rfl ?_
          refine z_il_n C hl dX1_turnsBackwards_29 2 rfl 30 rfl ?_
          refine z_SR (r := .long (bL (oneS c0))) (rest := [.long (bL (ldN v P D T (Int.toNat (T - f))))]) C (m_setOf l G (c0) (by omega)) kS_X1_43 ⟨Nat.le_of_ble_eq_true rfl, Nat.le_of_ble_eq_true rfl⟩ (gP_nil) hK rfl hl.1 rfl (Nat.le_of_ble_eq_true rfl) dX1_turnsBackwards_30 ⟨Nat.le_of_ble_eq_true rfl, Nat.le_of_ble_eq_true rfl⟩ 33 rfl ?_
          refine z_landS C dX1_turnsBackwards_33 34 rfl ?_
          refine z_lconst0 C dX1_turnsBackwards_34 35 rfl ?_
          refine z_lcmp C dX1_turnsBackwards_35 36 rfl ?_
          refine z_ifl_eq C dX1_turnsBackwards_36 45 39 (by decide) rfl (fun c36 => ?_) (fun c36 => ?_)
          · skip
            rw [one_in hc] at c36
            refine z_iinc C hl dX1_turnsBackwards_45 48 rfl 0 rfl (z := 1 + T) (by omega) (by decide) (lv' := [(3, .int (iI (1 + T))), (2, .int (iI (f))), (1, .int (iI (c0))), (0, .ref (x))]) rfl (fun ls hl => ?_)
            refine z_goto C dX1_turnsBackwards_48 2 (by decide) ?_
            exact ih2 (1 + T) (by omega) (by rw [← h2, bwN_1 (k := v 125 + 1 - T) (by omega), if_neg (fun z => by rw [c36] at z; cases z.2), show v 125 + 1 - T - 1 = v 125 + 1 - (1 + T) by omega]) (by omega) ls (lv_sub hl [0, 1, 2, 3] rfl)
          · skip
            rw [one_in hc] at c36
            simp only [Bool.not_eq_false] at c36
            refine z_il_n C hl dX1_turnsBackwards_39 0 rfl 40 rfl ?_
            refine z_il_n C hl dX1_turnsBackwards_40 1 rfl 41 rfl ?_
            refine z_isub C dX1_turnsBackwards_41 42 rfl (T - f) (rfl) ?_
            refine z_iconst C dX1_turnsBackwards_42 43 rfl ?_
            refine z_iadd C dX1_turnsBackwards_43 44 rfl (1 + T - f) (by omega) ?_
            exact z_ri C dX1_turnsBackwards_44 (by rw [← h2, bwN_1 (k := v 125 + 1 - T) (by omega), if_pos ⟨c20, c36⟩])
  exact L2 (Int.toNat (300 - f) + 1) f (by omega) (rfl) (by omega) ls (lv_sub hl [0, 3, 2, 1] rfl)

set_option maxHeartbeats 4000000 in
set_option maxRecDepth 100000 in
theorem m_turnsBehind (l : Launch) (G : gT) (x cu : Nat) (q : Nat → Nat) (v : Int → Int) (P D : Int) (c0 t : Int) (w : Wf v) (hpp : 0 ≤ P ∧ P ≤ 1) (hdd : 1 ≤ D ∧ D ≤ 3) (hc : 0 ≤ c0 ∧ c0 < 36) (ht : 0 ≤ t ∧ t ≤ 150) (hne : c0 ≠ harZ P) : MR l G yX1_turnsBehind cX1_turnsBehind 4 (some .int) 4 [.ref (x), .int (iI (c0)), .int (iI (t))] [[sxO x cu q v P D], [arL G cu 5 (fun k => bL (upS v k))], stW G q v] ZT (.int (iI (behZ v P D c0 t))) := by
  refine enterR (own := RX1) (by decide +kernel) rfl (Nat.le_of_ble_eq_true rfl) ?_
  intro p e s m below meth c C hP hK hZ ls hl
  have hl : lv_has ls 4 [(0, .ref (x)), (1, .int (iI (c0))), (2, .int (iI (t)))] := hl
  refine z_al_n C hl dX1_turnsBehind_0 0 rfl 1 rfl ?_
  refine z_il_n C hl dX1_turnsBehind_1 2 rfl 2 rfl ?_
  refine z_VR (r := .long (bL (wrS v D t))) (rest := []) C (m_wreckingCells l G x cu q v P D t w hpp hdd (by omega)) kV_X1_79 ⟨Nat.le_of_ble_eq_true rfl, Nat.le_of_ble_eq_true rfl⟩ hP hK 0 rfl rfl rfl hl.1 rfl (Nat.le_of_ble_eq_true rfl) dX1_turnsBehind_2 ⟨Nat.le_of_ble_eq_true rfl, Nat.le_of_ble_eq_true rfl⟩ 5 rfl ?_
  refine z_il_n C hl dX1_turnsBehind_5 1 rfl 6 rfl ?_
  refine z_SR (r := .long (bL (oneS c0))) (rest := [.long (bL (wrS v D t))]) C (m_setOf l G (c0) (by omega)) kS_X1_43 ⟨Nat.le_of_ble_eq_true rfl, Nat.le_of_ble_eq_true rfl⟩ (gP_nil) hK rfl hl.1 rfl (Nat.le_of_ble_eq_true rfl) dX1_turnsBehind_6 ⟨Nat.le_of_ble_eq_true rfl, Nat.le_of_ble_eq_true rfl⟩ 9 rfl ?_
  refine z_landS C dX1_turnsBehind_9 10 rfl ?_
  refine z_lconst0 C dX1_turnsBehind_10 11 rfl ?_
  refine z_lcmp C dX1_turnsBehind_11 12 rfl ?_
  refine z_ifl_eq C dX1_turnsBehind_12 19 15 (by decide) rfl (fun c12 => ?_) (fun c12 => ?_)
  · skip
    rw [one_in hc] at c12
    refine z_iconst C dX1_turnsBehind_19 20 rfl ?_
    refine z_is_n C hl dX1_turnsBehind_20 21 rfl (by decide) (lv' := [(3, .int (iI (0))), (0, .ref (x)), (1, .int (iI (c0))), (2, .int (iI (t)))]) rfl (fun ls hl => ?_)
    refine z_il_n C hl dX1_turnsBehind_21 0 rfl 22 rfl ?_
    refine z_if_eq C dX1_turnsBehind_22 30 25 (by decide) rfl (by omega) (fun c22 => ?_) (fun c22 => ?_)
    · skip
      refine z_al_n C hl dX1_turnsBehind_30 1 rfl 31 rfl ?_
      refine z_il_n C hl dX1_turnsBehind_31 2 rfl 32 rfl ?_
      refine z_il_n C hl dX1_turnsBehind_32 3 rfl 33 rfl ?_
      refine z_iconst C dX1_turnsBehind_33 34 rfl ?_
      refine z_iadd C dX1_turnsBehind_34 35 rfl (1 + t) (by omega) ?_
      refine z_VR (r := .int (iI (fwZ v P D c0 (1 + t)))) (rest := []) C (m_turnsForwards l G x cu q v P D c0 (1 + t) w hpp hdd (by omega) (by omega) (by assumption)) kV_X1_88 ⟨Nat.le_of_ble_eq_true rfl, Nat.le_of_ble_eq_true rfl⟩ hP hK 0 rfl rfl rfl hl.1 rfl (Nat.le_of_ble_eq_true rfl) dX1_turnsBehind_35 ⟨Nat.le_of_ble_eq_true rfl, Nat.le_of_ble_eq_true rfl⟩ 38 rfl ?_
      exact z_ri C dX1_turnsBehind_38 (by unfold behZ; rw [if_neg (by rw [c12]; decide)])
    · exfalso; omega
  · skip
    rw [one_in hc] at c12
    simp only [Bool.not_eq_false] at c12
    refine z_iconst C dX1_turnsBehind_15 16 rfl ?_
    refine z_goto C dX1_turnsBehind_16 20 (by decide) ?_
    refine z_is_n C hl dX1_turnsBehind_20 21 rfl (by decide) (lv' := [(3, .int (iI (1))), (0, .ref (x)), (1, .int (iI (c0))), (2, .int (iI (t)))]) rfl (fun ls hl => ?_)
    refine z_il_n C hl dX1_turnsBehind_21 0 rfl 22 rfl ?_
    refine z_if_eq C dX1_turnsBehind_22 30 25 (by decide) rfl (by omega) (fun c22 => ?_) (fun c22 => ?_)
    · exfalso; omega
    · skip
      refine z_bipush C dX1_turnsBehind_25 (by decide) 27 rfl ?_
      refine z_goto C dX1_turnsBehind_27 38 (by decide) ?_
      exact z_ri C dX1_turnsBehind_38 (by unfold behZ; rw [if_pos c12])

set_option maxHeartbeats 4000000 in
set_option maxRecDepth 100000 in
theorem m_prepare (l : Launch) (G : gT) (x cu : Nat) (q : Nat → Nat) (v : Int → Int) (b : Int) (k : Int64 × Int64 × Int64 × Int × Int) (f : Int → Int64) (w : Wf v) (hb : 0 ≤ b ∧ b < v 127) (hD : gD ([[sxA x cu q k], [arL G cu 5 f], stW G q v] : List va_W).flatten) : MW l G yX1_prepare cX1_prepare 4 (none) 2 [.ref (x), .int (iI (b))] [[sxA x cu q k], [arL G cu 5 f], stW G q v] [[sxO x cu q v (v (72 + 5 * b)) (v (73 + 5 * b))], [arL G cu 5 (fun k => bL (upS v k))], stW G q v] ZT none := by
  refine enterW (own := RX1) (by decide +kernel) rfl (Nat.le_of_ble_eq_true rfl) hD ?_
  intro p e s m below meth c C hW hK hZ ls hl
  have hl : lv_has ls 4 [(0, .ref (x)), (1, .int (iI (b)))] := hl
  have hn := w.n
  have hw := w.b b (by omega)
  have hh0 := harZ_rng (v (72 + 5 * b))
  have hh1 := harZ_rng (1 - v (72 + 5 * b))
  refine z_al_n C hl dX1_prepare_0 0 rfl 1 rfl ?_
  refine z_al_n C hl dX1_prepare_1 0 rfl 2 rfl ?_
  refine z_get C hW.1 hK fl_X1_15 0 rfl rfl dX1_prepare_2 5 rfl ?_
  refine z_getN C hW.1 hK fl_X1_19 2 rfl rfl dX1_prepare_5 8 rfl ?_
  refine z_il_n C hl dX1_prepare_8 1 rfl 9 rfl ?_
  refine z_NR (r := .int (iI (v (72 + 5 * b)))) (rest := [.ref (x)]) C (m_rd l G (q 3) 10 (fun k => v (72 + 5 * k)) (b) (v (72 + 5 * b)) (by decide) (by omega) (congrArg v (by omega))) kN_X1_25 ⟨Nat.le_of_ble_eq_true rfl, Nat.le_of_ble_eq_true rfl⟩ (gP_c hW.1 5 rfl) hK rfl hl.1 rfl (Nat.le_of_ble_eq_true rfl) dX1_prepare_9 ⟨Nat.le_of_ble_eq_true rfl, Nat.le_of_ble_eq_true rfl⟩ 12 rfl ?_
  refine z_put C hW hK fl_X1_29 fc_X1_5 0 rfl (rfl) (rfl) (Nat.le_of_ble_eq_true rfl) dX1_prepare_12 15 rfl (rs' := [[(x, .inr (1, [.ref (q 0), .ref (cu), .long (k.1), .long (k.2.1), .long (k.2.2.1), .int (iI (v (72 + 5 * b))), .int (iI (k.2.2.2.2))]))], [arL G cu 5 f], stW G q v]) rfl (fun H locs hW => ?_)
  refine z_al_n C hl dX1_prepare_15 0 rfl 16 rfl ?_
  refine z_al_n C hl dX1_prepare_16 0 rfl 17 rfl ?_
  refine z_get C hW.1 hK fl_X1_15 0 rfl rfl dX1_prepare_17 20 rfl ?_
  refine z_getN C hW.1 hK fl_X1_33 2 rfl rfl dX1_prepare_20 23 rfl ?_
  refine z_il_n C hl dX1_prepare_23 1 rfl 24 rfl ?_
  refine z_NR (r := .int (iI (v (73 + 5 * b)))) (rest := [.ref (x)]) C (m_rd l G (q 4) 10 (fun k => v (73 + 5 * k)) (b) (v (73 + 5 * b)) (by decide) (by omega) (congrArg v (by omega))) kN_X1_25 ⟨Nat.le_of_ble_eq_true rfl, Nat.le_of_ble_eq_true rfl⟩ (gP_c hW.1 6 rfl) hK rfl hl.1 rfl (Nat.le_of_ble_eq_true rfl) dX1_prepare_24 ⟨Nat.le_of_ble_eq_true rfl, Nat.le_of_ble_eq_true rfl⟩ 27 rfl ?_
  refine z_put C hW hK fl_X1_36 fc_X1_6 0 rfl (rfl) (rfl) (Nat.le_of_ble_eq_true rfl) dX1_prepare_27 30 rfl (rs' := [[(x, .inr (1, [.ref (q 0), .ref (cu), .long (k.1), .long (k.2.1), .long (k.2.2.1), .int (iI (v (72 + 5 * b))), .int (iI (v (73 + 5 * b)))]))], [arL G cu 5 f], stW G q v]) rfl (fun H locs hW => ?_)
  refine z_al_n C hl dX1_prepare_30 0 rfl 31 rfl ?_
  refine z_al_n C hl dX1_prepare_31 0 rfl 32 rfl ?_
  refine z_get C hW.1 hK fl_X1_29 0 rfl rfl dX1_prepare_32 35 rfl ?_
  refine z_NR (r := .int (iI (harZ (v (72 + 5 * b))))) (rest := [.ref (x)]) C (m_harbourOf l G (v (72 + 5 * b)) (by omega)) kN_X1_39 ⟨Nat.le_of_ble_eq_true rfl, Nat.le_of_ble_eq_true rfl⟩ (gP_nil) hK rfl hl.1 rfl (Nat.le_of_ble_eq_true rfl) dX1_prepare_35 ⟨Nat.le_of_ble_eq_true rfl, Nat.le_of_ble_eq_true rfl⟩ 38 rfl ?_
  have hh35 := harZ_rng (v (72 + 5 * b))
  refine z_SR (r := .long (bL (oneS (harZ (v (72 + 5 * b)))))) (rest := [.ref (x)]) C (m_setOf l G (harZ (v (72 + 5 * b))) (by omega)) kS_X1_43 ⟨Nat.le_of_ble_eq_true rfl, Nat.le_of_ble_eq_true rfl⟩ (gP_nil) hK rfl hl.1 rfl (Nat.le_of_ble_eq_true rfl) dX1_prepare_38 ⟨Nat.le_of_ble_eq_true rfl, Nat.le_of_ble_eq_true rfl⟩ 41 rfl ?_
  refine z_put C hW hK fl_X1_47 fc_X1_3 0 rfl (rfl) (rfl) (Nat.le_of_ble_eq_true rfl) dX1_prepare_41 44 rfl (rs' := [[(x, .inr (1, [.ref (q 0), .ref (cu), .long (k.1), .long (bL (oneS (harZ (v (72 + 5 * b))))), .long (k.2.2.1), .int (iI (v (72 + 5 * b))), .int (iI (v (73 + 5 * b)))]))], [arL G cu 5 f], stW G q v]) rfl (fun H locs hW => ?_)
  refine z_al_n C hl dX1_prepare_44 0 rfl 45 rfl ?_
  refine z_iconst C dX1_prepare_45 46 rfl ?_
  refine z_al_n C hl dX1_prepare_46 0 rfl 47 rfl ?_
  refine z_get C hW.1 hK fl_X1_29 0 rfl rfl dX1_prepare_47 50 rfl ?_
  refine z_isub C dX1_prepare_50 51 rfl (1 - v (72 + 5 * b)) (by omega) ?_
  refine z_NR (r := .int (iI (harZ (1 - v (72 + 5 * b))))) (rest := [.ref (x)]) C (m_harbourOf l G (1 - v (72 + 5 * b)) (by omega)) kN_X1_39 ⟨Nat.le_of_ble_eq_true rfl, Nat.le_of_ble_eq_true rfl⟩ (gP_nil) hK rfl hl.1 rfl (Nat.le_of_ble_eq_true rfl) dX1_prepare_51 ⟨Nat.le_of_ble_eq_true rfl, Nat.le_of_ble_eq_true rfl⟩ 54 rfl ?_
  have hh51 := harZ_rng (1 - v (72 + 5 * b))
  refine z_SR (r := .long (bL (oneS (harZ (1 - v (72 + 5 * b)))))) (rest := [.ref (x)]) C (m_setOf l G (harZ (1 - v (72 + 5 * b))) (by omega)) kS_X1_43 ⟨Nat.le_of_ble_eq_true rfl, Nat.le_of_ble_eq_true rfl⟩ (gP_nil) hK rfl hl.1 rfl (Nat.le_of_ble_eq_true rfl) dX1_prepare_54 ⟨Nat.le_of_ble_eq_true rfl, Nat.le_of_ble_eq_true rfl⟩ 57 rfl ?_
  refine z_put C hW hK fl_X1_51 fc_X1_4 0 rfl (rfl) (rfl) (Nat.le_of_ble_eq_true rfl) dX1_prepare_57 60 rfl (rs' := [[(x, .inr (1, [.ref (q 0), .ref (cu), .long (k.1), .long (bL (oneS (harZ (v (72 + 5 * b))))), .long (bL (oneS (harZ (1 - v (72 + 5 * b))))), .int (iI (v (72 + 5 * b))), .int (iI (v (73 + 5 * b)))]))], [arL G cu 5 f], stW G q v]) rfl (fun H locs hW => ?_)
  refine z_al_n C hl dX1_prepare_60 0 rfl 61 rfl ?_
  refine z_lconst0 C dX1_prepare_61 62 rfl ?_
  refine z_top (b := .long (bL botS)) (congrArg Value.long bL_bot) ?_
  refine z_put C hW hK fl_X1_54 fc_X1_2 0 rfl (rfl) (rfl) (Nat.le_of_ble_eq_true rfl) dX1_prepare_62 65 rfl (rs' := [[(x, .inr (1, [.ref (q 0), .ref (cu), .long (bL (botS)), .long (bL (oneS (harZ (v (72 + 5 * b))))), .long (bL (oneS (harZ (1 - v (72 + 5 * b))))), .int (iI (v (72 + 5 * b))), .int (iI (v (73 + 5 * b)))]))], [arL G cu 5 f], stW G q v]) rfl (fun H locs hW => ?_)
  refine z_iconst C dX1_prepare_65 66 rfl ?_
  refine z_is_n C hl dX1_prepare_66 67 rfl (by decide) (lv' := [(2, .int (iI (0))), (0, .ref (x)), (1, .int (iI (b)))]) rfl (fun ls hl => ?_)
  refine z_il_n C hl dX1_prepare_67 0 rfl 68 rfl ?_
  refine z_al_n C hl dX1_prepare_68 1 rfl 69 rfl ?_
  refine z_get C hW.1 hK fl_X1_9 0 rfl rfl dX1_prepare_69 72 rfl ?_
  refine z_alen C hW.1 hK 1 1 rfl rfl (5) rfl dX1_prepare_72 73 rfl ?_
  refine z_icmp_ge C dX1_prepare_73 89 76 (by decide) rfl (by omega) (fun c73 => ?_) (fun c73 => ?_)
  · exfalso; omega
  · skip
    refine z_al_n C hl dX1_prepare_76 1 rfl 77 rfl ?_
    refine z_get C hW.1 hK fl_X1_9 0 rfl rfl dX1_prepare_77 80 rfl ?_
    refine z_il_n C hl dX1_prepare_80 0 rfl 81 rfl ?_
    refine z_lconst0 C dX1_prepare_81 82 rfl ?_
    refine z_iasL C (f) hW hK 1 rfl (by omega) (by decide) dX1_prepare_82 83 rfl (rs' := [[(x, .inr (1, [.ref (q 0), .ref (cu), .long (bL (botS)), .long (bL (oneS (harZ (v (72 + 5 * b))))), .long (bL (oneS (harZ (1 - v (72 + 5 * b))))), .int (iI (v (72 + 5 * b))), .int (iI (v (73 + 5 * b)))]))], [arL G cu 5 (updL f 0 (0))], stW G q v]) rfl (fun H locs hW => ?_)
    refine z_iinc C hl dX1_prepare_83 86 rfl 0 rfl (z := 1) (by omega) (by decide) (lv' := [(2, .int (iI (1))), (0, .ref (x)), (1, .int (iI (b)))]) rfl (fun ls hl => ?_)
    refine z_goto C dX1_prepare_86 67 (by decide) ?_
    refine z_il_n C hl dX1_prepare_67 0 rfl 68 rfl ?_
    refine z_al_n C hl dX1_prepare_68 1 rfl 69 rfl ?_
    refine z_get C hW.1 hK fl_X1_9 0 rfl rfl dX1_prepare_69 72 rfl ?_
    refine z_alen C hW.1 hK 1 1 rfl rfl (5) rfl dX1_prepare_72 73 rfl ?_
    refine z_icmp_ge C dX1_prepare_73 89 76 (by decide) rfl (by omega) (fun c73 => ?_) (fun c73 => ?_)
    · exfalso; omega
    · skip
      refine z_al_n C hl dX1_prepare_76 1 rfl 77 rfl ?_
      refine z_get C hW.1 hK fl_X1_9 0 rfl rfl dX1_prepare_77 80 rfl ?_
      refine z_il_n C hl dX1_prepare_80 0 rfl 81 rfl ?_
      refine z_lconst0 C dX1_prepare_81 82 rfl ?_
      refine z_iasL C (updL f 0 (0)) hW hK 1 rfl (by omega) (by decide) dX1_prepare_82 83 rfl (rs' := [[(x, .inr (1, [.ref (q 0), .ref (cu), .long (bL (botS)), .long (bL (oneS (harZ (v (72 + 5 * b))))), .long (bL (oneS (harZ (1 - v (72 + 5 * b))))), .int (iI (v (72 + 5 * b))), .int (iI (v (73 + 5 * b)))]))], [arL G cu 5 (updL (updL f 0 (0)) 1 (0))], stW G q v]) rfl (fun H locs hW => ?_)
      refine z_iinc C hl dX1_prepare_83 86 rfl 0 rfl (z := 2) (by omega) (by decide) (lv' := [(2, .int (iI (2))), (0, .ref (x)), (1, .int (iI (b)))]) rfl (fun ls hl => ?_)
      refine z_goto C dX1_prepare_86 67 (by decide) ?_
      refine z_il_n C hl dX1_prepare_67 0 rfl 68 rfl ?_
      refine z_al_n C hl dX1_prepare_68 1 rfl 69 rfl ?_
      refine z_get C hW.1 hK fl_X1_9 0 rfl rfl dX1_prepare_69 72 rfl ?_
      refine z_alen C hW.1 hK 1 1 rfl rfl (5) rfl dX1_prepare_72 73 rfl ?_
      refine z_icmp_ge C dX1_prepare_73 89 76 (by decide) rfl (by omega) (fun c73 => ?_) (fun c73 => ?_)
      · exfalso; omega
      · skip
        refine z_al_n C hl dX1_prepare_76 1 rfl 77 rfl ?_
        refine z_get C hW.1 hK fl_X1_9 0 rfl rfl dX1_prepare_77 80 rfl ?_
        refine z_il_n C hl dX1_prepare_80 0 rfl 81 rfl ?_
        refine z_lconst0 C dX1_prepare_81 82 rfl ?_
        refine z_iasL C (updL (updL f 0 (0)) 1 (0)) hW hK 1 rfl (by omega) (by decide) dX1_prepare_82 83 rfl (rs' := [[(x, .inr (1, [.ref (q 0), .ref (cu), .long (bL (botS)), .long (bL (oneS (harZ (v (72 + 5 * b))))), .long (bL (oneS (harZ (1 - v (72 + 5 * b))))), .int (iI (v (72 + 5 * b))), .int (iI (v (73 + 5 * b)))]))], [arL G cu 5 (updL (updL (updL f 0 (0)) 1 (0)) 2 (0))], stW G q v]) rfl (fun H locs hW => ?_)
        refine z_iinc C hl dX1_prepare_83 86 rfl 0 rfl (z := 3) (by omega) (by decide) (lv' := [(2, .int (iI (3))), (0, .ref (x)), (1, .int (iI (b)))]) rfl (fun ls hl => ?_)
        refine z_goto C dX1_prepare_86 67 (by decide) ?_
        refine z_il_n C hl dX1_prepare_67 0 rfl 68 rfl ?_
        refine z_al_n C hl dX1_prepare_68 1 rfl 69 rfl ?_
        refine z_get C hW.1 hK fl_X1_9 0 rfl rfl dX1_prepare_69 72 rfl ?_
        refine z_alen C hW.1 hK 1 1 rfl rfl (5) rfl dX1_prepare_72 73 rfl ?_
        refine z_icmp_ge C dX1_prepare_73 89 76 (by decide) rfl (by omega) (fun c73 => ?_) (fun c73 => ?_)
        · exfalso; omega
        · skip
          refine z_al_n C hl dX1_prepare_76 1 rfl 77 rfl ?_
          refine z_get C hW.1 hK fl_X1_9 0 rfl rfl dX1_prepare_77 80 rfl ?_
          refine z_il_n C hl dX1_prepare_80 0 rfl 81 rfl ?_
          refine z_lconst0 C dX1_prepare_81 82 rfl ?_
          refine z_iasL C (updL (updL (updL f 0 (0)) 1 (0)) 2 (0)) hW hK 1 rfl (by omega) (by decide) dX1_prepare_82 83 rfl (rs' := [[(x, .inr (1, [.ref (q 0), .ref (cu), .long (bL (botS)), .long (bL (oneS (harZ (v (72 + 5 * b))))), .long (bL (oneS (harZ (1 - v (72 + 5 * b))))), .int (iI (v (72 + 5 * b))), .int (iI (v (73 + 5 * b)))]))], [arL G cu 5 (updL (updL (updL (updL f 0 (0)) 1 (0)) 2 (0)) 3 (0))], stW G q v]) rfl (fun H locs hW => ?_)
          refine z_iinc C hl dX1_prepare_83 86 rfl 0 rfl (z := 4) (by omega) (by decide) (lv' := [(2, .int (iI (4))), (0, .ref (x)), (1, .int (iI (b)))]) rfl (fun ls hl => ?_)
          refine z_goto C dX1_prepare_86 67 (by decide) ?_
          refine z_il_n C hl dX1_prepare_67 0 rfl 68 rfl ?_
          refine z_al_n C hl dX1_prepare_68 1 rfl 69 rfl ?_
          refine z_get C hW.1 hK fl_X1_9 0 rfl rfl dX1_prepare_69 72 rfl ?_
          refine z_alen C hW.1 hK 1 1 rfl rfl (5) rfl dX1_prepare_72 73 rfl ?_
          refine z_icmp_ge C dX1_prepare_73 89 76 (by decide) rfl (by omega) (fun c73 => ?_) (fun c73 => ?_)
          · exfalso; omega
          · skip
            refine z_al_n C hl dX1_prepare_76 1 rfl 77 rfl ?_
            refine z_get C hW.1 hK fl_X1_9 0 rfl rfl dX1_prepare_77 80 rfl ?_
            refine z_il_n C hl dX1_prepare_80 0 rfl 81 rfl ?_
            refine z_lconst0 C dX1_prepare_81 82 rfl ?_
            refine z_iasL C (updL (updL (updL (updL f 0 (0)) 1 (0)) 2 (0)) 3 (0)) hW hK 1 rfl (by omega) (by decide) dX1_prepare_82 83 rfl (rs' := [[(x, .inr (1, [.ref (q 0), .ref (cu), .long (bL (botS)), .long (bL (oneS (harZ (v (72 + 5 * b))))), .long (bL (oneS (harZ (1 - v (72 + 5 * b))))), .int (iI (v (72 + 5 * b))), .int (iI (v (73 + 5 * b)))]))], [arL G cu 5 (updL (updL (updL (updL (updL f 0 (0)) 1 (0)) 2 (0)) 3 (0)) 4 (0))], stW G q v]) rfl (fun H locs hW => ?_)
            refine z_iinc C hl dX1_prepare_83 86 rfl 0 rfl (z := 5) (by omega) (by decide) (lv' := [(2, .int (iI (5))), (0, .ref (x)), (1, .int (iI (b)))]) rfl (fun ls hl => ?_)
            refine z_goto C dX1_prepare_86 67 (by decide) ?_
            refine z_il_n C hl dX1_prepare_67 0 rfl 68 rfl ?_
            refine z_al_n C hl dX1_prepare_68 1 rfl 69 rfl ?_
            refine z_get C hW.1 hK fl_X1_9 0 rfl rfl dX1_prepare_69 72 rfl ?_
            refine z_alen C hW.1 hK 1 1 rfl rfl (5) rfl dX1_prepare_72 73 rfl ?_
            refine z_icmp_ge C dX1_prepare_73 89 76 (by decide) rfl (by omega) (fun c73 => ?_) (fun c73 => ?_)
            · skip
              refine z_iconst C dX1_prepare_89 90 rfl ?_
              rw [rkM_0 v] at hW
              have hW := Wd.ceq (rs' := [[(x, .inr (1, [.ref (q 0), .ref (cu), .long (bL (rkM v 0)), .long (bL (oneS (harZ (v (72 + 5 * b))))), .long (bL (oneS (harZ (1 - v (72 + 5 * b))))), .int (iI (v (72 + 5 * b))), .int (iI (v (73 + 5 * b)))]))], [arL G cu 5 (fun k => bL (upM v (0) (0) k))], stW G q v]) hW ⟨ceq.rf, ⟨ceq.L (fun k h8 h9 => by simp only [updL]; rcases (show k = 0 ∨ k = 1 ∨ k = 2 ∨ k = 3 ∨ k = 4 by omega) with e | e | e | e | e <;> subst e <;> exact upM_0 v (by decide)), ceqs.rf⟩⟩
              refine z_is_n C hl dX1_prepare_90 91 rfl (by decide) (lv' := [(2, .int (iI (0))), (0, .ref (x)), (1, .int (iI (b)))]) rfl (fun ls hl => ?_)
              have L91 : ∀ (fu : Nat) (i : Int) (h1 : 0 ≤ i ∧ i ≤ 36) (H : Heap) (locs : List Loc) (hW : Wd G (adr ([[sxA x cu q k], [arL G cu 5 f], stW G q v] : List va_W).flatten) [[(x, .inr (1, [.ref (q 0), .ref (cu), .long (bL (rkM v i)), .long (bL (oneS (harZ (v (72 + 5 * b))))), .long (bL (oneS (harZ (1 - v (72 + 5 * b))))), .int (iI (v (72 + 5 * b))), .int (iI (v (73 + 5 * b)))]))], [arL G cu 5 (fun k => bL (upM v (i) (0) k))], stW G q v] s.heap H locs) (hm : 36 - i < (fu : Int)) (ls : Array Slot) (hl : lv_has ls 4 [(2, .int (iI (i))), (1, .int (iI (b))), (0, .ref (x))]), W p l e (rmN 2) s m [.ref (x), .int (iI (b))].toArray below meth c H locs 0 0 (MQ below (QW G [[sxA x cu q k], [arL G cu 5 f], stW G q v] [[sxO x cu q v (v (72 + 5 * b)) (v (73 + 5 * b))], [arL G cu 5 (fun k => bL (upS v k))], stW G q v] none) [.ref (x), .int (iI (b))].toArray s 0 0 (adr ([[sxA x cu q k], [arL G cu 5 f], stW G q v] : List va_W).flatten)) (F0 m 91 ls []) := by
                intro fu
                induction fu with
                | zero => intro i h1 H locs hW hm ls hl; exfalso; omega
                | succ fu ih =>
                  intro i h1 H locs hW hm ls hl
                  have ih91 := ih
                  refine z_il_n C hl dX1_prepare_91 0 rfl 92 rfl ?_
                  refine z_bipush C dX1_prepare_92 (by decide) 94 rfl ?_
                  refine z_icmp_ge C dX1_prepare_94 175 97 (by decide) rfl (by omega) (fun c94 => ?_) (fun c94 => ?_)
                  · skip
                    rw [show i = 36 by omega, rkM_36 v] at hW
                    have hW := Wd.ceq (rs' := [[sxO x cu q v (v (72 + 5 * b)) (v (73 + 5 * b))], [arL G cu 5 (fun k => bL (upS v k))], stW G q v]) hW ⟨ceq.rf, ⟨ceq.L (fun k h8 h9 => upM_36 v h8), ceqs.rf⟩⟩
                    exact z_wv C hW dX1_prepare_175 rfl
                  · skip
                    have hr3 := w.r i (by omega)
                    have hh3 := w.h i (by omega)
                    refine z_al_n C hl dX1_prepare_97 2 rfl 98 rfl ?_
                    refine z_get C hW.1 hK fl_X1_15 0 rfl rfl dX1_prepare_98 101 rfl ?_
                    refine z_getN C hW.1 hK fl_X1_57 2 rfl rfl dX1_prepare_101 104 rfl ?_
                    refine z_il_n C hl dX1_prepare_104 0 rfl 105 rfl ?_
                    refine z_NR (r := .int (iI (v (36 + i)))) (rest := []) C (m_rd l G (q 2) 36 (fun k => v (36 + k)) (i) (v (36 + i)) (by decide) (by omega) (congrArg v (by omega))) kN_X1_25 ⟨Nat.le_of_ble_eq_true rfl, Nat.le_of_ble_eq_true rfl⟩ (gP_c hW.1 4 rfl) hK rfl hl.1 rfl (Nat.le_of_ble_eq_true rfl) dX1_prepare_105 ⟨Nat.le_of_ble_eq_true rfl, Nat.le_of_ble_eq_true rfl⟩ 108 rfl ?_
                    refine z_iconst C dX1_prepare_108 109 rfl ?_
                    refine z_icmp_ne C dX1_prepare_109 125 112 (by decide) rfl (by omega) (fun c109 => ?_) (fun c109 => ?_)
                    · skip
                      rw [rkM_n c109] at hW
                      refine z_iconst C dX1_prepare_125 126 rfl ?_
                      refine z_al_n C hl dX1_prepare_126 2 rfl 127 rfl ?_
                      refine z_get C hW.1 hK fl_X1_15 0 rfl rfl dX1_prepare_127 130 rfl ?_
                      refine z_getN C hW.1 hK fl_X1_60 2 rfl rfl dX1_prepare_130 133 rfl ?_
                      refine z_il_n C hl dX1_prepare_133 0 rfl 134 rfl ?_
                      refine z_NR (r := .int (iI (v i))) (rest := [.int (iI (0))]) C (m_rd l G (q 1) 36 (fun k => v k) (i) (v i) (by decide) (by omega) (rfl)) kN_X1_25 ⟨Nat.le_of_ble_eq_true rfl, Nat.le_of_ble_eq_true rfl⟩ (gP_c hW.1 3 rfl) hK rfl hl.1 rfl (Nat.le_of_ble_eq_true rfl) dX1_prepare_134 ⟨Nat.le_of_ble_eq_true rfl, Nat.le_of_ble_eq_true rfl⟩ 137 rfl ?_
                      refine z_SR (r := .int (iI (maxZ 0 (v i)))) (rest := []) C (m_max l G (0) (v i) (by omega) (by omega)) kS_X1_63 ⟨Nat.le_of_ble_eq_true rfl, Nat.le_of_ble_eq_true rfl⟩ (gP_nil) hK rfl hl.1 rfl (Nat.le_of_ble_eq_true rfl) dX1_prepare_137 ⟨Nat.le_of_ble_eq_true rfl, Nat.le_of_ble_eq_true rfl⟩ 140 rfl ?_
                      have hW := Wd.ceq (rs' := [[(x, .inr (1, [.ref (q 0), .ref (cu), .long (bL (rkM v (1 + i))), .long (bL (oneS (harZ (v (72 + 5 * b))))), .long (bL (oneS (harZ (1 - v (72 + 5 * b))))), .int (iI (v (72 + 5 * b))), .int (iI (v (73 + 5 * b)))]))], [arL G cu 5 (fun k => bL (upM v (i) (maxZ 0 (v i)) k))], stW G q v]) hW ⟨ceq.rf, ⟨ceq.L (fun k h8 h9 => by rw [show maxZ 0 (v i) = v i by unfold maxZ; split <;> omega]; exact upM_s v h8), ceqs.rf⟩⟩
                      refine z_is_n C hl dX1_prepare_140 141 rfl (by decide) (lv' := [(3, .int (iI (maxZ 0 (v i)))), (2, .int (iI (i))), (1, .int (iI (b))), (0, .ref (x))]) rfl (fun ls hl => ?_)
                      have L141 : ∀ (fu : Nat) (h : Int) (g1 : v i ≤ h ∧ h ≤ 5) (H : Heap) (locs : List Loc) (hW : Wd G (adr ([[sxA x cu q k], [arL G cu 5 f], stW G q v] : List va_W).flatten) [[(x, .inr (1, [.ref (q 0), .ref (cu), .long (bL (rkM v (1 + i))), .long (bL (oneS (harZ (v (72 + 5 * b))))), .long (bL (oneS (harZ (1 - v (72 + 5 * b))))), .int (iI (v (72 + 5 * b))), .int (iI (v (73 + 5 * b)))]))], [arL G cu 5 (fun k => bL (upM v (i) (h) k))], stW G q v] s.heap H locs) (hm : 5 - h < (fu : Int)) (ls : Array Slot) (hl : lv_has ls 4 [(3, .int (iI (h))), (2, .int (iI (i))), (1, .int (iI (b))), (0, .ref (x))]), W p l e (rmN 2) s m [.ref (x), .int (iI (b))].toArray below meth c H locs 0 0 (MQ below (QW G [[sxA x cu q k], [arL G cu 5 f], stW G q v] [[sxO x cu q v (v (72 + 5 * b)) (v (73 + 5 * b))], [arL G cu 5 (fun k => bL (upS v k))], stW G q v] none) [.ref (x), .int (iI (b))].toArray s 0 0 (adr ([[sxA x cu q k], [arL G cu 5 f], stW G q v] : List va_W).flatten)) (F0 m 141 ls []) := by
                        intro fu
                        induction fu with
                        | zero => intro h g1 H locs hW hm ls hl; exfalso; omega
                        | succ fu ih =>
                          intro h g1 H locs hW hm ls hl
                          have ih141 := ih
                          refine z_il_n C hl dX1_prepare_141 0 rfl 142 rfl ?_
                          refine z_al_n C hl dX1_prepare_142 3 rfl 143 rfl ?_
                          refine z_get C hW.1 hK fl_X1_9 0 rfl rfl dX1_prepare_143 146 rfl ?_
                          refine z_alen C hW.1 hK 1 1 rfl rfl (5) rfl dX1_prepare_146 147 rfl ?_
                          refine z_icmp_ge C dX1_prepare_147 169 150 (by decide) rfl (by omega) (fun c147 => ?_) (fun c147 => ?_)
                          · skip
                            rw [show h = 5 by omega] at hW
                            have hW := Wd.ceq (rs' := [[(x, .inr (1, [.ref (q 0), .ref (cu), .long (bL (rkM v (1 + i))), .long (bL (oneS (harZ (v (72 + 5 * b))))), .long (bL (oneS (harZ (1 - v (72 + 5 * b))))), .int (iI (v (72 + 5 * b))), .int (iI (v (73 + 5 * b)))]))], [arL G cu 5 (fun k => bL (upM v (1 + i) (0) k))], stW G q v]) hW ⟨ceq.rf, ⟨ceq.L (fun k h8 h9 => upM_e v ⟨h8, h9⟩), ceqs.rf⟩⟩
                            refine z_iinc C hl dX1_prepare_169 172 rfl 1 rfl (z := 1 + i) (by omega) (by decide) (lv' := [(2, .int (iI (1 + i))), (3, .int (iI (h))), (1, .int (iI (b))), (0, .ref (x))]) rfl (fun ls hl => ?_)
                            refine z_goto C dX1_prepare_172 91 (by decide) ?_
                            exact ih91 (1 + i) (by omega) _ _ hW (by omega) ls (lv_sub hl [0, 2, 3] rfl)
                          · skip
                            refine z_al_n C hl dX1_prepare_150 3 rfl 151 rfl ?_
                            refine z_get C hW.1 hK fl_X1_9 0 rfl rfl dX1_prepare_151 154 rfl ?_
                            refine z_il_n C hl dX1_prepare_154 0 rfl 155 rfl ?_
                            refine z_dup2 C dX1_prepare_155 rfl rfl 156 rfl ?_
                            refine z_iaL C (fun k => bL (upM v (i) (h) k)) hW.1 hK 1 rfl (by omega) (by decide) (bL (upM v (i) (h) h)) (rfl) dX1_prepare_156 157 rfl ?_
                            refine z_il_n C hl dX1_prepare_157 1 rfl 158 rfl ?_
                            refine z_SR (r := .long (bL (oneS i))) (rest := [.long (bL (upM v (i) (h) h)), .int (iI (h)), .ref (cu)]) C (m_setOf l G (i) (by omega)) kS_X1_43 ⟨Nat.le_of_ble_eq_true rfl, Nat.le_of_ble_eq_true rfl⟩ (gP_nil) hK rfl hl.1 rfl (Nat.le_of_ble_eq_true rfl) dX1_prepare_158 ⟨Nat.le_of_ble_eq_true rfl, Nat.le_of_ble_eq_true rfl⟩ 161 rfl ?_
                            refine z_lorS C dX1_prepare_161 162 rfl ?_
                            refine z_iasL C (fun k => bL (upM v (i) (h) k)) hW hK 1 rfl (by omega) (by decide) dX1_prepare_162 163 rfl (rs' := [[(x, .inr (1, [.ref (q 0), .ref (cu), .long (bL (rkM v (1 + i))), .long (bL (oneS (harZ (v (72 + 5 * b))))), .long (bL (oneS (harZ (1 - v (72 + 5 * b))))), .int (iI (v (72 + 5 * b))), .int (iI (v (73 + 5 * b)))]))], [arL G cu 5 (updL (fun k => bL (upM v (i) (h) k)) h (bL (orS (upM v (i) (h) h) (oneS i))))], stW G q v]) rfl (fun H locs hW => ?_)
                            have hW := Wd.ceq (rs' := [[(x, .inr (1, [.ref (q 0), .ref (cu), .long (bL (rkM v (1 + i))), .long (bL (oneS (harZ (v (72 + 5 * b))))), .long (bL (oneS (harZ (1 - v (72 + 5 * b))))), .int (iI (v (72 + 5 * b))), .int (iI (v (73 + 5 * b)))]))], [arL G cu 5 (fun k => bL (upM v (i) (1 + h) k))], stW G q v]) hW ⟨ceq.rf, ⟨ceq.L (fun k h8 h9 => upM_h (by omega) k), ceqs.rf⟩⟩
                            refine z_iinc C hl dX1_prepare_163 166 rfl 0 rfl (z := 1 + h) (by omega) (by decide) (lv' := [(3, .int (iI (1 + h))), (2, .int (iI (i))), (1, .int (iI (b))), (0, .ref (x))]) rfl (fun ls hl => ?_)
                            refine z_goto C dX1_prepare_166 141 (by decide) ?_
                            exact ih141 (1 + h) (by omega) _ _ hW (by omega) ls (lv_sub hl [0, 1, 2, 3] rfl)
                      exact L141 (Int.toNat (5 - (maxZ 0 (v i))) + 1) (maxZ 0 (v i)) (by unfold maxZ; split <;> omega) _ _ hW (by omega) ls (lv_sub hl [0, 1, 2, 3] rfl)
                    · skip
                      refine z_al_n C hl dX1_prepare_112 2 rfl 113 rfl ?_
                      refine z_dup C dX1_prepare_113 rfl 114 rfl ?_
                      refine z_get C hW.1 hK fl_X1_54 0 rfl rfl dX1_prepare_114 117 rfl ?_
                      refine z_il_n C hl dX1_prepare_117 0 rfl 118 rfl ?_
                      refine z_SR (r := .long (bL (oneS i))) (rest := [.long (bL (rkM v i)), .ref (x)]) C (m_setOf l G (i) (by omega)) kS_X1_43 ⟨Nat.le_of_ble_eq_true rfl, Nat.le_of_ble_eq_true rfl⟩ (gP_nil) hK rfl hl.1 rfl (Nat.le_of_ble_eq_true rfl) dX1_prepare_118 ⟨Nat.le_of_ble_eq_true rfl, Nat.le_of_ble_eq_true rfl⟩ 121 rfl ?_
                      refine z_lorS C dX1_prepare_121 122 rfl ?_
                      refine z_put C hW hK fl_X1_54 fc_X1_2 0 rfl (rfl) (rfl) (Nat.le_of_ble_eq_true rfl) dX1_prepare_122 125 rfl (rs' := [[(x, .inr (1, [.ref (q 0), .ref (cu), .long (bL (orS (rkM v i) (oneS i))), .long (bL (oneS (harZ (v (72 + 5 * b))))), .long (bL (oneS (harZ (1 - v (72 + 5 * b))))), .int (iI (v (72 + 5 * b))), .int (iI (v (73 + 5 * b)))]))], [arL G cu 5 (fun k => bL (upM v (i) (0) k))], stW G q v]) rfl (fun H locs hW => ?_)
                      rw [rkM_y c109] at hW
                      refine z_iconst C dX1_prepare_125 126 rfl ?_
                      refine z_al_n C hl dX1_prepare_126 2 rfl 127 rfl ?_
                      refine z_get C hW.1 hK fl_X1_15 0 rfl rfl dX1_prepare_127 130 rfl ?_
                      refine z_getN C hW.1 hK fl_X1_60 2 rfl rfl dX1_prepare_130 133 rfl ?_
                      refine z_il_n C hl dX1_prepare_133 0 rfl 134 rfl ?_
                      refine z_NR (r := .int (iI (v i))) (rest := [.int (iI (0))]) C (m_rd l G (q 1) 36 (fun k => v k) (i) (v i) (by decide) (by omega) (rfl)) kN_X1_25 ⟨Nat.le_of_ble_eq_true rfl, Nat.le_of_ble_eq_true rfl⟩ (gP_c hW.1 3 rfl) hK rfl hl.1 rfl (Nat.le_of_ble_eq_true rfl) dX1_prepare_134 ⟨Nat.le_of_ble_eq_true rfl, Nat.le_of_ble_eq_true rfl⟩ 137 rfl ?_
                      refine z_SR (r := .int (iI (maxZ 0 (v i)))) (rest := []) C (m_max l G (0) (v i) (by omega) (by omega)) kS_X1_63 ⟨Nat.le_of_ble_eq_true rfl, Nat.le_of_ble_eq_true rfl⟩ (gP_nil) hK rfl hl.1 rfl (Nat.le_of_ble_eq_true rfl) dX1_prepare_137 ⟨Nat.le_of_ble_eq_true rfl, Nat.le_of_ble_eq_true rfl⟩ 140 rfl ?_
                      have hW := Wd.ceq (rs' := [[(x, .inr (1, [.ref (q 0), .ref (cu), .long (bL (rkM v (1 + i))), .long (bL (oneS (harZ (v (72 + 5 * b))))), .long (bL (oneS (harZ (1 - v (72 + 5 * b))))), .int (iI (v (72 + 5 * b))), .int (iI (v (73 + 5 * b)))]))], [arL G cu 5 (fun k => bL (upM v (i) (maxZ 0 (v i)) k))], stW G q v]) hW ⟨ceq.rf, ⟨ceq.L (fun k h8 h9 => by rw [show maxZ 0 (v i) = v i by unfold maxZ; split <;> omega]; exact upM_s v h8), ceqs.rf⟩⟩
                      refine z_is_n C hl dX1_prepare_140 141 rfl (by decide) (lv' := [(3, .int (iI (maxZ 0 (v i)))), (2, .int (iI (i))), (1, .int (iI (b))), (0, .ref (x))]) rfl (fun ls hl => ?_)
                      have L141 : ∀ (fu : Nat) (h : Int) (g1 : v i ≤ h ∧ h ≤ 5) (H : Heap) (locs : List Loc) (hW : Wd G (adr ([[sxA x cu q k], [arL G cu 5 f], stW G q v] : List va_W).flatten) [[(x, .inr (1, [.ref (q 0), .ref (cu), .long (bL (rkM v (1 + i))), .long (bL (oneS (harZ (v (72 + 5 * b))))), .long (bL (oneS (harZ (1 - v (72 + 5 * b))))), .int (iI (v (72 + 5 * b))), .int (iI (v (73 + 5 * b)))]))], [arL G cu 5 (fun k => bL (upM v (i) (h) k))], stW G q v] s.heap H locs) (hm : 5 - h < (fu : Int)) (ls : Array Slot) (hl : lv_has ls 4 [(3, .int (iI (h))), (2, .int (iI (i))), (1, .int (iI (b))), (0, .ref (x))]), W p l e (rmN 2) s m [.ref (x), .int (iI (b))].toArray below meth c H locs 0 0 (MQ below (QW G [[sxA x cu q k], [arL G cu 5 f], stW G q v] [[sxO x cu q v (v (72 + 5 * b)) (v (73 + 5 * b))], [arL G cu 5 (fun k => bL (upS v k))], stW G q v] none) [.ref (x), .int (iI (b))].toArray s 0 0 (adr ([[sxA x cu q k], [arL G cu 5 f], stW G q v] : List va_W).flatten)) (F0 m 141 ls []) := by
                        intro fu
                        induction fu with
                        | zero => intro h g1 H locs hW hm ls hl; exfalso; omega
                        | succ fu ih =>
                          intro h g1 H locs hW hm ls hl
                          have ih141 := ih
                          refine z_il_n C hl dX1_prepare_141 0 rfl 142 rfl ?_
                          refine z_al_n C hl dX1_prepare_142 3 rfl 143 rfl ?_
                          refine z_get C hW.1 hK fl_X1_9 0 rfl rfl dX1_prepare_143 146 rfl ?_
                          refine z_alen C hW.1 hK 1 1 rfl rfl (5) rfl dX1_prepare_146 147 rfl ?_
                          refine z_icmp_ge C dX1_prepare_147 169 150 (by decide) rfl (by omega) (fun c147 => ?_) (fun c147 => ?_)
                          · skip
                            rw [show h = 5 by omega] at hW
                            have hW := Wd.ceq (rs' := [[(x, .inr (1, [.ref (q 0), .ref (cu), .long (bL (rkM v (1 + i))), .long (bL (oneS (harZ (v (72 + 5 * b))))), .long (bL (oneS (harZ (1 - v (72 + 5 * b))))), .int (iI (v (72 + 5 * b))), .int (iI (v (73 + 5 * b)))]))], [arL G cu 5 (fun k => bL (upM v (1 + i) (0) k))], stW G q v]) hW ⟨ceq.rf, ⟨ceq.L (fun k h8 h9 => upM_e v ⟨h8, h9⟩), ceqs.rf⟩⟩
                            refine z_iinc C hl dX1_prepare_169 172 rfl 1 rfl (z := 1 + i) (by omega) (by decide) (lv' := [(2, .int (iI (1 + i))), (3, .int (iI (h))), (1, .int (iI (b))), (0, .ref (x))]) rfl (fun ls hl => ?_)
                            refine z_goto C dX1_prepare_172 91 (by decide) ?_
                            exact ih91 (1 + i) (by omega) _ _ hW (by omega) ls (lv_sub hl [0, 2, 3] rfl)
                          · skip
                            refine z_al_n C hl dX1_prepare_150 3 rfl 151 rfl ?_
                            refine z_get C hW.1 hK fl_X1_9 0 rfl rfl dX1_prepare_151 154 rfl ?_
                            refine z_il_n C hl dX1_prepare_154 0 rfl 155 rfl ?_
                            refine z_dup2 C dX1_prepare_155 rfl rfl 156 rfl ?_
                            refine z_iaL C (fun k => bL (upM v (i) (h) k)) hW.1 hK 1 rfl (by omega) (by decide) (bL (upM v (i) (h) h)) (rfl) dX1_prepare_156 157 rfl ?_
                            refine z_il_n C hl dX1_prepare_157 1 rfl 158 rfl ?_
                            refine z_SR (r := .long (bL (oneS i))) (rest := [.long (bL (upM v (i) (h) h)), .int (iI (h)), .ref (cu)]) C (m_setOf l G (i) (by omega)) kS_X1_43 ⟨Nat.le_of_ble_eq_true rfl, Nat.le_of_ble_eq_true rfl⟩ (gP_nil) hK rfl hl.1 rfl (Nat.le_of_ble_eq_true rfl) dX1_prepare_158 ⟨Nat.le_of_ble_eq_true rfl, Nat.le_of_ble_eq_true rfl⟩ 161 rfl ?_
                            refine z_lorS C dX1_prepare_161 162 rfl ?_
                            refine z_iasL C (fun k => bL (upM v (i) (h) k)) hW hK 1 rfl (by omega) (by decide) dX1_prepare_162 163 rfl (rs' := [[(x, .inr (1, [.ref (q 0), .ref (cu), .long (bL (rkM v (1 + i))), .long (bL (oneS (harZ (v (72 + 5 * b))))), .long (bL (oneS (harZ (1 - v (72 + 5 * b))))), .int (iI (v (72 + 5 * b))), .int (iI (v (73 + 5 * b)))]))], [arL G cu 5 (updL (fun k => bL (upM v (i) (h) k)) h (bL (orS (upM v (i) (h) h) (oneS i))))], stW G q v]) rfl (fun H locs hW => ?_)
                            have hW := Wd.ceq (rs' := [[(x, .inr (1, [.ref (q 0), .ref (cu), .long (bL (rkM v (1 + i))), .long (bL (oneS (harZ (v (72 + 5 * b))))), .long (bL (oneS (harZ (1 - v (72 + 5 * b))))), .int (iI (v (72 + 5 * b))), .int (iI (v (73 + 5 * b)))]))], [arL G cu 5 (fun k => bL (upM v (i) (1 + h) k))], stW G q v]) hW ⟨ceq.rf, ⟨ceq.L (fun k h8 h9 => upM_h (by omega) k), ceqs.rf⟩⟩
                            refine z_iinc C hl dX1_prepare_163 166 rfl 0 rfl (z := 1 + h) (by omega) (by decide) (lv' := [(3, .int (iI (1 + h))), (2, .int (iI (i))), (1, .int (iI (b))), (0, .ref (x))]) rfl (fun ls hl => ?_)
                            refine z_goto C dX1_prepare_166 141 (by decide) ?_
                            exact ih141 (1 + h) (by omega) _ _ hW (by omega) ls (lv_sub hl [0, 1, 2, 3] rfl)
                      exact L141 (Int.toNat (5 - (maxZ 0 (v i))) + 1) (maxZ 0 (v i)) (by unfold maxZ; split <;> omega) _ _ hW (by omega) ls (lv_sub hl [0, 1, 2, 3] rfl)
              exact L91 (Int.toNat (36 - 0) + 1) 0 (by omega) _ _ hW (by omega) ls (lv_sub hl [0, 2, 1] rfl)
            · exfalso; omega
