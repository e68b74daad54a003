set_option maxHeartbeats 4000000 in
set_option maxRecDepth 100000 in
theorem m_tideIn (l : Launch) (G : gT) (q : Nat → Nat) (v : Int → Int) (t : Int) (w : Wf v) (ht : 0 ≤ t ∧ t < 1000000) : MR l G yX4_tideIn cX4_tideIn 4 (some .int) 0 [.ref (q 0), .int (iI (t))] [stW G q v] ZT (.int (iI (tideZ v t))) := by
  refine enterR (own := RX4) (by decide +kernel) rfl (Nat.le_of_ble_eq_true rfl) ?_
  intro p e s m below meth c C hP hK hZ ls hl
  have hl : lv_has ls 4 [(0, .ref (q 0)), (1, .int (iI (t)))] := hl
  have hs := w.s
  have hz := stepZ_rng w t
  have hd := ediv_rng (a := t) (b := v 124) ht.1 (by omega)
  refine z_iconst C dX4_tideIn_0 1 rfl ?_
  refine z_al_n C hl dX4_tideIn_1 0 rfl 2 rfl ?_
  refine z_get C hP hK fl_X4_37 0 rfl rfl dX4_tideIn_2 5 rfl ?_
  refine z_imul C dX4_tideIn_5 6 rfl (2 * v 123) (by omega) ?_
  refine z_is_n C hl dX4_tideIn_6 7 rfl (by decide) (lv' := [(2, .int (iI (2 * v 123))), (0, .ref (q 0)), (1, .int (iI (t)))]) rfl (fun ls hl => ?_)
  refine z_al_n C hl dX4_tideIn_7 1 rfl 8 rfl ?_
  refine z_get C hP hK fl_X4_40 0 rfl rfl dX4_tideIn_8 11 rfl ?_
  refine z_iconst C dX4_tideIn_11 12 rfl ?_
  refine z_icmp_lt C dX4_tideIn_12 20 15 (by decide) rfl (by omega) (fun c12 => ?_) (fun c12 => ?_)
  · exfalso; omega
  · skip
    refine z_il_n C hl dX4_tideIn_15 0 rfl 16 rfl ?_
    refine z_iconst C dX4_tideIn_16 17 rfl ?_
    refine z_icmp_ge C dX4_tideIn_17 25 20 (by decide) rfl (by omega) (fun c17 => ?_) (fun c17 => ?_)
    · skip
      refine z_il_n C hl dX4_tideIn_25 2 rfl 26 rfl ?_
      refine z_al_n C hl dX4_tideIn_26 1 rfl 27 rfl ?_
      refine z_get C hP hK fl_X4_40 0 rfl rfl dX4_tideIn_27 30 rfl ?_
      refine z_idiv C dX4_tideIn_30 31 rfl (by omega) ((t / (v 124))) (rfl) ?_
      refine z_il_n C hl dX4_tideIn_31 0 rfl 32 rfl ?_
      refine z_irem C dX4_tideIn_32 33 rfl (by omega) (stepZ v t) (rfl) ?_
      refine z_is_n C hl dX4_tideIn_33 34 rfl (by decide) (lv' := [(3, .int (iI (stepZ v t))), (2, .int (iI (2 * v 123))), (0, .ref (q 0)), (1, .int (iI (t)))]) rfl (fun ls hl => ?_)
      refine z_al_n C hl dX4_tideIn_34 2 rfl 35 rfl ?_
      refine z_get C hP hK fl_X4_33 0 rfl rfl dX4_tideIn_35 38 rfl ?_
      refine z_il_n C hl dX4_tideIn_38 0 rfl 39 rfl ?_
      refine z_al_n C hl dX4_tideIn_39 2 rfl 40 rfl ?_
      refine z_get C hP hK fl_X4_37 0 rfl rfl dX4_tideIn_40 43 rfl ?_
      refine z_icmp_gt C dX4_tideIn_43 50 46 (by decide) rfl (by omega) (fun c43 => ?_) (fun c43 => ?_)
      · skip
        refine z_il_n C hl dX4_tideIn_50 1 rfl 51 rfl ?_
        refine z_il_n C hl dX4_tideIn_51 0 rfl 52 rfl ?_
        refine z_isub C dX4_tideIn_52 53 rfl (2 * v 123 - stepZ v t) (by omega) ?_
        refine z_iadd C dX4_tideIn_53 54 rfl (v 122 + 2 * v 123 - stepZ v t) (by omega) ?_
        exact z_ri C dX4_tideIn_54 (by unfold tideZ; split <;> omega)
      · skip
        refine z_il_n C hl dX4_tideIn_46 0 rfl 47 rfl ?_
        refine z_goto C dX4_tideIn_47 53 (by decide) ?_
        refine z_iadd C dX4_tideIn_53 54 rfl (stepZ v t + v 122) (by omega) ?_
        exact z_ri C dX4_tideIn_54 (by unfold tideZ; split <;> omega)
    · exfalso; omega

set_option maxHeartbeats 4000000 in
set_option maxRecDepth 100000 in
theorem m_max (l : Launch) (G : gT) (x y : Int) (hx : -2147483648 ≤ x ∧ x < 2147483648) (hy : -2147483648 ≤ y ∧ y < 2147483648) : MR l G yJ9_max_7cf53 cJ9_max_7cf53 2 (some .int) 0 [.int (iI (x)), .int (iI (y))] [] ZT (.int (iI (maxZ x y))) := by
  refine enterRF (own := RJ9) (by decide +kernel) rfl (Nat.le_of_ble_eq_true rfl) ?_
  intro p e s m below meth c C hP hK hZ ls hl
  have hl : lv_has ls 2 [(0, .int (iI (x))), (1, .int (iI (y)))] := hl
  refine z_il_n C hl dJ9_max_7cf53_0 0 rfl 1 rfl ?_
  refine z_il_n C hl dJ9_max_7cf53_1 1 rfl 2 rfl ?_
  refine z_icmp_lt C dJ9_max_7cf53_2 9 5 (by decide) rfl (by omega) (fun c2 => ?_) (fun c2 => ?_)
  · skip
    refine z_il_n C hl dJ9_max_7cf53_9 1 rfl 10 rfl ?_
    exact z_ri C dJ9_max_7cf53_10 (by unfold maxZ; split <;> omega)
  · skip
    refine z_il_n C hl dJ9_max_7cf53_5 0 rfl 6 rfl ?_
    refine z_goto C dJ9_max_7cf53_6 10 (by decide) ?_
    exact z_ri C dJ9_max_7cf53_10 (by unfold maxZ; split <;> omega)

set_option maxHeartbeats 4000000 in
set_option maxRecDepth 100000 in
theorem m_min (l : Launch) (G : gT) (x y : Int) (hx : -2147483648 ≤ x ∧ x < 2147483648) (hy : -2147483648 ≤ y ∧ y < 2147483648) : MR l G yJ9_min_7cf53 cJ9_min_7cf53 2 (some .int) 0 [.int (iI (x)), .int (iI (y))] [] ZT (.int (iI (minZ x y))) := by
  refine enterRF (own := RJ9) (by decide +kernel) rfl (Nat.le_of_ble_eq_true rfl) ?_
  intro p e s m below meth c C hP hK hZ ls hl
  have hl : lv_has ls 2 [(0, .int (iI (x))), (1, .int (iI (y)))] := hl
  refine z_il_n C hl dJ9_min_7cf53_0 0 rfl 1 rfl ?_
  refine z_il_n C hl dJ9_min_7cf53_1 1 rfl 2 rfl ?_
  refine z_icmp_gt C dJ9_min_7cf53_2 9 5 (by decide) rfl (by omega) (fun c2 => ?_) (fun c2 => ?_)
  · skip
    refine z_il_n C hl dJ9_min_7cf53_9 1 rfl 10 rfl ?_
    exact z_ri C dJ9_min_7cf53_10 (by unfold minZ; split <;> omega)
  · skip
    refine z_il_n C hl dJ9_min_7cf53_5 0 rfl 6 rfl ?_
    refine z_goto C dJ9_min_7cf53_6 10 (by decide) ?_
    exact z_ri C dJ9_min_7cf53_10 (by unfold minZ; split <;> omega)

set_option maxHeartbeats 4000000 in
set_option maxRecDepth 100000 in
theorem m_turnsOfTide (l : Launch) (G : gT) (q : Nat → Nat) (v : Int → Int) (w : Wf v) : MR l G yX4_turnsOfTide cX4_turnsOfTide 1 (some .int) 0 [.ref (q 0)] [stW G q v] ZT (.int (iI (perZ v))) := by
  refine enterR (own := RX4) (by decide +kernel) rfl (Nat.le_of_ble_eq_true rfl) ?_
  intro p e s m below meth c C hP hK hZ ls hl
  have hl : lv_has ls 1 [(0, .ref (q 0))] := hl
  refine z_iconst C dX4_turnsOfTide_0 1 rfl ?_
  refine z_al_n C hl dX4_turnsOfTide_1 0 rfl 2 rfl ?_
  refine z_get C hP hK fl_X4_37 0 rfl rfl dX4_turnsOfTide_2 5 rfl ?_
  refine z_imul C dX4_turnsOfTide_5 6 rfl (2 * v 123) (by omega) ?_
  refine z_al_n C hl dX4_turnsOfTide_6 0 rfl 7 rfl ?_
  refine z_get C hP hK fl_X4_40 0 rfl rfl dX4_turnsOfTide_7 10 rfl ?_
  refine z_imul C dX4_turnsOfTide_10 11 rfl (((2 * v 123) * (v 124))) (rfl) ?_
  exact z_ri C dX4_turnsOfTide_11 (by unfold perZ; rfl)

set_option maxHeartbeats 4000000 in
set_option maxRecDepth 100000 in
theorem m_waterOver (l : Launch) (G : gT) (q : Nat → Nat) (v : Int → Int) (x : Int) (w : Wf v) (hx : 0 ≤ x ∧ x < 36) : MR l G yX4_waterOver cX4_waterOver 2 (some .int) 1 [.ref (q 0), .int (iI (x))] [stW G q v] ZT (.int (iI (watZ v x))) := by
  refine enterR (own := RX4) (by decide +kernel) rfl (Nat.le_of_ble_eq_true rfl) ?_
  intro p e s m below meth c C hP hK hZ ls hl
  have hl : lv_has ls 2 [(0, .ref (q 0)), (1, .int (iI (x)))] := hl
  have ht := w.t
  have hh := w.h x hx
  refine z_iconst C dX4_waterOver_0 1 rfl ?_
  refine z_al_n C hl dX4_waterOver_1 0 rfl 2 rfl ?_
  refine z_al_n C hl dX4_waterOver_2 0 rfl 3 rfl ?_
  refine z_get C hP hK fl_X4_64 0 rfl rfl dX4_waterOver_3 6 rfl ?_
  refine z_VR (r := .int (iI (tideZ v (v 126)))) (rest := [.int (iI (0))]) C (m_tideIn l G q v (v 126) w (by omega)) kV_X4_67 ⟨Nat.le_of_ble_eq_true rfl, Nat.le_of_ble_eq_true rfl⟩ hP hK 0 rfl rfl rfl hl.1 rfl (Nat.le_of_ble_eq_true rfl) dX4_waterOver_6 ⟨Nat.le_of_ble_eq_true rfl, Nat.le_of_ble_eq_true rfl⟩ 9 rfl ?_
  have r6 := tideZ_rng w (v 126)
  refine z_al_n C hl dX4_waterOver_9 0 rfl 10 rfl ?_
  refine z_get C hP hK fl_X4_9 0 rfl rfl dX4_waterOver_10 13 rfl ?_
  refine z_il_n C hl dX4_waterOver_13 1 rfl 14 rfl ?_
  refine z_NR (r := .int (iI (v x))) (rest := [.int (iI (tideZ v (v 126))), .int (iI (0))]) C (m_rd l G (q 1) 36 (fun k => v k) (x) (v x) (by decide) (by omega) (rfl)) kN_X4_71 ⟨Nat.le_of_ble_eq_true rfl, Nat.le_of_ble_eq_true rfl⟩ (gP_c hP 1 rfl) hK rfl hl.1 rfl (Nat.le_of_ble_eq_true rfl) dX4_waterOver_14 ⟨Nat.le_of_ble_eq_true rfl, Nat.le_of_ble_eq_true rfl⟩ 17 rfl ?_
  refine z_isub C dX4_waterOver_17 18 rfl (tideZ v (v 126) - v x) (by omega) ?_
  refine z_SR (r := .int (iI (maxZ 0 (tideZ v (v 126) - v x)))) (rest := []) C (m_max l G (0) (tideZ v (v 126) - v x) (by omega) (by omega)) kS_X4_75 ⟨Nat.le_of_ble_eq_true rfl, Nat.le_of_ble_eq_true rfl⟩ (gP_nil) hK rfl hl.1 rfl (Nat.le_of_ble_eq_true rfl) dX4_waterOver_18 ⟨Nat.le_of_ble_eq_true rfl, Nat.le_of_ble_eq_true rfl⟩ 21 rfl ?_
  exact z_ri C dX4_waterOver_21 (rfl)

set_option maxHeartbeats 4000000 in
set_option maxRecDepth 100000 in
theorem m_isWet (l : Launch) (G : gT) (q : Nat → Nat) (v : Int → Int) (x d t : Int) (w : Wf v) (hx : 0 ≤ x ∧ x < 36) (hd : -10 ≤ d ∧ d ≤ 10) (ht : 0 ≤ t ∧ t < 1000000) : MR l G yX4_isWet cX4_isWet 4 (some .boolean) 1 [.ref (q 0), .int (iI (x)), .int (iI (d)), .int (iI (t))] [stW G q v] ZT (.int (iI (bZ (wetB v x d t)))) := by
  refine enterR (own := RX4) (by decide +kernel) rfl (Nat.le_of_ble_eq_true rfl) ?_
  intro p e s m below meth c C hP hK hZ ls hl
  have hl : lv_has ls 4 [(0, .ref (q 0)), (1, .int (iI (x))), (2, .int (iI (d))), (3, .int (iI (t)))] := hl
  have hh := w.h x hx
  refine z_al_n C hl dX4_isWet_0 0 rfl 1 rfl ?_
  refine z_il_n C hl dX4_isWet_1 3 rfl 2 rfl ?_
  refine z_VR (r := .int (iI (tideZ v t))) (rest := []) C (m_tideIn l G q v t w (by omega)) kV_X4_67 ⟨Nat.le_of_ble_eq_true rfl, Nat.le_of_ble_eq_true rfl⟩ hP hK 0 rfl rfl rfl hl.1 rfl (Nat.le_of_ble_eq_true rfl) dX4_isWet_2 ⟨Nat.le_of_ble_eq_true rfl, Nat.le_of_ble_eq_true rfl⟩ 5 rfl ?_
  have r2 := tideZ_rng w t
  refine z_al_n C hl dX4_isWet_5 0 rfl 6 rfl ?_
  refine z_get C hP hK fl_X4_9 0 rfl rfl dX4_isWet_6 9 rfl ?_
  refine z_il_n C hl dX4_isWet_9 1 rfl 10 rfl ?_
  refine z_NR (r := .int (iI (v x))) (rest := [.int (iI (tideZ v t))]) C (m_rd l G (q 1) 36 (fun k => v k) (x) (v x) (by decide) (by omega) (rfl)) kN_X4_71 ⟨Nat.le_of_ble_eq_true rfl, Nat.le_of_ble_eq_true rfl⟩ (gP_c hP 1 rfl) hK rfl hl.1 rfl (Nat.le_of_ble_eq_true rfl) dX4_isWet_10 ⟨Nat.le_of_ble_eq_true rfl, Nat.le_of_ble_eq_true rfl⟩ 13 rfl ?_
  refine z_isub C dX4_isWet_13 14 rfl (tideZ v t - v x) (by omega) ?_
  refine z_il_n C hl dX4_isWet_14 2 rfl 15 rfl ?_
  refine z_icmp_lt C dX4_isWet_15 22 18 (by decide) rfl (by omega) (fun c15 => ?_) (fun c15 => ?_)
  · skip
    refine z_iconst C dX4_isWet_22 23 rfl ?_
    exact z_rz C dX4_isWet_23 (by unfold wetB; exact bZ_df (by omega))
  · skip
    refine z_iconst C dX4_isWet_18 19 rfl ?_
    refine z_goto C dX4_isWet_19 23 (by decide) ?_
    exact z_rz C dX4_isWet_23 (by unfold wetB; exact bZ_dt (by omega))

set_option maxHeartbeats 4000000 in
set_option maxRecDepth 100000 in
theorem m_isBoat (l : Launch) (G : gT) (q : Nat → Nat) (v : Int → Int) (b : Int) (w : Wf v) (hb : -2147483648 ≤ b ∧ b < 2147483648) : MR l G yX4_isBoat cX4_isBoat 2 (some .boolean) 0 [.ref (q 0), .int (iI (b))] [stW G q v] ZT (.int (iI (bZ (decide (0 ≤ b ∧ b < v 127))))) := by
  refine enterR (own := RX4) (by decide +kernel) rfl (Nat.le_of_ble_eq_true rfl) ?_
  intro p e s m below meth c C hP hK hZ ls hl
  have hl : lv_has ls 2 [(0, .ref (q 0)), (1, .int (iI (b)))] := hl
  have hn := w.n
  refine z_il_n C hl dX4_isBoat_0 1 rfl 1 rfl ?_
  refine z_if_lt C dX4_isBoat_1 16 4 (by decide) rfl (by omega) (fun c1 => ?_) (fun c1 => ?_)
  · skip
    refine z_iconst C dX4_isBoat_16 17 rfl ?_
    exact z_rz C dX4_isBoat_17 (bZ_df (by omega))
  · skip
    refine z_il_n C hl dX4_isBoat_4 1 rfl 5 rfl ?_
    refine z_al_n C hl dX4_isBoat_5 0 rfl 6 rfl ?_
    refine z_get C hP hK fl_X4_58 0 rfl rfl dX4_isBoat_6 9 rfl ?_
    refine z_icmp_ge C dX4_isBoat_9 16 12 (by decide) rfl (by omega) (fun c9 => ?_) (fun c9 => ?_)
    · skip
      refine z_iconst C dX4_isBoat_16 17 rfl ?_
      exact z_rz C dX4_isBoat_17 (bZ_df (by omega))
    · skip
      refine z_iconst C dX4_isBoat_12 13 rfl ?_
      refine z_goto C dX4_isBoat_13 17 (by decide) ?_
      exact z_rz C dX4_isBoat_17 (bZ_dt (by omega))

set_option maxHeartbeats 4000000 in
set_option maxRecDepth 100000 in
theorem m_isOnBoard (l : Launch) (G : gT) (q : Nat → Nat) (v : Int → Int) (b : Int) (w : Wf v) (hb : 0 ≤ b ∧ b < v 127) : MR l G yX4_isOnBoard cX4_isOnBoard 2 (some .boolean) 1 [.ref (q 0), .int (iI (b))] [stW G q v] ZT (.int (iI (bZ (onB v b)))) := by
  refine enterR (own := RX4) (by decide +kernel) rfl (Nat.le_of_ble_eq_true rfl) ?_
  intro p e s m below meth c C hP hK hZ ls hl
  have hl : lv_has ls 2 [(0, .ref (q 0)), (1, .int (iI (b)))] := hl
  have hn := w.n
  have hw := w.b b (by omega)
  have ht := w.t
  refine z_al_n C hl dX4_isOnBoard_0 0 rfl 1 rfl ?_
  refine z_il_n C hl dX4_isOnBoard_1 1 rfl 2 rfl ?_
  refine z_VR (r := .int (iI (bZ (decide (0 ≤ b ∧ b < v 127))))) (rest := []) C (m_isBoat l G q v b w (by omega)) kV_X4_81 ⟨Nat.le_of_ble_eq_true rfl, Nat.le_of_ble_eq_true rfl⟩ hP hK 0 rfl rfl rfl hl.1 rfl (Nat.le_of_ble_eq_true rfl) dX4_isOnBoard_2 ⟨Nat.le_of_ble_eq_true rfl, Nat.le_of_ble_eq_true rfl⟩ 5 rfl ?_
  refine z_ifb_eq C dX4_isOnBoard_5 23 8 (by decide) rfl (fun c5 => ?_) (fun c5 => ?_)
  · exfalso; simp only [decide_eq_true_eq, decide_eq_false_iff_not] at c5; omega
  · skip
    simp only [decide_eq_true_eq, decide_eq_false_iff_not] at c5
    refine z_al_n C hl dX4_isOnBoard_8 0 rfl 9 rfl ?_
    refine z_get C hP hK fl_X4_24 0 rfl rfl dX4_isOnBoard_9 12 rfl ?_
    refine z_il_n C hl dX4_isOnBoard_12 1 rfl 13 rfl ?_
    refine z_NR (r := .int (iI (v (74 + 5 * b)))) (rest := []) C (m_rd l G (q 5) 10 (fun k => v (74 + 5 * k)) (b) (v (74 + 5 * b)) (by decide) (by omega) (congrArg v (by omega))) kN_X4_71 ⟨Nat.le_of_ble_eq_true rfl, Nat.le_of_ble_eq_true rfl⟩ (gP_c hP 5 rfl) hK rfl hl.1 rfl (Nat.le_of_ble_eq_true rfl) dX4_isOnBoard_13 ⟨Nat.le_of_ble_eq_true rfl, Nat.le_of_ble_eq_true rfl⟩ 16 rfl ?_
    refine z_if_ne C dX4_isOnBoard_16 23 19 (by decide) rfl (by omega) (fun c16 => ?_) (fun c16 => ?_)
    · skip
      refine z_iconst C dX4_isOnBoard_23 24 rfl ?_
      exact z_rz C dX4_isOnBoard_24 (by unfold onB; exact bZ_df (by omega))
    · skip
      refine z_iconst C dX4_isOnBoard_19 20 rfl ?_
      refine z_goto C dX4_isOnBoard_20 24 (by decide) ?_
      exact z_rz C dX4_isOnBoard_24 (by unfold onB; exact bZ_dt (by omega))

set_option maxHeartbeats 4000000 in
set_option maxRecDepth 100000 in
theorem m_floats (l : Launch) (G : gT) (q : Nat → Nat) (v : Int → Int) (b : Int) (w : Wf v) (hb : 0 ≤ b ∧ b < v 127) : MR l G yX4_floats cX4_floats 2 (some .boolean) 2 [.ref (q 0), .int (iI (b))] [stW G q v] ZT (.int (iI (bZ (floB v b)))) := by
  refine enterR (own := RX4) (by decide +kernel) rfl (Nat.le_of_ble_eq_true rfl) ?_
  intro p e s m below meth c C hP hK hZ ls hl
  have hl : lv_has ls 2 [(0, .ref (q 0)), (1, .int (iI (b)))] := hl
  have hn := w.n
  have hw := w.b b (by omega)
  have ht := w.t
  refine z_al_n C hl dX4_floats_0 0 rfl 1 rfl ?_
  refine z_al_n C hl dX4_floats_1 0 rfl 2 rfl ?_
  refine z_get C hP hK fl_X4_27 0 rfl rfl dX4_floats_2 5 rfl ?_
  refine z_il_n C hl dX4_floats_5 1 rfl 6 rfl ?_
  refine z_NR (r := .int (iI (v (75 + 5 * b)))) (rest := [.ref (q 0)]) C (m_rd l G (q 6) 10 (fun k => v (75 + 5 * k)) (b) (v (75 + 5 * b)) (by decide) (by omega) (congrArg v (by omega))) kN_X4_71 ⟨Nat.le_of_ble_eq_true rfl, Nat.le_of_ble_eq_true rfl⟩ (gP_c hP 6 rfl) hK rfl hl.1 rfl (Nat.le_of_ble_eq_true rfl) dX4_floats_6 ⟨Nat.le_of_ble_eq_true rfl, Nat.le_of_ble_eq_true rfl⟩ 9 rfl ?_
  refine z_al_n C hl dX4_floats_9 0 rfl 10 rfl ?_
  refine z_get C hP hK fl_X4_21 0 rfl rfl dX4_floats_10 13 rfl ?_
  refine z_il_n C hl dX4_floats_13 1 rfl 14 rfl ?_
  refine z_NR (r := .int (iI (v (73 + 5 * b)))) (rest := [.int (iI (v (75 + 5 * b))), .ref (q 0)]) C (m_rd l G (q 4) 10 (fun k => v (73 + 5 * k)) (b) (v (73 + 5 * b)) (by decide) (by omega) (congrArg v (by omega))) kN_X4_71 ⟨Nat.le_of_ble_eq_true rfl, Nat.le_of_ble_eq_true rfl⟩ (gP_c hP 4 rfl) hK rfl hl.1 rfl (Nat.le_of_ble_eq_true rfl) dX4_floats_14 ⟨Nat.le_of_ble_eq_true rfl, Nat.le_of_ble_eq_true rfl⟩ 17 rfl ?_
  refine z_al_n C hl dX4_floats_17 0 rfl 18 rfl ?_
  refine z_get C hP hK fl_X4_64 0 rfl rfl dX4_floats_18 21 rfl ?_
  refine z_VR (r := .int (iI (bZ (wetB v (v (75 + 5 * b)) (v (73 + 5 * b)) (v 126))))) (rest := []) C (m_isWet l G q v (v (75 + 5 * b)) (v (73 + 5 * b)) (v 126) w (by omega) (by omega) (by omega)) kV_X4_84 ⟨Nat.le_of_ble_eq_true rfl, Nat.le_of_ble_eq_true rfl⟩ hP hK 0 rfl rfl rfl hl.1 rfl (Nat.le_of_ble_eq_true rfl) dX4_floats_21 ⟨Nat.le_of_ble_eq_true rfl, Nat.le_of_ble_eq_true rfl⟩ 24 rfl ?_
  exact z_rz C dX4_floats_24 (rfl)

set_option maxHeartbeats 4000000 in
set_option maxRecDepth 100000 in
theorem m_isWreckedAhead (l : Launch) (G : gT) (q : Nat → Nat) (v : Int → Int) (b : Int) (w : Wf v) (hb : 0 ≤ b ∧ b < v 127) : MR l G yX4_isWreckedAhead cX4_isWreckedAhead 3 (some .boolean) 2 [.ref (q 0), .int (iI (b))] [stW G q v] ZT (.int (iI (bZ (hitB v b)))) := by
  refine enterR (own := RX4) (by decide +kernel) rfl (Nat.le_of_ble_eq_true rfl) ?_
  intro p e s m below meth c C hP hK hZ ls hl
  have hl : lv_has ls 3 [(0, .ref (q 0)), (1, .int (iI (b)))] := hl
  have hn := w.n
  have hw := w.b b (by omega)
  have ht := w.t
  have hr := w.r (v (75 + 5 * b)) (by omega)
  refine z_al_n C hl dX4_isWreckedAhead_0 0 rfl 1 rfl ?_
  refine z_get C hP hK fl_X4_27 0 rfl rfl dX4_isWreckedAhead_1 4 rfl ?_
  refine z_il_n C hl dX4_isWreckedAhead_4 1 rfl 5 rfl ?_
  refine z_NR (r := .int (iI (v (75 + 5 * b)))) (rest := []) C (m_rd l G (q 6) 10 (fun k => v (75 + 5 * k)) (b) (v (75 + 5 * b)) (by decide) (by omega) (congrArg v (by omega))) kN_X4_71 ⟨Nat.le_of_ble_eq_true rfl, Nat.le_of_ble_eq_true rfl⟩ (gP_c hP 6 rfl) hK rfl hl.1 rfl (Nat.le_of_ble_eq_true rfl) dX4_isWreckedAhead_5 ⟨Nat.le_of_ble_eq_true rfl, Nat.le_of_ble_eq_true rfl⟩ 8 rfl ?_
  refine z_is_n C hl dX4_isWreckedAhead_8 9 rfl (by decide) (lv' := [(2, .int (iI (v (75 + 5 * b)))), (0, .ref (q 0)), (1, .int (iI (b)))]) rfl (fun ls hl => ?_)
  refine z_al_n C hl dX4_isWreckedAhead_9 1 rfl 10 rfl ?_
  refine z_il_n C hl dX4_isWreckedAhead_10 2 rfl 11 rfl ?_
  refine z_VR (r := .int (iI (bZ (onB v b)))) (rest := []) C (m_isOnBoard l G q v b w (by omega)) kV_X4_88 ⟨Nat.le_of_ble_eq_true rfl, Nat.le_of_ble_eq_true rfl⟩ hP hK 0 rfl rfl rfl hl.1 rfl (Nat.le_of_ble_eq_true rfl) dX4_isWreckedAhead_11 ⟨Nat.le_of_ble_eq_true rfl, Nat.le_of_ble_eq_true rfl⟩ 14 rfl ?_
  refine z_ifb_eq C dX4_isWreckedAhead_14 75 17 (by decide) rfl (fun c14 => ?_) (fun c14 => ?_)
  · skip
    refine z_iconst C dX4_isWreckedAhead_75 76 rfl ?_
    exact z_rz C dX4_isWreckedAhead_76 (bZ_0 (by simp [hitB, wreckB, c14]))
  · skip
    refine z_al_n C hl dX4_isWreckedAhead_17 1 rfl 18 rfl ?_
    refine z_get C hP hK fl_X4_15 0 rfl rfl dX4_isWreckedAhead_18 21 rfl ?_
    refine z_il_n C hl dX4_isWreckedAhead_21 0 rfl 22 rfl ?_
    refine z_NR (r := .int (iI (v (36 + v (75 + 5 * b))))) (rest := []) C (m_rd l G (q 2) 36 (fun k => v (36 + k)) (v (75 + 5 * b)) (v (36 + v (75 + 5 * b))) (by decide) (by omega) (congrArg v (by omega))) kN_X4_71 ⟨Nat.le_of_ble_eq_true rfl, Nat.le_of_ble_eq_true rfl⟩ (gP_c hP 2 rfl) hK rfl hl.1 rfl (Nat.le_of_ble_eq_true rfl) dX4_isWreckedAhead_22 ⟨Nat.le_of_ble_eq_true rfl, Nat.le_of_ble_eq_true rfl⟩ 25 rfl ?_
    refine z_iconst C dX4_isWreckedAhead_25 26 rfl ?_
    refine z_icmp_ne C dX4_isWreckedAhead_26 75 29 (by decide) rfl (by omega) (fun c26 => ?_) (fun c26 => ?_)
    · skip
      refine z_iconst C dX4_isWreckedAhead_75 76 rfl ?_
      exact z_rz C dX4_isWreckedAhead_76 (bZ_0 (by simp [hitB, wreckB, c14, c26]))
    · skip
      refine z_al_n C hl dX4_isWreckedAhead_29 1 rfl 30 rfl ?_
      refine z_il_n C hl dX4_isWreckedAhead_30 0 rfl 31 rfl ?_
      refine z_al_n C hl dX4_isWreckedAhead_31 1 rfl 32 rfl ?_
      refine z_get C hP hK fl_X4_21 0 rfl rfl dX4_isWreckedAhead_32 35 rfl ?_
      refine z_il_n C hl dX4_isWreckedAhead_35 2 rfl 36 rfl ?_
      refine z_NR (r := .int (iI (v (73 + 5 * b)))) (rest := [.int (iI (v (75 + 5 * b))), .ref (q 0)]) C (m_rd l G (q 4) 10 (fun k => v (73 + 5 * k)) (b) (v (73 + 5 * b)) (by decide) (by omega) (congrArg v (by omega))) kN_X4_71 ⟨Nat.le_of_ble_eq_true rfl, Nat.le_of_ble_eq_true rfl⟩ (gP_c hP 4 rfl) hK rfl hl.1 rfl (Nat.le_of_ble_eq_true rfl) dX4_isWreckedAhead_36 ⟨Nat.le_of_ble_eq_true rfl, Nat.le_of_ble_eq_true rfl⟩ 39 rfl ?_
      refine z_al_n C hl dX4_isWreckedAhead_39 1 rfl 40 rfl ?_
      refine z_get C hP hK fl_X4_64 0 rfl rfl dX4_isWreckedAhead_40 43 rfl ?_
      refine z_VR (r := .int (iI (bZ (wetB v (v (75 + 5 * b)) (v (73 + 5 * b)) (v 126))))) (rest := []) C (m_isWet l G q v (v (75 + 5 * b)) (v (73 + 5 * b)) (v 126) w (by omega) (by omega) (by omega)) kV_X4_84 ⟨Nat.le_of_ble_eq_true rfl, Nat.le_of_ble_eq_true rfl⟩ hP hK 0 rfl rfl rfl hl.1 rfl (Nat.le_of_ble_eq_true rfl) dX4_isWreckedAhead_43 ⟨Nat.le_of_ble_eq_true rfl, Nat.le_of_ble_eq_true rfl⟩ 46 rfl ?_
      refine z_ifb_eq C dX4_isWreckedAhead_46 75 49 (by decide) rfl (fun c46 => ?_) (fun c46 => ?_)
      · skip
        refine z_iconst C dX4_isWreckedAhead_75 76 rfl ?_
        exact z_rz C dX4_isWreckedAhead_76 (bZ_0 (by simp [hitB, wreckB, c14, c26, c46]))
      · skip
        refine z_al_n C hl dX4_isWreckedAhead_49 1 rfl 50 rfl ?_
        refine z_il_n C hl dX4_isWreckedAhead_50 0 rfl 51 rfl ?_
        refine z_al_n C hl dX4_isWreckedAhead_51 1 rfl 52 rfl ?_
        refine z_get C hP hK fl_X4_21 0 rfl rfl dX4_isWreckedAhead_52 55 rfl ?_
        refine z_il_n C hl dX4_isWreckedAhead_55 2 rfl 56 rfl ?_
        refine z_NR (r := .int (iI (v (73 + 5 * b)))) (rest := [.int (iI (v (75 + 5 * b))), .ref (q 0)]) C (m_rd l G (q 4) 10 (fun k => v (73 + 5 * k)) (b) (v (73 + 5 * b)) (by decide) (by omega) (congrArg v (by omega))) kN_X4_71 ⟨Nat.le_of_ble_eq_true rfl, Nat.le_of_ble_eq_true rfl⟩ (gP_c hP 4 rfl) hK rfl hl.1 rfl (Nat.le_of_ble_eq_true rfl) dX4_isWreckedAhead_56 ⟨Nat.le_of_ble_eq_true rfl, Nat.le_of_ble_eq_true rfl⟩ 59 rfl ?_
        refine z_al_n C hl dX4_isWreckedAhead_59 1 rfl 60 rfl ?_
        refine z_get C hP hK fl_X4_64 0 rfl rfl dX4_isWreckedAhead_60 63 rfl ?_
        refine z_iconst C dX4_isWreckedAhead_63 64 rfl ?_
        refine z_iadd C dX4_isWreckedAhead_64 65 rfl (1 + v 126) (by omega) ?_
        refine z_VR (r := .int (iI (bZ (wetB v (v (75 + 5 * b)) (v (73 + 5 * b)) (1 + v 126))))) (rest := []) C (m_isWet l G q v (v (75 + 5 * b)) (v (73 + 5 * b)) (1 + v 126) w (by omega) (by omega) (by omega)) kV_X4_84 ⟨Nat.le_of_ble_eq_true rfl, Nat.le_of_ble_eq_true rfl⟩ hP hK 0 rfl rfl rfl hl.1 rfl (Nat.le_of_ble_eq_true rfl) dX4_isWreckedAhead_65 ⟨Nat.le_of_ble_eq_true rfl, Nat.le_of_ble_eq_true rfl⟩ 68 rfl ?_
        refine z_ifb_ne C dX4_isWreckedAhead_68 75 71 (by decide) rfl (fun c68 => ?_) (fun c68 => ?_)
        · skip
          refine z_iconst C dX4_isWreckedAhead_75 76 rfl ?_
          exact z_rz C dX4_isWreckedAhead_76 (bZ_0 (by simp [hitB, wreckB, c14, c26, c46, c68]))
        · skip
          refine z_iconst C dX4_isWreckedAhead_71 72 rfl ?_
          refine z_goto C dX4_isWreckedAhead_72 76 (by decide) ?_
          exact z_rz C dX4_isWreckedAhead_76 (bZ_1 (by simp [hitB, wreckB, c14, c26, c46, c68]))

set_option maxHeartbeats 4000000 in
set_option maxRecDepth 100000 in
theorem m_boatAt (l : Launch) (G : gT) (q : Nat → Nat) (v : Int → Int) (x : Int) (w : Wf v) (hx : -2147483648 ≤ x ∧ x < 2147483648) : MR l G yX4_boatAt cX4_boatAt 3 (some .int) 1 [.ref (q 0), .int (iI (x))] [stW G q v] ZT (.int (iI (batZ v x))) := by
  refine enterR (own := RX4) (by decide +kernel) rfl (Nat.le_of_ble_eq_true rfl) ?_
  intro p e s m below meth c C hP hK hZ ls hl
  have hl : lv_has ls 3 [(0, .ref (q 0)), (1, .int (iI (x)))] := hl
  have hn := w.n
  refine z_iconst C dX4_boatAt_0 1 rfl ?_
  refine z_is_n C hl dX4_boatAt_1 2 rfl (by decide) (lv' := [(2, .int (iI (0))), (0, .ref (q 0)), (1, .int (iI (x)))]) rfl (fun ls hl => ?_)
  have L2 : ∀ (fu : Nat) (k : Int) (h1 : 0 ≤ k ∧ k ≤ v 127) (h2 : batN v x (v 127 - k).toNat k = batZ v x) (hm : v 127 - k < (fu : Int)) (ls : Array Slot) (hl : lv_has ls 3 [(2, .int (iI (k))), (1, .int (iI (x))), (0, .ref (q 0))]), W p l e (rmN 1) s m [.ref (q 0), .int (iI (x))].toArray below meth c s.heap [] 0 0 (MQ below (QR (.int (iI (batZ v x)))) [.ref (q 0), .int (iI (x))].toArray s 0 0 (fun _ => False)) (F0 m 2 ls []) := by
    intro fu
    induction fu with
    | zero => intro k h1 h2 hm ls hl; exfalso; omega
    | succ fu ih =>
      intro k h1 h2 hm ls hl
      have ih2 := ih
      refine z_il_n C hl dX4_boatAt_2 0 rfl 3 rfl ?_
      refine z_al_n C hl dX4_boatAt_3 2 rfl 4 rfl ?_
      refine z_get C hP hK fl_X4_58 0 rfl rfl dX4_boatAt_4 7 rfl ?_
      refine z_icmp_ge C dX4_boatAt_7 41 10 (by decide) rfl (by omega) (fun c7 => ?_) (fun c7 => ?_)
      · skip
        refine z_bipush C dX4_boatAt_41 (by decide) 43 rfl ?_
        exact z_ri C dX4_boatAt_43 (by rw [← h2]; exact (batN_end (by omega)).symm)
      · skip
        have hk := w.b k (by omega)
        refine z_al_n C hl dX4_boatAt_10 2 rfl 11 rfl ?_
        refine z_get C hP hK fl_X4_24 0 rfl rfl dX4_boatAt_11 14 rfl ?_
        refine z_il_n C hl dX4_boatAt_14 0 rfl 15 rfl ?_
        refine z_NR (r := .int (iI (v (74 + 5 * k)))) (rest := []) C (m_rd l G (q 5) 10 (fun k => v (74 + 5 * k)) (k) (v (74 + 5 * k)) (by decide) (by omega) (congrArg v (by omega))) kN_X4_71 ⟨Nat.le_of_ble_eq_true rfl, Nat.le_of_ble_eq_true rfl⟩ (gP_c hP 5 rfl) hK rfl hl.1 rfl (Nat.le_of_ble_eq_true rfl) dX4_boatAt_15 ⟨Nat.le_of_ble_eq_true rfl, Nat.le_of_ble_eq_true rfl⟩ 18 rfl ?_
        refine z_if_ne C dX4_boatAt_18 35 21 (by decide) rfl (by omega) (fun c18 => ?_) (fun c18 => ?_)
        · skip
          refine z_iinc C hl dX4_boatAt_35 38 rfl 0 rfl (z := 1 + k) (by omega) (by decide) (lv' := [(2, .int (iI (1 + k))), (1, .int (iI (x))), (0, .ref (q 0))]) rfl (fun ls hl => ?_)
          refine z_goto C dX4_boatAt_38 2 (by decide) ?_
          exact ih2 (1 + k) (by omega) (by rw [← h2]; exact (batN_miss (by omega) (by omega) (by omega)).symm) (by omega) ls (lv_sub hl [0, 1, 2] rfl)
        · skip
          refine z_al_n C hl dX4_boatAt_21 2 rfl 22 rfl ?_
          refine z_get C hP hK fl_X4_27 0 rfl rfl dX4_boatAt_22 25 rfl ?_
          refine z_il_n C hl dX4_boatAt_25 0 rfl 26 rfl ?_
          refine z_NR (r := .int (iI (v (75 + 5 * k)))) (rest := []) C (m_rd l G (q 6) 10 (fun k => v (75 + 5 * k)) (k) (v (75 + 5 * k)) (by decide) (by omega) (congrArg v (by omega))) kN_X4_71 ⟨Nat.le_of_ble_eq_true rfl, Nat.le_of_ble_eq_true rfl⟩ (gP_c hP 6 rfl) hK rfl hl.1 rfl (Nat.le_of_ble_eq_true rfl) dX4_boatAt_26 ⟨Nat.le_of_ble_eq_true rfl, Nat.le_of_ble_eq_true rfl⟩ 29 rfl ?_
          refine z_il_n C hl dX4_boatAt_29 1 rfl 30 rfl ?_
          refine z_icmp_ne C dX4_boatAt_30 35 33 (by decide) rfl (by omega) (fun c30 => ?_) (fun c30 => ?_)
          · skip
            refine z_iinc C hl dX4_boatAt_35 38 rfl 0 rfl (z := 1 + k) (by omega) (by decide) (lv' := [(2, .int (iI (1 + k))), (1, .int (iI (x))), (0, .ref (q 0))]) rfl (fun ls hl => ?_)
            refine z_goto C dX4_boatAt_38 2 (by decide) ?_
            exact ih2 (1 + k) (by omega) (by rw [← h2]; exact (batN_miss (by omega) (by omega) (by omega)).symm) (by omega) ls (lv_sub hl [0, 1, 2] rfl)
          · skip
            refine z_il_n C hl dX4_boatAt_33 0 rfl 34 rfl ?_
            exact z_ri C dX4_boatAt_34 (by rw [← h2]; exact (batN_hit (by omega) ⟨c18, c30⟩).symm)
  exact L2 (Int.toNat (v 127 - 0) + 1) 0 (by omega) (by rw [Int.sub_zero]; rfl) (by omega) ls (lv_sub hl [0, 2, 1] rfl)

set_option maxHeartbeats 4000000 in
set_option maxRecDepth 100000 in
theorem m_boatsThatAre (l : Launch) (G : gT) (q : Nat → Nat) (v : Int → Int) (x : Int) (w : Wf v) (hx : -2147483648 ≤ x ∧ x < 2147483648) : MR l G yX4_boatsThatAre cX4_boatsThatAre 4 (some .int) 1 [.ref (q 0), .int (iI (x))] [stW G q v] ZT (.int (iI (cntZ v x))) := by
  refine enterR (own := RX4) (by decide +kernel) rfl (Nat.le_of_ble_eq_true rfl) ?_
  intro p e s m below meth c C hP hK hZ ls hl
  have hl : lv_has ls 4 [(0, .ref (q 0)), (1, .int (iI (x)))] := hl
  have hn := w.n
  refine z_iconst C dX4_boatsThatAre_0 1 rfl ?_
  refine z_is_n C hl dX4_boatsThatAre_1 2 rfl (by decide) (lv' := [(2, .int (iI (0))), (0, .ref (q 0)), (1, .int (iI (x)))]) rfl (fun ls hl => ?_)
  refine z_iconst C dX4_boatsThatAre_2 3 rfl ?_
  refine z_is_n C hl dX4_boatsThatAre_3 4 rfl (by decide) (lv' := [(3, .int (iI (0))), (2, .int (iI (0))), (0, .ref (q 0)), (1, .int (iI (x)))]) rfl (fun ls hl => ?_)
  have L4 : ∀ (fu : Nat) (f : Int) (k : Int) (h1 : 0 ≤ k ∧ k ≤ v 127) (h2 : f = sumN (fun k => if v (74 + 5 * k) = x then 1 else 0) k.toNat) (hm : v 127 - k < (fu : Int)) (ls : Array Slot) (hl : lv_has ls 4 [(3, .int (iI (k))), (2, .int (iI (f))), (1, .int (iI (x))), (0, .ref (q 0))]), W p l e (rmN 1) s m [.ref (q 0), .int (iI (x))].toArray below meth c s.heap [] 0 0 (MQ below (QR (.int (iI (cntZ v x)))) [.ref (q 0), .int (iI (x))].toArray s 0 0 (fun _ => False)) (F0 m 4 ls []) := by
    intro fu
    induction fu with
    | zero => intro f k h1 h2 hm ls hl; exfalso; omega
    | succ fu ih =>
      intro f k h1 h2 hm ls hl
      have ih4 := ih
      refine z_il_n C hl dX4_boatsThatAre_4 0 rfl 5 rfl ?_
      refine z_al_n C hl dX4_boatsThatAre_5 3 rfl 6 rfl ?_
      refine z_get C hP hK fl_X4_58 0 rfl rfl dX4_boatsThatAre_6 9 rfl ?_
      refine z_icmp_ge C dX4_boatsThatAre_9 33 12 (by decide) rfl (by omega) (fun c9 => ?_) (fun c9 => ?_)
      · skip
        refine z_il_n C hl dX4_boatsThatAre_33 1 rfl 34 rfl ?_
        exact z_ri C dX4_boatsThatAre_34 (by rw [h2, show k = v 127 by omega]; rfl)
      · skip
        have hk := w.b k (by omega)
        refine z_al_n C hl dX4_boatsThatAre_12 3 rfl 13 rfl ?_
        refine z_get C hP hK fl_X4_24 0 rfl rfl dX4_boatsThatAre_13 16 rfl ?_
        refine z_il_n C hl dX4_boatsThatAre_16 0 rfl 17 rfl ?_
        refine z_NR (r := .int (iI (v (74 + 5 * k)))) (rest := []) C (m_rd l G (q 5) 10 (fun k => v (74 + 5 * k)) (k) (v (74 + 5 * k)) (by decide) (by omega) (congrArg v (by omega))) kN_X4_71 ⟨Nat.le_of_ble_eq_true rfl, Nat.le_of_ble_eq_true rfl⟩ (gP_c hP 5 rfl) hK rfl hl.1 rfl (Nat.le_of_ble_eq_true rfl) dX4_boatsThatAre_17 ⟨Nat.le_of_ble_eq_true rfl, Nat.le_of_ble_eq_true rfl⟩ 20 rfl ?_
        refine z_il_n C hl dX4_boatsThatAre_20 2 rfl 21 rfl ?_
        refine z_icmp_ne C dX4_boatsThatAre_21 27 24 (by decide) rfl (by omega) (fun c21 => ?_) (fun c21 => ?_)
        · skip
          refine z_iinc C hl dX4_boatsThatAre_27 30 rfl 0 rfl (z := 1 + k) (by omega) (by decide) (lv' := [(3, .int (iI (1 + k))), (2, .int (iI (f))), (1, .int (iI (x))), (0, .ref (q 0))]) rfl (fun ls hl => ?_)
          refine z_goto C dX4_boatsThatAre_30 4 (by decide) ?_
          exact ih4 f (1 + k) (by omega) (by rw [sumN_s (by omega), ← h2]; (try dsimp only); split <;> omega) (by omega) ls (lv_sub hl [0, 1, 2, 3] rfl)
        · skip
          refine z_iinc C hl dX4_boatsThatAre_24 27 rfl 1 rfl (z := 1 + f) (by omega) (by decide) (lv' := [(2, .int (iI (1 + f))), (3, .int (iI (k))), (1, .int (iI (x))), (0, .ref (q 0))]) rfl (fun ls hl => ?_)
          refine z_iinc C hl dX4_boatsThatAre_27 30 rfl 1 rfl (z := 1 + k) (by omega) (by decide) (lv' := [(3, .int (iI (1 + k))), (2, .int (iI (1 + f))), (1, .int (iI (x))), (0, .ref (q 0))]) rfl (fun ls hl => ?_)
          refine z_goto C dX4_boatsThatAre_30 4 (by decide) ?_
          exact ih4 (1 + f) (1 + k) (by omega) (by rw [sumN_s (by omega), ← h2]; (try dsimp only); split <;> omega) (by omega) ls (lv_sub hl [0, 1, 2, 3] rfl)
  exact L4 (Int.toNat (v 127 - 0) + 1) 0 0 (by omega) (rfl) (by omega) ls (lv_sub hl [0, 1, 3, 2] rfl)

set_option maxHeartbeats 4000000 in
set_option maxRecDepth 100000 in
theorem m_boatsAground (l : Launch) (G : gT) (q : Nat → Nat) (v : Int → Int) (w : Wf v) : MR l G yX4_boatsAground cX4_boatsAground 3 (some .int) 3 [.ref (q 0)] [stW G q v] ZT (.int (iI (agrZ v))) := by
  refine enterR (own := RX4) (by decide +kernel) rfl (Nat.le_of_ble_eq_true rfl) ?_
  intro p e s m below meth c C hP hK hZ ls hl
  have hl : lv_has ls 3 [(0, .ref (q 0))] := hl
  have hn := w.n
  refine z_iconst C dX4_boatsAground_0 1 rfl ?_
  refine z_is_n C hl dX4_boatsAground_1 2 rfl (by decide) (lv' := [(1, .int (iI (0))), (0, .ref (q 0))]) rfl (fun ls hl => ?_)
  refine z_iconst C dX4_boatsAground_2 3 rfl ?_
  refine z_is_n C hl dX4_boatsAground_3 4 rfl (by decide) (lv' := [(2, .int (iI (0))), (1, .int (iI (0))), (0, .ref (q 0))]) rfl (fun ls hl => ?_)
  have L4 : ∀ (fu : Nat) (f : Int) (k : Int) (h1 : 0 ≤ k ∧ k ≤ v 127) (h2 : f = sumN (fun k => if onB v k = true ∧ floB v k = false then 1 else 0) k.toNat) (hm : v 127 - k < (fu : Int)) (ls : Array Slot) (hl : lv_has ls 3 [(2, .int (iI (k))), (1, .int (iI (f))), (0, .ref (q 0))]), W p l e (rmN 3) s m [.ref (q 0)].toArray below meth c s.heap [] 0 0 (MQ below (QR (.int (iI (agrZ v)))) [.ref (q 0)].toArray s 0 0 (fun _ => False)) (F0 m 4 ls []) := by
    intro fu
    induction fu with
    | zero => intro f k h1 h2 hm ls hl; exfalso; omega
    | succ fu ih =>
      intro f k h1 h2 hm ls hl
      have ih4 := ih
      refine z_il_n C hl dX4_boatsAground_4 0 rfl 5 rfl ?_
      refine z_al_n C hl dX4_boatsAground_5 2 rfl 6 rfl ?_
      refine z_get C hP hK fl_X4_58 0 rfl rfl dX4_boatsAground_6 9 rfl ?_
      refine z_icmp_ge C dX4_boatsAground_9 37 12 (by decide) rfl (by omega) (fun c9 => ?_) (fun c9 => ?_)
      · skip
        refine z_il_n C hl dX4_boatsAground_37 1 rfl 38 rfl ?_
        exact z_ri C dX4_boatsAground_38 (by rw [h2, show k = v 127 by omega]; rfl)
      · skip
        have hk := w.b k (by omega)
        refine z_al_n C hl dX4_boatsAground_12 2 rfl 13 rfl ?_
        refine z_il_n C hl dX4_boatsAground_13 0 rfl 14 rfl ?_
        refine z_VR (r := .int (iI (bZ (onB v k)))) (rest := []) C (m_isOnBoard l G q v k w (by omega)) kV_X4_88 ⟨Nat.le_of_ble_eq_true rfl, Nat.le_of_ble_eq_true rfl⟩ hP hK 0 rfl rfl rfl hl.1 rfl (Nat.le_of_ble_eq_true rfl) dX4_boatsAground_14 ⟨Nat.le_of_ble_eq_true rfl, Nat.le_of_ble_eq_true rfl⟩ 17 rfl ?_
        refine z_ifb_eq C dX4_boatsAground_17 31 20 (by decide) rfl (fun c17 => ?_) (fun c17 => ?_)
        · skip
          refine z_iinc C hl dX4_boatsAground_31 34 rfl 0 rfl (z := 1 + k) (by omega) (by decide) (lv' := [(2, .int (iI (1 + k))), (1, .int (iI (f))), (0, .ref (q 0))]) rfl (fun ls hl => ?_)
          refine z_goto C dX4_boatsAground_34 4 (by decide) ?_
          exact ih4 f (1 + k) (by omega) (by rw [sumN_s (by omega), ← h2]; simp [c17]; try omega) (by omega) ls (lv_sub hl [0, 1, 2] rfl)
        · skip
          refine z_al_n C hl dX4_boatsAground_20 2 rfl 21 rfl ?_
          refine z_il_n C hl dX4_boatsAground_21 0 rfl 22 rfl ?_
          refine z_VR (r := .int (iI (bZ (floB v k)))) (rest := []) C (m_floats l G q v k w (by omega)) kV_X4_91 ⟨Nat.le_of_ble_eq_true rfl, Nat.le_of_ble_eq_true rfl⟩ hP hK 0 rfl rfl rfl hl.1 rfl (Nat.le_of_ble_eq_true rfl) dX4_boatsAground_22 ⟨Nat.le_of_ble_eq_true rfl, Nat.le_of_ble_eq_true rfl⟩ 25 rfl ?_
          refine z_ifb_ne C dX4_boatsAground_25 31 28 (by decide) rfl (fun c25 => ?_) (fun c25 => ?_)
          · skip
            refine z_iinc C hl dX4_boatsAground_31 34 rfl 0 rfl (z := 1 + k) (by omega) (by decide) (lv' := [(2, .int (iI (1 + k))), (1, .int (iI (f))), (0, .ref (q 0))]) rfl (fun ls hl => ?_)
            refine z_goto C dX4_boatsAground_34 4 (by decide) ?_
            exact ih4 f (1 + k) (by omega) (by rw [sumN_s (by omega), ← h2]; simp [c17, c25]; try omega) (by omega) ls (lv_sub hl [0, 1, 2] rfl)
          · skip
            refine z_iinc C hl dX4_boatsAground_28 31 rfl 1 rfl (z := 1 + f) (by omega) (by decide) (lv' := [(1, .int (iI (1 + f))), (2, .int (iI (k))), (0, .ref (q 0))]) rfl (fun ls hl => ?_)
            refine z_iinc C hl dX4_boatsAground_31 34 rfl 1 rfl (z := 1 + k) (by omega) (by decide) (lv' := [(2, .int (iI (1 + k))), (1, .int (iI (1 + f))), (0, .ref (q 0))]) rfl (fun ls hl => ?_)
            refine z_goto C dX4_boatsAground_34 4 (by decide) ?_
            exact ih4 (1 + f) (1 + k) (by omega) (by rw [sumN_s (by omega), ← h2]; simp [c17, c25]; try omega) (by omega) ls (lv_sub hl [0, 1, 2] rfl)
  exact L4 (Int.toNat (v 127 - 0) + 1) 0 0 (by omega) (rfl) (by omega) ls (lv_sub hl [0, 1, 2] rfl)

set_option maxHeartbeats 4000000 in
set_option maxRecDepth 100000 in
theorem m_scoreOf (l : Launch) (G : gT) (q : Nat → Nat) (v : Int → Int) (x : Int) (w : Wf v) (hx : -2147483648 ≤ x ∧ x < 2147483648) : MR l G yX4_scoreOf cX4_scoreOf 4 (some .int) 1 [.ref (q 0), .int (iI (x))] [stW G q v] ZT (.int (iI (scoZ v x))) := by
  refine enterR (own := RX4) (by decide +kernel) rfl (Nat.le_of_ble_eq_true rfl) ?_
  intro p e s m below meth c C hP hK hZ ls hl
  have hl : lv_has ls 4 [(0, .ref (q 0)), (1, .int (iI (x)))] := hl
  have hn := w.n
  refine z_iconst C dX4_scoreOf_0 1 rfl ?_
  refine z_is_n C hl dX4_scoreOf_1 2 rfl (by decide) (lv' := [(2, .int (iI (0))), (0, .ref (q 0)), (1, .int (iI (x)))]) rfl (fun ls hl => ?_)
  refine z_iconst C dX4_scoreOf_2 3 rfl ?_
  refine z_is_n C hl dX4_scoreOf_3 4 rfl (by decide) (lv' := [(3, .int (iI (0))), (2, .int (iI (0))), (0, .ref (q 0)), (1, .int (iI (x)))]) rfl (fun ls hl => ?_)
  have L4 : ∀ (fu : Nat) (f : Int) (k : Int) (h1 : 0 ≤ k ∧ k ≤ v 127) (h2 : f = sumN (fun k => if v (72 + 5 * k) = x ∧ v (74 + 5 * k) = 1 then v (73 + 5 * k) else 0) k.toNat) (hm : v 127 - k < (fu : Int)) (ls : Array Slot) (hl : lv_has ls 4 [(3, .int (iI (k))), (2, .int (iI (f))), (1, .int (iI (x))), (0, .ref (q 0))]), W p l e (rmN 1) s m [.ref (q 0), .int (iI (x))].toArray below meth c s.heap [] 0 0 (MQ below (QR (.int (iI (scoZ v x)))) [.ref (q 0), .int (iI (x))].toArray s 0 0 (fun _ => False)) (F0 m 4 ls []) := by
    intro fu
    induction fu with
    | zero => intro f k h1 h2 hm ls hl; exfalso; omega
    | succ fu ih =>
      intro f k h1 h2 hm ls hl
      have ih4 := ih
      refine z_il_n C hl dX4_scoreOf_4 0 rfl 5 rfl ?_
      refine z_al_n C hl dX4_scoreOf_5 3 rfl 6 rfl ?_
      refine z_get C hP hK fl_X4_58 0 rfl rfl dX4_scoreOf_6 9 rfl ?_
      refine z_icmp_ge C dX4_scoreOf_9 53 12 (by decide) rfl (by omega) (fun c9 => ?_) (fun c9 => ?_)
      · skip
        refine z_il_n C hl dX4_scoreOf_53 1 rfl 54 rfl ?_
        exact z_ri C dX4_scoreOf_54 (by rw [h2, show k = v 127 by omega]; rfl)
      · skip
        have hk := w.b k (by omega)
        refine z_al_n C hl dX4_scoreOf_12 3 rfl 13 rfl ?_
        refine z_get C hP hK fl_X4_18 0 rfl rfl dX4_scoreOf_13 16 rfl ?_
        refine z_il_n C hl dX4_scoreOf_16 0 rfl 17 rfl ?_
        refine z_NR (r := .int (iI (v (72 + 5 * k)))) (rest := []) C (m_rd l G (q 3) 10 (fun k => v (72 + 5 * k)) (k) (v (72 + 5 * k)) (by decide) (by omega) (congrArg v (by omega))) kN_X4_71 ⟨Nat.le_of_ble_eq_true rfl, Nat.le_of_ble_eq_true rfl⟩ (gP_c hP 3 rfl) hK rfl hl.1 rfl (Nat.le_of_ble_eq_true rfl) dX4_scoreOf_17 ⟨Nat.le_of_ble_eq_true rfl, Nat.le_of_ble_eq_true rfl⟩ 20 rfl ?_
        refine z_il_n C hl dX4_scoreOf_20 2 rfl 21 rfl ?_
        refine z_icmp_ne C dX4_scoreOf_21 47 24 (by decide) rfl (by omega) (fun c21 => ?_) (fun c21 => ?_)
        · skip
          refine z_iinc C hl dX4_scoreOf_47 50 rfl 0 rfl (z := 1 + k) (by omega) (by decide) (lv' := [(3, .int (iI (1 + k))), (2, .int (iI (f))), (1, .int (iI (x))), (0, .ref (q 0))]) rfl (fun ls hl => ?_)
          refine z_goto C dX4_scoreOf_50 4 (by decide) ?_
          exact ih4 f (1 + k) (by omega) (by rw [sumN_s (by omega), ← h2]; (try dsimp only); split <;> omega) (by omega) ls (lv_sub hl [0, 1, 2, 3] rfl)
        · skip
          refine z_al_n C hl dX4_scoreOf_24 3 rfl 25 rfl ?_
          refine z_get C hP hK fl_X4_24 0 rfl rfl dX4_scoreOf_25 28 rfl ?_
          refine z_il_n C hl dX4_scoreOf_28 0 rfl 29 rfl ?_
          refine z_NR (r := .int (iI (v (74 + 5 * k)))) (rest := []) C (m_rd l G (q 5) 10 (fun k => v (74 + 5 * k)) (k) (v (74 + 5 * k)) (by decide) (by omega) (congrArg v (by omega))) kN_X4_71 ⟨Nat.le_of_ble_eq_true rfl, Nat.le_of_ble_eq_true rfl⟩ (gP_c hP 5 rfl) hK rfl hl.1 rfl (Nat.le_of_ble_eq_true rfl) dX4_scoreOf_29 ⟨Nat.le_of_ble_eq_true rfl, Nat.le_of_ble_eq_true rfl⟩ 32 rfl ?_
          refine z_iconst C dX4_scoreOf_32 33 rfl ?_
          refine z_icmp_ne C dX4_scoreOf_33 47 36 (by decide) rfl (by omega) (fun c33 => ?_) (fun c33 => ?_)
          · skip
            refine z_iinc C hl dX4_scoreOf_47 50 rfl 0 rfl (z := 1 + k) (by omega) (by decide) (lv' := [(3, .int (iI (1 + k))), (2, .int (iI (f))), (1, .int (iI (x))), (0, .ref (q 0))]) rfl (fun ls hl => ?_)
            refine z_goto C dX4_scoreOf_50 4 (by decide) ?_
            exact ih4 f (1 + k) (by omega) (by rw [sumN_s (by omega), ← h2]; (try dsimp only); split <;> omega) (by omega) ls (lv_sub hl [0, 1, 2, 3] rfl)
          · skip
            refine z_il_n C hl dX4_scoreOf_36 1 rfl 37 rfl ?_
            refine z_al_n C hl dX4_scoreOf_37 3 rfl 38 rfl ?_
            refine z_get C hP hK fl_X4_21 0 rfl rfl dX4_scoreOf_38 41 rfl ?_
            refine z_il_n C hl dX4_scoreOf_41 0 rfl 42 rfl ?_
            refine z_NR (r := .int (iI (v (73 + 5 * k)))) (rest := [.int (iI (f))]) C (m_rd l G (q 4) 10 (fun k => v (73 + 5 * k)) (k) (v (73 + 5 * k)) (by decide) (by omega) (congrArg v (by omega))) kN_X4_71 ⟨Nat.le_of_ble_eq_true rfl, Nat.le_of_ble_eq_true rfl⟩ (gP_c hP 4 rfl) hK rfl hl.1 rfl (Nat.le_of_ble_eq_true rfl) dX4_scoreOf_42 ⟨Nat.le_of_ble_eq_true rfl, Nat.le_of_ble_eq_true rfl⟩ 45 rfl ?_
            refine z_iadd C dX4_scoreOf_45 46 rfl (f + v (73 + 5 * k)) (by omega) ?_
            refine z_is_n C hl dX4_scoreOf_46 47 rfl (by decide) (lv' := [(2, .int (iI (f + v (73 + 5 * k)))), (3, .int (iI (k))), (1, .int (iI (x))), (0, .ref (q 0))]) rfl (fun ls hl => ?_)
            refine z_iinc C hl dX4_scoreOf_47 50 rfl 1 rfl (z := 1 + k) (by omega) (by decide) (lv' := [(3, .int (iI (1 + k))), (2, .int (iI (f + v (73 + 5 * k)))), (1, .int (iI (x))), (0, .ref (q 0))]) rfl (fun ls hl => ?_)
            refine z_goto C dX4_scoreOf_50 4 (by decide) ?_
            exact ih4 (f + v (73 + 5 * k)) (1 + k) (by omega) (by rw [sumN_s (by omega), ← h2]; (try dsimp only); split <;> omega) (by omega) ls (lv_sub hl [0, 1, 2, 3] rfl)
  exact L4 (Int.toNat (v 127 - 0) + 1) 0 0 (by omega) (rfl) (by omega) ls (lv_sub hl [0, 1, 3, 2] rfl)

set_option maxHeartbeats 4000000 in
set_option maxRecDepth 100000 in
theorem m_mover (l : Launch) (G : gT) (q : Nat → Nat) (v : Int → Int) (w : Wf v) : MR l G yX4_mover cX4_mover 1 (some .int) 0 [.ref (q 0)] [stW G q v] ZT (.int (iI ((v 126 % 2)))) := by
  refine enterR (own := RX4) (by decide +kernel) rfl (Nat.le_of_ble_eq_true rfl) ?_
  intro p e s m below meth c C hP hK hZ ls hl
  have hl : lv_has ls 1 [(0, .ref (q 0))] := hl
  have ht := w.t
  refine z_al_n C hl dX4_mover_0 0 rfl 1 rfl ?_
  refine z_get C hP hK fl_X4_64 0 rfl rfl dX4_mover_1 4 rfl ?_
  refine z_iconst C dX4_mover_4 5 rfl ?_
  refine z_irem C dX4_mover_5 6 rfl (by omega) (((v 126) % 2)) (rfl) ?_
  exact z_ri C dX4_mover_6 (rfl)

set_option maxHeartbeats 4000000 in
set_option maxRecDepth 100000 in
theorem m_isOver (l : Launch) (G : gT) (q : Nat → Nat) (v : Int → Int) (w : Wf v) : MR l G yX4_isOver cX4_isOver 1 (some .boolean) 2 [.ref (q 0)] [stW G q v] ZT (.int (iI (bZ (overB v)))) := by
  refine enterR (own := RX4) (by decide +kernel) rfl (Nat.le_of_ble_eq_true rfl) ?_
  intro p e s m below meth c C hP hK hZ ls hl
  have hl : lv_has ls 1 [(0, .ref (q 0))] := hl
  have ht := w.t
  have hs := w.s
  refine z_al_n C hl dX4_isOver_0 0 rfl 1 rfl ?_
  refine z_get C hP hK fl_X4_64 0 rfl rfl dX4_isOver_1 4 rfl ?_
  refine z_al_n C hl dX4_isOver_4 0 rfl 5 rfl ?_
  refine z_get C hP hK fl_X4_43 0 rfl rfl dX4_isOver_5 8 rfl ?_
  refine z_icmp_gt C dX4_isOver_8 19 11 (by decide) rfl (by omega) (fun c8 => ?_) (fun c8 => ?_)
  · skip
    refine z_iconst C dX4_isOver_19 20 rfl ?_
    refine z_goto C dX4_isOver_20 24 (by decide) ?_
    exact z_rz C dX4_isOver_24 (by unfold overB; exact bZ_dt (by omega))
  · skip
    refine z_al_n C hl dX4_isOver_11 0 rfl 12 rfl ?_
    refine z_iconst C dX4_isOver_12 13 rfl ?_
    refine z_VR (r := .int (iI (cntZ v 0))) (rest := []) C (m_boatsThatAre l G q v 0 w (by omega)) kV_X4_94 ⟨Nat.le_of_ble_eq_true rfl, Nat.le_of_ble_eq_true rfl⟩ hP hK 0 rfl rfl rfl hl.1 rfl (Nat.le_of_ble_eq_true rfl) dX4_isOver_13 ⟨Nat.le_of_ble_eq_true rfl, Nat.le_of_ble_eq_true rfl⟩ 16 rfl ?_
    have r13 := cntZ_rng w 0
    refine z_if_ne C dX4_isOver_16 23 19 (by decide) rfl (by omega) (fun c16 => ?_) (fun c16 => ?_)
    · skip
      refine z_iconst C dX4_isOver_23 24 rfl ?_
      exact z_rz C dX4_isOver_24 (by unfold overB; exact bZ_df (by omega))
    · skip
      refine z_iconst C dX4_isOver_19 20 rfl ?_
      refine z_goto C dX4_isOver_20 24 (by decide) ?_
      exact z_rz C dX4_isOver_24 (by unfold overB; exact bZ_dt (by omega))

set_option maxHeartbeats 4000000 in
set_option maxRecDepth 100000 in
theorem m_settingOf (l : Launch) (G : gT) (q : Nat → Nat) (v : Int → Int) (x : Int) (w : Wf v) (hx : 0 ≤ x ∧ x < 4) : MR l G yX4_settingOf cX4_settingOf 2 (some .int) 0 [.ref (q 0), .int (iI (x))] [stW G q v] ZT (.int (iI (setZ v x))) := by
  refine enterR (own := RX4) (by decide +kernel) rfl (Nat.le_of_ble_eq_true rfl) ?_
  intro p e s m below meth c C hP hK hZ ls hl
  have hl : lv_has ls 2 [(0, .ref (q 0)), (1, .int (iI (x)))] := hl
  refine z_il_n C hl dX4_settingOf_0 1 rfl 1 rfl ?_
  have hsw1 : (x) = 0 ∨ (x) = 1 ∨ (x) = 2 ∨ ((x) < 0 ∨ 2 < (x)) := by omega
  rcases hsw1 with h1 | h1 | h1 | h1
  · skip
    refine z_swIn C dX4_settingOf_1 (by omega) (by omega) 27 28 (by rw [h1]; rfl) (by decide) ?_
    refine z_al_n C hl dX4_settingOf_28 0 rfl 29 rfl ?_
    refine z_get C hP hK fl_X4_33 0 rfl rfl dX4_settingOf_29 32 rfl ?_
    exact z_ri C dX4_settingOf_32 (by unfold setZ; (repeat' split) <;> first | rfl | (exfalso; omega))
  · skip
    refine z_swIn C dX4_settingOf_1 (by omega) (by omega) 32 33 (by rw [h1]; rfl) (by decide) ?_
    refine z_al_n C hl dX4_settingOf_33 0 rfl 34 rfl ?_
    refine z_get C hP hK fl_X4_37 0 rfl rfl dX4_settingOf_34 37 rfl ?_
    exact z_ri C dX4_settingOf_37 (by unfold setZ; (repeat' split) <;> first | rfl | (exfalso; omega))
  · skip
    refine z_swIn C dX4_settingOf_1 (by omega) (by omega) 37 38 (by rw [h1]; rfl) (by decide) ?_
    refine z_al_n C hl dX4_settingOf_38 0 rfl 39 rfl ?_
    refine z_get C hP hK fl_X4_40 0 rfl rfl dX4_settingOf_39 42 rfl ?_
    exact z_ri C dX4_settingOf_42 (by unfold setZ; (repeat' split) <;> first | rfl | (exfalso; omega))
  · skip
    refine z_swOut C dX4_settingOf_1 (by omega) h1 43 (by decide) ?_
    refine z_al_n C hl dX4_settingOf_43 0 rfl 44 rfl ?_
    refine z_get C hP hK fl_X4_43 0 rfl rfl dX4_settingOf_44 47 rfl ?_
    exact z_ri C dX4_settingOf_47 (by unfold setZ; (repeat' split) <;> first | rfl | (exfalso; omega))
