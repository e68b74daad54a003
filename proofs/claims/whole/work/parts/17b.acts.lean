set_option maxHeartbeats 4000000 in
set_option maxRecDepth 100000 in
theorem m_xsign (l : Launch) (G : gT) (X : Nat → Nat) (kn ml : Int) (kp : Bool) (tx : Int → Int) (k : Int) (wt : Ot ml tx) (hk : 0 ≤ k ∧ k < 2147483600) : MR l G yX6_sign cX6_sign 2 (some .int) 0 [.ref (X 0), .int (iI (k))] [[moO X kn kp ml], [arI G (X 4) 60 tx]] ZT (.int (iI (sgM ml tx k))) := by
  refine enterR (own := RX6) (by decide +kernel) rfl (Nat.le_of_ble_eq_true rfl) ?_
  intro p e s m below meth c C hP hK hZ ls hl
  have hl : lv_has ls 2 [(0, .ref (X 0)), (1, .int (iI (k)))] := hl
  have hm := wt.1
  refine z_il_n C hl dX6_sign_0 1 rfl 1 rfl ?_
  refine z_al_n C hl dX6_sign_1 0 rfl 2 rfl ?_
  refine z_get C hP hK fl_X6_136 0 rfl rfl dX6_sign_2 5 rfl ?_
  refine z_icmp_ge C dX6_sign_5 17 8 (by decide) rfl (by omega) (fun c5 => ?_) (fun c5 => ?_)
  · skip
    refine z_iconst C dX6_sign_17 18 rfl ?_
    exact z_ri C dX6_sign_18 (by unfold sgM; rw [if_neg (by omega)])
  · skip
    refine z_al_n C hl dX6_sign_8 0 rfl 9 rfl ?_
    refine z_get C hP hK fl_X6_19 0 rfl rfl dX6_sign_9 12 rfl ?_
    refine z_il_n C hl dX6_sign_12 1 rfl 13 rfl ?_
    refine z_iaZ C (tx) hP hK 1 rfl (by omega) (by decide) (tx k) (rfl) dX6_sign_13 14 rfl ?_
    refine z_goto C dX6_sign_14 18 (by decide) ?_
    exact z_ri C dX6_sign_18 (by unfold sgM; rw [if_pos (by omega)])

set_option maxHeartbeats 4000000 in
set_option maxRecDepth 100000 in
theorem m_xisSign (l : Launch) (G : gT) (X : Nat → Nat) (kn ml : Int) (kp : Bool) (tx : Int → Int) (k a b : Int) (wt : Ot ml tx) (hk : 0 ≤ k ∧ k < 2147483600) (ha : -2147483648 ≤ a ∧ a < 2147483648) (hb : -2147483648 ≤ b ∧ b < 2147483648) : MR l G yX6_isSign cX6_isSign 4 (some .boolean) 1 [.ref (X 0), .int (iI (k)), .int (iI (a)), .int (iI (b))] [[moO X kn kp ml], [arI G (X 4) 60 tx]] ZT (.int (iI (bZ (decide (a ≤ sgM ml tx k ∧ sgM ml tx k ≤ b))))) := by
  refine enterR (own := RX6) (by decide +kernel) rfl (Nat.le_of_ble_eq_true rfl) ?_
  intro p e s m below meth c C hP hK hZ ls hl
  have hl : lv_has ls 4 [(0, .ref (X 0)), (1, .int (iI (k))), (2, .int (iI (a))), (3, .int (iI (b)))] := hl
  refine z_al_n C hl dX6_isSign_0 0 rfl 1 rfl ?_
  refine z_il_n C hl dX6_isSign_1 1 rfl 2 rfl ?_
  refine z_VR (r := .int (iI (sgM ml tx k))) (rest := []) C (m_xsign l G X kn ml kp tx k wt (by omega)) kV_X6_139 ⟨Nat.le_of_ble_eq_true rfl, Nat.le_of_ble_eq_true rfl⟩ hP hK 0 rfl rfl rfl hl.1 rfl (Nat.le_of_ble_eq_true rfl) dX6_isSign_2 ⟨Nat.le_of_ble_eq_true rfl, Nat.le_of_ble_eq_true rfl⟩ 5 rfl ?_
  have r2 := sgM_rng wt k
  refine z_il_n C hl dX6_isSign_5 2 rfl 6 rfl ?_
  refine z_il_n C hl dX6_isSign_6 3 rfl 7 rfl ?_
  refine z_SR (r := .int (iI (bZ (decide (a ≤ (sgM ml tx k) ∧ (sgM ml tx k) ≤ b))))) (rest := []) C (m_xin l G (sgM ml tx k) a b (by omega) (by omega) (by omega)) kS_X6_35 ⟨Nat.le_of_ble_eq_true rfl, Nat.le_of_ble_eq_true rfl⟩ (gP_nil) hK rfl hl.1 rfl (Nat.le_of_ble_eq_true rfl) dX6_isSign_7 ⟨Nat.le_of_ble_eq_true rfl, Nat.le_of_ble_eq_true rfl⟩ 10 rfl ?_
  exact z_rz C dX6_isSign_10 (rfl)

set_option maxHeartbeats 4000000 in
set_option maxRecDepth 100000 in
theorem m_xcelE (l : Launch) (G : gT) (X : Nat → Nat) (kn ml : Int) (kp : Bool) (tx : Int → Int) (k : Int) (wt : Ot ml tx) (hk : 0 ≤ k ∧ k < 2000000) : MR l G yX6_cellEnd cX6_cellEnd 2 (some .int) 2 [.ref (X 0), .int (iI (k))] [[moO X kn kp ml], [arI G (X 4) 60 tx]] ZT (.int (iI (celE (sgM ml tx) k))) := by
  refine enterR (own := RX6) (by decide +kernel) rfl (Nat.le_of_ble_eq_true rfl) ?_
  intro p e s m below meth c C hP hK hZ ls hl
  have hl : lv_has ls 2 [(0, .ref (X 0)), (1, .int (iI (k)))] := hl
  refine z_al_n C hl dX6_cellEnd_0 0 rfl 1 rfl ?_
  refine z_il_n C hl dX6_cellEnd_1 1 rfl 2 rfl ?_
  refine z_bipush C dX6_cellEnd_2 (by decide) 4 rfl ?_
  refine z_bipush C dX6_cellEnd_4 (by decide) 6 rfl ?_
  refine z_VR (r := .int (iI (bZ (decide (97 ≤ sgM ml tx k ∧ sgM ml tx k ≤ 102))))) (rest := []) C (m_xisSign l G X kn ml kp tx k 97 102 wt (by omega) (by omega) (by omega)) kV_X6_142 ⟨Nat.le_of_ble_eq_true rfl, Nat.le_of_ble_eq_true rfl⟩ hP hK 0 rfl rfl rfl hl.1 rfl (Nat.le_of_ble_eq_true rfl) dX6_cellEnd_6 ⟨Nat.le_of_ble_eq_true rfl, Nat.le_of_ble_eq_true rfl⟩ 9 rfl ?_
  refine z_ifb_ne C dX6_cellEnd_9 16 12 (by decide) rfl (fun c9 => ?_) (fun c9 => ?_)
  · skip
    simp only [decide_eq_true_eq, decide_eq_false_iff_not] at c9
    refine z_al_n C hl dX6_cellEnd_16 0 rfl 17 rfl ?_
    refine z_il_n C hl dX6_cellEnd_17 1 rfl 18 rfl ?_
    refine z_iconst C dX6_cellEnd_18 19 rfl ?_
    refine z_iadd C dX6_cellEnd_19 20 rfl (1 + k) (by omega) ?_
    refine z_bipush C dX6_cellEnd_20 (by decide) 22 rfl ?_
    refine z_bipush C dX6_cellEnd_22 (by decide) 24 rfl ?_
    refine z_VR (r := .int (iI (bZ (decide (49 ≤ sgM ml tx (1 + k) ∧ sgM ml tx (1 + k) ≤ 54))))) (rest := []) C (m_xisSign l G X kn ml kp tx (1 + k) 49 54 wt (by omega) (by omega) (by omega)) kV_X6_142 ⟨Nat.le_of_ble_eq_true rfl, Nat.le_of_ble_eq_true rfl⟩ hP hK 0 rfl rfl rfl hl.1 rfl (Nat.le_of_ble_eq_true rfl) dX6_cellEnd_24 ⟨Nat.le_of_ble_eq_true rfl, Nat.le_of_ble_eq_true rfl⟩ 27 rfl ?_
    refine z_ifb_eq C dX6_cellEnd_27 36 30 (by decide) rfl (fun c27 => ?_) (fun c27 => ?_)
    · skip
      simp only [decide_eq_true_eq, decide_eq_false_iff_not] at c27
      refine z_bipush C dX6_cellEnd_36 (by decide) 38 rfl ?_
      refine z_il_n C hl dX6_cellEnd_38 1 rfl 39 rfl ?_
      refine z_isub C dX6_cellEnd_39 40 rfl (-2 - k) (by omega) ?_
      exact z_ri C dX6_cellEnd_40 (by unfold celE; rw [if_pos c9, if_neg c27])
    · skip
      simp only [decide_eq_true_eq, decide_eq_false_iff_not] at c27
      refine z_il_n C hl dX6_cellEnd_30 1 rfl 31 rfl ?_
      refine z_iconst C dX6_cellEnd_31 32 rfl ?_
      refine z_iadd C dX6_cellEnd_32 33 rfl (2 + k) (by omega) ?_
      refine z_goto C dX6_cellEnd_33 40 (by decide) ?_
      exact z_ri C dX6_cellEnd_40 (by unfold celE; rw [if_pos c9, if_pos c27])
  · skip
    simp only [decide_eq_true_eq, decide_eq_false_iff_not] at c9
    refine z_iconst C dX6_cellEnd_12 13 rfl ?_
    refine z_il_n C hl dX6_cellEnd_13 1 rfl 14 rfl ?_
    refine z_isub C dX6_cellEnd_14 15 rfl (-1 - k) (by omega) ?_
    exact z_ri C dX6_cellEnd_15 (by unfold celE; rw [if_neg c9])

set_option maxHeartbeats 4000000 in
set_option maxRecDepth 100000 in
theorem m_xcelIn (l : Launch) (G : gT) (X : Nat → Nat) (kn ml : Int) (kp : Bool) (tx : Int → Int) (k : Int) (wt : Ot ml tx) (hk : 0 ≤ k ∧ k < 2000000) : MR l G yX6_cellIn cX6_cellIn 2 (some .int) 1 [.ref (X 0), .int (iI (k))] [[moO X kn kp ml], [arI G (X 4) 60 tx]] ZT (.int (iI (celM ml tx k))) := by
  refine enterR (own := RX6) (by decide +kernel) rfl (Nat.le_of_ble_eq_true rfl) ?_
  intro p e s m below meth c C hP hK hZ ls hl
  have hl : lv_has ls 2 [(0, .ref (X 0)), (1, .int (iI (k)))] := hl
  refine z_bipush C dX6_cellIn_0 (by decide) 2 rfl ?_
  refine z_al_n C hl dX6_cellIn_2 0 rfl 3 rfl ?_
  refine z_il_n C hl dX6_cellIn_3 1 rfl 4 rfl ?_
  refine z_iconst C dX6_cellIn_4 5 rfl ?_
  refine z_iadd C dX6_cellIn_5 6 rfl (1 + k) (by omega) ?_
  refine z_VR (r := .int (iI (sgM ml tx (1 + k)))) (rest := [.int (iI (6))]) C (m_xsign l G X kn ml kp tx (1 + k) wt (by omega)) kV_X6_139 ⟨Nat.le_of_ble_eq_true rfl, Nat.le_of_ble_eq_true rfl⟩ hP hK 0 rfl rfl rfl hl.1 rfl (Nat.le_of_ble_eq_true rfl) dX6_cellIn_6 ⟨Nat.le_of_ble_eq_true rfl, Nat.le_of_ble_eq_true rfl⟩ 9 rfl ?_
  have r6 := sgM_rng wt (1 + k)
  refine z_bipush C dX6_cellIn_9 (by decide) 11 rfl ?_
  refine z_isub C dX6_cellIn_11 12 rfl (sgM ml tx (1 + k) - 49) (by omega) ?_
  refine z_imul C dX6_cellIn_12 13 rfl (6 * sgM ml tx (1 + k) - 294) (by omega) ?_
  refine z_al_n C hl dX6_cellIn_13 0 rfl 14 rfl ?_
  refine z_il_n C hl dX6_cellIn_14 1 rfl 15 rfl ?_
  refine z_VR (r := .int (iI (sgM ml tx k))) (rest := [.int (iI (6 * sgM ml tx (1 + k) - 294))]) C (m_xsign l G X kn ml kp tx k wt (by omega)) kV_X6_139 ⟨Nat.le_of_ble_eq_true rfl, Nat.le_of_ble_eq_true rfl⟩ hP hK 0 rfl rfl rfl hl.1 rfl (Nat.le_of_ble_eq_true rfl) dX6_cellIn_15 ⟨Nat.le_of_ble_eq_true rfl, Nat.le_of_ble_eq_true rfl⟩ 18 rfl ?_
  have r15 := sgM_rng wt k
  refine z_iadd C dX6_cellIn_18 19 rfl (6 * sgM ml tx (1 + k) + sgM ml tx k - 294) (by omega) ?_
  refine z_bipush C dX6_cellIn_19 (by decide) 21 rfl ?_
  refine z_isub C dX6_cellIn_21 22 rfl (6 * sgM ml tx (1 + k) + sgM ml tx k - 391) (by omega) ?_
  exact z_ri C dX6_cellIn_22 (by unfold celM; omega)

set_option maxHeartbeats 4000000 in
set_option maxRecDepth 100000 in
theorem m_xdir (l : Launch) (G : gT) (X : Nat → Nat) (kn ml : Int) (kp : Bool) (x : Int) (hx : -2147483648 ≤ x ∧ x < 2147483648) : MR l G yX6_directionOf cX6_directionOf 2 (some .int) 0 [.ref (X 0), .int (iI (x))] [[moO X kn kp ml]] ZT (.int (iI (dirM x))) := by
  refine enterR (own := RX6) (by decide +kernel) rfl (Nat.le_of_ble_eq_true rfl) ?_
  intro p e s m below meth c C hP hK hZ ls hl
  have hl : lv_has ls 2 [(0, .ref (X 0)), (1, .int (iI (x)))] := hl
  refine z_il_n C hl dX6_directionOf_0 1 rfl 1 rfl ?_
  refine z_bipush C dX6_directionOf_1 (by decide) 3 rfl ?_
  refine z_icmp_ne C dX6_directionOf_3 10 6 (by decide) rfl (by omega) (fun c3 => ?_) (fun c3 => ?_)
  · skip
    refine z_il_n C hl dX6_directionOf_10 1 rfl 11 rfl ?_
    refine z_bipush C dX6_directionOf_11 (by decide) 13 rfl ?_
    refine z_icmp_ne C dX6_directionOf_13 20 16 (by decide) rfl (by omega) (fun c13 => ?_) (fun c13 => ?_)
    · skip
      refine z_il_n C hl dX6_directionOf_20 1 rfl 21 rfl ?_
      refine z_bipush C dX6_directionOf_21 (by decide) 23 rfl ?_
      refine z_icmp_ne C dX6_directionOf_23 30 26 (by decide) rfl (by omega) (fun c23 => ?_) (fun c23 => ?_)
      · skip
        refine z_il_n C hl dX6_directionOf_30 1 rfl 31 rfl ?_
        refine z_bipush C dX6_directionOf_31 (by decide) 33 rfl ?_
        refine z_icmp_ne C dX6_directionOf_33 40 36 (by decide) rfl (by omega) (fun c33 => ?_) (fun c33 => ?_)
        · skip
          refine z_bipush C dX6_directionOf_40 (by decide) 42 rfl ?_
          exact z_ri C dX6_directionOf_42 (by unfold dirM; (repeat' split) <;> omega)
        · skip
          refine z_iconst C dX6_directionOf_36 37 rfl ?_
          refine z_goto C dX6_directionOf_37 42 (by decide) ?_
          exact z_ri C dX6_directionOf_42 (by unfold dirM; (repeat' split) <;> omega)
      · skip
        refine z_iconst C dX6_directionOf_26 27 rfl ?_
        refine z_goto C dX6_directionOf_27 42 (by decide) ?_
        exact z_ri C dX6_directionOf_42 (by unfold dirM; (repeat' split) <;> omega)
    · skip
      refine z_iconst C dX6_directionOf_16 17 rfl ?_
      refine z_goto C dX6_directionOf_17 42 (by decide) ?_
      exact z_ri C dX6_directionOf_42 (by unfold dirM; (repeat' split) <;> omega)
  · skip
    refine z_iconst C dX6_directionOf_6 7 rfl ?_
    refine z_goto C dX6_directionOf_7 42 (by decide) ?_
    exact z_ri C dX6_directionOf_42 (by unfold dirM; (repeat' split) <;> omega)

set_option maxHeartbeats 4000000 in
set_option maxRecDepth 100000 in
theorem m_xsanE (l : Launch) (G : gT) (X : Nat → Nat) (kn ml : Int) (kp : Bool) (tx : Int → Int) (k : Int) (wt : Ot ml tx) (hk : 0 ≤ k ∧ k < 1000000) : MR l G yX6_sandEnd cX6_sandEnd 3 (some .int) 3 [.ref (X 0), .int (iI (k))] [[moO X kn kp ml], [arI G (X 4) 60 tx]] ZT (.int (iI (sanE (sgM ml tx) k))) := by
  refine enterR (own := RX6) (by decide +kernel) rfl (Nat.le_of_ble_eq_true rfl) ?_
  intro p e s m below meth c C hP hK hZ ls hl
  have hl : lv_has ls 3 [(0, .ref (X 0)), (1, .int (iI (k)))] := hl
  refine z_al_n C hl dX6_sandEnd_0 0 rfl 1 rfl ?_
  refine z_il_n C hl dX6_sandEnd_1 1 rfl 2 rfl ?_
  refine z_VR (r := .int (iI (celE (sgM ml tx) k))) (rest := []) C (m_xcelE l G X kn ml kp tx k wt (by omega)) kV_X6_145 ⟨Nat.le_of_ble_eq_true rfl, Nat.le_of_ble_eq_true rfl⟩ hP hK 0 rfl rfl rfl hl.1 rfl (Nat.le_of_ble_eq_true rfl) dX6_sandEnd_2 ⟨Nat.le_of_ble_eq_true rfl, Nat.le_of_ble_eq_true rfl⟩ 5 rfl ?_
  have r2 := celE_rng (sgM ml tx) k (by omega)
  refine z_is_n C hl dX6_sandEnd_5 6 rfl (by decide) (lv' := [(2, .int (iI (celE (sgM ml tx) k))), (0, .ref (X 0)), (1, .int (iI (k)))]) rfl (fun ls hl => ?_)
  refine z_il_n C hl dX6_sandEnd_6 0 rfl 7 rfl ?_
  refine z_if_lt C dX6_sandEnd_7 20 10 (by decide) rfl (by omega) (fun c7 => ?_) (fun c7 => ?_)
  · skip
    refine z_il_n C hl dX6_sandEnd_20 0 rfl 21 rfl ?_
    refine z_if_ge C dX6_sandEnd_21 28 24 (by decide) rfl (by omega) (fun c21 => ?_) (fun c21 => ?_)
    · exfalso; omega
    · skip
      refine z_il_n C hl dX6_sandEnd_24 0 rfl 25 rfl ?_
      refine z_goto C dX6_sandEnd_25 31 (by decide) ?_
      exact z_ri C dX6_sandEnd_31 (by unfold sanE; rw [if_pos (by omega)])
  · skip
    refine z_al_n C hl dX6_sandEnd_10 1 rfl 11 rfl ?_
    refine z_il_n C hl dX6_sandEnd_11 0 rfl 12 rfl ?_
    refine z_VR (r := .int (iI (sgM ml tx (celE (sgM ml tx) k)))) (rest := []) C (m_xsign l G X kn ml kp tx (celE (sgM ml tx) k) wt (by omega)) kV_X6_139 ⟨Nat.le_of_ble_eq_true rfl, Nat.le_of_ble_eq_true rfl⟩ hP hK 0 rfl rfl rfl hl.1 rfl (Nat.le_of_ble_eq_true rfl) dX6_sandEnd_12 ⟨Nat.le_of_ble_eq_true rfl, Nat.le_of_ble_eq_true rfl⟩ 15 rfl ?_
    have r12 := sgM_rng wt (celE (sgM ml tx) k)
    refine z_bipush C dX6_sandEnd_15 (by decide) 17 rfl ?_
    refine z_icmp_eq C dX6_sandEnd_17 32 20 (by decide) rfl (by omega) (fun c17 => ?_) (fun c17 => ?_)
    · skip
      refine z_al_n C hl dX6_sandEnd_32 1 rfl 33 rfl ?_
      refine z_il_n C hl dX6_sandEnd_33 0 rfl 34 rfl ?_
      refine z_iconst C dX6_sandEnd_34 35 rfl ?_
      refine z_iadd C dX6_sandEnd_35 36 rfl (1 + celE (sgM ml tx) k) (by omega) ?_
      refine z_bipush C dX6_sandEnd_36 (by decide) 38 rfl ?_
      refine z_bipush C dX6_sandEnd_38 (by decide) 40 rfl ?_
      refine z_VR (r := .int (iI (bZ (decide (48 ≤ sgM ml tx (1 + celE (sgM ml tx) k) ∧ sgM ml tx (1 + celE (sgM ml tx) k) ≤ 52))))) (rest := []) C (m_xisSign l G X kn ml kp tx (1 + celE (sgM ml tx) k) 48 52 wt (by omega) (by omega) (by omega)) kV_X6_142 ⟨Nat.le_of_ble_eq_true rfl, Nat.le_of_ble_eq_true rfl⟩ hP hK 0 rfl rfl rfl hl.1 rfl (Nat.le_of_ble_eq_true rfl) dX6_sandEnd_40 ⟨Nat.le_of_ble_eq_true rfl, Nat.le_of_ble_eq_true rfl⟩ 43 rfl ?_
      refine z_ifb_ne C dX6_sandEnd_43 51 46 (by decide) rfl (fun c43 => ?_) (fun c43 => ?_)
      · skip
        simp only [decide_eq_true_eq, decide_eq_false_iff_not] at c43
        refine z_al_n C hl dX6_sandEnd_51 1 rfl 52 rfl ?_
        refine z_il_n C hl dX6_sandEnd_52 0 rfl 53 rfl ?_
        refine z_iconst C dX6_sandEnd_53 54 rfl ?_
        refine z_iadd C dX6_sandEnd_54 55 rfl (2 + celE (sgM ml tx) k) (by omega) ?_
        refine z_VR (r := .int (iI (sgM ml tx (2 + celE (sgM ml tx) k)))) (rest := []) C (m_xsign l G X kn ml kp tx (2 + celE (sgM ml tx) k) wt (by omega)) kV_X6_139 ⟨Nat.le_of_ble_eq_true rfl, Nat.le_of_ble_eq_true rfl⟩ hP hK 0 rfl rfl rfl hl.1 rfl (Nat.le_of_ble_eq_true rfl) dX6_sandEnd_55 ⟨Nat.le_of_ble_eq_true rfl, Nat.le_of_ble_eq_true rfl⟩ 58 rfl ?_
        have r55 := sgM_rng wt (2 + celE (sgM ml tx) k)
        refine z_bipush C dX6_sandEnd_58 (by decide) 60 rfl ?_
        refine z_icmp_ne C dX6_sandEnd_60 69 63 (by decide) rfl (by omega) (fun c60 => ?_) (fun c60 => ?_)
        · skip
          refine z_il_n C hl dX6_sandEnd_69 0 rfl 70 rfl ?_
          refine z_iconst C dX6_sandEnd_70 71 rfl ?_
          refine z_iadd C dX6_sandEnd_71 72 rfl (2 + celE (sgM ml tx) k) (by omega) ?_
          exact z_ri C dX6_sandEnd_72 (by unfold sanE; rw [if_neg (by omega), if_neg (by omega), if_neg (by omega), if_neg c60])
        · skip
          refine z_il_n C hl dX6_sandEnd_63 0 rfl 64 rfl ?_
          refine z_iconst C dX6_sandEnd_64 65 rfl ?_
          refine z_iadd C dX6_sandEnd_65 66 rfl (3 + celE (sgM ml tx) k) (by omega) ?_
          refine z_goto C dX6_sandEnd_66 72 (by decide) ?_
          exact z_ri C dX6_sandEnd_72 (by unfold sanE; rw [if_neg (by omega), if_neg (by omega), if_neg (by omega), if_pos c60])
      · skip
        simp only [decide_eq_true_eq, decide_eq_false_iff_not] at c43
        refine z_bipush C dX6_sandEnd_46 (by decide) 48 rfl ?_
        refine z_il_n C hl dX6_sandEnd_48 0 rfl 49 rfl ?_
        refine z_isub C dX6_sandEnd_49 50 rfl (-2 - celE (sgM ml tx) k) (by omega) ?_
        exact z_ri C dX6_sandEnd_50 (by unfold sanE; rw [if_neg (by omega), if_neg (by omega), if_pos c43])
    · skip
      refine z_il_n C hl dX6_sandEnd_20 0 rfl 21 rfl ?_
      refine z_if_ge C dX6_sandEnd_21 28 24 (by decide) rfl (by omega) (fun c21 => ?_) (fun c21 => ?_)
      · skip
        refine z_iconst C dX6_sandEnd_28 29 rfl ?_
        refine z_il_n C hl dX6_sandEnd_29 0 rfl 30 rfl ?_
        refine z_isub C dX6_sandEnd_30 31 rfl (-1 - celE (sgM ml tx) k) (by omega) ?_
        exact z_ri C dX6_sandEnd_31 (by unfold sanE; rw [if_neg (by omega), if_pos c17])
      · exfalso; omega

set_option maxHeartbeats 4000000 in
set_option maxRecDepth 100000 in
theorem m_xordE (l : Launch) (G : gT) (X : Nat → Nat) (kn ml : Int) (kp : Bool) (tx : Int → Int) (k : Int) (wt : Ot ml tx) (hk : 0 ≤ k ∧ k < 1000000) : MR l G yX6_orderEnd cX6_orderEnd 3 (some .int) 4 [.ref (X 0), .int (iI (k))] [[moO X kn kp ml], [arI G (X 4) 60 tx]] ZT (.int (iI (endZ (sgC ml tx) k))) := by
  refine enterR (own := RX6) (by decide +kernel) rfl (Nat.le_of_ble_eq_true rfl) ?_
  intro p e s m below meth c C hP hK hZ ls hl
  have hl : lv_has ls 3 [(0, .ref (X 0)), (1, .int (iI (k)))] := hl
  refine z_al_n C hl dX6_orderEnd_0 0 rfl 1 rfl ?_
  refine z_il_n C hl dX6_orderEnd_1 1 rfl 2 rfl ?_
  refine z_VR (r := .int (iI (sgM ml tx k))) (rest := []) C (m_xsign l G X kn ml kp tx k wt (by omega)) kV_X6_139 ⟨Nat.le_of_ble_eq_true rfl, Nat.le_of_ble_eq_true rfl⟩ hP hK 0 rfl rfl rfl hl.1 rfl (Nat.le_of_ble_eq_true rfl) dX6_orderEnd_2 ⟨Nat.le_of_ble_eq_true rfl, Nat.le_of_ble_eq_true rfl⟩ 5 rfl ?_
  have r2 := sgM_rng wt k
  refine z_bipush C dX6_orderEnd_5 (by decide) 7 rfl ?_
  refine z_icmp_ne C dX6_orderEnd_7 14 10 (by decide) rfl (by omega) (fun c7 => ?_) (fun c7 => ?_)
  · skip
    refine z_al_n C hl dX6_orderEnd_14 0 rfl 15 rfl ?_
    refine z_il_n C hl dX6_orderEnd_15 1 rfl 16 rfl ?_
    refine z_VR (r := .int (iI (sgM ml tx k))) (rest := []) C (m_xsign l G X kn ml kp tx k wt (by omega)) kV_X6_139 ⟨Nat.le_of_ble_eq_true rfl, Nat.le_of_ble_eq_true rfl⟩ hP hK 0 rfl rfl rfl hl.1 rfl (Nat.le_of_ble_eq_true rfl) dX6_orderEnd_16 ⟨Nat.le_of_ble_eq_true rfl, Nat.le_of_ble_eq_true rfl⟩ 19 rfl ?_
    have r16 := sgM_rng wt k
    refine z_bipush C dX6_orderEnd_19 (by decide) 21 rfl ?_
    refine z_icmp_ne C dX6_orderEnd_21 76 24 (by decide) rfl (by omega) (fun c21 => ?_) (fun c21 => ?_)
    · skip
      refine z_al_n C hl dX6_orderEnd_76 0 rfl 77 rfl ?_
      refine z_il_n C hl dX6_orderEnd_77 1 rfl 78 rfl ?_
      refine z_bipush C dX6_orderEnd_78 (by decide) 80 rfl ?_
      refine z_bipush C dX6_orderEnd_80 (by decide) 82 rfl ?_
      refine z_VR (r := .int (iI (bZ (decide (48 ≤ sgM ml tx k ∧ sgM ml tx k ≤ 57))))) (rest := []) C (m_xisSign l G X kn ml kp tx k 48 57 wt (by omega) (by omega) (by omega)) kV_X6_142 ⟨Nat.le_of_ble_eq_true rfl, Nat.le_of_ble_eq_true rfl⟩ hP hK 0 rfl rfl rfl hl.1 rfl (Nat.le_of_ble_eq_true rfl) dX6_orderEnd_82 ⟨Nat.le_of_ble_eq_true rfl, Nat.le_of_ble_eq_true rfl⟩ 85 rfl ?_
      refine z_ifb_eq C dX6_orderEnd_85 136 88 (by decide) rfl (fun c85 => ?_) (fun c85 => ?_)
      · skip
        simp only [decide_eq_true_eq, decide_eq_false_iff_not] at c85
        refine z_al_n C hl dX6_orderEnd_136 0 rfl 137 rfl ?_
        refine z_il_n C hl dX6_orderEnd_137 1 rfl 138 rfl ?_
        refine z_VR (r := .int (iI (sanE (sgM ml tx) k))) (rest := []) C (m_xsanE l G X kn ml kp tx k wt (by omega)) kV_X6_151 ⟨Nat.le_of_ble_eq_true rfl, Nat.le_of_ble_eq_true rfl⟩ hP hK 0 rfl rfl rfl hl.1 rfl (Nat.le_of_ble_eq_true rfl) dX6_orderEnd_138 ⟨Nat.le_of_ble_eq_true rfl, Nat.le_of_ble_eq_true rfl⟩ 141 rfl ?_
        exact z_ri C dX6_orderEnd_141 (by rw [← endZ_MC (n := ml) (tx := tx) hk.1]; exact sanE_end hk.1 c7 c21 c85)
      · skip
        simp only [decide_eq_true_eq, decide_eq_false_iff_not] at c85
        refine z_al_n C hl dX6_orderEnd_88 0 rfl 89 rfl ?_
        refine z_al_n C hl dX6_orderEnd_89 0 rfl 90 rfl ?_
        refine z_il_n C hl dX6_orderEnd_90 1 rfl 91 rfl ?_
        refine z_iconst C dX6_orderEnd_91 92 rfl ?_
        refine z_iadd C dX6_orderEnd_92 93 rfl (1 + k) (by omega) ?_
        refine z_VR (r := .int (iI (sgM ml tx (1 + k)))) (rest := [.ref (X 0)]) C (m_xsign l G X kn ml kp tx (1 + k) wt (by omega)) kV_X6_139 ⟨Nat.le_of_ble_eq_true rfl, Nat.le_of_ble_eq_true rfl⟩ hP hK 0 rfl rfl rfl hl.1 rfl (Nat.le_of_ble_eq_true rfl) dX6_orderEnd_93 ⟨Nat.le_of_ble_eq_true rfl, Nat.le_of_ble_eq_true rfl⟩ 96 rfl ?_
        have r93 := sgM_rng wt (1 + k)
        refine z_VR (r := .int (iI (dirM (sgM ml tx (1 + k))))) (rest := []) C (m_xdir l G X kn ml kp (sgM ml tx (1 + k)) (by omega)) kV_X6_148 ⟨Nat.le_of_ble_eq_true rfl, Nat.le_of_ble_eq_true rfl⟩ (gP_rg hP [0] rfl) hK 0 rfl rfl rfl hl.1 rfl (Nat.le_of_ble_eq_true rfl) dX6_orderEnd_96 ⟨Nat.le_of_ble_eq_true rfl, Nat.le_of_ble_eq_true rfl⟩ 99 rfl ?_
        have r96 := dirM_rng (sgM ml tx (1 + k))
        refine z_bipush C dX6_orderEnd_99 (by decide) 101 rfl ?_
        refine z_icmp_ne C dX6_orderEnd_101 111 104 (by decide) rfl (by omega) (fun c101 => ?_) (fun c101 => ?_)
        · skip
          refine z_al_n C hl dX6_orderEnd_111 0 rfl 112 rfl ?_
          refine z_il_n C hl dX6_orderEnd_112 1 rfl 113 rfl ?_
          refine z_iconst C dX6_orderEnd_113 114 rfl ?_
          refine z_iadd C dX6_orderEnd_114 115 rfl (2 + k) (by omega) ?_
          refine z_bipush C dX6_orderEnd_115 (by decide) 117 rfl ?_
          refine z_bipush C dX6_orderEnd_117 (by decide) 119 rfl ?_
          refine z_VR (r := .int (iI (bZ (decide (49 ≤ sgM ml tx (2 + k) ∧ sgM ml tx (2 + k) ≤ 51))))) (rest := []) C (m_xisSign l G X kn ml kp tx (2 + k) 49 51 wt (by omega) (by omega) (by omega)) kV_X6_142 ⟨Nat.le_of_ble_eq_true rfl, Nat.le_of_ble_eq_true rfl⟩ hP hK 0 rfl rfl rfl hl.1 rfl (Nat.le_of_ble_eq_true rfl) dX6_orderEnd_119 ⟨Nat.le_of_ble_eq_true rfl, Nat.le_of_ble_eq_true rfl⟩ 122 rfl ?_
          refine z_ifb_eq C dX6_orderEnd_122 131 125 (by decide) rfl (fun c122 => ?_) (fun c122 => ?_)
          · skip
            simp only [decide_eq_true_eq, decide_eq_false_iff_not] at c122
            refine z_bipush C dX6_orderEnd_131 (by decide) 133 rfl ?_
            refine z_il_n C hl dX6_orderEnd_133 1 rfl 134 rfl ?_
            refine z_isub C dX6_orderEnd_134 135 rfl (-3 - k) (by omega) ?_
            exact z_ri C dX6_orderEnd_135 (by rw [← endZ_MC (n := ml) (tx := tx) hk.1]; unfold endZ; rw [if_neg (by omega), if_neg (by omega), if_pos c85, if_neg (by rw [fit87, decide_eq_true (dirM_e c101).2]; decide), if_pos (by rw [fit83]; exact decide_eq_false c122)])
          · skip
            simp only [decide_eq_true_eq, decide_eq_false_iff_not] at c122
            refine z_il_n C hl dX6_orderEnd_125 1 rfl 126 rfl ?_
            refine z_iconst C dX6_orderEnd_126 127 rfl ?_
            refine z_iadd C dX6_orderEnd_127 128 rfl (3 + k) (by omega) ?_
            refine z_goto C dX6_orderEnd_128 135 (by decide) ?_
            exact z_ri C dX6_orderEnd_135 (by rw [← endZ_MC (n := ml) (tx := tx) hk.1]; unfold endZ; rw [if_neg (by omega), if_neg (by omega), if_pos c85, if_neg (by rw [fit87, decide_eq_true (dirM_e c101).2]; decide), if_neg (by rw [fit83, decide_eq_true c122]; decide)])
        · skip
          refine z_bipush C dX6_orderEnd_104 (by decide) 106 rfl ?_
          refine z_il_n C hl dX6_orderEnd_106 1 rfl 107 rfl ?_
          refine z_isub C dX6_orderEnd_107 108 rfl (-2 - k) (by omega) ?_
          refine z_goto C dX6_orderEnd_108 135 (by decide) ?_
          exact z_ri C dX6_orderEnd_135 (by rw [← endZ_MC (n := ml) (tx := tx) hk.1]; unfold endZ; rw [if_neg (by omega), if_neg (by omega), if_pos c85, if_pos (by rw [fit87]; exact decide_eq_false (dirM_m c101))])
    · skip
      refine z_al_n C hl dX6_orderEnd_24 0 rfl 25 rfl ?_
      refine z_il_n C hl dX6_orderEnd_25 1 rfl 26 rfl ?_
      refine z_iconst C dX6_orderEnd_26 27 rfl ?_
      refine z_iadd C dX6_orderEnd_27 28 rfl (1 + k) (by omega) ?_
      refine z_bipush C dX6_orderEnd_28 (by decide) 30 rfl ?_
      refine z_bipush C dX6_orderEnd_30 (by decide) 32 rfl ?_
      refine z_VR (r := .int (iI (bZ (decide (48 ≤ sgM ml tx (1 + k) ∧ sgM ml tx (1 + k) ≤ 49))))) (rest := []) C (m_xisSign l G X kn ml kp tx (1 + k) 48 49 wt (by omega) (by omega) (by omega)) kV_X6_142 ⟨Nat.le_of_ble_eq_true rfl, Nat.le_of_ble_eq_true rfl⟩ hP hK 0 rfl rfl rfl hl.1 rfl (Nat.le_of_ble_eq_true rfl) dX6_orderEnd_32 ⟨Nat.le_of_ble_eq_true rfl, Nat.le_of_ble_eq_true rfl⟩ 35 rfl ?_
      refine z_is_n C hl dX6_orderEnd_35 36 rfl (by decide) (lv' := [(2, .int (iI (bZ (decide (48 ≤ sgM ml tx (1 + k) ∧ sgM ml tx (1 + k) ≤ 49))))), (0, .ref (X 0)), (1, .int (iI (k)))]) rfl (fun ls hl => ?_)
      refine z_il_n C hl dX6_orderEnd_36 0 rfl 37 rfl ?_
      refine z_ifb_ne C dX6_orderEnd_37 47 40 (by decide) rfl (fun c37 => ?_) (fun c37 => ?_)
      · skip
        simp only [decide_eq_true_eq, decide_eq_false_iff_not] at c37
        refine z_al_n C hl dX6_orderEnd_47 1 rfl 48 rfl ?_
        refine z_il_n C hl dX6_orderEnd_48 2 rfl 49 rfl ?_
        refine z_iconst C dX6_orderEnd_49 50 rfl ?_
        refine z_iadd C dX6_orderEnd_50 51 rfl (2 + k) (by omega) ?_
        refine z_bipush C dX6_orderEnd_51 (by decide) 53 rfl ?_
        refine z_bipush C dX6_orderEnd_53 (by decide) 55 rfl ?_
        refine z_VR (r := .int (iI (bZ (decide (49 ≤ sgM ml tx (2 + k) ∧ sgM ml tx (2 + k) ≤ 51))))) (rest := []) C (m_xisSign l G X kn ml kp tx (2 + k) 49 51 wt (by omega) (by omega) (by omega)) kV_X6_142 ⟨Nat.le_of_ble_eq_true rfl, Nat.le_of_ble_eq_true rfl⟩ hP hK 0 rfl rfl rfl hl.1 rfl (Nat.le_of_ble_eq_true rfl) dX6_orderEnd_55 ⟨Nat.le_of_ble_eq_true rfl, Nat.le_of_ble_eq_true rfl⟩ 58 rfl ?_
        refine z_ifb_ne C dX6_orderEnd_58 68 61 (by decide) rfl (fun c58 => ?_) (fun c58 => ?_)
        · skip
          simp only [decide_eq_true_eq, decide_eq_false_iff_not] at c58
          refine z_al_n C hl dX6_orderEnd_68 1 rfl 69 rfl ?_
          refine z_il_n C hl dX6_orderEnd_69 2 rfl 70 rfl ?_
          refine z_iconst C dX6_orderEnd_70 71 rfl ?_
          refine z_iadd C dX6_orderEnd_71 72 rfl (3 + k) (by omega) ?_
          refine z_VR (r := .int (iI (celE (sgM ml tx) (3 + k)))) (rest := []) C (m_xcelE l G X kn ml kp tx (3 + k) wt (by omega)) kV_X6_145 ⟨Nat.le_of_ble_eq_true rfl, Nat.le_of_ble_eq_true rfl⟩ hP hK 0 rfl rfl rfl hl.1 rfl (Nat.le_of_ble_eq_true rfl) dX6_orderEnd_72 ⟨Nat.le_of_ble_eq_true rfl, Nat.le_of_ble_eq_true rfl⟩ 75 rfl ?_
          have r72 := celE_rng (sgM ml tx) (3 + k) (by omega)
          exact z_ri C dX6_orderEnd_75 (by rw [← endZ_MC (n := ml) (tx := tx) hk.1]; unfold endZ; rw [if_neg (by omega), if_pos c21, if_neg (by rw [fit80, decide_eq_true c37]; decide), if_neg (by rw [fit68, decide_eq_true c58]; decide), celE_p])
        · skip
          simp only [decide_eq_true_eq, decide_eq_false_iff_not] at c58
          refine z_bipush C dX6_orderEnd_61 (by decide) 63 rfl ?_
          refine z_il_n C hl dX6_orderEnd_63 2 rfl 64 rfl ?_
          refine z_isub C dX6_orderEnd_64 65 rfl (-3 - k) (by omega) ?_
          refine z_goto C dX6_orderEnd_65 75 (by decide) ?_
          exact z_ri C dX6_orderEnd_75 (by rw [← endZ_MC (n := ml) (tx := tx) hk.1]; unfold endZ; rw [if_neg (by omega), if_pos c21, if_neg (by rw [fit80, decide_eq_true c37]; decide), if_pos (by rw [fit68]; exact decide_eq_false c58)])
      · skip
        simp only [decide_eq_true_eq, decide_eq_false_iff_not] at c37
        refine z_bipush C dX6_orderEnd_40 (by decide) 42 rfl ?_
        refine z_il_n C hl dX6_orderEnd_42 2 rfl 43 rfl ?_
        refine z_isub C dX6_orderEnd_43 44 rfl (-2 - k) (by omega) ?_
        refine z_goto C dX6_orderEnd_44 75 (by decide) ?_
        exact z_ri C dX6_orderEnd_75 (by rw [← endZ_MC (n := ml) (tx := tx) hk.1]; unfold endZ; rw [if_neg (by omega), if_pos c21, if_pos (by rw [fit80]; exact decide_eq_false c37)])
  · skip
    refine z_il_n C hl dX6_orderEnd_10 1 rfl 11 rfl ?_
    refine z_iconst C dX6_orderEnd_11 12 rfl ?_
    refine z_iadd C dX6_orderEnd_12 13 rfl (1 + k) (by omega) ?_
    exact z_ri C dX6_orderEnd_13 (by rw [← endZ_MC (n := ml) (tx := tx) hk.1]; unfold endZ; rw [if_neg (by omega), if_neg (by omega), if_neg (by omega), if_pos c7])

set_option maxHeartbeats 4000000 in
set_option maxRecDepth 100000 in
theorem m_xfault (l : Launch) (G : gT) (X : Nat → Nat) (kn ml : Int) (kp : Bool) (tx : Int → Int) (wt : Ot ml tx) : MR l G yX6_fault cX6_fault 4 (some .int) 5 [.ref (X 0)] [[moO X kn kp ml], [arI G (X 4) 60 tx]] ZT (.int (iI (fltZ ml (sgC ml tx)))) := by
  refine enterR (own := RX6) (by decide +kernel) rfl (Nat.le_of_ble_eq_true rfl) ?_
  intro p e s m below meth c C hP hK hZ ls hl
  have hl : lv_has ls 4 [(0, .ref (X 0))] := hl
  have hm := wt.1
  refine z_iconst C dX6_fault_0 1 rfl ?_
  refine z_is_n C hl dX6_fault_1 2 rfl (by decide) (lv' := [(1, .int (iI (0))), (0, .ref (X 0))]) rfl (fun ls hl => ?_)
  refine z_iconst C dX6_fault_2 3 rfl ?_
  refine z_is_n C hl dX6_fault_3 4 rfl (by decide) (lv' := [(2, .int (iI (0))), (1, .int (iI (0))), (0, .ref (X 0))]) rfl (fun ls hl => ?_)
  have L4 : ∀ (fu : Nat) (a : Int) (k : Int) (h1 : 0 ≤ k ∧ 2 * k ≤ a ∧ a ≤ ml) (h2 : fltN ml (sgC ml tx) (61 - k).toNat a = fltZ ml (sgC ml tx)) (hm : 61 - k < (fu : Int)) (ls : Array Slot) (hl : lv_has ls 4 [(2, .int (iI (k))), (1, .int (iI (a))), (0, .ref (X 0))]), W p l e (rmN 5) s m [.ref (X 0)].toArray below meth c s.heap [] 0 0 (MQ below (QR (.int (iI (fltZ ml (sgC ml tx))))) [.ref (X 0)].toArray s 0 0 (fun _ => False)) (F0 m 4 ls []) := by
    intro fu
    induction fu with
    | zero => intro a k h1 h2 hm ls hl; exfalso; omega
    | succ fu ih =>
      intro a k h1 h2 hm ls hl
      have ih4 := ih
      refine z_il_n C hl dX6_fault_4 0 rfl 5 rfl ?_
      refine z_bipush C dX6_fault_5 (by decide) 7 rfl ?_
      refine z_icmp_ge C dX6_fault_7 57 10 (by decide) rfl (by omega) (fun c7 => ?_) (fun c7 => ?_)
      · exfalso; omega
      · skip
        refine z_al_n C hl dX6_fault_10 2 rfl 11 rfl ?_
        refine z_il_n C hl dX6_fault_11 1 rfl 12 rfl ?_
        refine z_VR (r := .int (iI (endZ (sgC ml tx) a))) (rest := []) C (m_xordE l G X kn ml kp tx a wt (by omega)) kV_X6_154 ⟨Nat.le_of_ble_eq_true rfl, Nat.le_of_ble_eq_true rfl⟩ hP hK 0 rfl rfl rfl hl.1 rfl (Nat.le_of_ble_eq_true rfl) dX6_fault_12 ⟨Nat.le_of_ble_eq_true rfl, Nat.le_of_ble_eq_true rfl⟩ 15 rfl ?_
        have e12 := endZ_rng (sgC ml tx) a (by omega)
        refine z_is_n C hl dX6_fault_15 16 rfl (by decide) (lv' := [(3, .int (iI (endZ (sgC ml tx) a))), (2, .int (iI (k))), (1, .int (iI (a))), (0, .ref (X 0))]) rfl (fun ls hl => ?_)
        refine z_il_n C hl dX6_fault_16 0 rfl 17 rfl ?_
        refine z_if_ge C dX6_fault_17 24 20 (by decide) rfl (by omega) (fun c17 => ?_) (fun c17 => ?_)
        · skip
          have hle := endZ_le (by omega) c17
          refine z_il_n C hl dX6_fault_24 0 rfl 25 rfl ?_
          refine z_al_n C hl dX6_fault_25 3 rfl 26 rfl ?_
          refine z_get C hP hK fl_X6_136 0 rfl rfl dX6_fault_26 29 rfl ?_
          refine z_icmp_ne C dX6_fault_29 35 32 (by decide) rfl (by omega) (fun c29 => ?_) (fun c29 => ?_)
          · skip
            refine z_al_n C hl dX6_fault_35 3 rfl 36 rfl ?_
            refine z_il_n C hl dX6_fault_36 0 rfl 37 rfl ?_
            refine z_VR (r := .int (iI (sgM ml tx (endZ (sgC ml tx) a)))) (rest := []) C (m_xsign l G X kn ml kp tx (endZ (sgC ml tx) a) wt (by omega)) kV_X6_139 ⟨Nat.le_of_ble_eq_true rfl, Nat.le_of_ble_eq_true rfl⟩ hP hK 0 rfl rfl rfl hl.1 rfl (Nat.le_of_ble_eq_true rfl) dX6_fault_37 ⟨Nat.le_of_ble_eq_true rfl, Nat.le_of_ble_eq_true rfl⟩ 40 rfl ?_
            have r37 := sgM_rng wt (endZ (sgC ml tx) a)
            refine z_bipush C dX6_fault_40 (by decide) 42 rfl ?_
            refine z_icmp_eq C dX6_fault_42 47 45 (by decide) rfl (by omega) (fun c42 => ?_) (fun c42 => ?_)
            · skip
              refine z_il_n C hl dX6_fault_47 0 rfl 48 rfl ?_
              refine z_iconst C dX6_fault_48 49 rfl ?_
              refine z_iadd C dX6_fault_49 50 rfl (1 + endZ (sgC ml tx) a) (by omega) ?_
              refine z_is_n C hl dX6_fault_50 51 rfl (by decide) (lv' := [(1, .int (iI (1 + endZ (sgC ml tx) a))), (3, .int (iI (endZ (sgC ml tx) a))), (2, .int (iI (k))), (0, .ref (X 0))]) rfl (fun ls hl => ?_)
              refine z_iinc C hl dX6_fault_51 54 rfl 2 rfl (z := 1 + k) (by omega) (by decide) (lv' := [(2, .int (iI (1 + k))), (1, .int (iI (1 + endZ (sgC ml tx) a))), (3, .int (iI (endZ (sgC ml tx) a))), (0, .ref (X 0))]) rfl (fun ls hl => ?_)
              refine z_goto C dX6_fault_54 4 (by decide) ?_
              exact ih4 (1 + endZ (sgC ml tx) a) (1 + k) (by omega) (by rw [← h2, fltN_1 (k := 61 - k) (by omega), if_neg (by omega), if_neg (by omega), if_neg (fun z => z ((sgP (n := ml) (tx := tx) (P := fun x => x = 59) (by decide) (by omega)).mp c42)), show 61 - k - 1 = 61 - (1 + k) by omega]) (by omega) ls (lv_sub hl [0, 1, 3] rfl)
            · skip
              refine z_il_n C hl dX6_fault_45 0 rfl 46 rfl ?_
              exact z_ri C dX6_fault_46 (by rw [← h2, fltN_1 (k := 61 - k) (by omega), if_neg (by omega), if_neg (by omega), if_pos (fun z => c42 ((sgP (n := ml) (tx := tx) (P := fun x => x = 59) (by decide) (by omega)).mpr z))])
          · skip
            refine z_bipush C dX6_fault_32 (by decide) 34 rfl ?_
            exact z_ri C dX6_fault_34 (by rw [← h2, fltN_1 (k := 61 - k) (by omega), if_neg (by omega), if_pos (by omega)])
        · skip
          refine z_iconst C dX6_fault_20 21 rfl ?_
          refine z_il_n C hl dX6_fault_21 0 rfl 22 rfl ?_
          refine z_isub C dX6_fault_22 23 rfl (-1 - endZ (sgC ml tx) a) (by omega) ?_
          exact z_ri C dX6_fault_23 (by rw [← h2, fltN_1 (k := 61 - k) (by omega), if_pos (by omega)])
  exact L4 (Int.toNat (61 - 0) + 1) 0 0 (by omega) (rfl) (by omega) ls (lv_sub hl [0, 1, 2] rfl)

set_option maxHeartbeats 4000000 in
set_option maxRecDepth 100000 in
theorem m_xdoes (l : Launch) (G : gT) (X : Nat → Nat) (kn ml : Int) (kp : Bool) (v y tx : Int → Int) (pl : Int) (w : Wf y) (wt : Ot ml tx) (hp : 0 ≤ pl ∧ pl < 1000) (hv : 0 ≤ endZ (sgM ml tx) pl) (hD : gD ([[moO X kn kp ml], [arI G (X 1) 258 (s2Z v y)], [arI G (X 4) 60 tx]] : List va_W).flatten) : MW l G yX6_does cX6_does 2 (some .int) 8 [.ref (X 0), .int (iI (pl))] [[moO X kn kp ml], [arI G (X 1) 258 (s2Z v y)], [arI G (X 4) 60 tx]] [[moO X kn kp ml], [arI G (X 1) 258 (s2Z v (ordV y (sgC ml tx) pl))], [arI G (X 4) 60 tx]] ZT (some (.int (iI (ordR y (sgC ml tx) pl)))) := by
  refine enterW (own := RX6) (by decide +kernel) rfl (Nat.le_of_ble_eq_true rfl) hD ?_
  intro p e s m below meth c C hW hK hZ ls hl
  have hl : lv_has ls 2 [(0, .ref (X 0)), (1, .int (iI (pl)))] := hl
  refine z_al_n C hl dX6_does_0 0 rfl 1 rfl ?_
  refine z_il_n C hl dX6_does_1 1 rfl 2 rfl ?_
  refine z_VR (r := .int (iI (sgM ml tx pl))) (rest := []) C (m_xsign l G X kn ml kp tx pl wt (by omega)) kV_X6_139 ⟨Nat.le_of_ble_eq_true rfl, Nat.le_of_ble_eq_true rfl⟩ (gP_rg hW.1 [0, 2] rfl) hK 0 rfl rfl rfl hl.1 rfl (Nat.le_of_ble_eq_true rfl) dX6_does_2 ⟨Nat.le_of_ble_eq_true rfl, Nat.le_of_ble_eq_true rfl⟩ 5 rfl ?_
  have r2 := sgM_rng wt pl
  refine z_bipush C dX6_does_5 (by decide) 7 rfl ?_
  refine z_icmp_ne C dX6_does_7 18 10 (by decide) rfl (by omega) (fun c7 => ?_) (fun c7 => ?_)
  · skip
    refine z_al_n C hl dX6_does_18 0 rfl 19 rfl ?_
    refine z_il_n C hl dX6_does_19 1 rfl 20 rfl ?_
    refine z_VR (r := .int (iI (sgM ml tx pl))) (rest := []) C (m_xsign l G X kn ml kp tx pl wt (by omega)) kV_X6_139 ⟨Nat.le_of_ble_eq_true rfl, Nat.le_of_ble_eq_true rfl⟩ (gP_rg hW.1 [0, 2] rfl) hK 0 rfl rfl rfl hl.1 rfl (Nat.le_of_ble_eq_true rfl) dX6_does_20 ⟨Nat.le_of_ble_eq_true rfl, Nat.le_of_ble_eq_true rfl⟩ 23 rfl ?_
    have r20 := sgM_rng wt pl
    refine z_bipush C dX6_does_23 (by decide) 25 rfl ?_
    refine z_icmp_ne C dX6_does_25 63 28 (by decide) rfl (by omega) (fun c25 => ?_) (fun c25 => ?_)
    · skip
      refine z_al_n C hl dX6_does_63 0 rfl 64 rfl ?_
      refine z_il_n C hl dX6_does_64 1 rfl 65 rfl ?_
      refine z_bipush C dX6_does_65 (by decide) 67 rfl ?_
      refine z_bipush C dX6_does_67 (by decide) 69 rfl ?_
      refine z_VR (r := .int (iI (bZ (decide (48 ≤ sgM ml tx pl ∧ sgM ml tx pl ≤ 57))))) (rest := []) C (m_xisSign l G X kn ml kp tx pl 48 57 wt (by omega) (by omega) (by omega)) kV_X6_142 ⟨Nat.le_of_ble_eq_true rfl, Nat.le_of_ble_eq_true rfl⟩ (gP_rg hW.1 [0, 2] rfl) hK 0 rfl rfl rfl hl.1 rfl (Nat.le_of_ble_eq_true rfl) dX6_does_69 ⟨Nat.le_of_ble_eq_true rfl, Nat.le_of_ble_eq_true rfl⟩ 72 rfl ?_
      refine z_ifb_eq C dX6_does_72 115 75 (by decide) rfl (fun c72 => ?_) (fun c72 => ?_)
      · skip
        simp only [decide_eq_true_eq, decide_eq_false_iff_not] at c72
        refine z_al_n C hl dX6_does_115 0 rfl 116 rfl ?_
        refine z_sipush C dX6_does_116 (by decide) 119 rfl ?_
        refine z_al_n C hl dX6_does_119 0 rfl 120 rfl ?_
        refine z_il_n C hl dX6_does_120 1 rfl 121 rfl ?_
        refine z_VR (r := .int (iI (celM ml tx pl))) (rest := [.int (iI (129)), .ref (X 0)]) C (m_xcelIn l G X kn ml kp tx pl wt (by omega)) kV_X6_157 ⟨Nat.le_of_ble_eq_true rfl, Nat.le_of_ble_eq_true rfl⟩ (gP_rg hW.1 [0, 2] rfl) hK 0 rfl rfl rfl hl.1 rfl (Nat.le_of_ble_eq_true rfl) dX6_does_121 ⟨Nat.le_of_ble_eq_true rfl, Nat.le_of_ble_eq_true rfl⟩ 124 rfl ?_
        have r121 := sgM_rng wt pl
        have r121b := sgM_rng wt (1 + pl)
        have r121c : -1000000 ≤ celM ml tx pl ∧ celM ml tx pl ≤ 1000000 := by unfold celM; omega
        refine z_al_n C hl dX6_does_124 0 rfl 125 rfl ?_
        refine z_il_n C hl dX6_does_125 1 rfl 126 rfl ?_
        refine z_iconst C dX6_does_126 127 rfl ?_
        refine z_iadd C dX6_does_127 128 rfl (3 + pl) (by omega) ?_
        refine z_VR (r := .int (iI (sgM ml tx (3 + pl)))) (rest := [.int (iI (celM ml tx pl)), .int (iI (129)), .ref (X 0)]) C (m_xsign l G X kn ml kp tx (3 + pl) wt (by omega)) kV_X6_139 ⟨Nat.le_of_ble_eq_true rfl, Nat.le_of_ble_eq_true rfl⟩ (gP_rg hW.1 [0, 2] rfl) hK 0 rfl rfl rfl hl.1 rfl (Nat.le_of_ble_eq_true rfl) dX6_does_128 ⟨Nat.le_of_ble_eq_true rfl, Nat.le_of_ble_eq_true rfl⟩ 131 rfl ?_
        have r128 := sgM_rng wt (3 + pl)
        refine z_bipush C dX6_does_131 (by decide) 133 rfl ?_
        refine z_isub C dX6_does_133 134 rfl (sgM ml tx (3 + pl) - 48) (by omega) ?_
        refine z_al_n C hl dX6_does_134 0 rfl 135 rfl ?_
        refine z_il_n C hl dX6_does_135 1 rfl 136 rfl ?_
        refine z_iconst C dX6_does_136 137 rfl ?_
        refine z_iadd C dX6_does_137 138 rfl (4 + pl) (by omega) ?_
        refine z_VR (r := .int (iI (sgM ml tx (4 + pl)))) (rest := [.int (iI (sgM ml tx (3 + pl) - 48)), .int (iI (celM ml tx pl)), .int (iI (129)), .ref (X 0)]) C (m_xsign l G X kn ml kp tx (4 + pl) wt (by omega)) kV_X6_139 ⟨Nat.le_of_ble_eq_true rfl, Nat.le_of_ble_eq_true rfl⟩ (gP_rg hW.1 [0, 2] rfl) hK 0 rfl rfl rfl hl.1 rfl (Nat.le_of_ble_eq_true rfl) dX6_does_138 ⟨Nat.le_of_ble_eq_true rfl, Nat.le_of_ble_eq_true rfl⟩ 141 rfl ?_
        have r138 := sgM_rng wt (4 + pl)
        refine z_bipush C dX6_does_141 (by decide) 143 rfl ?_
        refine z_icmp_ne C dX6_does_143 150 146 (by decide) rfl (by omega) (fun c143 => ?_) (fun c143 => ?_)
        · skip
          skip
          refine z_iconst C dX6_does_150 151 rfl ?_
          refine z_VWi (r := .int (iI (layR y (celM ml tx pl) (sgM ml tx (3 + pl) - 48) 0))) (rest := []) C (m_xsands l G X kn ml kp v y (celM ml tx pl) (sgM ml tx (3 + pl) - 48) 0 w (by omega) (by omega) (by omega) (gD_rg hW.2.1 [0, 1] (by decide) rfl)) kV_X6_117 ⟨Nat.le_of_ble_eq_true rfl, Nat.le_of_ble_eq_true rfl⟩ hW hK [0, 1] rfl (sameA_of rfl) 0 rfl rfl rfl hl.1 rfl (Nat.le_of_ble_eq_true rfl) dX6_does_151 ⟨Nat.le_of_ble_eq_true rfl, Nat.le_of_ble_eq_true rfl⟩ 154 rfl (rs' := [[moO X kn kp ml], [arI G (X 1) 258 (s2Z v (layV y (celM ml tx pl) (sgM ml tx (3 + pl) - 48) 0))], [arI G (X 4) 60 tx]]) rfl (fun H locs hW hkeep => ?_)
          have y151 := layR_rng w (celM ml tx pl) (sgM ml tx (3 + pl) - 48) 0
          have ho := ord_s (y := y) hp.1 c7 c25 c72 hv (show (0 : Int) = bZ (decide (sgM ml tx (4 + pl) = 42)) by rw [decide_eq_false c143]; rfl)
          rw [ho.1, ho.2]
          exact z_wi C hW dX6_does_154 rfl rfl
        · skip
          refine z_iconst C dX6_does_146 147 rfl ?_
          refine z_goto C dX6_does_147 151 (by decide) ?_
          refine z_VWi (r := .int (iI (layR y (celM ml tx pl) (sgM ml tx (3 + pl) - 48) 1))) (rest := []) C (m_xsands l G X kn ml kp v y (celM ml tx pl) (sgM ml tx (3 + pl) - 48) 1 w (by omega) (by omega) (by omega) (gD_rg hW.2.1 [0, 1] (by decide) rfl)) kV_X6_117 ⟨Nat.le_of_ble_eq_true rfl, Nat.le_of_ble_eq_true rfl⟩ hW hK [0, 1] rfl (sameA_of rfl) 0 rfl rfl rfl hl.1 rfl (Nat.le_of_ble_eq_true rfl) dX6_does_151 ⟨Nat.le_of_ble_eq_true rfl, Nat.le_of_ble_eq_true rfl⟩ 154 rfl (rs' := [[moO X kn kp ml], [arI G (X 1) 258 (s2Z v (layV y (celM ml tx pl) (sgM ml tx (3 + pl) - 48) 1))], [arI G (X 4) 60 tx]]) rfl (fun H locs hW hkeep => ?_)
          have y151 := layR_rng w (celM ml tx pl) (sgM ml tx (3 + pl) - 48) 1
          have ho := ord_s (y := y) hp.1 c7 c25 c72 hv (show (1 : Int) = bZ (decide (sgM ml tx (4 + pl) = 42)) by rw [decide_eq_true c143]; rfl)
          rw [ho.1, ho.2]
          exact z_wi C hW dX6_does_154 rfl rfl
      · skip
        simp only [decide_eq_true_eq, decide_eq_false_iff_not] at c72
        refine z_al_n C hl dX6_does_75 0 rfl 76 rfl ?_
        refine z_sipush C dX6_does_76 (by decide) 79 rfl ?_
        refine z_al_n C hl dX6_does_79 0 rfl 80 rfl ?_
        refine z_il_n C hl dX6_does_80 1 rfl 81 rfl ?_
        refine z_VR (r := .int (iI (sgM ml tx pl))) (rest := [.int (iI (129)), .ref (X 0)]) C (m_xsign l G X kn ml kp tx pl wt (by omega)) kV_X6_139 ⟨Nat.le_of_ble_eq_true rfl, Nat.le_of_ble_eq_true rfl⟩ (gP_rg hW.1 [0, 2] rfl) hK 0 rfl rfl rfl hl.1 rfl (Nat.le_of_ble_eq_true rfl) dX6_does_81 ⟨Nat.le_of_ble_eq_true rfl, Nat.le_of_ble_eq_true rfl⟩ 84 rfl ?_
        have r81 := sgM_rng wt pl
        refine z_bipush C dX6_does_84 (by decide) 86 rfl ?_
        refine z_isub C dX6_does_86 87 rfl (sgM ml tx pl - 48) (by omega) ?_
        refine z_al_n C hl dX6_does_87 0 rfl 88 rfl ?_
        refine z_al_n C hl dX6_does_88 0 rfl 89 rfl ?_
        refine z_il_n C hl dX6_does_89 1 rfl 90 rfl ?_
        refine z_iconst C dX6_does_90 91 rfl ?_
        refine z_iadd C dX6_does_91 92 rfl (1 + pl) (by omega) ?_
        refine z_VR (r := .int (iI (sgM ml tx (1 + pl)))) (rest := [.ref (X 0), .int (iI (sgM ml tx pl - 48)), .int (iI (129)), .ref (X 0)]) C (m_xsign l G X kn ml kp tx (1 + pl) wt (by omega)) kV_X6_139 ⟨Nat.le_of_ble_eq_true rfl, Nat.le_of_ble_eq_true rfl⟩ (gP_rg hW.1 [0, 2] rfl) hK 0 rfl rfl rfl hl.1 rfl (Nat.le_of_ble_eq_true rfl) dX6_does_92 ⟨Nat.le_of_ble_eq_true rfl, Nat.le_of_ble_eq_true rfl⟩ 95 rfl ?_
        have r92 := sgM_rng wt (1 + pl)
        refine z_VR (r := .int (iI (dirM (sgM ml tx (1 + pl))))) (rest := [.int (iI (sgM ml tx pl - 48)), .int (iI (129)), .ref (X 0)]) C (m_xdir l G X kn ml kp (sgM ml tx (1 + pl)) (by omega)) kV_X6_148 ⟨Nat.le_of_ble_eq_true rfl, Nat.le_of_ble_eq_true rfl⟩ (gP_rg hW.1 [0] rfl) hK 0 rfl rfl rfl hl.1 rfl (Nat.le_of_ble_eq_true rfl) dX6_does_95 ⟨Nat.le_of_ble_eq_true rfl, Nat.le_of_ble_eq_true rfl⟩ 98 rfl ?_
        have r95 := dirM_rng (sgM ml tx (1 + pl))
        refine z_al_n C hl dX6_does_98 0 rfl 99 rfl ?_
        refine z_il_n C hl dX6_does_99 1 rfl 100 rfl ?_
        refine z_iconst C dX6_does_100 101 rfl ?_
        refine z_iadd C dX6_does_101 102 rfl (2 + pl) (by omega) ?_
        refine z_VR (r := .int (iI (sgM ml tx (2 + pl)))) (rest := [.int (iI (dirM (sgM ml tx (1 + pl)))), .int (iI (sgM ml tx pl - 48)), .int (iI (129)), .ref (X 0)]) C (m_xsign l G X kn ml kp tx (2 + pl) wt (by omega)) kV_X6_139 ⟨Nat.le_of_ble_eq_true rfl, Nat.le_of_ble_eq_true rfl⟩ (gP_rg hW.1 [0, 2] rfl) hK 0 rfl rfl rfl hl.1 rfl (Nat.le_of_ble_eq_true rfl) dX6_does_102 ⟨Nat.le_of_ble_eq_true rfl, Nat.le_of_ble_eq_true rfl⟩ 105 rfl ?_
        have r102 := sgM_rng wt (2 + pl)
        refine z_bipush C dX6_does_105 (by decide) 107 rfl ?_
        refine z_isub C dX6_does_107 108 rfl (sgM ml tx (2 + pl) - 48) (by omega) ?_
        refine z_SR (r := .int (iI (wofZ (dirM (sgM ml tx (1 + pl))) (sgM ml tx (2 + pl) - 48)))) (rest := [.int (iI (sgM ml tx pl - 48)), .int (iI (129)), .ref (X 0)]) C (m_xwof l G (dirM (sgM ml tx (1 + pl))) (sgM ml tx (2 + pl) - 48) (by omega) (by omega)) kS_X6_127 ⟨Nat.le_of_ble_eq_true rfl, Nat.le_of_ble_eq_true rfl⟩ (gP_nil) hK rfl hl.1 rfl (Nat.le_of_ble_eq_true rfl) dX6_does_108 ⟨Nat.le_of_ble_eq_true rfl, Nat.le_of_ble_eq_true rfl⟩ 111 rfl ?_
        refine z_VWi (r := .int (iI (saiR y (sgM ml tx pl - 48) (dirM (sgM ml tx (1 + pl))) (sgM ml tx (2 + pl) - 48)))) (rest := []) C (m_xmoves l G X kn ml kp v y (sgM ml tx pl - 48) (dirM (sgM ml tx (1 + pl))) (sgM ml tx (2 + pl) - 48) w (by omega) (by omega) (by omega) (gD_rg hW.2.1 [0, 1] (by decide) rfl)) kV_X6_130 ⟨Nat.le_of_ble_eq_true rfl, Nat.le_of_ble_eq_true rfl⟩ hW hK [0, 1] rfl (sameA_of rfl) 0 rfl rfl rfl hl.1 rfl (Nat.le_of_ble_eq_true rfl) dX6_does_111 ⟨Nat.le_of_ble_eq_true rfl, Nat.le_of_ble_eq_true rfl⟩ 114 rfl (rs' := [[moO X kn kp ml], [arI G (X 1) 258 (s2Z v (saiV y (sgM ml tx pl - 48) (dirM (sgM ml tx (1 + pl))) (sgM ml tx (2 + pl) - 48)))], [arI G (X 4) 60 tx]]) rfl (fun H locs hW hkeep => ?_)
        have y111 := saiR_rng w (sgM ml tx pl - 48) (dirM (sgM ml tx (1 + pl))) (sgM ml tx (2 + pl) - 48)
        have ho := ord_m hp.1 c72 hv (y := y)
        rw [ho.1, ho.2]
        exact z_wi C hW dX6_does_114 rfl rfl
    · skip
      refine z_al_n C hl dX6_does_28 0 rfl 29 rfl ?_
      refine z_sipush C dX6_does_29 (by decide) 32 rfl ?_
      refine z_al_n C hl dX6_does_32 0 rfl 33 rfl ?_
      refine z_il_n C hl dX6_does_33 1 rfl 34 rfl ?_
      refine z_iconst C dX6_does_34 35 rfl ?_
      refine z_iadd C dX6_does_35 36 rfl (1 + pl) (by omega) ?_
      refine z_VR (r := .int (iI (sgM ml tx (1 + pl)))) (rest := [.int (iI (129)), .ref (X 0)]) C (m_xsign l G X kn ml kp tx (1 + pl) wt (by omega)) kV_X6_139 ⟨Nat.le_of_ble_eq_true rfl, Nat.le_of_ble_eq_true rfl⟩ (gP_rg hW.1 [0, 2] rfl) hK 0 rfl rfl rfl hl.1 rfl (Nat.le_of_ble_eq_true rfl) dX6_does_36 ⟨Nat.le_of_ble_eq_true rfl, Nat.le_of_ble_eq_true rfl⟩ 39 rfl ?_
      have r36 := sgM_rng wt (1 + pl)
      refine z_bipush C dX6_does_39 (by decide) 41 rfl ?_
      refine z_isub C dX6_does_41 42 rfl (sgM ml tx (1 + pl) - 48) (by omega) ?_
      refine z_al_n C hl dX6_does_42 0 rfl 43 rfl ?_
      refine z_il_n C hl dX6_does_43 1 rfl 44 rfl ?_
      refine z_iconst C dX6_does_44 45 rfl ?_
      refine z_iadd C dX6_does_45 46 rfl (2 + pl) (by omega) ?_
      refine z_VR (r := .int (iI (sgM ml tx (2 + pl)))) (rest := [.int (iI (sgM ml tx (1 + pl) - 48)), .int (iI (129)), .ref (X 0)]) C (m_xsign l G X kn ml kp tx (2 + pl) wt (by omega)) kV_X6_139 ⟨Nat.le_of_ble_eq_true rfl, Nat.le_of_ble_eq_true rfl⟩ (gP_rg hW.1 [0, 2] rfl) hK 0 rfl rfl rfl hl.1 rfl (Nat.le_of_ble_eq_true rfl) dX6_does_46 ⟨Nat.le_of_ble_eq_true rfl, Nat.le_of_ble_eq_true rfl⟩ 49 rfl ?_
      have r46 := sgM_rng wt (2 + pl)
      refine z_bipush C dX6_does_49 (by decide) 51 rfl ?_
      refine z_isub C dX6_does_51 52 rfl (sgM ml tx (2 + pl) - 48) (by omega) ?_
      refine z_al_n C hl dX6_does_52 0 rfl 53 rfl ?_
      refine z_il_n C hl dX6_does_53 1 rfl 54 rfl ?_
      refine z_iconst C dX6_does_54 55 rfl ?_
      refine z_iadd C dX6_does_55 56 rfl (3 + pl) (by omega) ?_
      refine z_VR (r := .int (iI (celM ml tx (3 + pl)))) (rest := [.int (iI (sgM ml tx (2 + pl) - 48)), .int (iI (sgM ml tx (1 + pl) - 48)), .int (iI (129)), .ref (X 0)]) C (m_xcelIn l G X kn ml kp tx (3 + pl) wt (by omega)) kV_X6_157 ⟨Nat.le_of_ble_eq_true rfl, Nat.le_of_ble_eq_true rfl⟩ (gP_rg hW.1 [0, 2] rfl) hK 0 rfl rfl rfl hl.1 rfl (Nat.le_of_ble_eq_true rfl) dX6_does_56 ⟨Nat.le_of_ble_eq_true rfl, Nat.le_of_ble_eq_true rfl⟩ 59 rfl ?_
      have r56 := sgM_rng wt (3 + pl)
      have r56b := sgM_rng wt (1 + (3 + pl))
      have r56c : -1000000 ≤ celM ml tx (3 + pl) ∧ celM ml tx (3 + pl) ≤ 1000000 := by unfold celM; omega
      refine z_VWi (r := .int (iI (addR y (sgM ml tx (1 + pl) - 48) (sgM ml tx (2 + pl) - 48) (celM ml tx (3 + pl))))) (rest := []) C (m_xcomes l G X kn ml kp v y (sgM ml tx (1 + pl) - 48) (sgM ml tx (2 + pl) - 48) (celM ml tx (3 + pl)) w (by omega) (by omega) (by omega) (gD_rg hW.2.1 [0, 1] (by decide) rfl)) kV_X6_124 ⟨Nat.le_of_ble_eq_true rfl, Nat.le_of_ble_eq_true rfl⟩ hW hK [0, 1] rfl (sameA_of rfl) 0 rfl rfl rfl hl.1 rfl (Nat.le_of_ble_eq_true rfl) dX6_does_59 ⟨Nat.le_of_ble_eq_true rfl, Nat.le_of_ble_eq_true rfl⟩ 62 rfl (rs' := [[moO X kn kp ml], [arI G (X 1) 258 (s2Z v (addV y (sgM ml tx (1 + pl) - 48) (sgM ml tx (2 + pl) - 48) (celM ml tx (3 + pl))))], [arI G (X 4) 60 tx]]) rfl (fun H locs hW hkeep => ?_)
      have y59 := addR_rng w (sgM ml tx (1 + pl) - 48) (sgM ml tx (2 + pl) - 48) (celM ml tx (3 + pl))
      have ho := ord_p hp.1 c25 hv (y := y)
      rw [ho.1, ho.2]
      exact z_wi C hW dX6_does_62 rfl rfl
  · skip
    refine z_al_n C hl dX6_does_10 0 rfl 11 rfl ?_
    refine z_sipush C dX6_does_11 (by decide) 14 rfl ?_
    refine z_VWi (r := .int (iI (waiR y))) (rest := []) C (m_xwaits l G X kn ml kp v y  w  (gD_rg hW.2.1 [0, 1] (by decide) rfl)) kV_X6_133 ⟨Nat.le_of_ble_eq_true rfl, Nat.le_of_ble_eq_true rfl⟩ hW hK [0, 1] rfl (sameA_of rfl) 0 rfl rfl rfl hl.1 rfl (Nat.le_of_ble_eq_true rfl) dX6_does_14 ⟨Nat.le_of_ble_eq_true rfl, Nat.le_of_ble_eq_true rfl⟩ 17 rfl (rs' := [[moO X kn kp ml], [arI G (X 1) 258 (s2Z v (waiV y))], [arI G (X 4) 60 tx]]) rfl (fun H locs hW hkeep => ?_)
    have y14 := waiR_rng w
    have ho := ord_w hp.1 c7 (y := y)
    rw [ho.1, ho.2]
    exact z_wi C hW dX6_does_17 rfl rfl

set_option maxHeartbeats 4000000 in
set_option maxRecDepth 100000 in
theorem m_xdoAll (l : Launch) (G : gT) (X : Nat → Nat) (kn ml : Int) (kp : Bool) (v y tx : Int → Int) (g : Nat → Int → Int) (hkn : 0 ≤ kn ∧ kn ≤ 4) (w : Wf v) (wt : Ot ml tx) (hD : gD ([[moO X kn kp ml], [arI G (X 1) 258 (s2Z v y)], [arI G (X 2) 516 (paF g)], [arI G (X 4) 60 tx]] : List va_W).flatten) : MW l G yX6_doAll cX6_doAll 5 (some .int) 9 [.ref (X 0)] [[moO X kn kp ml], [arI G (X 1) 258 (s2Z v y)], [arI G (X 2) 516 (paF g)], [arI G (X 4) 60 tx]] [[moO X (actN (doaR v ml (sgC ml tx)) kn) kp ml], [arI G (X 1) 258 (s2Z (doaV v ml (sgC ml tx)) (doaW v y ml (sgC ml tx)))], [arI G (X 2) 516 (paF (actG (doaR v ml (sgC ml tx)) kn g v))], [arI G (X 4) 60 tx]] ZT (some (.int (iI (doaR v ml (sgC ml tx))))) := by
  refine enterW (own := RX6) (by decide +kernel) rfl (Nat.le_of_ble_eq_true rfl) hD ?_
  intro p e s m below meth c C hW hK hZ ls hl
  have hl : lv_has ls 5 [(0, .ref (X 0))] := hl
  have hm := wt.1
  have hfr : -5 ≤ fltZ ml (sgC ml tx) ∧ fltZ ml (sgC ml tx) ≤ 70 := by have := fltN_rng (g := (sgC ml tx)) hm.2 61 0 (by omega) hm.1; unfold fltZ; omega
  refine z_al_n C hl dX6_doAll_0 0 rfl 1 rfl ?_
  refine z_VR (r := .int (iI (fltZ ml (sgC ml tx)))) (rest := []) C (m_xfault l G X kn ml kp tx  wt ) kV_X6_160 ⟨Nat.le_of_ble_eq_true rfl, Nat.le_of_ble_eq_true rfl⟩ (gP_rg hW.1 [0, 3] rfl) hK 0 rfl rfl rfl hl.1 rfl (Nat.le_of_ble_eq_true rfl) dX6_doAll_1 ⟨Nat.le_of_ble_eq_true rfl, Nat.le_of_ble_eq_true rfl⟩ 4 rfl ?_
  refine z_is_n C hl dX6_doAll_4 5 rfl (by decide) (lv' := [(1, .int (iI (fltZ ml (sgC ml tx)))), (0, .ref (X 0))]) rfl (fun ls hl => ?_)
  refine z_il_n C hl dX6_doAll_5 0 rfl 6 rfl ?_
  refine z_bipush C dX6_doAll_6 (by decide) 8 rfl ?_
  refine z_icmp_eq C dX6_doAll_8 16 11 (by decide) rfl (by omega) (fun c8 => ?_) (fun c8 => ?_)
  · skip
    refine z_al_n C hl dX6_doAll_16 1 rfl 17 rfl ?_
    refine z_VWv (rest := []) C (m_xcopies l G X kn ml kp v y (gD_rg hW.2.1 [0, 1] (by decide) rfl)) kV_X6_114 ⟨Nat.le_of_ble_eq_true rfl, Nat.le_of_ble_eq_true rfl⟩ hW hK [0, 1] rfl (sameA_of rfl) 0 rfl rfl rfl hl.1 rfl (Nat.le_of_ble_eq_true rfl) dX6_doAll_17 ⟨Nat.le_of_ble_eq_true rfl, Nat.le_of_ble_eq_true rfl⟩ 20 rfl (rs' := [[moO X kn kp ml], [arI G (X 1) 258 (s2Z v v)], [arI G (X 2) 516 (paF g)], [arI G (X 4) 60 tx]]) rfl (fun H locs hW hkeep => ?_)
    refine z_iconst C dX6_doAll_20 21 rfl ?_
    refine z_is_n C hl dX6_doAll_21 22 rfl (by decide) (lv' := [(2, .int (iI (0))), (1, .int (iI (fltZ ml (sgC ml tx)))), (0, .ref (X 0))]) rfl (fun ls hl => ?_)
    refine z_iconst C dX6_doAll_22 23 rfl ?_
    refine z_is_n C hl dX6_doAll_23 24 rfl (by decide) (lv' := [(3, .int (iI (0))), (2, .int (iI (0))), (1, .int (iI (fltZ ml (sgC ml tx)))), (0, .ref (X 0))]) rfl (fun ls hl => ?_)
    have L24 : ∀ (fu : Nat) (x : Int → Int) (k : Int) (pl : Int) (wx : Wf x) (h1 : 0 ≤ k ∧ 2 * k ≤ pl ∧ pl ≤ ml + 1) (h4 : ml ≤ pl ∨ fltN ml (sgC ml tx) (61 - k).toNat pl = -5) (h2 : runN v ml (sgC ml tx) (60 - k).toNat k x pl = runN v ml (sgC ml tx) 60 0 v 0) (g2 : runW ml (sgC ml tx) (60 - k).toNat x pl = runW ml (sgC ml tx) 60 v 0) (H : Heap) (locs : List Loc) (hW : Wd G (adr ([[moO X kn kp ml], [arI G (X 1) 258 (s2Z v y)], [arI G (X 2) 516 (paF g)], [arI G (X 4) 60 tx]] : List va_W).flatten) [[moO X kn kp ml], [arI G (X 1) 258 (s2Z v x)], [arI G (X 2) 516 (paF g)], [arI G (X 4) 60 tx]] s.heap H locs) (hm : 60 - k < (fu : Int)) (ls : Array Slot) (hl : lv_has ls 5 [(3, .int (iI (pl))), (2, .int (iI (k))), (1, .int (iI (fltZ ml (sgC ml tx)))), (0, .ref (X 0))]), W p l e (rmN 9) s m [.ref (X 0)].toArray below meth c H locs 0 0 (MQ below (QW G [[moO X kn kp ml], [arI G (X 1) 258 (s2Z v y)], [arI G (X 2) 516 (paF g)], [arI G (X 4) 60 tx]] [[moO X (actN (doaR v ml (sgC ml tx)) kn) kp ml], [arI G (X 1) 258 (s2Z (doaV v ml (sgC ml tx)) (doaW v y ml (sgC ml tx)))], [arI G (X 2) 516 (paF (actG (doaR v ml (sgC ml tx)) kn g v))], [arI G (X 4) 60 tx]] (some (.int (iI (doaR v ml (sgC ml tx)))))) [.ref (X 0)].toArray s 0 0 (adr ([[moO X kn kp ml], [arI G (X 1) 258 (s2Z v y)], [arI G (X 2) 516 (paF g)], [arI G (X 4) 60 tx]] : List va_W).flatten)) (F0 m 24 ls []) := by
      intro fu
      induction fu with
      | zero => intro x k pl wx h1 h4 h2 g2 H locs hW hm ls hl; exfalso; omega
      | succ fu ih =>
        intro x k pl wx h1 h4 h2 g2 H locs hW hm ls hl
        have ih24 := ih
        refine z_il_n C hl dX6_doAll_24 0 rfl 25 rfl ?_
        refine z_al_n C hl dX6_doAll_25 3 rfl 26 rfl ?_
        refine z_get C hW.1 hK fl_X6_136 0 rfl rfl dX6_doAll_26 29 rfl ?_
        refine z_icmp_ge C dX6_doAll_29 68 32 (by decide) rfl (by omega) (fun c29 => ?_) (fun c29 => ?_)
        · skip
          have h3 := h2
          rw [runN_0 (k := (60 - k).toNat) (by omega)] at h3
          have h3 := h3.symm
          have g3 := g2
          rw [runW_0 (k := (60 - k).toNat) (by omega)] at g3
          have g3 := g3.symm
          skip
          refine z_al_n C hl dX6_doAll_68 3 rfl 69 rfl ?_
          refine z_il_n C hl dX6_doAll_69 1 rfl 70 rfl ?_
          refine z_VWi (r := .int (iI (k))) (rest := []) C (m_xacts l G X kn ml kp v x g k (by omega) (by omega) (gD_rg hW.2.1 [0, 1, 2] (by decide) rfl)) kV_X6_121 ⟨Nat.le_of_ble_eq_true rfl, Nat.le_of_ble_eq_true rfl⟩ hW hK [0, 1, 2] rfl (sameA_of rfl) 0 rfl rfl rfl hl.1 rfl (Nat.le_of_ble_eq_true rfl) dX6_doAll_70 ⟨Nat.le_of_ble_eq_true rfl, Nat.le_of_ble_eq_true rfl⟩ 73 rfl (rs' := [[moO X (actN k kn) kp ml], [arI G (X 1) 258 (s2Z (acV k v x) x)], [arI G (X 2) 516 (paF (actG k kn g v))], [arI G (X 4) 60 tx]]) rfl (fun H locs hW hkeep => ?_)
          have hr : doaR v ml (sgC ml tx) = k := by unfold doaR; rw [if_pos c8, h3]
          have hv9 : doaV v ml (sgC ml tx) = x := by unfold doaV; rw [if_pos c8, h3]
          have hw9 : doaW v y ml (sgC ml tx) = x := by unfold doaW; rw [if_pos c8, g3]
          rw [hr, hv9, hw9]
          rw [show acV k v x = x from if_pos (by omega)] at hW
          exact z_wi C hW dX6_doAll_73 rfl rfl
        · skip
          have hnx := flt_next (by omega) (by omega) (h4.resolve_left (by omega))
          have hle := endZ_le (by omega) hnx.1
          refine z_al_n C hl dX6_doAll_32 3 rfl 33 rfl ?_
          refine z_il_n C hl dX6_doAll_33 0 rfl 34 rfl ?_
          refine z_VWi (r := .int (iI (ordR x (sgC ml tx) pl))) (rest := []) C (m_xdoes l G X kn ml kp v x tx pl wx wt (by omega) (by rw [endZ_MC (by omega)]; exact hnx.1) (gD_rg hW.2.1 [0, 1, 3] (by decide) rfl)) kV_X6_164 ⟨Nat.le_of_ble_eq_true rfl, Nat.le_of_ble_eq_true rfl⟩ hW hK [0, 1, 3] rfl (sameA_of rfl) 0 rfl rfl rfl hl.1 rfl (Nat.le_of_ble_eq_true rfl) dX6_doAll_34 ⟨Nat.le_of_ble_eq_true rfl, Nat.le_of_ble_eq_true rfl⟩ 37 rfl (rs' := [[moO X kn kp ml], [arI G (X 1) 258 (s2Z v (ordV x (sgC ml tx) pl))], [arI G (X 2) 516 (paF g)], [arI G (X 4) 60 tx]]) rfl (fun H locs hW hkeep => ?_)
          have y34 := ordR_rng wx (sgC ml tx) pl
          refine z_is C hl dX6_doAll_37 39 rfl (by decide) (lv' := [(4, .int (iI (ordR x (sgC ml tx) pl))), (3, .int (iI (pl))), (2, .int (iI (k))), (1, .int (iI (fltZ ml (sgC ml tx)))), (0, .ref (X 0))]) rfl (fun ls hl => ?_)
          refine z_il C hl dX6_doAll_39 0 rfl 41 rfl ?_
          refine z_if_ge C dX6_doAll_41 54 44 (by decide) rfl (by omega) (fun c41 => ?_) (fun c41 => ?_)
          · skip
            refine z_iinc C hl dX6_doAll_54 57 rfl 2 rfl (z := 1 + k) (by omega) (by decide) (lv' := [(2, .int (iI (1 + k))), (4, .int (iI (ordR x (sgC ml tx) pl))), (3, .int (iI (pl))), (1, .int (iI (fltZ ml (sgC ml tx)))), (0, .ref (X 0))]) rfl (fun ls hl => ?_)
            refine z_al_n C hl dX6_doAll_57 4 rfl 58 rfl ?_
            refine z_il_n C hl dX6_doAll_58 2 rfl 59 rfl ?_
            refine z_VR (r := .int (iI (endZ (sgC ml tx) pl))) (rest := []) C (m_xordE l G X kn ml kp tx pl wt (by omega)) kV_X6_154 ⟨Nat.le_of_ble_eq_true rfl, Nat.le_of_ble_eq_true rfl⟩ (gP_rg hW.1 [0, 3] rfl) hK 0 rfl rfl rfl hl.1 rfl (Nat.le_of_ble_eq_true rfl) dX6_doAll_59 ⟨Nat.le_of_ble_eq_true rfl, Nat.le_of_ble_eq_true rfl⟩ 62 rfl ?_
            have e59 := endZ_rng (sgC ml tx) pl (by omega)
            refine z_iconst C dX6_doAll_62 63 rfl ?_
            refine z_iadd C dX6_doAll_63 64 rfl (1 + endZ (sgC ml tx) pl) (by omega) ?_
            refine z_is_n C hl dX6_doAll_64 65 rfl (by decide) (lv' := [(3, .int (iI (1 + endZ (sgC ml tx) pl))), (2, .int (iI (1 + k))), (4, .int (iI (ordR x (sgC ml tx) pl))), (1, .int (iI (fltZ ml (sgC ml tx)))), (0, .ref (X 0))]) rfl (fun ls hl => ?_)
            refine z_goto C dX6_doAll_65 24 (by decide) ?_
            exact ih24 (ordV x (sgC ml tx) pl) (1 + k) (1 + endZ (sgC ml tx) pl) (wx.ord _ _) (by omega) (by rw [show 61 - (1 + k) = 61 - k - 1 by omega]; exact hnx.2.imp (fun h => by omega) id) (by rw [← h2, runN_1 (k := 60 - k) (by omega) (by omega), if_neg (by omega), show 60 - k - 1 = 60 - (1 + k) by omega]) (by rw [← g2, runW_1 (k := 60 - k) (by omega) (by omega), if_neg (by omega), show 60 - k - 1 = 60 - (1 + k) by omega]) _ _ hW (by omega) ls (lv_sub hl [0, 1, 3, 4] rfl)
          · skip
            refine z_il C hl dX6_doAll_44 0 rfl 46 rfl ?_
            refine z_bipush C dX6_doAll_46 (by decide) 48 rfl ?_
            refine z_icmp_eq C dX6_doAll_48 54 51 (by decide) rfl (by omega) (fun c48 => ?_) (fun c48 => ?_)
            · skip
              refine z_iinc C hl dX6_doAll_54 57 rfl 2 rfl (z := 1 + k) (by omega) (by decide) (lv' := [(2, .int (iI (1 + k))), (4, .int (iI (ordR x (sgC ml tx) pl))), (3, .int (iI (pl))), (1, .int (iI (fltZ ml (sgC ml tx)))), (0, .ref (X 0))]) rfl (fun ls hl => ?_)
              refine z_al_n C hl dX6_doAll_57 4 rfl 58 rfl ?_
              refine z_il_n C hl dX6_doAll_58 2 rfl 59 rfl ?_
              refine z_VR (r := .int (iI (endZ (sgC ml tx) pl))) (rest := []) C (m_xordE l G X kn ml kp tx pl wt (by omega)) kV_X6_154 ⟨Nat.le_of_ble_eq_true rfl, Nat.le_of_ble_eq_true rfl⟩ (gP_rg hW.1 [0, 3] rfl) hK 0 rfl rfl rfl hl.1 rfl (Nat.le_of_ble_eq_true rfl) dX6_doAll_59 ⟨Nat.le_of_ble_eq_true rfl, Nat.le_of_ble_eq_true rfl⟩ 62 rfl ?_
              have e59 := endZ_rng (sgC ml tx) pl (by omega)
              refine z_iconst C dX6_doAll_62 63 rfl ?_
              refine z_iadd C dX6_doAll_63 64 rfl (1 + endZ (sgC ml tx) pl) (by omega) ?_
              refine z_is_n C hl dX6_doAll_64 65 rfl (by decide) (lv' := [(3, .int (iI (1 + endZ (sgC ml tx) pl))), (2, .int (iI (1 + k))), (4, .int (iI (ordR x (sgC ml tx) pl))), (1, .int (iI (fltZ ml (sgC ml tx)))), (0, .ref (X 0))]) rfl (fun ls hl => ?_)
              refine z_goto C dX6_doAll_65 24 (by decide) ?_
              exact ih24 (ordV x (sgC ml tx) pl) (1 + k) (1 + endZ (sgC ml tx) pl) (wx.ord _ _) (by omega) (by rw [show 61 - (1 + k) = 61 - k - 1 by omega]; exact hnx.2.imp (fun h => by omega) id) (by rw [← h2, runN_1 (k := 60 - k) (by omega) (by omega), if_neg (by omega), show 60 - k - 1 = 60 - (1 + k) by omega]) (by rw [← g2, runW_1 (k := 60 - k) (by omega) (by omega), if_neg (by omega), show 60 - k - 1 = 60 - (1 + k) by omega]) _ _ hW (by omega) ls (lv_sub hl [0, 1, 3, 4] rfl)
            · skip
              have h3 := h2
              rw [runN_1 (k := 60 - k) (by omega) (by omega), if_pos ⟨by omega, c48⟩] at h3
              have h3 := h3.symm
              have g3 := g2
              rw [runW_1 (k := 60 - k) (by omega) (by omega), if_pos ⟨by omega, c48⟩] at g3
              have g3 := g3.symm
              skip
              refine z_il C hl dX6_doAll_51 0 rfl 53 rfl ?_
              have hr : doaR v ml (sgC ml tx) = ordR x (sgC ml tx) pl := by unfold doaR; rw [if_pos c8, h3]
              have hv9 : doaV v ml (sgC ml tx) = v := by unfold doaV; rw [if_pos c8, h3]
              have hw9 : doaW v y ml (sgC ml tx) = (ordV x (sgC ml tx) pl) := by unfold doaW; rw [if_pos c8, g3]
              have hx : ¬ 0 ≤ doaR v ml (sgC ml tx) := by rw [hr]; omega
              have e1 : actN (doaR v ml (sgC ml tx)) kn = kn := by unfold actN; exact if_neg hx
              have e3 : actG (doaR v ml (sgC ml tx)) kn g v = g := by unfold actG; exact if_neg hx
              rw [e1, e3, hr, hv9, hw9]
              exact z_wi C hW dX6_doAll_53 rfl rfl
    exact L24 (Int.toNat (60 - 0) + 1) v 0 0 (w) (by omega) (Or.inr c8) (rfl) (rfl) _ _ hW (by omega) ls (lv_sub hl [0, 1, 2, 3] rfl)
  · skip
    refine z_bipush C dX6_doAll_11 (by decide) 13 rfl ?_
    refine z_il_n C hl dX6_doAll_13 0 rfl 14 rfl ?_
    refine z_isub C dX6_doAll_14 15 rfl (-100 - fltZ ml (sgC ml tx)) (by omega) ?_
    have hr : doaR v ml (sgC ml tx) = -100 - fltZ ml (sgC ml tx) := by unfold doaR; rw [if_neg c8]
    have hv9 : doaV v ml (sgC ml tx) = v := by unfold doaV; rw [if_neg c8]
    have hw9 : doaW v y ml (sgC ml tx) = y := by unfold doaW; rw [if_neg c8]
    have hh := fltN_rng (g := (sgC ml tx)) hm.2 61 0 (by omega) hm.1
    have hx : ¬ 0 ≤ doaR v ml (sgC ml tx) := by (have h7 : 0 ≤ fltZ ml (sgC ml tx) := (by unfold fltZ at *; omega)); rw [hr]; omega
    have e1 : actN (doaR v ml (sgC ml tx)) kn = kn := by unfold actN; exact if_neg hx
    have e3 : actG (doaR v ml (sgC ml tx)) kn g v = g := by unfold actG; exact if_neg hx
    rw [e1, e3, hr, hv9, hw9]
    exact z_wi C hW dX6_doAll_15 rfl rfl

set_option maxHeartbeats 4000000 in
set_option maxRecDepth 100000 in
theorem m_xsand (l : Launch) (G : gT) (X : Nat → Nat) (kn ml : Int) (kp : Bool) (v y : Int → Int) (g : Nat → Int → Int) (a b : Int) (k : Bool) (hkn : 0 ≤ kn ∧ kn ≤ 4) (w : Wf v) (ha : -2147483648 ≤ a ∧ a < 2147483648) (hb : -2147483648 ≤ b ∧ b < 2147483648) (hD : gD ([[moO X kn kp ml], [arI G (X 1) 258 (s2Z v y)], [arI G (X 2) 516 (paF g)]] : List va_W).flatten) : MW l G yX6_sand cX6_sand 4 (some .int) 3 [.ref (X 0), .int (iI (a)), .int (iI (b)), .int (iI (bZ (k)))] [[moO X kn kp ml], [arI G (X 1) 258 (s2Z v y)], [arI G (X 2) 516 (paF g)]] [[moO X (actN (layR v a b (bZ k)) kn) kp ml], [arI G (X 1) 258 (s2Z (layV v a b (bZ k)) (layV v a b (bZ k)))], [arI G (X 2) 516 (paF (actG (layR v a b (bZ k)) kn g v))]] ZT (some (.int (iI (layR v a b (bZ k))))) := by
  refine enterW (own := RX6) (by decide +kernel) rfl (Nat.le_of_ble_eq_true rfl) hD ?_
  intro p e s m below meth c C hW hK hZ ls hl
  have hl : lv_has ls 4 [(0, .ref (X 0)), (1, .int (iI (a))), (2, .int (iI (b))), (3, .int (iI (bZ (k))))] := hl
  refine z_al_n C hl dX6_sand_0 0 rfl 1 rfl ?_
  refine z_VWv (rest := []) C (m_xcopies l G X kn ml kp v y (gD_rg hW.2.1 [0, 1] (by decide) rfl)) kV_X6_114 ⟨Nat.le_of_ble_eq_true rfl, Nat.le_of_ble_eq_true rfl⟩ hW hK [0, 1] rfl (sameA_of rfl) 0 rfl rfl rfl hl.1 rfl (Nat.le_of_ble_eq_true rfl) dX6_sand_1 ⟨Nat.le_of_ble_eq_true rfl, Nat.le_of_ble_eq_true rfl⟩ 4 rfl (rs' := [[moO X kn kp ml], [arI G (X 1) 258 (s2Z v v)], [arI G (X 2) 516 (paF g)]]) rfl (fun H locs hW hkeep => ?_)
  refine z_al_n C hl dX6_sand_4 0 rfl 5 rfl ?_
  refine z_al_n C hl dX6_sand_5 0 rfl 6 rfl ?_
  refine z_sipush C dX6_sand_6 (by decide) 9 rfl ?_
  refine z_il_n C hl dX6_sand_9 1 rfl 10 rfl ?_
  refine z_il_n C hl dX6_sand_10 2 rfl 11 rfl ?_
  refine z_il_n C hl dX6_sand_11 3 rfl 12 rfl ?_
  refine z_ifb_eq C dX6_sand_12 19 15 (by decide) rfl (fun c12 => ?_) (fun c12 => ?_)
  · skip
    refine z_iconst C dX6_sand_19 20 rfl ?_
    have hbk := bZ_rng k
    refine z_top (b := .int (iI (bZ k))) (by rw [c12]; rfl) ?_
    refine z_VWi (r := .int (iI (layR v a b (bZ k)))) (rest := [.ref (X 0)]) C (m_xsands l G X kn ml kp v v a b (bZ k) w (by omega) (by omega) (by omega) (gD_rg hW.2.1 [0, 1] (by decide) rfl)) kV_X6_117 ⟨Nat.le_of_ble_eq_true rfl, Nat.le_of_ble_eq_true rfl⟩ hW hK [0, 1] rfl (sameA_of rfl) 0 rfl rfl rfl hl.1 rfl (Nat.le_of_ble_eq_true rfl) dX6_sand_20 ⟨Nat.le_of_ble_eq_true rfl, Nat.le_of_ble_eq_true rfl⟩ 23 rfl (rs' := [[moO X kn kp ml], [arI G (X 1) 258 (s2Z v (layV v a b (bZ k)))], [arI G (X 2) 516 (paF g)]]) rfl (fun H locs hW hkeep => ?_)
    have y20 := layR_rng w a b (bZ k)
    refine z_VWi (r := .int (iI (layR v a b (bZ k)))) (rest := []) C (m_xacts l G X kn ml kp v (layV v a b (bZ k)) g (layR v a b (bZ k)) (by omega) (by omega) (gD_rg hW.2.1 [0, 1, 2] (by decide) rfl)) kV_X6_121 ⟨Nat.le_of_ble_eq_true rfl, Nat.le_of_ble_eq_true rfl⟩ hW hK [0, 1, 2] rfl (sameA_of rfl) 0 rfl rfl rfl hl.1 rfl (Nat.le_of_ble_eq_true rfl) dX6_sand_23 ⟨Nat.le_of_ble_eq_true rfl, Nat.le_of_ble_eq_true rfl⟩ 26 rfl (rs' := [[moO X (actN (layR v a b (bZ k)) kn) kp ml], [arI G (X 1) 258 (s2Z (acV (layR v a b (bZ k)) v (layV v a b (bZ k))) (layV v a b (bZ k)))], [arI G (X 2) 516 (paF (actG (layR v a b (bZ k)) kn g v))]]) rfl (fun H locs hW hkeep => ?_)
    rw [ac_lay] at hW
    exact z_wi C hW dX6_sand_26 rfl rfl
  · skip
    refine z_iconst C dX6_sand_15 16 rfl ?_
    refine z_goto C dX6_sand_16 20 (by decide) ?_
    have hbk := bZ_rng k
    refine z_top (b := .int (iI (bZ k))) (by rw [c12]; rfl) ?_
    refine z_VWi (r := .int (iI (layR v a b (bZ k)))) (rest := [.ref (X 0)]) C (m_xsands l G X kn ml kp v v a b (bZ k) w (by omega) (by omega) (by omega) (gD_rg hW.2.1 [0, 1] (by decide) rfl)) kV_X6_117 ⟨Nat.le_of_ble_eq_true rfl, Nat.le_of_ble_eq_true rfl⟩ hW hK [0, 1] rfl (sameA_of rfl) 0 rfl rfl rfl hl.1 rfl (Nat.le_of_ble_eq_true rfl) dX6_sand_20 ⟨Nat.le_of_ble_eq_true rfl, Nat.le_of_ble_eq_true rfl⟩ 23 rfl (rs' := [[moO X kn kp ml], [arI G (X 1) 258 (s2Z v (layV v a b (bZ k)))], [arI G (X 2) 516 (paF g)]]) rfl (fun H locs hW hkeep => ?_)
    have y20 := layR_rng w a b (bZ k)
    refine z_VWi (r := .int (iI (layR v a b (bZ k)))) (rest := []) C (m_xacts l G X kn ml kp v (layV v a b (bZ k)) g (layR v a b (bZ k)) (by omega) (by omega) (gD_rg hW.2.1 [0, 1, 2] (by decide) rfl)) kV_X6_121 ⟨Nat.le_of_ble_eq_true rfl, Nat.le_of_ble_eq_true rfl⟩ hW hK [0, 1, 2] rfl (sameA_of rfl) 0 rfl rfl rfl hl.1 rfl (Nat.le_of_ble_eq_true rfl) dX6_sand_23 ⟨Nat.le_of_ble_eq_true rfl, Nat.le_of_ble_eq_true rfl⟩ 26 rfl (rs' := [[moO X (actN (layR v a b (bZ k)) kn) kp ml], [arI G (X 1) 258 (s2Z (acV (layR v a b (bZ k)) v (layV v a b (bZ k))) (layV v a b (bZ k)))], [arI G (X 2) 516 (paF (actG (layR v a b (bZ k)) kn g v))]]) rfl (fun H locs hW hkeep => ?_)
    rw [ac_lay] at hW
    exact z_wi C hW dX6_sand_26 rfl rfl

set_option maxHeartbeats 4000000 in
set_option maxRecDepth 100000 in
theorem m_xboat (l : Launch) (G : gT) (X : Nat → Nat) (kn ml : Int) (kp : Bool) (v y : Int → Int) (g : Nat → Int → Int) (a b d : Int) (hkn : 0 ≤ kn ∧ kn ≤ 4) (w : Wf v) (ha : -2147483648 ≤ a ∧ a < 2147483648) (hb : -2147483648 ≤ b ∧ b < 2147483648) (hd : -2147483648 ≤ d ∧ d < 2147483648) (hD : gD ([[moO X kn kp ml], [arI G (X 1) 258 (s2Z v y)], [arI G (X 2) 516 (paF g)]] : List va_W).flatten) : MW l G yX6_boat cX6_boat 4 (some .int) 4 [.ref (X 0), .int (iI (a)), .int (iI (b)), .int (iI (d))] [[moO X kn kp ml], [arI G (X 1) 258 (s2Z v y)], [arI G (X 2) 516 (paF g)]] [[moO X (actN (addR v a b d) kn) kp ml], [arI G (X 1) 258 (s2Z (addV v a b d) (addV v a b d))], [arI G (X 2) 516 (paF (actG (addR v a b d) kn g v))]] ZT (some (.int (iI (addR v a b d)))) := by
  refine enterW (own := RX6) (by decide +kernel) rfl (Nat.le_of_ble_eq_true rfl) hD ?_
  intro p e s m below meth c C hW hK hZ ls hl
  have hl : lv_has ls 4 [(0, .ref (X 0)), (1, .int (iI (a))), (2, .int (iI (b))), (3, .int (iI (d)))] := hl
  refine z_al_n C hl dX6_boat_0 0 rfl 1 rfl ?_
  refine z_VWv (rest := []) C (m_xcopies l G X kn ml kp v y (gD_rg hW.2.1 [0, 1] (by decide) rfl)) kV_X6_114 ⟨Nat.le_of_ble_eq_true rfl, Nat.le_of_ble_eq_true rfl⟩ hW hK [0, 1] rfl (sameA_of rfl) 0 rfl rfl rfl hl.1 rfl (Nat.le_of_ble_eq_true rfl) dX6_boat_1 ⟨Nat.le_of_ble_eq_true rfl, Nat.le_of_ble_eq_true rfl⟩ 4 rfl (rs' := [[moO X kn kp ml], [arI G (X 1) 258 (s2Z v v)], [arI G (X 2) 516 (paF g)]]) rfl (fun H locs hW hkeep => ?_)
  refine z_al_n C hl dX6_boat_4 0 rfl 5 rfl ?_
  refine z_al_n C hl dX6_boat_5 0 rfl 6 rfl ?_
  refine z_sipush C dX6_boat_6 (by decide) 9 rfl ?_
  refine z_il_n C hl dX6_boat_9 1 rfl 10 rfl ?_
  refine z_il_n C hl dX6_boat_10 2 rfl 11 rfl ?_
  refine z_il_n C hl dX6_boat_11 3 rfl 12 rfl ?_
  refine z_VWi (r := .int (iI (addR v a b d))) (rest := [.ref (X 0)]) C (m_xcomes l G X kn ml kp v v a b d w (by omega) (by omega) (by omega) (gD_rg hW.2.1 [0, 1] (by decide) rfl)) kV_X6_124 ⟨Nat.le_of_ble_eq_true rfl, Nat.le_of_ble_eq_true rfl⟩ hW hK [0, 1] rfl (sameA_of rfl) 0 rfl rfl rfl hl.1 rfl (Nat.le_of_ble_eq_true rfl) dX6_boat_12 ⟨Nat.le_of_ble_eq_true rfl, Nat.le_of_ble_eq_true rfl⟩ 15 rfl (rs' := [[moO X kn kp ml], [arI G (X 1) 258 (s2Z v (addV v a b d))], [arI G (X 2) 516 (paF g)]]) rfl (fun H locs hW hkeep => ?_)
  have y12 := addR_rng w a b d
  refine z_VWi (r := .int (iI (addR v a b d))) (rest := []) C (m_xacts l G X kn ml kp v (addV v a b d) g (addR v a b d) (by omega) (by omega) (gD_rg hW.2.1 [0, 1, 2] (by decide) rfl)) kV_X6_121 ⟨Nat.le_of_ble_eq_true rfl, Nat.le_of_ble_eq_true rfl⟩ hW hK [0, 1, 2] rfl (sameA_of rfl) 0 rfl rfl rfl hl.1 rfl (Nat.le_of_ble_eq_true rfl) dX6_boat_15 ⟨Nat.le_of_ble_eq_true rfl, Nat.le_of_ble_eq_true rfl⟩ 18 rfl (rs' := [[moO X (actN (addR v a b d) kn) kp ml], [arI G (X 1) 258 (s2Z (acV (addR v a b d) v (addV v a b d)) (addV v a b d))], [arI G (X 2) 516 (paF (actG (addR v a b d) kn g v))]]) rfl (fun H locs hW hkeep => ?_)
  rw [ac_add] at hW
  exact z_wi C hW dX6_boat_18 rfl rfl

set_option maxHeartbeats 4000000 in
set_option maxRecDepth 100000 in
theorem m_xmove (l : Launch) (G : gT) (X : Nat → Nat) (kn ml : Int) (kp : Bool) (v y : Int → Int) (g : Nat → Int → Int) (a b d : Int) (hkn : 0 ≤ kn ∧ kn ≤ 4) (w : Wf v) (ha : -2147483648 ≤ a ∧ a < 2147483648) (hb : -2147483648 ≤ b ∧ b < 2147483648) (hd : -2147483648 ≤ d ∧ d < 2147483648) (hD : gD ([[moO X kn kp ml], [arI G (X 1) 258 (s2Z v y)], [arI G (X 2) 516 (paF g)]] : List va_W).flatten) : MW l G yX6_move cX6_move 4 (some .int) 8 [.ref (X 0), .int (iI (a)), .int (iI (b)), .int (iI (d))] [[moO X kn kp ml], [arI G (X 1) 258 (s2Z v y)], [arI G (X 2) 516 (paF g)]] [[moO X (actN (saiR v a b d) kn) kp ml], [arI G (X 1) 258 (s2Z (saiV v a b d) (saiV v a b d))], [arI G (X 2) 516 (paF (actG (saiR v a b d) kn g v))]] ZT (some (.int (iI (saiR v a b d)))) := by
  refine enterW (own := RX6) (by decide +kernel) rfl (Nat.le_of_ble_eq_true rfl) hD ?_
  intro p e s m below meth c C hW hK hZ ls hl
  have hl : lv_has ls 4 [(0, .ref (X 0)), (1, .int (iI (a))), (2, .int (iI (b))), (3, .int (iI (d)))] := hl
  refine z_al_n C hl dX6_move_0 0 rfl 1 rfl ?_
  refine z_VWv (rest := []) C (m_xcopies l G X kn ml kp v y (gD_rg hW.2.1 [0, 1] (by decide) rfl)) kV_X6_114 ⟨Nat.le_of_ble_eq_true rfl, Nat.le_of_ble_eq_true rfl⟩ hW hK [0, 1] rfl (sameA_of rfl) 0 rfl rfl rfl hl.1 rfl (Nat.le_of_ble_eq_true rfl) dX6_move_1 ⟨Nat.le_of_ble_eq_true rfl, Nat.le_of_ble_eq_true rfl⟩ 4 rfl (rs' := [[moO X kn kp ml], [arI G (X 1) 258 (s2Z v v)], [arI G (X 2) 516 (paF g)]]) rfl (fun H locs hW hkeep => ?_)
  refine z_al_n C hl dX6_move_4 0 rfl 5 rfl ?_
  refine z_al_n C hl dX6_move_5 0 rfl 6 rfl ?_
  refine z_sipush C dX6_move_6 (by decide) 9 rfl ?_
  refine z_il_n C hl dX6_move_9 1 rfl 10 rfl ?_
  refine z_il_n C hl dX6_move_10 2 rfl 11 rfl ?_
  refine z_il_n C hl dX6_move_11 3 rfl 12 rfl ?_
  refine z_SR (r := .int (iI (wofZ b d))) (rest := [.int (iI (a)), .int (iI (129)), .ref (X 0), .ref (X 0)]) C (m_xwof l G b d (by omega) (by omega)) kS_X6_127 ⟨Nat.le_of_ble_eq_true rfl, Nat.le_of_ble_eq_true rfl⟩ (gP_nil) hK rfl hl.1 rfl (Nat.le_of_ble_eq_true rfl) dX6_move_12 ⟨Nat.le_of_ble_eq_true rfl, Nat.le_of_ble_eq_true rfl⟩ 15 rfl ?_
  refine z_VWi (r := .int (iI (saiR v a b d))) (rest := [.ref (X 0)]) C (m_xmoves l G X kn ml kp v v a b d w (by omega) (by omega) (by omega) (gD_rg hW.2.1 [0, 1] (by decide) rfl)) kV_X6_130 ⟨Nat.le_of_ble_eq_true rfl, Nat.le_of_ble_eq_true rfl⟩ hW hK [0, 1] rfl (sameA_of rfl) 0 rfl rfl rfl hl.1 rfl (Nat.le_of_ble_eq_true rfl) dX6_move_15 ⟨Nat.le_of_ble_eq_true rfl, Nat.le_of_ble_eq_true rfl⟩ 18 rfl (rs' := [[moO X kn kp ml], [arI G (X 1) 258 (s2Z v (saiV v a b d))], [arI G (X 2) 516 (paF g)]]) rfl (fun H locs hW hkeep => ?_)
  have y15 := saiR_rng w a b d
  refine z_VWi (r := .int (iI (saiR v a b d))) (rest := []) C (m_xacts l G X kn ml kp v (saiV v a b d) g (saiR v a b d) (by omega) (by omega) (gD_rg hW.2.1 [0, 1, 2] (by decide) rfl)) kV_X6_121 ⟨Nat.le_of_ble_eq_true rfl, Nat.le_of_ble_eq_true rfl⟩ hW hK [0, 1, 2] rfl (sameA_of rfl) 0 rfl rfl rfl hl.1 rfl (Nat.le_of_ble_eq_true rfl) dX6_move_18 ⟨Nat.le_of_ble_eq_true rfl, Nat.le_of_ble_eq_true rfl⟩ 21 rfl (rs' := [[moO X (actN (saiR v a b d) kn) kp ml], [arI G (X 1) 258 (s2Z (acV (saiR v a b d) v (saiV v a b d)) (saiV v a b d))], [arI G (X 2) 516 (paF (actG (saiR v a b d) kn g v))]]) rfl (fun H locs hW hkeep => ?_)
  rw [ac_sai] at hW
  exact z_wi C hW dX6_move_21 rfl rfl

set_option maxHeartbeats 4000000 in
set_option maxRecDepth 100000 in
theorem m_xpause (l : Launch) (G : gT) (X : Nat → Nat) (kn ml : Int) (kp : Bool) (v y : Int → Int) (g : Nat → Int → Int) (hkn : 0 ≤ kn ∧ kn ≤ 4) (w : Wf v) (hD : gD ([[moO X kn kp ml], [arI G (X 1) 258 (s2Z v y)], [arI G (X 2) 516 (paF g)]] : List va_W).flatten) : MW l G yX6_pause cX6_pause 1 (some .int) 6 [.ref (X 0)] [[moO X kn kp ml], [arI G (X 1) 258 (s2Z v y)], [arI G (X 2) 516 (paF g)]] [[moO X (actN (waiR v) kn) kp ml], [arI G (X 1) 258 (s2Z (waiV v) (waiV v))], [arI G (X 2) 516 (paF (actG (waiR v) kn g v))]] ZT (some (.int (iI (waiR v)))) := by
  refine enterW (own := RX6) (by decide +kernel) rfl (Nat.le_of_ble_eq_true rfl) hD ?_
  intro p e s m below meth c C hW hK hZ ls hl
  have hl : lv_has ls 1 [(0, .ref (X 0))] := hl
  refine z_al_n C hl dX6_pause_0 0 rfl 1 rfl ?_
  refine z_VWv (rest := []) C (m_xcopies l G X kn ml kp v y (gD_rg hW.2.1 [0, 1] (by decide) rfl)) kV_X6_114 ⟨Nat.le_of_ble_eq_true rfl, Nat.le_of_ble_eq_true rfl⟩ hW hK [0, 1] rfl (sameA_of rfl) 0 rfl rfl rfl hl.1 rfl (Nat.le_of_ble_eq_true rfl) dX6_pause_1 ⟨Nat.le_of_ble_eq_true rfl, Nat.le_of_ble_eq_true rfl⟩ 4 rfl (rs' := [[moO X kn kp ml], [arI G (X 1) 258 (s2Z v v)], [arI G (X 2) 516 (paF g)]]) rfl (fun H locs hW hkeep => ?_)
  refine z_al_n C hl dX6_pause_4 0 rfl 5 rfl ?_
  refine z_al_n C hl dX6_pause_5 0 rfl 6 rfl ?_
  refine z_sipush C dX6_pause_6 (by decide) 9 rfl ?_
  refine z_VWi (r := .int (iI (waiR v))) (rest := [.ref (X 0)]) C (m_xwaits l G X kn ml kp v v  w  (gD_rg hW.2.1 [0, 1] (by decide) rfl)) kV_X6_133 ⟨Nat.le_of_ble_eq_true rfl, Nat.le_of_ble_eq_true rfl⟩ hW hK [0, 1] rfl (sameA_of rfl) 0 rfl rfl rfl hl.1 rfl (Nat.le_of_ble_eq_true rfl) dX6_pause_9 ⟨Nat.le_of_ble_eq_true rfl, Nat.le_of_ble_eq_true rfl⟩ 12 rfl (rs' := [[moO X kn kp ml], [arI G (X 1) 258 (s2Z v (waiV v))], [arI G (X 2) 516 (paF g)]]) rfl (fun H locs hW hkeep => ?_)
  have y9 := waiR_rng w
  refine z_VWi (r := .int (iI (waiR v))) (rest := []) C (m_xacts l G X kn ml kp v (waiV v) g (waiR v) (by omega) (by omega) (gD_rg hW.2.1 [0, 1, 2] (by decide) rfl)) kV_X6_121 ⟨Nat.le_of_ble_eq_true rfl, Nat.le_of_ble_eq_true rfl⟩ hW hK [0, 1, 2] rfl (sameA_of rfl) 0 rfl rfl rfl hl.1 rfl (Nat.le_of_ble_eq_true rfl) dX6_pause_12 ⟨Nat.le_of_ble_eq_true rfl, Nat.le_of_ble_eq_true rfl⟩ 15 rfl (rs' := [[moO X (actN (waiR v) kn) kp ml], [arI G (X 1) 258 (s2Z (acV (waiR v) v (waiV v)) (waiV v))], [arI G (X 2) 516 (paF (actG (waiR v) kn g v))]]) rfl (fun H locs hW hkeep => ?_)
  rw [ac_wai w] at hW
  exact z_wi C hW dX6_pause_15 rfl rfl

set_option maxHeartbeats 4000000 in
set_option maxRecDepth 100000 in
theorem m_xset (l : Launch) (G : gT) (X : Nat → Nat) (kn ml : Int) (kp : Bool) (v y : Int → Int) (g : Nat → Int → Int) (k x : Int) (hkn : 0 ≤ kn ∧ kn ≤ 4) (w : Wf v) (hk : -2147483648 ≤ k ∧ k < 2147483648) (hx : -2147483648 ≤ x ∧ x < 2147483648) (hD : gD ([[moO X kn kp ml], [arI G (X 1) 258 (s2Z v y)], [arI G (X 2) 516 (paF g)]] : List va_W).flatten) : MW l G yX6_set cX6_set 5 (some .int) 1 [.ref (X 0), .int (iI (k)), .int (iI (x))] [[moO X kn kp ml], [arI G (X 1) 258 (s2Z v y)], [arI G (X 2) 516 (paF g)]] [[moO X (actN (chsR v k x) kn) kp ml], [arI G (X 1) 258 (s2Z (chsV v k x) y)], [arI G (X 2) 516 (paF (actG (chsR v k x) kn g v))]] ZT (some (.int (iI (chsR v k x)))) := by
  refine enterW (own := RX6) (by decide +kernel) rfl (Nat.le_of_ble_eq_true rfl) hD ?_
  intro p e s m below meth c C hW hK hZ ls hl
  have hl : lv_has ls 5 [(0, .ref (X 0)), (1, .int (iI (k))), (2, .int (iI (x)))] := hl
  have ht := w.t
  have hs := w.s
  refine z_il_n C hl dX6_set_0 1 rfl 1 rfl ?_
  refine z_if_ne C dX6_set_1 13 4 (by decide) rfl (by omega) (fun c1 => ?_) (fun c1 => ?_)
  · skip
    refine z_il_n C hl dX6_set_13 1 rfl 14 rfl ?_
    refine z_iconst C dX6_set_14 15 rfl ?_
    refine z_icmp_ne C dX6_set_15 27 18 (by decide) rfl (by omega) (fun c15 => ?_) (fun c15 => ?_)
    · skip
      refine z_il_n C hl dX6_set_27 1 rfl 28 rfl ?_
      refine z_iconst C dX6_set_28 29 rfl ?_
      refine z_icmp_ne C dX6_set_29 41 32 (by decide) rfl (by omega) (fun c29 => ?_) (fun c29 => ?_)
      · skip
        refine z_il_n C hl dX6_set_41 1 rfl 42 rfl ?_
        refine z_iconst C dX6_set_42 43 rfl ?_
        refine z_icmp_ne C dX6_set_43 61 46 (by decide) rfl (by omega) (fun c43 => ?_) (fun c43 => ?_)
        · skip
          refine z_iconst C dX6_set_61 62 rfl ?_
          refine z_is_n C hl dX6_set_62 63 rfl (by decide) (lv' := [(3, .int (iI (0))), (0, .ref (X 0)), (1, .int (iI (k))), (2, .int (iI (x)))]) rfl (fun ls hl => ?_)
          refine z_il_n C hl dX6_set_63 0 rfl 64 rfl ?_
          refine z_if_ne C dX6_set_64 70 67 (by decide) rfl (by omega) (fun c64 => ?_) (fun c64 => ?_)
          · exfalso; omega
          · skip
            refine z_bipush C dX6_set_67 (by decide) 69 rfl ?_
            have hr : chsR v k x = -2 := by unfold chsR lstZ mstZ; (repeat' split) <;> first | rfl | omega | (exfalso; omega)
            have hx : ¬ 0 ≤ chsR v k x := by rw [hr]; omega
            have e1 : actN (chsR v k x) kn = kn := by unfold actN; exact if_neg hx
            have e3 : actG (chsR v k x) kn g v = g := by unfold actG; exact if_neg hx
            have e4 : chsV v k x = v := by unfold chsV; exact if_neg hx
            rw [e1, e3, e4, hr]
            exact z_wi C hW dX6_set_69 rfl rfl
        · skip
          refine z_il_n C hl dX6_set_46 2 rfl 47 rfl ?_
          refine z_bipush C dX6_set_47 (by decide) 49 rfl ?_
          refine z_bipush C dX6_set_49 (by decide) 51 rfl ?_
          refine z_SR (r := .int (iI (bZ (decide (10 ≤ x ∧ x ≤ 99))))) (rest := []) C (m_xin l G x 10 99 (by omega) (by omega) (by omega)) kS_X6_35 ⟨Nat.le_of_ble_eq_true rfl, Nat.le_of_ble_eq_true rfl⟩ (gP_nil) hK rfl hl.1 rfl (Nat.le_of_ble_eq_true rfl) dX6_set_51 ⟨Nat.le_of_ble_eq_true rfl, Nat.le_of_ble_eq_true rfl⟩ 54 rfl ?_
          refine z_ifb_eq C dX6_set_54 61 57 (by decide) rfl (fun c54 => ?_) (fun c54 => ?_)
          · skip
            simp only [decide_eq_true_eq, decide_eq_false_iff_not] at c54
            refine z_iconst C dX6_set_61 62 rfl ?_
            refine z_is_n C hl dX6_set_62 63 rfl (by decide) (lv' := [(3, .int (iI (0))), (0, .ref (X 0)), (1, .int (iI (k))), (2, .int (iI (x)))]) rfl (fun ls hl => ?_)
            refine z_il_n C hl dX6_set_63 0 rfl 64 rfl ?_
            refine z_if_ne C dX6_set_64 70 67 (by decide) rfl (by omega) (fun c64 => ?_) (fun c64 => ?_)
            · exfalso; omega
            · skip
              refine z_bipush C dX6_set_67 (by decide) 69 rfl ?_
              have hr : chsR v k x = -2 := by unfold chsR lstZ mstZ; (repeat' split) <;> first | rfl | omega | (exfalso; omega)
              have hx : ¬ 0 ≤ chsR v k x := by rw [hr]; omega
              have e1 : actN (chsR v k x) kn = kn := by unfold actN; exact if_neg hx
              have e3 : actG (chsR v k x) kn g v = g := by unfold actG; exact if_neg hx
              have e4 : chsV v k x = v := by unfold chsV; exact if_neg hx
              rw [e1, e3, e4, hr]
              exact z_wi C hW dX6_set_69 rfl rfl
          · skip
            simp only [decide_eq_true_eq, decide_eq_false_iff_not] at c54
            refine z_iconst C dX6_set_57 58 rfl ?_
            refine z_goto C dX6_set_58 62 (by decide) ?_
            refine z_is_n C hl dX6_set_62 63 rfl (by decide) (lv' := [(3, .int (iI (1))), (0, .ref (X 0)), (1, .int (iI (k))), (2, .int (iI (x)))]) rfl (fun ls hl => ?_)
            refine z_il_n C hl dX6_set_63 0 rfl 64 rfl ?_
            refine z_if_ne C dX6_set_64 70 67 (by decide) rfl (by omega) (fun c64 => ?_) (fun c64 => ?_)
            · skip
              refine z_al_n C hl dX6_set_70 1 rfl 71 rfl ?_
              refine z_get C hW.1 hK fl_X6_7 0 rfl rfl dX6_set_71 74 rfl ?_
              refine z_bipush C dX6_set_74 (by decide) 76 rfl ?_
              refine z_iaZ C (s2Z v y) hW.1 hK 1 rfl (by omega) (by decide) (v 126) (s2_lo (by omega)) dX6_set_76 77 rfl ?_
              refine z_if_eq C dX6_set_77 83 80 (by decide) rfl (by omega) (fun c77 => ?_) (fun c77 => ?_)
              · skip
                refine z_al_n C hl dX6_set_83 1 rfl 84 rfl ?_
                refine z_get C hW.1 hK fl_X6_7 0 rfl rfl dX6_set_84 87 rfl ?_
                refine z_bipush C dX6_set_87 (by decide) 89 rfl ?_
                refine z_il_n C hl dX6_set_89 2 rfl 90 rfl ?_
                refine z_iadd C dX6_set_90 91 rfl (122 + k) (rfl) ?_
                refine z_iaZ C (s2Z v y) hW.1 hK 1 rfl (by omega) (by decide) (setZ v k) ((s2_lo (by omega)).trans (set_at (by omega))) dX6_set_91 92 rfl ?_
                refine z_is C hl dX6_set_92 94 rfl (by decide) (lv' := [(4, .int (iI (setZ v k))), (3, .int (iI (1))), (0, .ref (X 0)), (1, .int (iI (k))), (2, .int (iI (x)))]) rfl (fun ls hl => ?_)
                refine z_il C hl dX6_set_94 0 rfl 96 rfl ?_
                refine z_il_n C hl dX6_set_96 4 rfl 97 rfl ?_
                refine z_icmp_ne C dX6_set_97 103 100 (by decide) rfl (by unfold setZ; (repeat' split) <;> omega) (fun c97 => ?_) (fun c97 => ?_)
                · skip
                  refine z_al_n C hl dX6_set_103 2 rfl 104 rfl ?_
                  refine z_VWv (rest := []) C (m_xrem l G X kn ml kp v y g (by omega) (gD_rg hW.2.1 [0, 1, 2] (by decide) rfl)) kV_X6_47 ⟨Nat.le_of_ble_eq_true rfl, Nat.le_of_ble_eq_true rfl⟩ hW hK [0, 1, 2] rfl (sameA_of rfl) 0 rfl rfl rfl hl.1 rfl (Nat.le_of_ble_eq_true rfl) dX6_set_104 ⟨Nat.le_of_ble_eq_true rfl, Nat.le_of_ble_eq_true rfl⟩ 107 rfl (rs' := [[moO X (recN kn) kp ml], [arI G (X 1) 258 (s2Z v y)], [arI G (X 2) 516 (paF (recG kn g v))]]) rfl (fun H locs hW hkeep => ?_)
                  refine z_al_n C hl dX6_set_107 2 rfl 108 rfl ?_
                  refine z_get C hW.1 hK fl_X6_7 0 rfl rfl dX6_set_108 111 rfl ?_
                  refine z_bipush C dX6_set_111 (by decide) 113 rfl ?_
                  refine z_il_n C hl dX6_set_113 3 rfl 114 rfl ?_
                  refine z_iadd C dX6_set_114 115 rfl (122 + k) (rfl) ?_
                  refine z_il_n C hl dX6_set_115 4 rfl 116 rfl ?_
                  refine z_iasZ C (s2Z v y) hW hK 1 rfl (by omega) (by decide) dX6_set_116 117 rfl (rs' := [[moO X (recN kn) kp ml], [arI G (X 1) 258 (s2Z (updZ v (122 + k) x) y)], [arI G (X 2) 516 (paF (recG kn g v))]]) (by rw [show updZ (s2Z v y) (122 + k) x = s2Z (updZ v (122 + k) x) y from s2_lw (by omega)]; rfl) (fun H locs hW => ?_)
                  refine z_il C hl dX6_set_117 0 rfl 119 rfl ?_
                  have hr : chsR v k x = setZ v k := by unfold chsR lstZ mstZ; (repeat' split) <;> first | rfl | omega | (exfalso; omega)
                  have hx : 0 ≤ chsR v k x := by rw [hr]; unfold setZ; (repeat' split) <;> omega
                  have e1 : actN (chsR v k x) kn = recN kn := by unfold actN; exact if_pos hx
                  have e3 : actG (chsR v k x) kn g v = recG kn g v := by unfold actG; exact if_pos hx
                  have e4 : chsV v k x = updZ v (122 + k) x := by unfold chsV; exact if_pos hx
                  rw [e1, e3, e4, hr]
                  exact z_wi C hW dX6_set_119 rfl rfl
                · skip
                  refine z_bipush C dX6_set_100 (by decide) 102 rfl ?_
                  have hr : chsR v k x = -5 := by unfold chsR lstZ mstZ; (repeat' split) <;> first | rfl | omega | (exfalso; omega)
                  have hx : ¬ 0 ≤ chsR v k x := by rw [hr]; omega
                  have e1 : actN (chsR v k x) kn = kn := by unfold actN; exact if_neg hx
                  have e3 : actG (chsR v k x) kn g v = g := by unfold actG; exact if_neg hx
                  have e4 : chsV v k x = v := by unfold chsV; exact if_neg hx
                  rw [e1, e3, e4, hr]
                  exact z_wi C hW dX6_set_102 rfl rfl
              · skip
                refine z_bipush C dX6_set_80 (by decide) 82 rfl ?_
                have hr : chsR v k x = -4 := by unfold chsR lstZ mstZ; (repeat' split) <;> first | rfl | omega | (exfalso; omega)
                have hx : ¬ 0 ≤ chsR v k x := by rw [hr]; omega
                have e1 : actN (chsR v k x) kn = kn := by unfold actN; exact if_neg hx
                have e3 : actG (chsR v k x) kn g v = g := by unfold actG; exact if_neg hx
                have e4 : chsV v k x = v := by unfold chsV; exact if_neg hx
                rw [e1, e3, e4, hr]
                exact z_wi C hW dX6_set_82 rfl rfl
            · exfalso; omega
      · skip
        refine z_il_n C hl dX6_set_32 2 rfl 33 rfl ?_
        refine z_iconst C dX6_set_33 34 rfl ?_
        refine z_iconst C dX6_set_34 35 rfl ?_
        refine z_SR (r := .int (iI (bZ (decide (1 ≤ x ∧ x ≤ 3))))) (rest := []) C (m_xin l G x 1 3 (by omega) (by omega) (by omega)) kS_X6_35 ⟨Nat.le_of_ble_eq_true rfl, Nat.le_of_ble_eq_true rfl⟩ (gP_nil) hK rfl hl.1 rfl (Nat.le_of_ble_eq_true rfl) dX6_set_35 ⟨Nat.le_of_ble_eq_true rfl, Nat.le_of_ble_eq_true rfl⟩ 38 rfl ?_
        refine z_goto C dX6_set_38 62 (by decide) ?_
        refine z_is_n C hl dX6_set_62 63 rfl (by decide) (lv' := [(3, .int (iI (bZ (decide (1 ≤ x ∧ x ≤ 3))))), (0, .ref (X 0)), (1, .int (iI (k))), (2, .int (iI (x)))]) rfl (fun ls hl => ?_)
        refine z_il_n C hl dX6_set_63 0 rfl 64 rfl ?_
        refine z_ifb_ne C dX6_set_64 70 67 (by decide) rfl (fun c64 => ?_) (fun c64 => ?_)
        · skip
          simp only [decide_eq_true_eq, decide_eq_false_iff_not] at c64
          refine z_al_n C hl dX6_set_70 1 rfl 71 rfl ?_
          refine z_get C hW.1 hK fl_X6_7 0 rfl rfl dX6_set_71 74 rfl ?_
          refine z_bipush C dX6_set_74 (by decide) 76 rfl ?_
          refine z_iaZ C (s2Z v y) hW.1 hK 1 rfl (by omega) (by decide) (v 126) (s2_lo (by omega)) dX6_set_76 77 rfl ?_
          refine z_if_eq C dX6_set_77 83 80 (by decide) rfl (by omega) (fun c77 => ?_) (fun c77 => ?_)
          · skip
            refine z_al_n C hl dX6_set_83 1 rfl 84 rfl ?_
            refine z_get C hW.1 hK fl_X6_7 0 rfl rfl dX6_set_84 87 rfl ?_
            refine z_bipush C dX6_set_87 (by decide) 89 rfl ?_
            refine z_il_n C hl dX6_set_89 2 rfl 90 rfl ?_
            refine z_iadd C dX6_set_90 91 rfl (122 + k) (rfl) ?_
            refine z_iaZ C (s2Z v y) hW.1 hK 1 rfl (by omega) (by decide) (setZ v k) ((s2_lo (by omega)).trans (set_at (by omega))) dX6_set_91 92 rfl ?_
            refine z_is C hl dX6_set_92 94 rfl (by decide) (lv' := [(4, .int (iI (setZ v k))), (3, .int (iI (bZ (decide (1 ≤ x ∧ x ≤ 3))))), (0, .ref (X 0)), (1, .int (iI (k))), (2, .int (iI (x)))]) rfl (fun ls hl => ?_)
            refine z_il C hl dX6_set_94 0 rfl 96 rfl ?_
            refine z_il_n C hl dX6_set_96 4 rfl 97 rfl ?_
            refine z_icmp_ne C dX6_set_97 103 100 (by decide) rfl (by unfold setZ; (repeat' split) <;> omega) (fun c97 => ?_) (fun c97 => ?_)
            · skip
              refine z_al_n C hl dX6_set_103 2 rfl 104 rfl ?_
              refine z_VWv (rest := []) C (m_xrem l G X kn ml kp v y g (by omega) (gD_rg hW.2.1 [0, 1, 2] (by decide) rfl)) kV_X6_47 ⟨Nat.le_of_ble_eq_true rfl, Nat.le_of_ble_eq_true rfl⟩ hW hK [0, 1, 2] rfl (sameA_of rfl) 0 rfl rfl rfl hl.1 rfl (Nat.le_of_ble_eq_true rfl) dX6_set_104 ⟨Nat.le_of_ble_eq_true rfl, Nat.le_of_ble_eq_true rfl⟩ 107 rfl (rs' := [[moO X (recN kn) kp ml], [arI G (X 1) 258 (s2Z v y)], [arI G (X 2) 516 (paF (recG kn g v))]]) rfl (fun H locs hW hkeep => ?_)
              refine z_al_n C hl dX6_set_107 2 rfl 108 rfl ?_
              refine z_get C hW.1 hK fl_X6_7 0 rfl rfl dX6_set_108 111 rfl ?_
              refine z_bipush C dX6_set_111 (by decide) 113 rfl ?_
              refine z_il_n C hl dX6_set_113 3 rfl 114 rfl ?_
              refine z_iadd C dX6_set_114 115 rfl (122 + k) (rfl) ?_
              refine z_il_n C hl dX6_set_115 4 rfl 116 rfl ?_
              refine z_iasZ C (s2Z v y) hW hK 1 rfl (by omega) (by decide) dX6_set_116 117 rfl (rs' := [[moO X (recN kn) kp ml], [arI G (X 1) 258 (s2Z (updZ v (122 + k) x) y)], [arI G (X 2) 516 (paF (recG kn g v))]]) (by rw [show updZ (s2Z v y) (122 + k) x = s2Z (updZ v (122 + k) x) y from s2_lw (by omega)]; rfl) (fun H locs hW => ?_)
              refine z_il C hl dX6_set_117 0 rfl 119 rfl ?_
              have hr : chsR v k x = setZ v k := by unfold chsR lstZ mstZ; (repeat' split) <;> first | rfl | omega | (exfalso; omega)
              have hx : 0 ≤ chsR v k x := by rw [hr]; unfold setZ; (repeat' split) <;> omega
              have e1 : actN (chsR v k x) kn = recN kn := by unfold actN; exact if_pos hx
              have e3 : actG (chsR v k x) kn g v = recG kn g v := by unfold actG; exact if_pos hx
              have e4 : chsV v k x = updZ v (122 + k) x := by unfold chsV; exact if_pos hx
              rw [e1, e3, e4, hr]
              exact z_wi C hW dX6_set_119 rfl rfl
            · skip
              refine z_bipush C dX6_set_100 (by decide) 102 rfl ?_
              have hr : chsR v k x = -5 := by unfold chsR lstZ mstZ; (repeat' split) <;> first | rfl | omega | (exfalso; omega)
              have hx : ¬ 0 ≤ chsR v k x := by rw [hr]; omega
              have e1 : actN (chsR v k x) kn = kn := by unfold actN; exact if_neg hx
              have e3 : actG (chsR v k x) kn g v = g := by unfold actG; exact if_neg hx
              have e4 : chsV v k x = v := by unfold chsV; exact if_neg hx
              rw [e1, e3, e4, hr]
              exact z_wi C hW dX6_set_102 rfl rfl
          · skip
            refine z_bipush C dX6_set_80 (by decide) 82 rfl ?_
            have hr : chsR v k x = -4 := by unfold chsR lstZ mstZ; (repeat' split) <;> first | rfl | omega | (exfalso; omega)
            have hx : ¬ 0 ≤ chsR v k x := by rw [hr]; omega
            have e1 : actN (chsR v k x) kn = kn := by unfold actN; exact if_neg hx
            have e3 : actG (chsR v k x) kn g v = g := by unfold actG; exact if_neg hx
            have e4 : chsV v k x = v := by unfold chsV; exact if_neg hx
            rw [e1, e3, e4, hr]
            exact z_wi C hW dX6_set_82 rfl rfl
        · skip
          simp only [decide_eq_true_eq, decide_eq_false_iff_not] at c64
          refine z_bipush C dX6_set_67 (by decide) 69 rfl ?_
          have hr : chsR v k x = -2 := by unfold chsR lstZ mstZ; (repeat' split) <;> first | rfl | omega | (exfalso; omega)
          have hx : ¬ 0 ≤ chsR v k x := by rw [hr]; omega
          have e1 : actN (chsR v k x) kn = kn := by unfold actN; exact if_neg hx
          have e3 : actG (chsR v k x) kn g v = g := by unfold actG; exact if_neg hx
          have e4 : chsV v k x = v := by unfold chsV; exact if_neg hx
          rw [e1, e3, e4, hr]
          exact z_wi C hW dX6_set_69 rfl rfl
    · skip
      refine z_il_n C hl dX6_set_18 2 rfl 19 rfl ?_
      refine z_iconst C dX6_set_19 20 rfl ?_
      refine z_iconst C dX6_set_20 21 rfl ?_
      refine z_SR (r := .int (iI (bZ (decide (1 ≤ x ∧ x ≤ 4))))) (rest := []) C (m_xin l G x 1 4 (by omega) (by omega) (by omega)) kS_X6_35 ⟨Nat.le_of_ble_eq_true rfl, Nat.le_of_ble_eq_true rfl⟩ (gP_nil) hK rfl hl.1 rfl (Nat.le_of_ble_eq_true rfl) dX6_set_21 ⟨Nat.le_of_ble_eq_true rfl, Nat.le_of_ble_eq_true rfl⟩ 24 rfl ?_
      refine z_goto C dX6_set_24 62 (by decide) ?_
      refine z_is_n C hl dX6_set_62 63 rfl (by decide) (lv' := [(3, .int (iI (bZ (decide (1 ≤ x ∧ x ≤ 4))))), (0, .ref (X 0)), (1, .int (iI (k))), (2, .int (iI (x)))]) rfl (fun ls hl => ?_)
      refine z_il_n C hl dX6_set_63 0 rfl 64 rfl ?_
      refine z_ifb_ne C dX6_set_64 70 67 (by decide) rfl (fun c64 => ?_) (fun c64 => ?_)
      · skip
        simp only [decide_eq_true_eq, decide_eq_false_iff_not] at c64
        refine z_al_n C hl dX6_set_70 1 rfl 71 rfl ?_
        refine z_get C hW.1 hK fl_X6_7 0 rfl rfl dX6_set_71 74 rfl ?_
        refine z_bipush C dX6_set_74 (by decide) 76 rfl ?_
        refine z_iaZ C (s2Z v y) hW.1 hK 1 rfl (by omega) (by decide) (v 126) (s2_lo (by omega)) dX6_set_76 77 rfl ?_
        refine z_if_eq C dX6_set_77 83 80 (by decide) rfl (by omega) (fun c77 => ?_) (fun c77 => ?_)
        · skip
          refine z_al_n C hl dX6_set_83 1 rfl 84 rfl ?_
          refine z_get C hW.1 hK fl_X6_7 0 rfl rfl dX6_set_84 87 rfl ?_
          refine z_bipush C dX6_set_87 (by decide) 89 rfl ?_
          refine z_il_n C hl dX6_set_89 2 rfl 90 rfl ?_
          refine z_iadd C dX6_set_90 91 rfl (122 + k) (rfl) ?_
          refine z_iaZ C (s2Z v y) hW.1 hK 1 rfl (by omega) (by decide) (setZ v k) ((s2_lo (by omega)).trans (set_at (by omega))) dX6_set_91 92 rfl ?_
          refine z_is C hl dX6_set_92 94 rfl (by decide) (lv' := [(4, .int (iI (setZ v k))), (3, .int (iI (bZ (decide (1 ≤ x ∧ x ≤ 4))))), (0, .ref (X 0)), (1, .int (iI (k))), (2, .int (iI (x)))]) rfl (fun ls hl => ?_)
          refine z_il C hl dX6_set_94 0 rfl 96 rfl ?_
          refine z_il_n C hl dX6_set_96 4 rfl 97 rfl ?_
          refine z_icmp_ne C dX6_set_97 103 100 (by decide) rfl (by unfold setZ; (repeat' split) <;> omega) (fun c97 => ?_) (fun c97 => ?_)
          · skip
            refine z_al_n C hl dX6_set_103 2 rfl 104 rfl ?_
            refine z_VWv (rest := []) C (m_xrem l G X kn ml kp v y g (by omega) (gD_rg hW.2.1 [0, 1, 2] (by decide) rfl)) kV_X6_47 ⟨Nat.le_of_ble_eq_true rfl, Nat.le_of_ble_eq_true rfl⟩ hW hK [0, 1, 2] rfl (sameA_of rfl) 0 rfl rfl rfl hl.1 rfl (Nat.le_of_ble_eq_true rfl) dX6_set_104 ⟨Nat.le_of_ble_eq_true rfl, Nat.le_of_ble_eq_true rfl⟩ 107 rfl (rs' := [[moO X (recN kn) kp ml], [arI G (X 1) 258 (s2Z v y)], [arI G (X 2) 516 (paF (recG kn g v))]]) rfl (fun H locs hW hkeep => ?_)
            refine z_al_n C hl dX6_set_107 2 rfl 108 rfl ?_
            refine z_get C hW.1 hK fl_X6_7 0 rfl rfl dX6_set_108 111 rfl ?_
            refine z_bipush C dX6_set_111 (by decide) 113 rfl ?_
            refine z_il_n C hl dX6_set_113 3 rfl 114 rfl ?_
            refine z_iadd C dX6_set_114 115 rfl (122 + k) (rfl) ?_
            refine z_il_n C hl dX6_set_115 4 rfl 116 rfl ?_
            refine z_iasZ C (s2Z v y) hW hK 1 rfl (by omega) (by decide) dX6_set_116 117 rfl (rs' := [[moO X (recN kn) kp ml], [arI G (X 1) 258 (s2Z (updZ v (122 + k) x) y)], [arI G (X 2) 516 (paF (recG kn g v))]]) (by rw [show updZ (s2Z v y) (122 + k) x = s2Z (updZ v (122 + k) x) y from s2_lw (by omega)]; rfl) (fun H locs hW => ?_)
            refine z_il C hl dX6_set_117 0 rfl 119 rfl ?_
            have hr : chsR v k x = setZ v k := by unfold chsR lstZ mstZ; (repeat' split) <;> first | rfl | omega | (exfalso; omega)
            have hx : 0 ≤ chsR v k x := by rw [hr]; unfold setZ; (repeat' split) <;> omega
            have e1 : actN (chsR v k x) kn = recN kn := by unfold actN; exact if_pos hx
            have e3 : actG (chsR v k x) kn g v = recG kn g v := by unfold actG; exact if_pos hx
            have e4 : chsV v k x = updZ v (122 + k) x := by unfold chsV; exact if_pos hx
            rw [e1, e3, e4, hr]
            exact z_wi C hW dX6_set_119 rfl rfl
          · skip
            refine z_bipush C dX6_set_100 (by decide) 102 rfl ?_
            have hr : chsR v k x = -5 := by unfold chsR lstZ mstZ; (repeat' split) <;> first | rfl | omega | (exfalso; omega)
            have hx : ¬ 0 ≤ chsR v k x := by rw [hr]; omega
            have e1 : actN (chsR v k x) kn = kn := by unfold actN; exact if_neg hx
            have e3 : actG (chsR v k x) kn g v = g := by unfold actG; exact if_neg hx
            have e4 : chsV v k x = v := by unfold chsV; exact if_neg hx
            rw [e1, e3, e4, hr]
            exact z_wi C hW dX6_set_102 rfl rfl
        · skip
          refine z_bipush C dX6_set_80 (by decide) 82 rfl ?_
          have hr : chsR v k x = -4 := by unfold chsR lstZ mstZ; (repeat' split) <;> first | rfl | omega | (exfalso; omega)
          have hx : ¬ 0 ≤ chsR v k x := by rw [hr]; omega
          have e1 : actN (chsR v k x) kn = kn := by unfold actN; exact if_neg hx
          have e3 : actG (chsR v k x) kn g v = g := by unfold actG; exact if_neg hx
          have e4 : chsV v k x = v := by unfold chsV; exact if_neg hx
          rw [e1, e3, e4, hr]
          exact z_wi C hW dX6_set_82 rfl rfl
      · skip
        simp only [decide_eq_true_eq, decide_eq_false_iff_not] at c64
        refine z_bipush C dX6_set_67 (by decide) 69 rfl ?_
        have hr : chsR v k x = -2 := by unfold chsR lstZ mstZ; (repeat' split) <;> first | rfl | omega | (exfalso; omega)
        have hx : ¬ 0 ≤ chsR v k x := by rw [hr]; omega
        have e1 : actN (chsR v k x) kn = kn := by unfold actN; exact if_neg hx
        have e3 : actG (chsR v k x) kn g v = g := by unfold actG; exact if_neg hx
        have e4 : chsV v k x = v := by unfold chsV; exact if_neg hx
        rw [e1, e3, e4, hr]
        exact z_wi C hW dX6_set_69 rfl rfl
  · skip
    refine z_il_n C hl dX6_set_4 2 rfl 5 rfl ?_
    refine z_iconst C dX6_set_5 6 rfl ?_
    refine z_iconst C dX6_set_6 7 rfl ?_
    refine z_SR (r := .int (iI (bZ (decide (0 ≤ x ∧ x ≤ 3))))) (rest := []) C (m_xin l G x 0 3 (by omega) (by omega) (by omega)) kS_X6_35 ⟨Nat.le_of_ble_eq_true rfl, Nat.le_of_ble_eq_true rfl⟩ (gP_nil) hK rfl hl.1 rfl (Nat.le_of_ble_eq_true rfl) dX6_set_7 ⟨Nat.le_of_ble_eq_true rfl, Nat.le_of_ble_eq_true rfl⟩ 10 rfl ?_
    refine z_goto C dX6_set_10 62 (by decide) ?_
    refine z_is_n C hl dX6_set_62 63 rfl (by decide) (lv' := [(3, .int (iI (bZ (decide (0 ≤ x ∧ x ≤ 3))))), (0, .ref (X 0)), (1, .int (iI (k))), (2, .int (iI (x)))]) rfl (fun ls hl => ?_)
    refine z_il_n C hl dX6_set_63 0 rfl 64 rfl ?_
    refine z_ifb_ne C dX6_set_64 70 67 (by decide) rfl (fun c64 => ?_) (fun c64 => ?_)
    · skip
      simp only [decide_eq_true_eq, decide_eq_false_iff_not] at c64
      refine z_al_n C hl dX6_set_70 1 rfl 71 rfl ?_
      refine z_get C hW.1 hK fl_X6_7 0 rfl rfl dX6_set_71 74 rfl ?_
      refine z_bipush C dX6_set_74 (by decide) 76 rfl ?_
      refine z_iaZ C (s2Z v y) hW.1 hK 1 rfl (by omega) (by decide) (v 126) (s2_lo (by omega)) dX6_set_76 77 rfl ?_
      refine z_if_eq C dX6_set_77 83 80 (by decide) rfl (by omega) (fun c77 => ?_) (fun c77 => ?_)
      · skip
        refine z_al_n C hl dX6_set_83 1 rfl 84 rfl ?_
        refine z_get C hW.1 hK fl_X6_7 0 rfl rfl dX6_set_84 87 rfl ?_
        refine z_bipush C dX6_set_87 (by decide) 89 rfl ?_
        refine z_il_n C hl dX6_set_89 2 rfl 90 rfl ?_
        refine z_iadd C dX6_set_90 91 rfl (122 + k) (rfl) ?_
        refine z_iaZ C (s2Z v y) hW.1 hK 1 rfl (by omega) (by decide) (setZ v k) ((s2_lo (by omega)).trans (set_at (by omega))) dX6_set_91 92 rfl ?_
        refine z_is C hl dX6_set_92 94 rfl (by decide) (lv' := [(4, .int (iI (setZ v k))), (3, .int (iI (bZ (decide (0 ≤ x ∧ x ≤ 3))))), (0, .ref (X 0)), (1, .int (iI (k))), (2, .int (iI (x)))]) rfl (fun ls hl => ?_)
        refine z_il C hl dX6_set_94 0 rfl 96 rfl ?_
        refine z_il_n C hl dX6_set_96 4 rfl 97 rfl ?_
        refine z_icmp_ne C dX6_set_97 103 100 (by decide) rfl (by unfold setZ; (repeat' split) <;> omega) (fun c97 => ?_) (fun c97 => ?_)
        · skip
          refine z_al_n C hl dX6_set_103 2 rfl 104 rfl ?_
          refine z_VWv (rest := []) C (m_xrem l G X kn ml kp v y g (by omega) (gD_rg hW.2.1 [0, 1, 2] (by decide) rfl)) kV_X6_47 ⟨Nat.le_of_ble_eq_true rfl, Nat.le_of_ble_eq_true rfl⟩ hW hK [0, 1, 2] rfl (sameA_of rfl) 0 rfl rfl rfl hl.1 rfl (Nat.le_of_ble_eq_true rfl) dX6_set_104 ⟨Nat.le_of_ble_eq_true rfl, Nat.le_of_ble_eq_true rfl⟩ 107 rfl (rs' := [[moO X (recN kn) kp ml], [arI G (X 1) 258 (s2Z v y)], [arI G (X 2) 516 (paF (recG kn g v))]]) rfl (fun H locs hW hkeep => ?_)
          refine z_al_n C hl dX6_set_107 2 rfl 108 rfl ?_
          refine z_get C hW.1 hK fl_X6_7 0 rfl rfl dX6_set_108 111 rfl ?_
          refine z_bipush C dX6_set_111 (by decide) 113 rfl ?_
          refine z_il_n C hl dX6_set_113 3 rfl 114 rfl ?_
          refine z_iadd C dX6_set_114 115 rfl (122 + k) (rfl) ?_
          refine z_il_n C hl dX6_set_115 4 rfl 116 rfl ?_
          refine z_iasZ C (s2Z v y) hW hK 1 rfl (by omega) (by decide) dX6_set_116 117 rfl (rs' := [[moO X (recN kn) kp ml], [arI G (X 1) 258 (s2Z (updZ v (122 + k) x) y)], [arI G (X 2) 516 (paF (recG kn g v))]]) (by rw [show updZ (s2Z v y) (122 + k) x = s2Z (updZ v (122 + k) x) y from s2_lw (by omega)]; rfl) (fun H locs hW => ?_)
          refine z_il C hl dX6_set_117 0 rfl 119 rfl ?_
          have hr : chsR v k x = setZ v k := by unfold chsR lstZ mstZ; (repeat' split) <;> first | rfl | omega | (exfalso; omega)
          have hx : 0 ≤ chsR v k x := by rw [hr]; unfold setZ; (repeat' split) <;> omega
          have e1 : actN (chsR v k x) kn = recN kn := by unfold actN; exact if_pos hx
          have e3 : actG (chsR v k x) kn g v = recG kn g v := by unfold actG; exact if_pos hx
          have e4 : chsV v k x = updZ v (122 + k) x := by unfold chsV; exact if_pos hx
          rw [e1, e3, e4, hr]
          exact z_wi C hW dX6_set_119 rfl rfl
        · skip
          refine z_bipush C dX6_set_100 (by decide) 102 rfl ?_
          have hr : chsR v k x = -5 := by unfold chsR lstZ mstZ; (repeat' split) <;> first | rfl | omega | (exfalso; omega)
          have hx : ¬ 0 ≤ chsR v k x := by rw [hr]; omega
          have e1 : actN (chsR v k x) kn = kn := by unfold actN; exact if_neg hx
          have e3 : actG (chsR v k x) kn g v = g := by unfold actG; exact if_neg hx
          have e4 : chsV v k x = v := by unfold chsV; exact if_neg hx
          rw [e1, e3, e4, hr]
          exact z_wi C hW dX6_set_102 rfl rfl
      · skip
        refine z_bipush C dX6_set_80 (by decide) 82 rfl ?_
        have hr : chsR v k x = -4 := by unfold chsR lstZ mstZ; (repeat' split) <;> first | rfl | omega | (exfalso; omega)
        have hx : ¬ 0 ≤ chsR v k x := by rw [hr]; omega
        have e1 : actN (chsR v k x) kn = kn := by unfold actN; exact if_neg hx
        have e3 : actG (chsR v k x) kn g v = g := by unfold actG; exact if_neg hx
        have e4 : chsV v k x = v := by unfold chsV; exact if_neg hx
        rw [e1, e3, e4, hr]
        exact z_wi C hW dX6_set_82 rfl rfl
    · skip
      simp only [decide_eq_true_eq, decide_eq_false_iff_not] at c64
      refine z_bipush C dX6_set_67 (by decide) 69 rfl ?_
      have hr : chsR v k x = -2 := by unfold chsR lstZ mstZ; (repeat' split) <;> first | rfl | omega | (exfalso; omega)
      have hx : ¬ 0 ≤ chsR v k x := by rw [hr]; omega
      have e1 : actN (chsR v k x) kn = kn := by unfold actN; exact if_neg hx
      have e3 : actG (chsR v k x) kn g v = g := by unfold actG; exact if_neg hx
      have e4 : chsV v k x = v := by unfold chsV; exact if_neg hx
      rw [e1, e3, e4, hr]
      exact z_wi C hW dX6_set_69 rfl rfl

set_option maxHeartbeats 4000000 in
set_option maxRecDepth 100000 in
theorem m_xtype (l : Launch) (G : gT) (X : Nat → Nat) (kn ml : Int) (kp : Bool) (tx : Int → Int) (q : Int) (wt : Ot ml tx) (hq : 0 ≤ q ∧ q < 65536) (hD : gD ([[moO X kn kp ml], [arI G (X 4) 60 tx]] : List va_W).flatten) : MW l G yX6_type cX6_type 2 (some .int) 0 [.ref (X 0), .int (iI (q))] [[moO X kn kp ml], [arI G (X 4) 60 tx]] [[moO X kn kp (apN ml)], [arI G (X 4) 60 (apT ml tx q)]] ZT (some (.int (iI (apR ml)))) := by
  refine enterW (own := RX6) (by decide +kernel) rfl (Nat.le_of_ble_eq_true rfl) hD ?_
  intro p e s m below meth c C hW hK hZ ls hl
  have hl : lv_has ls 2 [(0, .ref (X 0)), (1, .int (iI (q)))] := hl
  have hm := wt.1
  refine z_al_n C hl dX6_type_0 0 rfl 1 rfl ?_
  refine z_get C hW.1 hK fl_X6_136 0 rfl rfl dX6_type_1 4 rfl ?_
  refine z_bipush C dX6_type_4 (by decide) 6 rfl ?_
  refine z_icmp_ne C dX6_type_6 12 9 (by decide) rfl (by omega) (fun c6 => ?_) (fun c6 => ?_)
  · skip
    refine z_al_n C hl dX6_type_12 0 rfl 13 rfl ?_
    refine z_get C hW.1 hK fl_X6_19 0 rfl rfl dX6_type_13 16 rfl ?_
    refine z_al_n C hl dX6_type_16 0 rfl 17 rfl ?_
    refine z_get C hW.1 hK fl_X6_136 0 rfl rfl dX6_type_17 20 rfl ?_
    refine z_il_n C hl dX6_type_20 1 rfl 21 rfl ?_
    refine z_iasZ C (tx) hW hK 1 rfl (by omega) (by decide) dX6_type_21 22 rfl (rs' := [[moO X kn kp ml], [arI G (X 4) 60 (updZ tx ml q)]]) rfl (fun H locs hW => ?_)
    refine z_al_n C hl dX6_type_22 0 rfl 23 rfl ?_
    refine z_dup C dX6_type_23 rfl 24 rfl ?_
    refine z_get C hW.1 hK fl_X6_136 0 rfl rfl dX6_type_24 27 rfl ?_
    refine z_iconst C dX6_type_27 28 rfl ?_
    refine z_iadd C dX6_type_28 29 rfl (1 + ml) (by omega) ?_
    refine z_put C hW hK fl_X6_136 fc_X6_6 0 rfl (rfl) (rfl) (Nat.le_of_ble_eq_true rfl) dX6_type_29 32 rfl (rs' := [[(X 0, .inr (6, [.ref (X 1), .ref (X 2), .int (iI (kn)), .ref (X 3), .int (iI (bZ (kp))), .ref (X 4), .int (iI (1 + ml)), .ref (X 5), .ref (X 6), .ref (X 7), .ref (X 8)]))], [arI G (X 4) 60 (updZ tx ml q)]]) rfl (fun H locs hW => ?_)
    refine z_al_n C hl dX6_type_32 0 rfl 33 rfl ?_
    refine z_get C hW.1 hK fl_X6_136 0 rfl rfl dX6_type_33 36 rfl ?_
    have e1 : apR ml = 1 + ml := by unfold apR; rw [if_neg (by omega)]
    have e2 : apN ml = 1 + ml := by unfold apN; rw [if_neg (by omega)]
    have e3 : apT ml tx q = updZ tx ml q := by unfold apT; rw [if_neg (by omega)]
    rw [e1, e2, e3]
    exact z_wi C hW dX6_type_36 rfl rfl
  · skip
    refine z_bipush C dX6_type_9 (by decide) 11 rfl ?_
    have e1 : apR ml = -3 := by unfold apR; rw [if_pos (by omega)]
    have e2 : apN ml = ml := by unfold apN; rw [if_pos (by omega)]
    have e3 : apT ml tx q = tx := by unfold apT; rw [if_pos (by omega)]
    rw [e1, e2, e3]
    exact z_wi C hW dX6_type_11 rfl rfl

set_option maxHeartbeats 4000000 in
set_option maxRecDepth 100000 in
theorem m_xclear (l : Launch) (G : gT) (X : Nat → Nat) (kn ml : Int) (kp : Bool) (tx : Int → Int) (wt : Ot ml tx) (hD : gD ([[moO X kn kp ml], [arI G (X 4) 60 tx]] : List va_W).flatten) : MW l G yX6_clearText cX6_clearText 2 (some .int) 0 [.ref (X 0)] [[moO X kn kp ml], [arI G (X 4) 60 tx]] [[moO X kn kp 0], [arI G (X 4) 60 tx]] ZT (some (.int (iI (ml)))) := by
  refine enterW (own := RX6) (by decide +kernel) rfl (Nat.le_of_ble_eq_true rfl) hD ?_
  intro p e s m below meth c C hW hK hZ ls hl
  have hl : lv_has ls 2 [(0, .ref (X 0))] := hl
  have hm := wt.1
  refine z_al_n C hl dX6_clearText_0 0 rfl 1 rfl ?_
  refine z_get C hW.1 hK fl_X6_136 0 rfl rfl dX6_clearText_1 4 rfl ?_
  refine z_is_n C hl dX6_clearText_4 5 rfl (by decide) (lv' := [(1, .int (iI (ml))), (0, .ref (X 0))]) rfl (fun ls hl => ?_)
  refine z_al_n C hl dX6_clearText_5 1 rfl 6 rfl ?_
  refine z_iconst C dX6_clearText_6 7 rfl ?_
  refine z_put C hW hK fl_X6_136 fc_X6_6 0 rfl (rfl) (rfl) (Nat.le_of_ble_eq_true rfl) dX6_clearText_7 10 rfl (rs' := [[(X 0, .inr (6, [.ref (X 1), .ref (X 2), .int (iI (kn)), .ref (X 3), .int (iI (bZ (kp))), .ref (X 4), .int (iI (0)), .ref (X 5), .ref (X 6), .ref (X 7), .ref (X 8)]))], [arI G (X 4) 60 tx]]) rfl (fun H locs hW => ?_)
  refine z_il_n C hl dX6_clearText_10 0 rfl 11 rfl ?_
  exact z_wi C hW dX6_clearText_11 (rfl) rfl

set_option maxHeartbeats 4000000 in
set_option maxRecDepth 100000 in
theorem m_xundo (l : Launch) (G : gT) (X : Nat → Nat) (kn ml : Int) (kp : Bool) (v y : Int → Int) (g : Nat → Int → Int) (hkn : 0 ≤ kn ∧ kn ≤ 4) (hD : gD ([[moO X kn kp ml], [arI G (X 1) 258 (s2Z v y)], [arI G (X 2) 516 (paF g)]] : List va_W).flatten) : MW l G yX6_undo cX6_undo 2 (some .int) 0 [.ref (X 0)] [[moO X kn kp ml], [arI G (X 1) 258 (s2Z v y)], [arI G (X 2) 516 (paF g)]] [[moO X (undN kn) kp ml], [arI G (X 1) 258 (s2Z (undV kn g v) y)], [arI G (X 2) 516 (paF g)]] ZT (some (.int (iI (undR kn)))) := by
  refine enterW (own := RX6) (by decide +kernel) rfl (Nat.le_of_ble_eq_true rfl) hD ?_
  intro p e s m below meth c C hW hK hZ ls hl
  have hl : lv_has ls 2 [(0, .ref (X 0))] := hl
  refine z_al_n C hl dX6_undo_0 0 rfl 1 rfl ?_
  refine z_get C hW.1 hK fl_X6_43 0 rfl rfl dX6_undo_1 4 rfl ?_
  refine z_if_ne C dX6_undo_4 10 7 (by decide) rfl (by omega) (fun c4 => ?_) (fun c4 => ?_)
  · skip
    refine z_al_n C hl dX6_undo_10 0 rfl 11 rfl ?_
    refine z_dup C dX6_undo_11 rfl 12 rfl ?_
    refine z_get C hW.1 hK fl_X6_43 0 rfl rfl dX6_undo_12 15 rfl ?_
    refine z_iconst C dX6_undo_15 16 rfl ?_
    refine z_isub C dX6_undo_16 17 rfl (kn - 1) (rfl) ?_
    refine z_put C hW hK fl_X6_43 fc_X6_2 0 rfl (rfl) (rfl) (Nat.le_of_ble_eq_true rfl) dX6_undo_17 20 rfl (rs' := [[(X 0, .inr (6, [.ref (X 1), .ref (X 2), .int (iI (kn - 1)), .ref (X 3), .int (iI (bZ (kp))), .ref (X 4), .int (iI (ml)), .ref (X 5), .ref (X 6), .ref (X 7), .ref (X 8)]))], [arI G (X 1) 258 (s2Z v y)], [arI G (X 2) 516 (paF g)]]) rfl (fun H locs hW => ?_)
    refine z_iconst C dX6_undo_20 21 rfl ?_
    have hW := hW.re (rs' := [[moO X (kn - 1) kp ml], [arI G (X 1) 258 (s2Z v y)], [arI G (X 2) 516 (paF g)]]) rfl
    have hW := Wd.ceq (rs' := [[moO X (kn - 1) kp ml], [arI G (X 1) 258 (s2Z (mixZ (g (kn - 1).toNat) v 0) y)], [arI G (X 2) 516 (paF g)]]) hW ⟨ceq.rf, ⟨ceq.I (fun k h8 h9 => by unfold s2Z; split <;> first | rfl | exact (mixZ_0 (by omega)).symm), ceqs.rf⟩⟩
    refine z_is_n C hl dX6_undo_21 22 rfl (by decide) (lv' := [(1, .int (iI (0))), (0, .ref (X 0))]) rfl (fun ls hl => ?_)
    have L22 : ∀ (fu : Nat) (k : Int) (h1 : 0 ≤ k ∧ k ≤ 129) (H : Heap) (locs : List Loc) (hW : Wd G (adr ([[moO X kn kp ml], [arI G (X 1) 258 (s2Z v y)], [arI G (X 2) 516 (paF g)]] : List va_W).flatten) [[moO X (kn - 1) kp ml], [arI G (X 1) 258 (s2Z (mixZ (g (kn - 1).toNat) v k) y)], [arI G (X 2) 516 (paF g)]] s.heap H locs) (hm : 129 - k < (fu : Int)) (ls : Array Slot) (hl : lv_has ls 2 [(1, .int (iI (k))), (0, .ref (X 0))]), W p l e (rmN 0) s m [.ref (X 0)].toArray below meth c H locs 0 0 (MQ below (QW G [[moO X kn kp ml], [arI G (X 1) 258 (s2Z v y)], [arI G (X 2) 516 (paF g)]] [[moO X (undN kn) kp ml], [arI G (X 1) 258 (s2Z (undV kn g v) y)], [arI G (X 2) 516 (paF g)]] (some (.int (iI (undR kn))))) [.ref (X 0)].toArray s 0 0 (adr ([[moO X kn kp ml], [arI G (X 1) 258 (s2Z v y)], [arI G (X 2) 516 (paF g)]] : List va_W).flatten)) (F0 m 22 ls []) := by
      intro fu
      induction fu with
      | zero => intro k h1 H locs hW hm ls hl; exfalso; omega
      | succ fu ih =>
        intro k h1 H locs hW hm ls hl
        have ih22 := ih
        refine z_il_n C hl dX6_undo_22 0 rfl 23 rfl ?_
        refine z_sipush C dX6_undo_23 (by decide) 26 rfl ?_
        refine z_icmp_ge C dX6_undo_26 56 29 (by decide) rfl (by omega) (fun c26 => ?_) (fun c26 => ?_)
        · skip
          rw [show k = 129 by omega] at hW
          have hW := Wd.ceq (rs' := [[moO X (kn - 1) kp ml], [arI G (X 1) 258 (s2Z (g (kn - 1).toNat) y)], [arI G (X 2) 516 (paF g)]]) hW ⟨ceq.rf, ⟨ceq.I (fun k h8 h9 => by unfold s2Z; split <;> first | rfl | exact mixZ_n (by omega)), ceqs.rf⟩⟩
          refine z_al_n C hl dX6_undo_56 1 rfl 57 rfl ?_
          refine z_get C hW.1 hK fl_X6_43 0 rfl rfl dX6_undo_57 60 rfl ?_
          have e0 : undR kn = (kn - 1) := by unfold undR; exact if_neg c4
          have e1 : undN kn = (kn - 1) := by unfold undN; exact if_neg c4
          have e3 : undV kn g v = g (kn - 1).toNat := by unfold undV; exact if_neg c4
          rw [e0, e1, e3]
          exact z_wi C hW dX6_undo_60 rfl rfl
        · skip
          refine z_al_n C hl dX6_undo_29 1 rfl 30 rfl ?_
          refine z_get C hW.1 hK fl_X6_7 0 rfl rfl dX6_undo_30 33 rfl ?_
          refine z_il_n C hl dX6_undo_33 0 rfl 34 rfl ?_
          refine z_al_n C hl dX6_undo_34 1 rfl 35 rfl ?_
          refine z_get C hW.1 hK fl_X6_13 0 rfl rfl dX6_undo_35 38 rfl ?_
          refine z_sipush C dX6_undo_38 (by decide) 41 rfl ?_
          refine z_al_n C hl dX6_undo_41 1 rfl 42 rfl ?_
          refine z_get C hW.1 hK fl_X6_43 0 rfl rfl dX6_undo_42 45 rfl ?_
          refine z_imul C dX6_undo_45 46 rfl (129 * (kn - 1)) (rfl) ?_
          refine z_il_n C hl dX6_undo_46 0 rfl 47 rfl ?_
          refine z_iadd C dX6_undo_47 48 rfl (129 * (kn - 1) + k) (by omega) ?_
          refine z_iaZ C (paF g) hW.1 hK 2 rfl (by omega) (by decide) (g (kn - 1).toNat k) ((congrArg (paF g) (show (129 * (kn - 1) + k : Int) = 129 * (kn - 1) + k by omega)).trans (paF_at (by omega) (by omega))) dX6_undo_48 49 rfl ?_
          refine z_iasZ C (s2Z (mixZ (g (kn - 1).toNat) v k) y) hW hK 1 rfl (by omega) (by decide) dX6_undo_49 50 rfl (rs' := [[moO X (kn - 1) kp ml], [arI G (X 1) 258 (s2Z (updZ (mixZ (g (kn - 1).toNat) v k) k (g (kn - 1).toNat k)) y)], [arI G (X 2) 516 (paF g)]]) (by rw [show updZ (s2Z (mixZ (g (kn - 1).toNat) v k) y) k (g (kn - 1).toNat k) = s2Z (updZ (mixZ (g (kn - 1).toNat) v k) k (g (kn - 1).toNat k)) y from s2_lw (by omega)]; rfl) (fun H locs hW => ?_)
          rw [mixZ_s, Int.add_comm k 1] at hW
          refine z_iinc C hl dX6_undo_50 53 rfl 0 rfl (z := 1 + k) (by omega) (by decide) (lv' := [(1, .int (iI (1 + k))), (0, .ref (X 0))]) rfl (fun ls hl => ?_)
          refine z_goto C dX6_undo_53 22 (by decide) ?_
          exact ih22 (1 + k) (by omega) _ _ hW (by omega) ls (lv_sub hl [0, 1] rfl)
    exact L22 (Int.toNat (129 - 0) + 1) 0 (by omega) _ _ hW (by omega) ls (lv_sub hl [0, 1] rfl)
  · skip
    refine z_bipush C dX6_undo_7 (by decide) 9 rfl ?_
    have e0 : undR kn = -5 := by unfold undR; exact if_pos c4
    have e1 : undN kn = 0 := by unfold undN; exact if_pos c4
    have e3 : undV kn g v = v := by unfold undV; exact if_pos c4
    rw [e0, e1, e3]
    subst c4
    exact z_wi C hW dX6_undo_9 rfl rfl

set_option maxHeartbeats 4000000 in
set_option maxRecDepth 100000 in
theorem m_xkeep (l : Launch) (G : gT) (X : Nat → Nat) (kn ml : Int) (kp : Bool) (v y sv : Int → Int)  (hD : gD ([[moO X kn kp ml], [arI G (X 1) 258 (s2Z v y)], [arI G (X 3) 129 sv]] : List va_W).flatten) : MW l G yX6_keep cX6_keep 2 (some .int) 0 [.ref (X 0)] [[moO X kn kp ml], [arI G (X 1) 258 (s2Z v y)], [arI G (X 3) 129 sv]] [[moO X kn true ml], [arI G (X 1) 258 (s2Z v y)], [arI G (X 3) 129 v]] ZT (some (.int (iI (v 126)))) := by
  refine enterW (own := RX6) (by decide +kernel) rfl (Nat.le_of_ble_eq_true rfl) hD ?_
  intro p e s m below meth c C hW hK hZ ls hl
  have hl : lv_has ls 2 [(0, .ref (X 0))] := hl
  refine z_iconst C dX6_keep_0 1 rfl ?_
  have hW := Wd.ceq (rs' := [[moO X kn kp ml], [arI G (X 1) 258 (s2Z v y)], [arI G (X 3) 129 (mixZ v sv 0)]]) hW ⟨ceq.rf, ⟨ceq.rf, ⟨ceq.I (fun k h8 h9 => (mixZ_0 h8).symm), trivial⟩⟩⟩
  refine z_is_n C hl dX6_keep_1 2 rfl (by decide) (lv' := [(1, .int (iI (0))), (0, .ref (X 0))]) rfl (fun ls hl => ?_)
  have L2 : ∀ (fu : Nat) (k : Int) (h1 : 0 ≤ k ∧ k ≤ 129) (H : Heap) (locs : List Loc) (hW : Wd G (adr ([[moO X kn kp ml], [arI G (X 1) 258 (s2Z v y)], [arI G (X 3) 129 sv]] : List va_W).flatten) [[moO X kn kp ml], [arI G (X 1) 258 (s2Z v y)], [arI G (X 3) 129 (mixZ v sv k)]] s.heap H locs) (hm : 129 - k < (fu : Int)) (ls : Array Slot) (hl : lv_has ls 2 [(1, .int (iI (k))), (0, .ref (X 0))]), W p l e (rmN 0) s m [.ref (X 0)].toArray below meth c H locs 0 0 (MQ below (QW G [[moO X kn kp ml], [arI G (X 1) 258 (s2Z v y)], [arI G (X 3) 129 sv]] [[moO X kn true ml], [arI G (X 1) 258 (s2Z v y)], [arI G (X 3) 129 v]] (some (.int (iI (v 126))))) [.ref (X 0)].toArray s 0 0 (adr ([[moO X kn kp ml], [arI G (X 1) 258 (s2Z v y)], [arI G (X 3) 129 sv]] : List va_W).flatten)) (F0 m 2 ls []) := by
    intro fu
    induction fu with
    | zero => intro k h1 H locs hW hm ls hl; exfalso; omega
    | succ fu ih =>
      intro k h1 H locs hW hm ls hl
      have ih2 := ih
      refine z_il_n C hl dX6_keep_2 0 rfl 3 rfl ?_
      refine z_sipush C dX6_keep_3 (by decide) 6 rfl ?_
      refine z_icmp_ge C dX6_keep_6 27 9 (by decide) rfl (by omega) (fun c6 => ?_) (fun c6 => ?_)
      · skip
        rw [show k = 129 by omega] at hW
        have hW := Wd.ceq (rs' := [[moO X kn kp ml], [arI G (X 1) 258 (s2Z v y)], [arI G (X 3) 129 v]]) hW ⟨ceq.rf, ⟨ceq.rf, ⟨ceq.I (fun k h8 h9 => mixZ_n (by omega)), trivial⟩⟩⟩
        refine z_al_n C hl dX6_keep_27 1 rfl 28 rfl ?_
        refine z_iconst C dX6_keep_28 29 rfl ?_
        refine z_put C hW hK fl_X6_167 fc_X6_4 0 rfl (rfl) (rfl) (Nat.le_of_ble_eq_true rfl) dX6_keep_29 32 rfl (rs' := [[(X 0, .inr (6, [.ref (X 1), .ref (X 2), .int (iI (kn)), .ref (X 3), .int (iI (1)), .ref (X 4), .int (iI (ml)), .ref (X 5), .ref (X 6), .ref (X 7), .ref (X 8)]))], [arI G (X 1) 258 (s2Z v y)], [arI G (X 3) 129 v]]) rfl (fun H locs hW => ?_)
        refine z_al_n C hl dX6_keep_32 1 rfl 33 rfl ?_
        refine z_get C hW.1 hK fl_X6_7 0 rfl rfl dX6_keep_33 36 rfl ?_
        refine z_bipush C dX6_keep_36 (by decide) 38 rfl ?_
        refine z_iaZ C (s2Z v y) hW.1 hK 1 rfl (by omega) (by decide) (v 126) (s2_lo (by omega)) dX6_keep_38 39 rfl ?_
        exact z_wi C hW dX6_keep_39 (rfl) rfl
      · skip
        refine z_al_n C hl dX6_keep_9 1 rfl 10 rfl ?_
        refine z_get C hW.1 hK fl_X6_16 0 rfl rfl dX6_keep_10 13 rfl ?_
        refine z_il_n C hl dX6_keep_13 0 rfl 14 rfl ?_
        refine z_al_n C hl dX6_keep_14 1 rfl 15 rfl ?_
        refine z_get C hW.1 hK fl_X6_7 0 rfl rfl dX6_keep_15 18 rfl ?_
        refine z_il_n C hl dX6_keep_18 0 rfl 19 rfl ?_
        refine z_iaZ C (s2Z v y) hW.1 hK 1 rfl (by omega) (by decide) (v k) (s2_lo (by omega)) dX6_keep_19 20 rfl ?_
        refine z_iasZ C ((mixZ v sv k)) hW hK 2 rfl (by omega) (by decide) dX6_keep_20 21 rfl (rs' := [[moO X kn kp ml], [arI G (X 1) 258 (s2Z v y)], [arI G (X 3) 129 (updZ (mixZ v sv k) k (v k))]]) rfl (fun H locs hW => ?_)
        rw [mixZ_s, Int.add_comm k 1] at hW
        refine z_iinc C hl dX6_keep_21 24 rfl 0 rfl (z := 1 + k) (by omega) (by decide) (lv' := [(1, .int (iI (1 + k))), (0, .ref (X 0))]) rfl (fun ls hl => ?_)
        refine z_goto C dX6_keep_24 2 (by decide) ?_
        exact ih2 (1 + k) (by omega) _ _ hW (by omega) ls (lv_sub hl [0, 1] rfl)
  exact L2 (Int.toNat (129 - 0) + 1) 0 (by omega) _ _ hW (by omega) ls (lv_sub hl [0, 1] rfl)

set_option maxHeartbeats 4000000 in
set_option maxRecDepth 100000 in
theorem m_xrestore (l : Launch) (G : gT) (X : Nat → Nat) (kn ml : Int) (kp : Bool) (v y sv : Int → Int) (g : Nat → Int → Int) (hkn : 0 ≤ kn ∧ kn ≤ 4) (ws : Wf sv) (hD : gD ([[moO X kn kp ml], [arI G (X 1) 258 (s2Z v y)], [arI G (X 2) 516 (paF g)], [arI G (X 3) 129 sv]] : List va_W).flatten) : MW l G yX6_restore cX6_restore 2 (some .int) 1 [.ref (X 0)] [[moO X kn kp ml], [arI G (X 1) 258 (s2Z v y)], [arI G (X 2) 516 (paF g)], [arI G (X 3) 129 sv]] [[moO X (actN (rstR kp sv) kn) kp ml], [arI G (X 1) 258 (s2Z (rstV kp sv v) y)], [arI G (X 2) 516 (paF (actG (rstR kp sv) kn g v))], [arI G (X 3) 129 sv]] ZT (some (.int (iI (rstR kp sv)))) := by
  refine enterW (own := RX6) (by decide +kernel) rfl (Nat.le_of_ble_eq_true rfl) hD ?_
  intro p e s m below meth c C hW hK hZ ls hl
  have hl : lv_has ls 2 [(0, .ref (X 0))] := hl
  refine z_al_n C hl dX6_restore_0 0 rfl 1 rfl ?_
  refine z_get C hW.1 hK fl_X6_167 0 rfl rfl dX6_restore_1 4 rfl ?_
  refine z_ifb_ne C dX6_restore_4 10 7 (by decide) rfl (fun c4 => ?_) (fun c4 => ?_)
  · skip
    refine z_al_n C hl dX6_restore_10 0 rfl 11 rfl ?_
    refine z_VWv (rest := []) C (m_xrem l G X kn ml kp v y g (by omega) (gD_rg hW.2.1 [0, 1, 2] (by decide) rfl)) kV_X6_47 ⟨Nat.le_of_ble_eq_true rfl, Nat.le_of_ble_eq_true rfl⟩ hW hK [0, 1, 2] rfl (sameA_of rfl) 0 rfl rfl rfl hl.1 rfl (Nat.le_of_ble_eq_true rfl) dX6_restore_11 ⟨Nat.le_of_ble_eq_true rfl, Nat.le_of_ble_eq_true rfl⟩ 14 rfl (rs' := [[moO X (recN kn) kp ml], [arI G (X 1) 258 (s2Z v y)], [arI G (X 2) 516 (paF (recG kn g v))], [arI G (X 3) 129 sv]]) rfl (fun H locs hW hkeep => ?_)
    refine z_iconst C dX6_restore_14 15 rfl ?_
    have hW := Wd.ceq (rs' := [[moO X (recN kn) kp ml], [arI G (X 1) 258 (s2Z (mixZ sv v 0) y)], [arI G (X 2) 516 (paF (recG kn g v))], [arI G (X 3) 129 sv]]) hW ⟨ceq.rf, ⟨ceq.I (fun k h8 h9 => by unfold s2Z; split <;> first | rfl | exact (mixZ_0 (by omega)).symm), ceqs.rf⟩⟩
    refine z_is_n C hl dX6_restore_15 16 rfl (by decide) (lv' := [(1, .int (iI (0))), (0, .ref (X 0))]) rfl (fun ls hl => ?_)
    have L16 : ∀ (fu : Nat) (k : Int) (h1 : 0 ≤ k ∧ k ≤ 129) (H : Heap) (locs : List Loc) (hW : Wd G (adr ([[moO X kn kp ml], [arI G (X 1) 258 (s2Z v y)], [arI G (X 2) 516 (paF g)], [arI G (X 3) 129 sv]] : List va_W).flatten) [[moO X (recN kn) kp ml], [arI G (X 1) 258 (s2Z (mixZ sv v k) y)], [arI G (X 2) 516 (paF (recG kn g v))], [arI G (X 3) 129 sv]] s.heap H locs) (hm : 129 - k < (fu : Int)) (ls : Array Slot) (hl : lv_has ls 2 [(1, .int (iI (k))), (0, .ref (X 0))]), W p l e (rmN 1) s m [.ref (X 0)].toArray below meth c H locs 0 0 (MQ below (QW G [[moO X kn kp ml], [arI G (X 1) 258 (s2Z v y)], [arI G (X 2) 516 (paF g)], [arI G (X 3) 129 sv]] [[moO X (actN (rstR kp sv) kn) kp ml], [arI G (X 1) 258 (s2Z (rstV kp sv v) y)], [arI G (X 2) 516 (paF (actG (rstR kp sv) kn g v))], [arI G (X 3) 129 sv]] (some (.int (iI (rstR kp sv))))) [.ref (X 0)].toArray s 0 0 (adr ([[moO X kn kp ml], [arI G (X 1) 258 (s2Z v y)], [arI G (X 2) 516 (paF g)], [arI G (X 3) 129 sv]] : List va_W).flatten)) (F0 m 16 ls []) := by
      intro fu
      induction fu with
      | zero => intro k h1 H locs hW hm ls hl; exfalso; omega
      | succ fu ih =>
        intro k h1 H locs hW hm ls hl
        have ih16 := ih
        refine z_il_n C hl dX6_restore_16 0 rfl 17 rfl ?_
        refine z_sipush C dX6_restore_17 (by decide) 20 rfl ?_
        refine z_icmp_ge C dX6_restore_20 41 23 (by decide) rfl (by omega) (fun c20 => ?_) (fun c20 => ?_)
        · skip
          rw [show k = 129 by omega] at hW
          have hW := Wd.ceq (rs' := [[moO X (recN kn) kp ml], [arI G (X 1) 258 (s2Z sv y)], [arI G (X 2) 516 (paF (recG kn g v))], [arI G (X 3) 129 sv]]) hW ⟨ceq.rf, ⟨ceq.I (fun k h8 h9 => by unfold s2Z; split <;> first | rfl | exact mixZ_n (by omega)), ceqs.rf⟩⟩
          refine z_al_n C hl dX6_restore_41 1 rfl 42 rfl ?_
          refine z_get C hW.1 hK fl_X6_7 0 rfl rfl dX6_restore_42 45 rfl ?_
          refine z_bipush C dX6_restore_45 (by decide) 47 rfl ?_
          refine z_iaZ C (s2Z sv y) hW.1 hK 1 rfl (by omega) (by decide) (sv 126) (s2_lo (by omega)) dX6_restore_47 48 rfl ?_
          subst c4
          have hx : 0 ≤ rstR true sv := ws.t.1
          have e1 : actN (rstR true sv) kn = recN kn := by unfold actN; exact if_pos hx
          have e3 : actG (rstR true sv) kn g v = recG kn g v := by unfold actG; exact if_pos hx
          rw [e1, e3]
          exact z_wi C hW dX6_restore_48 rfl rfl
        · skip
          refine z_al_n C hl dX6_restore_23 1 rfl 24 rfl ?_
          refine z_get C hW.1 hK fl_X6_7 0 rfl rfl dX6_restore_24 27 rfl ?_
          refine z_il_n C hl dX6_restore_27 0 rfl 28 rfl ?_
          refine z_al_n C hl dX6_restore_28 1 rfl 29 rfl ?_
          refine z_get C hW.1 hK fl_X6_16 0 rfl rfl dX6_restore_29 32 rfl ?_
          refine z_il_n C hl dX6_restore_32 0 rfl 33 rfl ?_
          refine z_iaZ C (sv) hW.1 hK 3 rfl (by omega) (by decide) (sv k) (rfl) dX6_restore_33 34 rfl ?_
          refine z_iasZ C (s2Z (mixZ sv v k) y) hW hK 1 rfl (by omega) (by decide) dX6_restore_34 35 rfl (rs' := [[moO X (recN kn) kp ml], [arI G (X 1) 258 (s2Z (updZ (mixZ sv v k) k (sv k)) y)], [arI G (X 2) 516 (paF (recG kn g v))], [arI G (X 3) 129 sv]]) (by rw [show updZ (s2Z (mixZ sv v k) y) k (sv k) = s2Z (updZ (mixZ sv v k) k (sv k)) y from s2_lw (by omega)]; rfl) (fun H locs hW => ?_)
          rw [mixZ_s, Int.add_comm k 1] at hW
          refine z_iinc C hl dX6_restore_35 38 rfl 0 rfl (z := 1 + k) (by omega) (by decide) (lv' := [(1, .int (iI (1 + k))), (0, .ref (X 0))]) rfl (fun ls hl => ?_)
          refine z_goto C dX6_restore_38 16 (by decide) ?_
          exact ih16 (1 + k) (by omega) _ _ hW (by omega) ls (lv_sub hl [0, 1] rfl)
    exact L16 (Int.toNat (129 - 0) + 1) 0 (by omega) _ _ hW (by omega) ls (lv_sub hl [0, 1] rfl)
  · skip
    refine z_bipush C dX6_restore_7 (by decide) 9 rfl ?_
    subst c4
    exact z_wi C hW dX6_restore_9 rfl rfl
