set_option maxHeartbeats 4000000 in
set_option maxRecDepth 100000 in
theorem m_xin (l : Launch) (G : gT) (x a b : Int) (hx : -2147483648 ≤ x ∧ x < 2147483648) (ha : -2147483648 ≤ a ∧ a < 2147483648) (hb : -2147483648 ≤ b ∧ b < 2147483648) : MR l G yX6_in cX6_in 3 (some .boolean) 0 [.int (iI (x)), .int (iI (a)), .int (iI (b))] [] ZT (.int (iI (bZ (decide (a ≤ x ∧ x ≤ b))))) := by
  refine enterR (own := RX6) (by decide +kernel) rfl (Nat.le_of_ble_eq_true rfl) ?_
  intro p e s m below meth c C hP hK hZ ls hl
  have hl : lv_has ls 3 [(0, .int (iI (x))), (1, .int (iI (a))), (2, .int (iI (b)))] := hl
  refine z_il_n C hl dX6_in_0 0 rfl 1 rfl ?_
  refine z_il_n C hl dX6_in_1 1 rfl 2 rfl ?_
  refine z_icmp_lt C dX6_in_2 14 5 (by decide) rfl (by omega) (fun c2 => ?_) (fun c2 => ?_)
  · skip
    refine z_iconst C dX6_in_14 15 rfl ?_
    exact z_rz C dX6_in_15 (bZ_df (by omega))
  · skip
    refine z_il_n C hl dX6_in_5 0 rfl 6 rfl ?_
    refine z_il_n C hl dX6_in_6 2 rfl 7 rfl ?_
    refine z_icmp_gt C dX6_in_7 14 10 (by decide) rfl (by omega) (fun c7 => ?_) (fun c7 => ?_)
    · skip
      refine z_iconst C dX6_in_14 15 rfl ?_
      exact z_rz C dX6_in_15 (bZ_df (by omega))
    · skip
      refine z_iconst C dX6_in_10 11 rfl ?_
      refine z_goto C dX6_in_11 15 (by decide) ?_
      exact z_rz C dX6_in_15 (bZ_dt (by omega))

set_option maxHeartbeats 4000000 in
set_option maxRecDepth 100000 in
theorem m_xisCell (l : Launch) (G : gT) (x : Int) (hx : -2147483648 ≤ x ∧ x < 2147483648) : MR l G yX6_isCell cX6_isCell 1 (some .boolean) 1 [.int (iI (x))] [] ZT (.int (iI (bZ (decide (0 ≤ x ∧ x < 36))))) := by
  refine enterR (own := RX6) (by decide +kernel) rfl (Nat.le_of_ble_eq_true rfl) ?_
  intro p e s m below meth c C hP hK hZ ls hl
  have hl : lv_has ls 1 [(0, .int (iI (x)))] := hl
  refine z_il_n C hl dX6_isCell_0 0 rfl 1 rfl ?_
  refine z_iconst C dX6_isCell_1 2 rfl ?_
  refine z_bipush C dX6_isCell_2 (by decide) 4 rfl ?_
  refine z_SR (r := .int (iI (bZ (decide (0 ≤ x ∧ x ≤ 35))))) (rest := []) C (m_xin l G x 0 35 (by omega) (by omega) (by omega)) kS_X6_35 ⟨Nat.le_of_ble_eq_true rfl, Nat.le_of_ble_eq_true rfl⟩ (gP_nil) hK rfl hl.1 rfl (Nat.le_of_ble_eq_true rfl) dX6_isCell_4 ⟨Nat.le_of_ble_eq_true rfl, Nat.le_of_ble_eq_true rfl⟩ 7 rfl ?_
  exact z_rz C dX6_isCell_7 (congrArg bZ (decide_eq_decide.mpr (by omega)))

set_option maxHeartbeats 4000000 in
set_option maxRecDepth 100000 in
theorem m_xhar (l : Launch) (G : gT) (x : Int) (hx : -2147483648 ≤ x ∧ x < 2147483648) : MR l G yX6_harbour cX6_harbour 1 (some .int) 0 [.int (iI (x))] [] ZT (.int (iI (harZ x))) := by
  refine enterR (own := RX6) (by decide +kernel) rfl (Nat.le_of_ble_eq_true rfl) ?_
  intro p e s m below meth c C hP hK hZ ls hl
  have hl : lv_has ls 1 [(0, .int (iI (x)))] := hl
  refine z_il_n C hl dX6_harbour_0 0 rfl 1 rfl ?_
  refine z_if_ne C dX6_harbour_1 9 4 (by decide) rfl (by omega) (fun c1 => ?_) (fun c1 => ?_)
  · skip
    refine z_iconst C dX6_harbour_9 10 rfl ?_
    exact z_ri C dX6_harbour_10 (by unfold harZ; split <;> omega)
  · skip
    refine z_bipush C dX6_harbour_4 (by decide) 6 rfl ?_
    refine z_goto C dX6_harbour_6 10 (by decide) ?_
    exact z_ri C dX6_harbour_10 (by unfold harZ; split <;> omega)

set_option maxHeartbeats 4000000 in
set_option maxRecDepth 100000 in
theorem m_xat (l : Launch) (G : gT) (z b : Int) : MR l G yX6_at cX6_at 2 (some .int) 0 [.int (iI (z)), .int (iI (b))] [] ZT (.int (iI (72 + 5 * b + z))) := by
  refine enterR (own := RX6) (by decide +kernel) rfl (Nat.le_of_ble_eq_true rfl) ?_
  intro p e s m below meth c C hP hK hZ ls hl
  have hl : lv_has ls 2 [(0, .int (iI (z))), (1, .int (iI (b)))] := hl
  refine z_il_n C hl dX6_at_0 0 rfl 1 rfl ?_
  refine z_bipush C dX6_at_1 (by decide) 3 rfl ?_
  refine z_iadd C dX6_at_3 4 rfl (72 + z) (by omega) ?_
  refine z_iconst C dX6_at_4 5 rfl ?_
  refine z_il_n C hl dX6_at_5 1 rfl 6 rfl ?_
  refine z_imul C dX6_at_6 7 rfl (5 * b) (rfl) ?_
  refine z_iadd C dX6_at_7 8 rfl (72 + 5 * b + z) (by omega) ?_
  exact z_ri C dX6_at_8 (rfl)

set_option maxHeartbeats 4000000 in
set_option maxRecDepth 100000 in
theorem m_xbes (l : Launch) (G : gT) (x d : Int) (hx : 0 ≤ x ∧ x < 36) (hd : 0 ≤ d ∧ d < 4) : MR l G yX6_beside cX6_beside 4 (some .int) 1 [.int (iI (x)), .int (iI (d))] [] ZT (.int (iI (nbZ x d))) := by
  refine enterR (own := RX6) (by decide +kernel) rfl (Nat.le_of_ble_eq_true rfl) ?_
  intro p e s m below meth c C hP hK hZ ls hl
  have hl : lv_has ls 4 [(0, .int (iI (x))), (1, .int (iI (d)))] := hl
  refine z_il_n C hl dX6_beside_0 0 rfl 1 rfl ?_
  refine z_bipush C dX6_beside_1 (by decide) 3 rfl ?_
  refine z_idiv C dX6_beside_3 4 rfl (by omega) ((x / 6)) (rfl) ?_
  refine z_il_n C hl dX6_beside_4 1 rfl 5 rfl ?_
  refine z_iconst C dX6_beside_5 6 rfl ?_
  refine z_icmp_ne C dX6_beside_6 13 9 (by decide) rfl (by omega) (fun c6 => ?_) (fun c6 => ?_)
  · skip
    refine z_il_n C hl dX6_beside_13 1 rfl 14 rfl ?_
    refine z_iconst C dX6_beside_14 15 rfl ?_
    refine z_icmp_ne C dX6_beside_15 22 18 (by decide) rfl (by omega) (fun c15 => ?_) (fun c15 => ?_)
    · skip
      refine z_iconst C dX6_beside_22 23 rfl ?_
      refine z_iadd C dX6_beside_23 24 rfl ((x / 6)) (by omega) ?_
      refine z_is_n C hl dX6_beside_24 25 rfl (by decide) (lv' := [(2, .int (iI ((x / 6)))), (0, .int (iI (x))), (1, .int (iI (d)))]) rfl (fun ls hl => ?_)
      refine z_il_n C hl dX6_beside_25 1 rfl 26 rfl ?_
      refine z_bipush C dX6_beside_26 (by decide) 28 rfl ?_
      refine z_irem C dX6_beside_28 29 rfl (by omega) ((x % 6)) (rfl) ?_
      refine z_il_n C hl dX6_beside_29 2 rfl 30 rfl ?_
      refine z_if_ne C dX6_beside_30 37 33 (by decide) rfl (by omega) (fun c30 => ?_) (fun c30 => ?_)
      · skip
        refine z_il_n C hl dX6_beside_37 2 rfl 38 rfl ?_
        refine z_iconst C dX6_beside_38 39 rfl ?_
        refine z_icmp_ne C dX6_beside_39 46 42 (by decide) rfl (by omega) (fun c39 => ?_) (fun c39 => ?_)
        · skip
          refine z_iconst C dX6_beside_46 47 rfl ?_
          refine z_iadd C dX6_beside_47 48 rfl ((x % 6)) (by omega) ?_
          refine z_is_n C hl dX6_beside_48 49 rfl (by decide) (lv' := [(3, .int (iI ((x % 6)))), (2, .int (iI ((x / 6)))), (0, .int (iI (x))), (1, .int (iI (d)))]) rfl (fun ls hl => ?_)
          refine z_il_n C hl dX6_beside_49 1 rfl 50 rfl ?_
          refine z_iconst C dX6_beside_50 51 rfl ?_
          refine z_iconst C dX6_beside_51 52 rfl ?_
          refine z_SR (r := .int (iI (bZ (decide (0 ≤ (x / 6) ∧ (x / 6) ≤ 5))))) (rest := []) C (m_xin l G (x / 6) 0 5 (by omega) (by omega) (by omega)) kS_X6_35 ⟨Nat.le_of_ble_eq_true rfl, Nat.le_of_ble_eq_true rfl⟩ (gP_nil) hK rfl hl.1 rfl (Nat.le_of_ble_eq_true rfl) dX6_beside_52 ⟨Nat.le_of_ble_eq_true rfl, Nat.le_of_ble_eq_true rfl⟩ 55 rfl ?_
          refine z_ifb_eq C dX6_beside_55 76 58 (by decide) rfl (fun c55 => ?_) (fun c55 => ?_)
          · skip
            simp only [decide_eq_true_eq, decide_eq_false_iff_not] at c55
            refine z_bipush C dX6_beside_76 (by decide) 78 rfl ?_
            exact z_ri C dX6_beside_78 (by unfold nbZ besZ; (repeat' split) <;> omega)
          · skip
            simp only [decide_eq_true_eq, decide_eq_false_iff_not] at c55
            refine z_il_n C hl dX6_beside_58 0 rfl 59 rfl ?_
            refine z_iconst C dX6_beside_59 60 rfl ?_
            refine z_iconst C dX6_beside_60 61 rfl ?_
            refine z_SR (r := .int (iI (bZ (decide (0 ≤ (x % 6) ∧ (x % 6) ≤ 5))))) (rest := []) C (m_xin l G (x % 6) 0 5 (by omega) (by omega) (by omega)) kS_X6_35 ⟨Nat.le_of_ble_eq_true rfl, Nat.le_of_ble_eq_true rfl⟩ (gP_nil) hK rfl hl.1 rfl (Nat.le_of_ble_eq_true rfl) dX6_beside_61 ⟨Nat.le_of_ble_eq_true rfl, Nat.le_of_ble_eq_true rfl⟩ 64 rfl ?_
            refine z_ifb_eq C dX6_beside_64 76 67 (by decide) rfl (fun c64 => ?_) (fun c64 => ?_)
            · skip
              simp only [decide_eq_true_eq, decide_eq_false_iff_not] at c64
              refine z_bipush C dX6_beside_76 (by decide) 78 rfl ?_
              exact z_ri C dX6_beside_78 (by unfold nbZ besZ; (repeat' split) <;> omega)
            · skip
              simp only [decide_eq_true_eq, decide_eq_false_iff_not] at c64
              refine z_bipush C dX6_beside_67 (by decide) 69 rfl ?_
              refine z_il_n C hl dX6_beside_69 1 rfl 70 rfl ?_
              refine z_imul C dX6_beside_70 71 rfl (6 * (x / 6)) (rfl) ?_
              refine z_il_n C hl dX6_beside_71 0 rfl 72 rfl ?_
              refine z_iadd C dX6_beside_72 73 rfl ((x % 6) + 6 * (x / 6)) (by omega) ?_
              refine z_goto C dX6_beside_73 78 (by decide) ?_
              exact z_ri C dX6_beside_78 (by unfold nbZ besZ; (repeat' split) <;> omega)
        · skip
          refine z_iconst C dX6_beside_42 43 rfl ?_
          refine z_goto C dX6_beside_43 47 (by decide) ?_
          refine z_iadd C dX6_beside_47 48 rfl ((x % 6) - 1) (by omega) ?_
          refine z_is_n C hl dX6_beside_48 49 rfl (by decide) (lv' := [(3, .int (iI ((x % 6) - 1))), (2, .int (iI ((x / 6)))), (0, .int (iI (x))), (1, .int (iI (d)))]) rfl (fun ls hl => ?_)
          refine z_il_n C hl dX6_beside_49 1 rfl 50 rfl ?_
          refine z_iconst C dX6_beside_50 51 rfl ?_
          refine z_iconst C dX6_beside_51 52 rfl ?_
          refine z_SR (r := .int (iI (bZ (decide (0 ≤ (x / 6) ∧ (x / 6) ≤ 5))))) (rest := []) C (m_xin l G (x / 6) 0 5 (by omega) (by omega) (by omega)) kS_X6_35 ⟨Nat.le_of_ble_eq_true rfl, Nat.le_of_ble_eq_true rfl⟩ (gP_nil) hK rfl hl.1 rfl (Nat.le_of_ble_eq_true rfl) dX6_beside_52 ⟨Nat.le_of_ble_eq_true rfl, Nat.le_of_ble_eq_true rfl⟩ 55 rfl ?_
          refine z_ifb_eq C dX6_beside_55 76 58 (by decide) rfl (fun c55 => ?_) (fun c55 => ?_)
          · skip
            simp only [decide_eq_true_eq, decide_eq_false_iff_not] at c55
            refine z_bipush C dX6_beside_76 (by decide) 78 rfl ?_
            exact z_ri C dX6_beside_78 (by unfold nbZ besZ; (repeat' split) <;> omega)
          · skip
            simp only [decide_eq_true_eq, decide_eq_false_iff_not] at c55
            refine z_il_n C hl dX6_beside_58 0 rfl 59 rfl ?_
            refine z_iconst C dX6_beside_59 60 rfl ?_
            refine z_iconst C dX6_beside_60 61 rfl ?_
            refine z_SR (r := .int (iI (bZ (decide (0 ≤ ((x % 6) - 1) ∧ ((x % 6) - 1) ≤ 5))))) (rest := []) C (m_xin l G ((x % 6) - 1) 0 5 (by omega) (by omega) (by omega)) kS_X6_35 ⟨Nat.le_of_ble_eq_true rfl, Nat.le_of_ble_eq_true rfl⟩ (gP_nil) hK rfl hl.1 rfl (Nat.le_of_ble_eq_true rfl) dX6_beside_61 ⟨Nat.le_of_ble_eq_true rfl, Nat.le_of_ble_eq_true rfl⟩ 64 rfl ?_
            refine z_ifb_eq C dX6_beside_64 76 67 (by decide) rfl (fun c64 => ?_) (fun c64 => ?_)
            · skip
              simp only [decide_eq_true_eq, decide_eq_false_iff_not] at c64
              refine z_bipush C dX6_beside_76 (by decide) 78 rfl ?_
              exact z_ri C dX6_beside_78 (by unfold nbZ besZ; (repeat' split) <;> omega)
            · skip
              simp only [decide_eq_true_eq, decide_eq_false_iff_not] at c64
              refine z_bipush C dX6_beside_67 (by decide) 69 rfl ?_
              refine z_il_n C hl dX6_beside_69 1 rfl 70 rfl ?_
              refine z_imul C dX6_beside_70 71 rfl (6 * (x / 6)) (rfl) ?_
              refine z_il_n C hl dX6_beside_71 0 rfl 72 rfl ?_
              refine z_iadd C dX6_beside_72 73 rfl ((x % 6) + 6 * (x / 6) - 1) (by omega) ?_
              refine z_goto C dX6_beside_73 78 (by decide) ?_
              exact z_ri C dX6_beside_78 (by unfold nbZ besZ; (repeat' split) <;> omega)
      · skip
        refine z_iconst C dX6_beside_33 34 rfl ?_
        refine z_goto C dX6_beside_34 47 (by decide) ?_
        refine z_iadd C dX6_beside_47 48 rfl (1 + (x % 6)) (by omega) ?_
        refine z_is_n C hl dX6_beside_48 49 rfl (by decide) (lv' := [(3, .int (iI (1 + (x % 6)))), (2, .int (iI ((x / 6)))), (0, .int (iI (x))), (1, .int (iI (d)))]) rfl (fun ls hl => ?_)
        refine z_il_n C hl dX6_beside_49 1 rfl 50 rfl ?_
        refine z_iconst C dX6_beside_50 51 rfl ?_
        refine z_iconst C dX6_beside_51 52 rfl ?_
        refine z_SR (r := .int (iI (bZ (decide (0 ≤ (x / 6) ∧ (x / 6) ≤ 5))))) (rest := []) C (m_xin l G (x / 6) 0 5 (by omega) (by omega) (by omega)) kS_X6_35 ⟨Nat.le_of_ble_eq_true rfl, Nat.le_of_ble_eq_true rfl⟩ (gP_nil) hK rfl hl.1 rfl (Nat.le_of_ble_eq_true rfl) dX6_beside_52 ⟨Nat.le_of_ble_eq_true rfl, Nat.le_of_ble_eq_true rfl⟩ 55 rfl ?_
        refine z_ifb_eq C dX6_beside_55 76 58 (by decide) rfl (fun c55 => ?_) (fun c55 => ?_)
        · skip
          simp only [decide_eq_true_eq, decide_eq_false_iff_not] at c55
          refine z_bipush C dX6_beside_76 (by decide) 78 rfl ?_
          exact z_ri C dX6_beside_78 (by unfold nbZ besZ; (repeat' split) <;> omega)
        · skip
          simp only [decide_eq_true_eq, decide_eq_false_iff_not] at c55
          refine z_il_n C hl dX6_beside_58 0 rfl 59 rfl ?_
          refine z_iconst C dX6_beside_59 60 rfl ?_
          refine z_iconst C dX6_beside_60 61 rfl ?_
          refine z_SR (r := .int (iI (bZ (decide (0 ≤ (1 + (x % 6)) ∧ (1 + (x % 6)) ≤ 5))))) (rest := []) C (m_xin l G (1 + (x % 6)) 0 5 (by omega) (by omega) (by omega)) kS_X6_35 ⟨Nat.le_of_ble_eq_true rfl, Nat.le_of_ble_eq_true rfl⟩ (gP_nil) hK rfl hl.1 rfl (Nat.le_of_ble_eq_true rfl) dX6_beside_61 ⟨Nat.le_of_ble_eq_true rfl, Nat.le_of_ble_eq_true rfl⟩ 64 rfl ?_
          refine z_ifb_eq C dX6_beside_64 76 67 (by decide) rfl (fun c64 => ?_) (fun c64 => ?_)
          · skip
            simp only [decide_eq_true_eq, decide_eq_false_iff_not] at c64
            refine z_bipush C dX6_beside_76 (by decide) 78 rfl ?_
            exact z_ri C dX6_beside_78 (by unfold nbZ besZ; (repeat' split) <;> omega)
          · skip
            simp only [decide_eq_true_eq, decide_eq_false_iff_not] at c64
            refine z_bipush C dX6_beside_67 (by decide) 69 rfl ?_
            refine z_il_n C hl dX6_beside_69 1 rfl 70 rfl ?_
            refine z_imul C dX6_beside_70 71 rfl (6 * (x / 6)) (rfl) ?_
            refine z_il_n C hl dX6_beside_71 0 rfl 72 rfl ?_
            refine z_iadd C dX6_beside_72 73 rfl (1 + (x % 6) + 6 * (x / 6)) (by omega) ?_
            refine z_goto C dX6_beside_73 78 (by decide) ?_
            exact z_ri C dX6_beside_78 (by unfold nbZ besZ; (repeat' split) <;> omega)
    · skip
      refine z_iconst C dX6_beside_18 19 rfl ?_
      refine z_goto C dX6_beside_19 23 (by decide) ?_
      refine z_iadd C dX6_beside_23 24 rfl ((x / 6) - 1) (by omega) ?_
      refine z_is_n C hl dX6_beside_24 25 rfl (by decide) (lv' := [(2, .int (iI ((x / 6) - 1))), (0, .int (iI (x))), (1, .int (iI (d)))]) rfl (fun ls hl => ?_)
      refine z_il_n C hl dX6_beside_25 1 rfl 26 rfl ?_
      refine z_bipush C dX6_beside_26 (by decide) 28 rfl ?_
      refine z_irem C dX6_beside_28 29 rfl (by omega) ((x % 6)) (rfl) ?_
      refine z_il_n C hl dX6_beside_29 2 rfl 30 rfl ?_
      refine z_if_ne C dX6_beside_30 37 33 (by decide) rfl (by omega) (fun c30 => ?_) (fun c30 => ?_)
      · skip
        refine z_il_n C hl dX6_beside_37 2 rfl 38 rfl ?_
        refine z_iconst C dX6_beside_38 39 rfl ?_
        refine z_icmp_ne C dX6_beside_39 46 42 (by decide) rfl (by omega) (fun c39 => ?_) (fun c39 => ?_)
        · skip
          refine z_iconst C dX6_beside_46 47 rfl ?_
          refine z_iadd C dX6_beside_47 48 rfl ((x % 6)) (by omega) ?_
          refine z_is_n C hl dX6_beside_48 49 rfl (by decide) (lv' := [(3, .int (iI ((x % 6)))), (2, .int (iI ((x / 6) - 1))), (0, .int (iI (x))), (1, .int (iI (d)))]) rfl (fun ls hl => ?_)
          refine z_il_n C hl dX6_beside_49 1 rfl 50 rfl ?_
          refine z_iconst C dX6_beside_50 51 rfl ?_
          refine z_iconst C dX6_beside_51 52 rfl ?_
          refine z_SR (r := .int (iI (bZ (decide (0 ≤ ((x / 6) - 1) ∧ ((x / 6) - 1) ≤ 5))))) (rest := []) C (m_xin l G ((x / 6) - 1) 0 5 (by omega) (by omega) (by omega)) kS_X6_35 ⟨Nat.le_of_ble_eq_true rfl, Nat.le_of_ble_eq_true rfl⟩ (gP_nil) hK rfl hl.1 rfl (Nat.le_of_ble_eq_true rfl) dX6_beside_52 ⟨Nat.le_of_ble_eq_true rfl, Nat.le_of_ble_eq_true rfl⟩ 55 rfl ?_
          refine z_ifb_eq C dX6_beside_55 76 58 (by decide) rfl (fun c55 => ?_) (fun c55 => ?_)
          · skip
            simp only [decide_eq_true_eq, decide_eq_false_iff_not] at c55
            refine z_bipush C dX6_beside_76 (by decide) 78 rfl ?_
            exact z_ri C dX6_beside_78 (by unfold nbZ besZ; (repeat' split) <;> omega)
          · skip
            simp only [decide_eq_true_eq, decide_eq_false_iff_not] at c55
            refine z_il_n C hl dX6_beside_58 0 rfl 59 rfl ?_
            refine z_iconst C dX6_beside_59 60 rfl ?_
            refine z_iconst C dX6_beside_60 61 rfl ?_
            refine z_SR (r := .int (iI (bZ (decide (0 ≤ (x % 6) ∧ (x % 6) ≤ 5))))) (rest := []) C (m_xin l G (x % 6) 0 5 (by omega) (by omega) (by omega)) kS_X6_35 ⟨Nat.le_of_ble_eq_true rfl, Nat.le_of_ble_eq_true rfl⟩ (gP_nil) hK rfl hl.1 rfl (Nat.le_of_ble_eq_true rfl) dX6_beside_61 ⟨Nat.le_of_ble_eq_true rfl, Nat.le_of_ble_eq_true rfl⟩ 64 rfl ?_
            refine z_ifb_eq C dX6_beside_64 76 67 (by decide) rfl (fun c64 => ?_) (fun c64 => ?_)
            · skip
              simp only [decide_eq_true_eq, decide_eq_false_iff_not] at c64
              refine z_bipush C dX6_beside_76 (by decide) 78 rfl ?_
              exact z_ri C dX6_beside_78 (by unfold nbZ besZ; (repeat' split) <;> omega)
            · skip
              simp only [decide_eq_true_eq, decide_eq_false_iff_not] at c64
              refine z_bipush C dX6_beside_67 (by decide) 69 rfl ?_
              refine z_il_n C hl dX6_beside_69 1 rfl 70 rfl ?_
              refine z_imul C dX6_beside_70 71 rfl (6 * (x / 6) - 6) (by omega) ?_
              refine z_il_n C hl dX6_beside_71 0 rfl 72 rfl ?_
              refine z_iadd C dX6_beside_72 73 rfl ((x % 6) + 6 * (x / 6) - 6) (by omega) ?_
              refine z_goto C dX6_beside_73 78 (by decide) ?_
              exact z_ri C dX6_beside_78 (by unfold nbZ besZ; (repeat' split) <;> omega)
        · skip
          refine z_iconst C dX6_beside_42 43 rfl ?_
          refine z_goto C dX6_beside_43 47 (by decide) ?_
          refine z_iadd C dX6_beside_47 48 rfl ((x % 6) - 1) (by omega) ?_
          refine z_is_n C hl dX6_beside_48 49 rfl (by decide) (lv' := [(3, .int (iI ((x % 6) - 1))), (2, .int (iI ((x / 6) - 1))), (0, .int (iI (x))), (1, .int (iI (d)))]) rfl (fun ls hl => ?_)
          refine z_il_n C hl dX6_beside_49 1 rfl 50 rfl ?_
          refine z_iconst C dX6_beside_50 51 rfl ?_
          refine z_iconst C dX6_beside_51 52 rfl ?_
          refine z_SR (r := .int (iI (bZ (decide (0 ≤ ((x / 6) - 1) ∧ ((x / 6) - 1) ≤ 5))))) (rest := []) C (m_xin l G ((x / 6) - 1) 0 5 (by omega) (by omega) (by omega)) kS_X6_35 ⟨Nat.le_of_ble_eq_true rfl, Nat.le_of_ble_eq_true rfl⟩ (gP_nil) hK rfl hl.1 rfl (Nat.le_of_ble_eq_true rfl) dX6_beside_52 ⟨Nat.le_of_ble_eq_true rfl, Nat.le_of_ble_eq_true rfl⟩ 55 rfl ?_
          refine z_ifb_eq C dX6_beside_55 76 58 (by decide) rfl (fun c55 => ?_) (fun c55 => ?_)
          · skip
            simp only [decide_eq_true_eq, decide_eq_false_iff_not] at c55
            refine z_bipush C dX6_beside_76 (by decide) 78 rfl ?_
            exact z_ri C dX6_beside_78 (by unfold nbZ besZ; (repeat' split) <;> omega)
          · skip
            simp only [decide_eq_true_eq, decide_eq_false_iff_not] at c55
            refine z_il_n C hl dX6_beside_58 0 rfl 59 rfl ?_
            refine z_iconst C dX6_beside_59 60 rfl ?_
            refine z_iconst C dX6_beside_60 61 rfl ?_
            refine z_SR (r := .int (iI (bZ (decide (0 ≤ ((x % 6) - 1) ∧ ((x % 6) - 1) ≤ 5))))) (rest := []) C (m_xin l G ((x % 6) - 1) 0 5 (by omega) (by omega) (by omega)) kS_X6_35 ⟨Nat.le_of_ble_eq_true rfl, Nat.le_of_ble_eq_true rfl⟩ (gP_nil) hK rfl hl.1 rfl (Nat.le_of_ble_eq_true rfl) dX6_beside_61 ⟨Nat.le_of_ble_eq_true rfl, Nat.le_of_ble_eq_true rfl⟩ 64 rfl ?_
            refine z_ifb_eq C dX6_beside_64 76 67 (by decide) rfl (fun c64 => ?_) (fun c64 => ?_)
            · skip
              simp only [decide_eq_true_eq, decide_eq_false_iff_not] at c64
              refine z_bipush C dX6_beside_76 (by decide) 78 rfl ?_
              exact z_ri C dX6_beside_78 (by unfold nbZ besZ; (repeat' split) <;> omega)
            · skip
              simp only [decide_eq_true_eq, decide_eq_false_iff_not] at c64
              refine z_bipush C dX6_beside_67 (by decide) 69 rfl ?_
              refine z_il_n C hl dX6_beside_69 1 rfl 70 rfl ?_
              refine z_imul C dX6_beside_70 71 rfl (6 * (x / 6) - 6) (by omega) ?_
              refine z_il_n C hl dX6_beside_71 0 rfl 72 rfl ?_
              refine z_iadd C dX6_beside_72 73 rfl ((x % 6) + 6 * (x / 6) - 7) (by omega) ?_
              refine z_goto C dX6_beside_73 78 (by decide) ?_
              exact z_ri C dX6_beside_78 (by unfold nbZ besZ; (repeat' split) <;> omega)
      · skip
        refine z_iconst C dX6_beside_33 34 rfl ?_
        refine z_goto C dX6_beside_34 47 (by decide) ?_
        refine z_iadd C dX6_beside_47 48 rfl (1 + (x % 6)) (by omega) ?_
        refine z_is_n C hl dX6_beside_48 49 rfl (by decide) (lv' := [(3, .int (iI (1 + (x % 6)))), (2, .int (iI ((x / 6) - 1))), (0, .int (iI (x))), (1, .int (iI (d)))]) rfl (fun ls hl => ?_)
        refine z_il_n C hl dX6_beside_49 1 rfl 50 rfl ?_
        refine z_iconst C dX6_beside_50 51 rfl ?_
        refine z_iconst C dX6_beside_51 52 rfl ?_
        refine z_SR (r := .int (iI (bZ (decide (0 ≤ ((x / 6) - 1) ∧ ((x / 6) - 1) ≤ 5))))) (rest := []) C (m_xin l G ((x / 6) - 1) 0 5 (by omega) (by omega) (by omega)) kS_X6_35 ⟨Nat.le_of_ble_eq_true rfl, Nat.le_of_ble_eq_true rfl⟩ (gP_nil) hK rfl hl.1 rfl (Nat.le_of_ble_eq_true rfl) dX6_beside_52 ⟨Nat.le_of_ble_eq_true rfl, Nat.le_of_ble_eq_true rfl⟩ 55 rfl ?_
        refine z_ifb_eq C dX6_beside_55 76 58 (by decide) rfl (fun c55 => ?_) (fun c55 => ?_)
        · skip
          simp only [decide_eq_true_eq, decide_eq_false_iff_not] at c55
          refine z_bipush C dX6_beside_76 (by decide) 78 rfl ?_
          exact z_ri C dX6_beside_78 (by unfold nbZ besZ; (repeat' split) <;> omega)
        · skip
          simp only [decide_eq_true_eq, decide_eq_false_iff_not] at c55
          refine z_il_n C hl dX6_beside_58 0 rfl 59 rfl ?_
          refine z_iconst C dX6_beside_59 60 rfl ?_
          refine z_iconst C dX6_beside_60 61 rfl ?_
          refine z_SR (r := .int (iI (bZ (decide (0 ≤ (1 + (x % 6)) ∧ (1 + (x % 6)) ≤ 5))))) (rest := []) C (m_xin l G (1 + (x % 6)) 0 5 (by omega) (by omega) (by omega)) kS_X6_35 ⟨Nat.le_of_ble_eq_true rfl, Nat.le_of_ble_eq_true rfl⟩ (gP_nil) hK rfl hl.1 rfl (Nat.le_of_ble_eq_true rfl) dX6_beside_61 ⟨Nat.le_of_ble_eq_true rfl, Nat.le_of_ble_eq_true rfl⟩ 64 rfl ?_
          refine z_ifb_eq C dX6_beside_64 76 67 (by decide) rfl (fun c64 => ?_) (fun c64 => ?_)
          · skip
            simp only [decide_eq_true_eq, decide_eq_false_iff_not] at c64
            refine z_bipush C dX6_beside_76 (by decide) 78 rfl ?_
            exact z_ri C dX6_beside_78 (by unfold nbZ besZ; (repeat' split) <;> omega)
          · skip
            simp only [decide_eq_true_eq, decide_eq_false_iff_not] at c64
            refine z_bipush C dX6_beside_67 (by decide) 69 rfl ?_
            refine z_il_n C hl dX6_beside_69 1 rfl 70 rfl ?_
            refine z_imul C dX6_beside_70 71 rfl (6 * (x / 6) - 6) (by omega) ?_
            refine z_il_n C hl dX6_beside_71 0 rfl 72 rfl ?_
            refine z_iadd C dX6_beside_72 73 rfl ((x % 6) + 6 * (x / 6) - 5) (by omega) ?_
            refine z_goto C dX6_beside_73 78 (by decide) ?_
            exact z_ri C dX6_beside_78 (by unfold nbZ besZ; (repeat' split) <;> omega)
  · skip
    refine z_iconst C dX6_beside_9 10 rfl ?_
    refine z_goto C dX6_beside_10 23 (by decide) ?_
    refine z_iadd C dX6_beside_23 24 rfl (1 + (x / 6)) (by omega) ?_
    refine z_is_n C hl dX6_beside_24 25 rfl (by decide) (lv' := [(2, .int (iI (1 + (x / 6)))), (0, .int (iI (x))), (1, .int (iI (d)))]) rfl (fun ls hl => ?_)
    refine z_il_n C hl dX6_beside_25 1 rfl 26 rfl ?_
    refine z_bipush C dX6_beside_26 (by decide) 28 rfl ?_
    refine z_irem C dX6_beside_28 29 rfl (by omega) ((x % 6)) (rfl) ?_
    refine z_il_n C hl dX6_beside_29 2 rfl 30 rfl ?_
    refine z_if_ne C dX6_beside_30 37 33 (by decide) rfl (by omega) (fun c30 => ?_) (fun c30 => ?_)
    · skip
      refine z_il_n C hl dX6_beside_37 2 rfl 38 rfl ?_
      refine z_iconst C dX6_beside_38 39 rfl ?_
      refine z_icmp_ne C dX6_beside_39 46 42 (by decide) rfl (by omega) (fun c39 => ?_) (fun c39 => ?_)
      · skip
        refine z_iconst C dX6_beside_46 47 rfl ?_
        refine z_iadd C dX6_beside_47 48 rfl ((x % 6)) (by omega) ?_
        refine z_is_n C hl dX6_beside_48 49 rfl (by decide) (lv' := [(3, .int (iI ((x % 6)))), (2, .int (iI (1 + (x / 6)))), (0, .int (iI (x))), (1, .int (iI (d)))]) rfl (fun ls hl => ?_)
        refine z_il_n C hl dX6_beside_49 1 rfl 50 rfl ?_
        refine z_iconst C dX6_beside_50 51 rfl ?_
        refine z_iconst C dX6_beside_51 52 rfl ?_
        refine z_SR (r := .int (iI (bZ (decide (0 ≤ (1 + (x / 6)) ∧ (1 + (x / 6)) ≤ 5))))) (rest := []) C (m_xin l G (1 + (x / 6)) 0 5 (by omega) (by omega) (by omega)) kS_X6_35 ⟨Nat.le_of_ble_eq_true rfl, Nat.le_of_ble_eq_true rfl⟩ (gP_nil) hK rfl hl.1 rfl (Nat.le_of_ble_eq_true rfl) dX6_beside_52 ⟨Nat.le_of_ble_eq_true rfl, Nat.le_of_ble_eq_true rfl⟩ 55 rfl ?_
        refine z_ifb_eq C dX6_beside_55 76 58 (by decide) rfl (fun c55 => ?_) (fun c55 => ?_)
        · skip
          simp only [decide_eq_true_eq, decide_eq_false_iff_not] at c55
          refine z_bipush C dX6_beside_76 (by decide) 78 rfl ?_
          exact z_ri C dX6_beside_78 (by unfold nbZ besZ; (repeat' split) <;> omega)
        · skip
          simp only [decide_eq_true_eq, decide_eq_false_iff_not] at c55
          refine z_il_n C hl dX6_beside_58 0 rfl 59 rfl ?_
          refine z_iconst C dX6_beside_59 60 rfl ?_
          refine z_iconst C dX6_beside_60 61 rfl ?_
          refine z_SR (r := .int (iI (bZ (decide (0 ≤ (x % 6) ∧ (x % 6) ≤ 5))))) (rest := []) C (m_xin l G (x % 6) 0 5 (by omega) (by omega) (by omega)) kS_X6_35 ⟨Nat.le_of_ble_eq_true rfl, Nat.le_of_ble_eq_true rfl⟩ (gP_nil) hK rfl hl.1 rfl (Nat.le_of_ble_eq_true rfl) dX6_beside_61 ⟨Nat.le_of_ble_eq_true rfl, Nat.le_of_ble_eq_true rfl⟩ 64 rfl ?_
          refine z_ifb_eq C dX6_beside_64 76 67 (by decide) rfl (fun c64 => ?_) (fun c64 => ?_)
          · skip
            simp only [decide_eq_true_eq, decide_eq_false_iff_not] at c64
            refine z_bipush C dX6_beside_76 (by decide) 78 rfl ?_
            exact z_ri C dX6_beside_78 (by unfold nbZ besZ; (repeat' split) <;> omega)
          · skip
            simp only [decide_eq_true_eq, decide_eq_false_iff_not] at c64
            refine z_bipush C dX6_beside_67 (by decide) 69 rfl ?_
            refine z_il_n C hl dX6_beside_69 1 rfl 70 rfl ?_
            refine z_imul C dX6_beside_70 71 rfl (6 + 6 * (x / 6)) (by omega) ?_
            refine z_il_n C hl dX6_beside_71 0 rfl 72 rfl ?_
            refine z_iadd C dX6_beside_72 73 rfl (6 + (x % 6) + 6 * (x / 6)) (by omega) ?_
            refine z_goto C dX6_beside_73 78 (by decide) ?_
            exact z_ri C dX6_beside_78 (by unfold nbZ besZ; (repeat' split) <;> omega)
      · skip
        refine z_iconst C dX6_beside_42 43 rfl ?_
        refine z_goto C dX6_beside_43 47 (by decide) ?_
        refine z_iadd C dX6_beside_47 48 rfl ((x % 6) - 1) (by omega) ?_
        refine z_is_n C hl dX6_beside_48 49 rfl (by decide) (lv' := [(3, .int (iI ((x % 6) - 1))), (2, .int (iI (1 + (x / 6)))), (0, .int (iI (x))), (1, .int (iI (d)))]) rfl (fun ls hl => ?_)
        refine z_il_n C hl dX6_beside_49 1 rfl 50 rfl ?_
        refine z_iconst C dX6_beside_50 51 rfl ?_
        refine z_iconst C dX6_beside_51 52 rfl ?_
        refine z_SR (r := .int (iI (bZ (decide (0 ≤ (1 + (x / 6)) ∧ (1 + (x / 6)) ≤ 5))))) (rest := []) C (m_xin l G (1 + (x / 6)) 0 5 (by omega) (by omega) (by omega)) kS_X6_35 ⟨Nat.le_of_ble_eq_true rfl, Nat.le_of_ble_eq_true rfl⟩ (gP_nil) hK rfl hl.1 rfl (Nat.le_of_ble_eq_true rfl) dX6_beside_52 ⟨Nat.le_of_ble_eq_true rfl, Nat.le_of_ble_eq_true rfl⟩ 55 rfl ?_
        refine z_ifb_eq C dX6_beside_55 76 58 (by decide) rfl (fun c55 => ?_) (fun c55 => ?_)
        · skip
          simp only [decide_eq_true_eq, decide_eq_false_iff_not] at c55
          refine z_bipush C dX6_beside_76 (by decide) 78 rfl ?_
          exact z_ri C dX6_beside_78 (by unfold nbZ besZ; (repeat' split) <;> omega)
        · skip
          simp only [decide_eq_true_eq, decide_eq_false_iff_not] at c55
          refine z_il_n C hl dX6_beside_58 0 rfl 59 rfl ?_
          refine z_iconst C dX6_beside_59 60 rfl ?_
          refine z_iconst C dX6_beside_60 61 rfl ?_
          refine z_SR (r := .int (iI (bZ (decide (0 ≤ ((x % 6) - 1) ∧ ((x % 6) - 1) ≤ 5))))) (rest := []) C (m_xin l G ((x % 6) - 1) 0 5 (by omega) (by omega) (by omega)) kS_X6_35 ⟨Nat.le_of_ble_eq_true rfl, Nat.le_of_ble_eq_true rfl⟩ (gP_nil) hK rfl hl.1 rfl (Nat.le_of_ble_eq_true rfl) dX6_beside_61 ⟨Nat.le_of_ble_eq_true rfl, Nat.le_of_ble_eq_true rfl⟩ 64 rfl ?_
          refine z_ifb_eq C dX6_beside_64 76 67 (by decide) rfl (fun c64 => ?_) (fun c64 => ?_)
          · skip
            simp only [decide_eq_true_eq, decide_eq_false_iff_not] at c64
            refine z_bipush C dX6_beside_76 (by decide) 78 rfl ?_
            exact z_ri C dX6_beside_78 (by unfold nbZ besZ; (repeat' split) <;> omega)
          · skip
            simp only [decide_eq_true_eq, decide_eq_false_iff_not] at c64
            refine z_bipush C dX6_beside_67 (by decide) 69 rfl ?_
            refine z_il_n C hl dX6_beside_69 1 rfl 70 rfl ?_
            refine z_imul C dX6_beside_70 71 rfl (6 + 6 * (x / 6)) (by omega) ?_
            refine z_il_n C hl dX6_beside_71 0 rfl 72 rfl ?_
            refine z_iadd C dX6_beside_72 73 rfl (5 + (x % 6) + 6 * (x / 6)) (by omega) ?_
            refine z_goto C dX6_beside_73 78 (by decide) ?_
            exact z_ri C dX6_beside_78 (by unfold nbZ besZ; (repeat' split) <;> omega)
    · skip
      refine z_iconst C dX6_beside_33 34 rfl ?_
      refine z_goto C dX6_beside_34 47 (by decide) ?_
      refine z_iadd C dX6_beside_47 48 rfl (1 + (x % 6)) (by omega) ?_
      refine z_is_n C hl dX6_beside_48 49 rfl (by decide) (lv' := [(3, .int (iI (1 + (x % 6)))), (2, .int (iI (1 + (x / 6)))), (0, .int (iI (x))), (1, .int (iI (d)))]) rfl (fun ls hl => ?_)
      refine z_il_n C hl dX6_beside_49 1 rfl 50 rfl ?_
      refine z_iconst C dX6_beside_50 51 rfl ?_
      refine z_iconst C dX6_beside_51 52 rfl ?_
      refine z_SR (r := .int (iI (bZ (decide (0 ≤ (1 + (x / 6)) ∧ (1 + (x / 6)) ≤ 5))))) (rest := []) C (m_xin l G (1 + (x / 6)) 0 5 (by omega) (by omega) (by omega)) kS_X6_35 ⟨Nat.le_of_ble_eq_true rfl, Nat.le_of_ble_eq_true rfl⟩ (gP_nil) hK rfl hl.1 rfl (Nat.le_of_ble_eq_true rfl) dX6_beside_52 ⟨Nat.le_of_ble_eq_true rfl, Nat.le_of_ble_eq_true rfl⟩ 55 rfl ?_
      refine z_ifb_eq C dX6_beside_55 76 58 (by decide) rfl (fun c55 => ?_) (fun c55 => ?_)
      · skip
        simp only [decide_eq_true_eq, decide_eq_false_iff_not] at c55
        refine z_bipush C dX6_beside_76 (by decide) 78 rfl ?_
        exact z_ri C dX6_beside_78 (by unfold nbZ besZ; (repeat' split) <;> omega)
      · skip
        simp only [decide_eq_true_eq, decide_eq_false_iff_not] at c55
        refine z_il_n C hl dX6_beside_58 0 rfl 59 rfl ?_
        refine z_iconst C dX6_beside_59 60 rfl ?_
        refine z_iconst C dX6_beside_60 61 rfl ?_
        refine z_SR (r := .int (iI (bZ (decide (0 ≤ (1 + (x % 6)) ∧ (1 + (x % 6)) ≤ 5))))) (rest := []) C (m_xin l G (1 + (x % 6)) 0 5 (by omega) (by omega) (by omega)) kS_X6_35 ⟨Nat.le_of_ble_eq_true rfl, Nat.le_of_ble_eq_true rfl⟩ (gP_nil) hK rfl hl.1 rfl (Nat.le_of_ble_eq_true rfl) dX6_beside_61 ⟨Nat.le_of_ble_eq_true rfl, Nat.le_of_ble_eq_true rfl⟩ 64 rfl ?_
        refine z_ifb_eq C dX6_beside_64 76 67 (by decide) rfl (fun c64 => ?_) (fun c64 => ?_)
        · skip
          simp only [decide_eq_true_eq, decide_eq_false_iff_not] at c64
          refine z_bipush C dX6_beside_76 (by decide) 78 rfl ?_
          exact z_ri C dX6_beside_78 (by unfold nbZ besZ; (repeat' split) <;> omega)
        · skip
          simp only [decide_eq_true_eq, decide_eq_false_iff_not] at c64
          refine z_bipush C dX6_beside_67 (by decide) 69 rfl ?_
          refine z_il_n C hl dX6_beside_69 1 rfl 70 rfl ?_
          refine z_imul C dX6_beside_70 71 rfl (6 + 6 * (x / 6)) (by omega) ?_
          refine z_il_n C hl dX6_beside_71 0 rfl 72 rfl ?_
          refine z_iadd C dX6_beside_72 73 rfl (7 + (x % 6) + 6 * (x / 6)) (by omega) ?_
          refine z_goto C dX6_beside_73 78 (by decide) ?_
          exact z_ri C dX6_beside_78 (by unfold nbZ besZ; (repeat' split) <;> omega)

set_option maxHeartbeats 4000000 in
set_option maxRecDepth 100000 in
theorem m_xwof (l : Launch) (G : gT) (d n : Int) (hd : -2147483648 ≤ d ∧ d < 2147483648) (hn : -2147483648 ≤ n ∧ n < 2147483648) : MR l G yX6_wayOf cX6_wayOf 2 (some .int) 1 [.int (iI (d)), .int (iI (n))] [] ZT (.int (iI (wofZ d n))) := by
  refine enterR (own := RX6) (by decide +kernel) rfl (Nat.le_of_ble_eq_true rfl) ?_
  intro p e s m below meth c C hP hK hZ ls hl
  have hl : lv_has ls 2 [(0, .int (iI (d))), (1, .int (iI (n)))] := hl
  refine z_il_n C hl dX6_wayOf_0 0 rfl 1 rfl ?_
  refine z_iconst C dX6_wayOf_1 2 rfl ?_
  refine z_iconst C dX6_wayOf_2 3 rfl ?_
  refine z_SR (r := .int (iI (bZ (decide (0 ≤ d ∧ d ≤ 3))))) (rest := []) C (m_xin l G d 0 3 (by omega) (by omega) (by omega)) kS_X6_35 ⟨Nat.le_of_ble_eq_true rfl, Nat.le_of_ble_eq_true rfl⟩ (gP_nil) hK rfl hl.1 rfl (Nat.le_of_ble_eq_true rfl) dX6_wayOf_3 ⟨Nat.le_of_ble_eq_true rfl, Nat.le_of_ble_eq_true rfl⟩ 6 rfl ?_
  refine z_ifb_eq C dX6_wayOf_6 27 9 (by decide) rfl (fun c6 => ?_) (fun c6 => ?_)
  · skip
    simp only [decide_eq_true_eq, decide_eq_false_iff_not] at c6
    refine z_bipush C dX6_wayOf_27 (by decide) 29 rfl ?_
    exact z_ri C dX6_wayOf_29 (by unfold wofZ; rw [if_neg (by omega)])
  · skip
    simp only [decide_eq_true_eq, decide_eq_false_iff_not] at c6
    refine z_il_n C hl dX6_wayOf_9 1 rfl 10 rfl ?_
    refine z_iconst C dX6_wayOf_10 11 rfl ?_
    refine z_iconst C dX6_wayOf_11 12 rfl ?_
    refine z_SR (r := .int (iI (bZ (decide (1 ≤ n ∧ n ≤ 3))))) (rest := []) C (m_xin l G n 1 3 (by omega) (by omega) (by omega)) kS_X6_35 ⟨Nat.le_of_ble_eq_true rfl, Nat.le_of_ble_eq_true rfl⟩ (gP_nil) hK rfl hl.1 rfl (Nat.le_of_ble_eq_true rfl) dX6_wayOf_12 ⟨Nat.le_of_ble_eq_true rfl, Nat.le_of_ble_eq_true rfl⟩ 15 rfl ?_
    refine z_ifb_eq C dX6_wayOf_15 27 18 (by decide) rfl (fun c15 => ?_) (fun c15 => ?_)
    · skip
      simp only [decide_eq_true_eq, decide_eq_false_iff_not] at c15
      refine z_bipush C dX6_wayOf_27 (by decide) 29 rfl ?_
      exact z_ri C dX6_wayOf_29 (by unfold wofZ; rw [if_neg (by omega)])
    · skip
      simp only [decide_eq_true_eq, decide_eq_false_iff_not] at c15
      refine z_bipush C dX6_wayOf_18 (by decide) 20 rfl ?_
      refine z_il_n C hl dX6_wayOf_20 0 rfl 21 rfl ?_
      refine z_imul C dX6_wayOf_21 22 rfl (10 * d) (rfl) ?_
      refine z_il_n C hl dX6_wayOf_22 1 rfl 23 rfl ?_
      refine z_iadd C dX6_wayOf_23 24 rfl (10 * d + n) (by omega) ?_
      refine z_goto C dX6_wayOf_24 29 (by decide) ?_
      exact z_ri C dX6_wayOf_29 (by unfold wofZ; rw [if_pos (by omega)])

set_option maxHeartbeats 4000000 in
set_option maxRecDepth 100000 in
theorem m_xisBoat (l : Launch) (G : gT) (X : Nat → Nat) (kn ml : Int) (kp : Bool) (f : Int → Int) (z : Int) (u : Int → Int) (b : Int) (w : Wf u) (hz : 0 ≤ z ∧ z ≤ 129) (hu : ∀ k : Int, 0 ≤ k → k < 129 → f (z + k) = u k) (hb : -2147483648 ≤ b ∧ b < 2147483648) : MR l G yX6_isBoat cX6_isBoat 3 (some .boolean) 1 [.ref (X 0), .int (iI (z)), .int (iI (b))] [[moO X kn kp ml], [arI G (X 1) 258 f]] ZT (.int (iI (bZ (decide (0 ≤ b ∧ b < u 127))))) := by
  refine enterR (own := RX6) (by decide +kernel) rfl (Nat.le_of_ble_eq_true rfl) ?_
  intro p e s m below meth c C hP hK hZ ls hl
  have hl : lv_has ls 3 [(0, .ref (X 0)), (1, .int (iI (z))), (2, .int (iI (b)))] := hl
  have hn := w.n
  refine z_il_n C hl dX6_isBoat_0 2 rfl 1 rfl ?_
  refine z_iconst C dX6_isBoat_1 2 rfl ?_
  refine z_al_n C hl dX6_isBoat_2 0 rfl 3 rfl ?_
  refine z_get C hP hK fl_X6_7 0 rfl rfl dX6_isBoat_3 6 rfl ?_
  refine z_il_n C hl dX6_isBoat_6 1 rfl 7 rfl ?_
  refine z_bipush C dX6_isBoat_7 (by decide) 9 rfl ?_
  refine z_iadd C dX6_isBoat_9 10 rfl (127 + z) (by omega) ?_
  refine z_iaZ C (f) hP hK 1 rfl (by omega) (by decide) (u 127) ((congrArg f (show (127 + z : Int) = z + 127 by omega)).trans (hu 127 (by omega) (by omega))) dX6_isBoat_10 11 rfl ?_
  refine z_iconst C dX6_isBoat_11 12 rfl ?_
  refine z_isub C dX6_isBoat_12 13 rfl (u 127 - 1) (by omega) ?_
  refine z_SR (r := .int (iI (bZ (decide (0 ≤ b ∧ b ≤ (u 127 - 1)))))) (rest := []) C (m_xin l G b 0 (u 127 - 1) (by omega) (by omega) (by omega)) kS_X6_35 ⟨Nat.le_of_ble_eq_true rfl, Nat.le_of_ble_eq_true rfl⟩ (gP_nil) hK rfl hl.1 rfl (Nat.le_of_ble_eq_true rfl) dX6_isBoat_13 ⟨Nat.le_of_ble_eq_true rfl, Nat.le_of_ble_eq_true rfl⟩ 16 rfl ?_
  exact z_rz C dX6_isBoat_16 (congrArg bZ (decide_eq_decide.mpr (by omega)))

set_option maxHeartbeats 4000000 in
set_option maxRecDepth 100000 in
theorem m_xits (l : Launch) (G : gT) (X : Nat → Nat) (kn ml : Int) (kp : Bool) (f : Int → Int) (z : Int) (u : Int → Int) (b k i : Int) (hz : 0 ≤ z ∧ z ≤ 129) (hu : ∀ k : Int, 0 ≤ k → k < 129 → f (z + k) = u k) (hi : 72 + 5 * b + k = i) (hi2 : 0 ≤ i ∧ i < 129) : MR l G yX6_its cX6_its 4 (some .int) 1 [.ref (X 0), .int (iI (z)), .int (iI (b)), .int (iI (k))] [[moO X kn kp ml], [arI G (X 1) 258 f]] ZT (.int (iI (u i))) := by
  refine enterR (own := RX6) (by decide +kernel) rfl (Nat.le_of_ble_eq_true rfl) ?_
  intro p e s m below meth c C hP hK hZ ls hl
  have hl : lv_has ls 4 [(0, .ref (X 0)), (1, .int (iI (z))), (2, .int (iI (b))), (3, .int (iI (k)))] := hl
  refine z_al_n C hl dX6_its_0 0 rfl 1 rfl ?_
  refine z_get C hP hK fl_X6_7 0 rfl rfl dX6_its_1 4 rfl ?_
  refine z_il_n C hl dX6_its_4 1 rfl 5 rfl ?_
  refine z_il_n C hl dX6_its_5 2 rfl 6 rfl ?_
  refine z_SR (r := .int (iI ((72 + 5 * b + z)))) (rest := [.ref (X 1)]) C (m_xat l G z b) kS_X6_39 ⟨Nat.le_of_ble_eq_true rfl, Nat.le_of_ble_eq_true rfl⟩ (gP_nil) hK rfl hl.1 rfl (Nat.le_of_ble_eq_true rfl) dX6_its_6 ⟨Nat.le_of_ble_eq_true rfl, Nat.le_of_ble_eq_true rfl⟩ 9 rfl ?_
  refine z_top (b := .int (iI (72 + 5 * b + z))) (congrArg (fun z => Value.int (iI z)) (by omega)) ?_
  refine z_il_n C hl dX6_its_9 3 rfl 10 rfl ?_
  refine z_iadd C dX6_its_10 11 rfl (72 + 5 * b + k + z) (by omega) ?_
  refine z_iaZ C (f) hP hK 1 rfl (by omega) (by decide) (u (72 + 5 * b + k)) ((congrArg f (show (72 + 5 * b + k + z : Int) = z + (72 + 5 * b + k) by omega)).trans (hu (72 + 5 * b + k) (by omega) (by omega))) dX6_its_11 12 rfl ?_
  exact z_ri C dX6_its_12 (by rw [hi])

set_option maxHeartbeats 4000000 in
set_option maxRecDepth 100000 in
theorem m_xtide (l : Launch) (G : gT) (X : Nat → Nat) (kn ml : Int) (kp : Bool) (f : Int → Int) (z : Int) (u : Int → Int) (t : Int) (w : Wf u) (hz : 0 ≤ z ∧ z ≤ 129) (hu : ∀ k : Int, 0 ≤ k → k < 129 → f (z + k) = u k) (ht : 0 ≤ t ∧ t < 1000000) : MR l G yX6_tideOf cX6_tideOf 5 (some .int) 0 [.ref (X 0), .int (iI (z)), .int (iI (t))] [[moO X kn kp ml], [arI G (X 1) 258 f]] ZT (.int (iI (tideZ u t))) := by
  refine enterR (own := RX6) (by decide +kernel) rfl (Nat.le_of_ble_eq_true rfl) ?_
  intro p e s m below meth c C hP hK hZ ls hl
  have hl : lv_has ls 5 [(0, .ref (X 0)), (1, .int (iI (z))), (2, .int (iI (t)))] := hl
  have hs := w.s
  have hst := stepZ_rng w t
  have hd := ediv_rng (a := t) (b := u 124) ht.1 (by omega)
  refine z_al_n C hl dX6_tideOf_0 0 rfl 1 rfl ?_
  refine z_get C hP hK fl_X6_7 0 rfl rfl dX6_tideOf_1 4 rfl ?_
  refine z_il_n C hl dX6_tideOf_4 1 rfl 5 rfl ?_
  refine z_bipush C dX6_tideOf_5 (by decide) 7 rfl ?_
  refine z_iadd C dX6_tideOf_7 8 rfl (122 + z) (by omega) ?_
  refine z_iconst C dX6_tideOf_8 9 rfl ?_
  refine z_iadd C dX6_tideOf_9 10 rfl (123 + z) (by omega) ?_
  refine z_iaZ C (f) hP hK 1 rfl (by omega) (by decide) (u 123) ((congrArg f (show (123 + z : Int) = z + 123 by omega)).trans (hu 123 (by omega) (by omega))) dX6_tideOf_10 11 rfl ?_
  refine z_is_n C hl dX6_tideOf_11 12 rfl (by decide) (lv' := [(3, .int (iI (u 123))), (0, .ref (X 0)), (1, .int (iI (z))), (2, .int (iI (t)))]) rfl (fun ls hl => ?_)
  refine z_il_n C hl dX6_tideOf_12 3 rfl 13 rfl ?_
  refine z_al_n C hl dX6_tideOf_13 1 rfl 14 rfl ?_
  refine z_get C hP hK fl_X6_7 0 rfl rfl dX6_tideOf_14 17 rfl ?_
  refine z_il_n C hl dX6_tideOf_17 2 rfl 18 rfl ?_
  refine z_bipush C dX6_tideOf_18 (by decide) 20 rfl ?_
  refine z_iadd C dX6_tideOf_20 21 rfl (122 + z) (by omega) ?_
  refine z_iconst C dX6_tideOf_21 22 rfl ?_
  refine z_iadd C dX6_tideOf_22 23 rfl (124 + z) (by omega) ?_
  refine z_iaZ C (f) hP hK 1 rfl (by omega) (by decide) (u 124) ((congrArg f (show (124 + z : Int) = z + 124 by omega)).trans (hu 124 (by omega) (by omega))) dX6_tideOf_23 24 rfl ?_
  refine z_idiv C dX6_tideOf_24 25 rfl (by omega) ((t / (u 124))) (rfl) ?_
  refine z_iconst C dX6_tideOf_25 26 rfl ?_
  refine z_il_n C hl dX6_tideOf_26 0 rfl 27 rfl ?_
  refine z_imul C dX6_tideOf_27 28 rfl (2 * u 123) (by omega) ?_
  refine z_irem C dX6_tideOf_28 29 rfl (by omega) (stepZ u t) (rfl) ?_
  refine z_is C hl dX6_tideOf_29 31 rfl (by decide) (lv' := [(4, .int (iI (stepZ u t))), (3, .int (iI (u 123))), (0, .ref (X 0)), (1, .int (iI (z))), (2, .int (iI (t)))]) rfl (fun ls hl => ?_)
  refine z_al_n C hl dX6_tideOf_31 2 rfl 32 rfl ?_
  refine z_get C hP hK fl_X6_7 0 rfl rfl dX6_tideOf_32 35 rfl ?_
  refine z_il_n C hl dX6_tideOf_35 3 rfl 36 rfl ?_
  refine z_bipush C dX6_tideOf_36 (by decide) 38 rfl ?_
  refine z_iadd C dX6_tideOf_38 39 rfl (122 + z) (by omega) ?_
  refine z_iaZ C (f) hP hK 1 rfl (by omega) (by decide) (u 122) ((congrArg f (show (122 + z : Int) = z + 122 by omega)).trans (hu 122 (by omega) (by omega))) dX6_tideOf_39 40 rfl ?_
  refine z_il C hl dX6_tideOf_40 0 rfl 42 rfl ?_
  refine z_il_n C hl dX6_tideOf_42 1 rfl 43 rfl ?_
  refine z_icmp_gt C dX6_tideOf_43 51 46 (by decide) rfl (by omega) (fun c43 => ?_) (fun c43 => ?_)
  · skip
    refine z_iconst C dX6_tideOf_51 52 rfl ?_
    refine z_il_n C hl dX6_tideOf_52 1 rfl 53 rfl ?_
    refine z_imul C dX6_tideOf_53 54 rfl (2 * u 123) (by omega) ?_
    refine z_il C hl dX6_tideOf_54 0 rfl 56 rfl ?_
    refine z_isub C dX6_tideOf_56 57 rfl (2 * u 123 - stepZ u t) (by omega) ?_
    refine z_iadd C dX6_tideOf_57 58 rfl (u 122 + 2 * u 123 - stepZ u t) (by omega) ?_
    exact z_ri C dX6_tideOf_58 (by unfold tideZ; split <;> omega)
  · skip
    refine z_il C hl dX6_tideOf_46 0 rfl 48 rfl ?_
    refine z_goto C dX6_tideOf_48 57 (by decide) ?_
    refine z_iadd C dX6_tideOf_57 58 rfl (stepZ u t + u 122) (by omega) ?_
    exact z_ri C dX6_tideOf_58 (by unfold tideZ; split <;> omega)

set_option maxHeartbeats 4000000 in
set_option maxRecDepth 100000 in
theorem m_xwater (l : Launch) (G : gT) (X : Nat → Nat) (kn ml : Int) (kp : Bool) (f : Int → Int) (z : Int) (u : Int → Int) (c0 t : Int) (w : Wf u) (hz : 0 ≤ z ∧ z ≤ 129) (hu : ∀ k : Int, 0 ≤ k → k < 129 → f (z + k) = u k) (hc : 0 ≤ c0 ∧ c0 < 36) (ht : 0 ≤ t ∧ t < 1000000) : MR l G yX6_water cX6_water 5 (some .int) 1 [.ref (X 0), .int (iI (z)), .int (iI (c0)), .int (iI (t))] [[moO X kn kp ml], [arI G (X 1) 258 f]] ZT (.int (iI (maxZ 0 (tideZ u t - u c0)))) := by
  refine enterR (own := RX6) (by decide +kernel) rfl (Nat.le_of_ble_eq_true rfl) ?_
  intro p e s m below meth c C hP hK hZ ls hl
  have hl : lv_has ls 5 [(0, .ref (X 0)), (1, .int (iI (z))), (2, .int (iI (c0))), (3, .int (iI (t)))] := hl
  have hh := w.h c0 hc
  refine z_al_n C hl dX6_water_0 0 rfl 1 rfl ?_
  refine z_il_n C hl dX6_water_1 1 rfl 2 rfl ?_
  refine z_il_n C hl dX6_water_2 3 rfl 3 rfl ?_
  refine z_VR (r := .int (iI (tideZ u t))) (rest := []) C (m_xtide l G X kn ml kp f z u t w (by omega) hu (by omega)) kV_X6_50 ⟨Nat.le_of_ble_eq_true rfl, Nat.le_of_ble_eq_true rfl⟩ hP hK 0 rfl rfl rfl hl.1 rfl (Nat.le_of_ble_eq_true rfl) dX6_water_3 ⟨Nat.le_of_ble_eq_true rfl, Nat.le_of_ble_eq_true rfl⟩ 6 rfl ?_
  have r3 := tideZ_rng w t
  refine z_al_n C hl dX6_water_6 0 rfl 7 rfl ?_
  refine z_get C hP hK fl_X6_7 0 rfl rfl dX6_water_7 10 rfl ?_
  refine z_il_n C hl dX6_water_10 1 rfl 11 rfl ?_
  refine z_iconst C dX6_water_11 12 rfl ?_
  refine z_iadd C dX6_water_12 13 rfl (z) (by omega) ?_
  refine z_il_n C hl dX6_water_13 2 rfl 14 rfl ?_
  refine z_iadd C dX6_water_14 15 rfl (c0 + z) (by omega) ?_
  refine z_iaZ C (f) hP hK 1 rfl (by omega) (by decide) (u c0) ((congrArg f (show (c0 + z : Int) = z + c0 by omega)).trans (hu c0 (by omega) (by omega))) dX6_water_15 16 rfl ?_
  refine z_isub C dX6_water_16 17 rfl (tideZ u t - u c0) (by omega) ?_
  refine z_is C hl dX6_water_17 19 rfl (by decide) (lv' := [(4, .int (iI (tideZ u t - u c0))), (0, .ref (X 0)), (1, .int (iI (z))), (2, .int (iI (c0))), (3, .int (iI (t)))]) rfl (fun ls hl => ?_)
  refine z_il C hl dX6_water_19 0 rfl 21 rfl ?_
  refine z_if_ge C dX6_water_21 28 24 (by decide) rfl (by omega) (fun c21 => ?_) (fun c21 => ?_)
  · skip
    refine z_il C hl dX6_water_28 0 rfl 30 rfl ?_
    exact z_ri C dX6_water_30 (by unfold maxZ; split <;> omega)
  · skip
    refine z_iconst C dX6_water_24 25 rfl ?_
    refine z_goto C dX6_water_25 30 (by decide) ?_
    exact z_ri C dX6_water_30 (by unfold maxZ; split <;> omega)

set_option maxHeartbeats 4000000 in
set_option maxRecDepth 100000 in
theorem m_xfloats (l : Launch) (G : gT) (X : Nat → Nat) (kn ml : Int) (kp : Bool) (f : Int → Int) (z : Int) (u : Int → Int) (c0 d t : Int) (w : Wf u) (hz : 0 ≤ z ∧ z ≤ 129) (hu : ∀ k : Int, 0 ≤ k → k < 129 → f (z + k) = u k) (hc : 0 ≤ c0 ∧ c0 < 36) (hd : 1 ≤ d ∧ d ≤ 10) (ht : 0 ≤ t ∧ t < 1000000) : MR l G yX6_floats cX6_floats 5 (some .boolean) 2 [.ref (X 0), .int (iI (z)), .int (iI (c0)), .int (iI (d)), .int (iI (t))] [[moO X kn kp ml], [arI G (X 1) 258 f]] ZT (.int (iI (bZ (wetB u c0 d t)))) := by
  refine enterR (own := RX6) (by decide +kernel) rfl (Nat.le_of_ble_eq_true rfl) ?_
  intro p e s m below meth c C hP hK hZ ls hl
  have hl : lv_has ls 5 [(0, .ref (X 0)), (1, .int (iI (z))), (2, .int (iI (c0))), (3, .int (iI (d))), (4, .int (iI (t)))] := hl
  refine z_al_n C hl dX6_floats_0 0 rfl 1 rfl ?_
  refine z_il_n C hl dX6_floats_1 1 rfl 2 rfl ?_
  refine z_il_n C hl dX6_floats_2 2 rfl 3 rfl ?_
  refine z_il C hl dX6_floats_3 4 rfl 5 rfl ?_
  refine z_VR (r := .int (iI (maxZ 0 (tideZ u t - u c0)))) (rest := []) C (m_xwater l G X kn ml kp f z u c0 t w (by omega) hu (by omega) (by omega)) kV_X6_53 ⟨Nat.le_of_ble_eq_true rfl, Nat.le_of_ble_eq_true rfl⟩ hP hK 0 rfl rfl rfl hl.1 rfl (Nat.le_of_ble_eq_true rfl) dX6_floats_5 ⟨Nat.le_of_ble_eq_true rfl, Nat.le_of_ble_eq_true rfl⟩ 8 rfl ?_
  have hr5 := tideZ_rng w t
  have hh5 := w.h c0 (by omega)
  have hm5 : (maxZ 0 (tideZ u t - u c0) = tideZ u t - u c0 ∧ 0 ≤ tideZ u t - u c0) ∨ (maxZ 0 (tideZ u t - u c0) = 0 ∧ tideZ u t - u c0 ≤ 0) := by unfold maxZ; split <;> omega
  refine z_il_n C hl dX6_floats_8 3 rfl 9 rfl ?_
  refine z_icmp_lt C dX6_floats_9 16 12 (by decide) rfl (by omega) (fun c9 => ?_) (fun c9 => ?_)
  · skip
    refine z_iconst C dX6_floats_16 17 rfl ?_
    exact z_rz C dX6_floats_17 (by unfold wetB; exact bZ_df (by omega))
  · skip
    refine z_iconst C dX6_floats_12 13 rfl ?_
    refine z_goto C dX6_floats_13 17 (by decide) ?_
    exact z_rz C dX6_floats_17 (by unfold wetB; exact bZ_dt (by omega))

set_option maxHeartbeats 4000000 in
set_option maxRecDepth 100000 in
theorem m_xwrecks (l : Launch) (G : gT) (X : Nat → Nat) (kn ml : Int) (kp : Bool) (f : Int → Int) (z : Int) (u : Int → Int) (c0 d t : Int) (w : Wf u) (hz : 0 ≤ z ∧ z ≤ 129) (hu : ∀ k : Int, 0 ≤ k → k < 129 → f (z + k) = u k) (hc : 0 ≤ c0 ∧ c0 < 36) (hd : 1 ≤ d ∧ d ≤ 10) (ht : 0 ≤ t ∧ t < 999999) : MR l G yX6_wrecks cX6_wrecks 5 (some .boolean) 3 [.ref (X 0), .int (iI (z)), .int (iI (c0)), .int (iI (d)), .int (iI (t))] [[moO X kn kp ml], [arI G (X 1) 258 f]] ZT (.int (iI (bZ (wreckB u c0 d t)))) := by
  refine enterR (own := RX6) (by decide +kernel) rfl (Nat.le_of_ble_eq_true rfl) ?_
  intro p e s m below meth c C hP hK hZ ls hl
  have hl : lv_has ls 5 [(0, .ref (X 0)), (1, .int (iI (z))), (2, .int (iI (c0))), (3, .int (iI (d))), (4, .int (iI (t)))] := hl
  have hr := w.r c0 hc
  refine z_al_n C hl dX6_wrecks_0 0 rfl 1 rfl ?_
  refine z_get C hP hK fl_X6_7 0 rfl rfl dX6_wrecks_1 4 rfl ?_
  refine z_il_n C hl dX6_wrecks_4 1 rfl 5 rfl ?_
  refine z_bipush C dX6_wrecks_5 (by decide) 7 rfl ?_
  refine z_iadd C dX6_wrecks_7 8 rfl (36 + z) (by omega) ?_
  refine z_il_n C hl dX6_wrecks_8 2 rfl 9 rfl ?_
  refine z_iadd C dX6_wrecks_9 10 rfl (36 + c0 + z) (by omega) ?_
  refine z_iaZ C (f) hP hK 1 rfl (by omega) (by decide) (u (36 + c0)) ((congrArg f (show (36 + c0 + z : Int) = z + (36 + c0) by omega)).trans (hu (36 + c0) (by omega) (by omega))) dX6_wrecks_10 11 rfl ?_
  refine z_iconst C dX6_wrecks_11 12 rfl ?_
  refine z_icmp_ne C dX6_wrecks_12 45 15 (by decide) rfl (by omega) (fun c12 => ?_) (fun c12 => ?_)
  · skip
    refine z_iconst C dX6_wrecks_45 46 rfl ?_
    exact z_rz C dX6_wrecks_46 (bZ_0 (by simp [wreckB, c12]))
  · skip
    refine z_al_n C hl dX6_wrecks_15 0 rfl 16 rfl ?_
    refine z_il_n C hl dX6_wrecks_16 1 rfl 17 rfl ?_
    refine z_il_n C hl dX6_wrecks_17 2 rfl 18 rfl ?_
    refine z_il_n C hl dX6_wrecks_18 3 rfl 19 rfl ?_
    refine z_il C hl dX6_wrecks_19 4 rfl 21 rfl ?_
    refine z_VR (r := .int (iI (bZ (wetB u c0 d t)))) (rest := []) C (m_xfloats l G X kn ml kp f z u c0 d t w (by omega) hu (by omega) (by omega) (by omega)) kV_X6_57 ⟨Nat.le_of_ble_eq_true rfl, Nat.le_of_ble_eq_true rfl⟩ hP hK 0 rfl rfl rfl hl.1 rfl (Nat.le_of_ble_eq_true rfl) dX6_wrecks_21 ⟨Nat.le_of_ble_eq_true rfl, Nat.le_of_ble_eq_true rfl⟩ 24 rfl ?_
    refine z_ifb_eq C dX6_wrecks_24 45 27 (by decide) rfl (fun c24 => ?_) (fun c24 => ?_)
    · skip
      refine z_iconst C dX6_wrecks_45 46 rfl ?_
      exact z_rz C dX6_wrecks_46 (bZ_0 (by simp [wreckB, c12, c24]))
    · skip
      refine z_al_n C hl dX6_wrecks_27 0 rfl 28 rfl ?_
      refine z_il_n C hl dX6_wrecks_28 1 rfl 29 rfl ?_
      refine z_il_n C hl dX6_wrecks_29 2 rfl 30 rfl ?_
      refine z_il_n C hl dX6_wrecks_30 3 rfl 31 rfl ?_
      refine z_il C hl dX6_wrecks_31 4 rfl 33 rfl ?_
      refine z_iconst C dX6_wrecks_33 34 rfl ?_
      refine z_iadd C dX6_wrecks_34 35 rfl (1 + t) (by omega) ?_
      refine z_VR (r := .int (iI (bZ (wetB u c0 d (1 + t))))) (rest := []) C (m_xfloats l G X kn ml kp f z u c0 d (1 + t) w (by omega) hu (by omega) (by omega) (by omega)) kV_X6_57 ⟨Nat.le_of_ble_eq_true rfl, Nat.le_of_ble_eq_true rfl⟩ hP hK 0 rfl rfl rfl hl.1 rfl (Nat.le_of_ble_eq_true rfl) dX6_wrecks_35 ⟨Nat.le_of_ble_eq_true rfl, Nat.le_of_ble_eq_true rfl⟩ 38 rfl ?_
      refine z_ifb_ne C dX6_wrecks_38 45 41 (by decide) rfl (fun c38 => ?_) (fun c38 => ?_)
      · skip
        refine z_iconst C dX6_wrecks_45 46 rfl ?_
        exact z_rz C dX6_wrecks_46 (bZ_0 (by simp [wreckB, c12, c24, c38]))
      · skip
        refine z_iconst C dX6_wrecks_41 42 rfl ?_
        refine z_goto C dX6_wrecks_42 46 (by decide) ?_
        exact z_rz C dX6_wrecks_46 (bZ_1 (by simp [wreckB, c12, c24, c38]))

set_option maxHeartbeats 4000000 in
set_option maxRecDepth 100000 in
theorem m_xway (l : Launch) (G : gT) (X : Nat → Nat) (kn ml : Int) (kp : Bool) (f : Int → Int) (z : Int) (u : Int → Int) (kd c0 wy t P D d n : Int) (w : Wf u) (hz : 0 ≤ z ∧ z ≤ 129) (hu : ∀ k : Int, 0 ≤ k → k < 129 → f (z + k) = u k) (hk : kd = 100 * P + D) (hP0 : 0 ≤ P ∧ P ≤ 1) (hD0 : 1 ≤ D ∧ D ≤ 3) (hwy : wy = 10 * d + n) (hd : 0 ≤ d ∧ d < 4) (hn : 1 ≤ n ∧ n ≤ 3) (hc : 0 ≤ c0 ∧ c0 < 36) (ht : 0 ≤ t ∧ t < 1000000) : MR l G yX6_wayEnd cX6_wayEnd 10 (some .int) 3 [.ref (X 0), .int (iI (z)), .int (iI (kd)), .int (iI (c0)), .int (iI (wy)), .int (iI (t))] [[moO X kn kp ml], [arI G (X 1) 258 f]] ZT (.int (iI (wayN u P D t d n.toNat c0))) := by
  refine enterR (own := RX6) (by decide +kernel) rfl (Nat.le_of_ble_eq_true rfl) ?_
  intro p e s m below meth c C hP hK hZ ls hl
  have hl : lv_has ls 10 [(0, .ref (X 0)), (1, .int (iI (z))), (2, .int (iI (kd))), (3, .int (iI (c0))), (4, .int (iI (wy))), (5, .int (iI (t)))] := hl
  refine z_il_n C hl dX6_wayEnd_0 2 rfl 1 rfl ?_
  refine z_bipush C dX6_wayEnd_1 (by decide) 3 rfl ?_
  refine z_idiv C dX6_wayEnd_3 4 rfl (by omega) (P) (by omega) ?_
  refine z_is C hl dX6_wayEnd_4 6 rfl (by decide) (lv' := [(6, .int (iI (P))), (0, .ref (X 0)), (1, .int (iI (z))), (2, .int (iI (kd))), (3, .int (iI (c0))), (4, .int (iI (wy))), (5, .int (iI (t)))]) rfl (fun ls hl => ?_)
  refine z_il_n C hl dX6_wayEnd_6 4 rfl 7 rfl ?_
  refine z_is C hl dX6_wayEnd_7 9 rfl (by decide) (lv' := [(7, .int (iI (c0))), (6, .int (iI (P))), (0, .ref (X 0)), (1, .int (iI (z))), (2, .int (iI (kd))), (3, .int (iI (c0))), (4, .int (iI (wy))), (5, .int (iI (t)))]) rfl (fun ls hl => ?_)
  refine z_iconst C dX6_wayEnd_9 10 rfl ?_
  refine z_is C hl dX6_wayEnd_10 12 rfl (by decide) (lv' := [(8, .int (iI (0))), (7, .int (iI (c0))), (6, .int (iI (P))), (0, .ref (X 0)), (1, .int (iI (z))), (2, .int (iI (kd))), (3, .int (iI (c0))), (4, .int (iI (wy))), (5, .int (iI (t)))]) rfl (fun ls hl => ?_)
  have L12 : ∀ (fu : Nat) (x : Int) (k : Int) (h1 : 0 ≤ k ∧ k ≤ n) (h2 : 0 ≤ x ∧ x < 36) (h3 : wayN u P D t d (n - k).toNat x = wayN u P D t d n.toNat c0) (hm : n - k < (fu : Int)) (ls : Array Slot) (hl : lv_has ls 10 [(8, .int (iI (k))), (7, .int (iI (x))), (6, .int (iI (P))), (5, .int (iI (t))), (4, .int (iI (wy))), (3, .int (iI (c0))), (2, .int (iI (kd))), (1, .int (iI (z))), (0, .ref (X 0))]), W p l e (rmN 3) s m [.ref (X 0), .int (iI (z)), .int (iI (kd)), .int (iI (c0)), .int (iI (wy)), .int (iI (t))].toArray below meth c s.heap [] 0 0 (MQ below (QR (.int (iI (wayN u P D t d n.toNat c0)))) [.ref (X 0), .int (iI (z)), .int (iI (kd)), .int (iI (c0)), .int (iI (wy)), .int (iI (t))].toArray s 0 0 (fun _ => False)) (F0 m 12 ls []) := by
    intro fu
    induction fu with
    | zero => intro x k h1 h2 h3 hm ls hl; exfalso; omega
    | succ fu ih =>
      intro x k h1 h2 h3 hm ls hl
      have ih12 := ih
      refine z_il C hl dX6_wayEnd_12 0 rfl 14 rfl ?_
      refine z_il C hl dX6_wayEnd_14 4 rfl 16 rfl ?_
      refine z_bipush C dX6_wayEnd_16 (by decide) 18 rfl ?_
      refine z_irem C dX6_wayEnd_18 19 rfl (by omega) (n) (by omega) ?_
      refine z_icmp_ge C dX6_wayEnd_19 105 22 (by decide) rfl (by omega) (fun c19 => ?_) (fun c19 => ?_)
      · skip
        refine z_il C hl dX6_wayEnd_105 1 rfl 107 rfl ?_
        exact z_ri C dX6_wayEnd_107 (by rw [← h3, wayN_0 (by omega)])
      · skip
        refine z_il C hl dX6_wayEnd_22 1 rfl 24 rfl ?_
        refine z_il C hl dX6_wayEnd_24 2 rfl 26 rfl ?_
        refine z_SR (r := .int (iI (harZ P))) (rest := [.int (iI (x))]) C (m_xhar l G P (by omega)) kS_X6_61 ⟨Nat.le_of_ble_eq_true rfl, Nat.le_of_ble_eq_true rfl⟩ (gP_nil) hK rfl hl.1 rfl (Nat.le_of_ble_eq_true rfl) dX6_wayEnd_26 ⟨Nat.le_of_ble_eq_true rfl, Nat.le_of_ble_eq_true rfl⟩ 29 rfl ?_
        have hh26 := harZ_rng P
        refine z_icmp_ne C dX6_wayEnd_29 36 32 (by decide) rfl (by omega) (fun c29 => ?_) (fun c29 => ?_)
        · skip
          skip
          refine z_iconst C dX6_wayEnd_36 37 rfl ?_
          refine z_is C hl dX6_wayEnd_37 39 rfl (by decide) (lv' := [(9, .int (iI (0))), (8, .int (iI (k))), (7, .int (iI (x))), (6, .int (iI (P))), (5, .int (iI (t))), (4, .int (iI (wy))), (3, .int (iI (c0))), (2, .int (iI (kd))), (1, .int (iI (z))), (0, .ref (X 0))]) rfl (fun ls hl => ?_)
          refine z_il C hl dX6_wayEnd_39 0 rfl 41 rfl ?_
          refine z_if_eq C dX6_wayEnd_41 49 44 (by decide) rfl (by omega) (fun c41 => ?_) (fun c41 => ?_)
          · skip
            refine z_il C hl dX6_wayEnd_49 2 rfl 51 rfl ?_
            refine z_il C hl dX6_wayEnd_51 5 rfl 53 rfl ?_
            refine z_bipush C dX6_wayEnd_53 (by decide) 55 rfl ?_
            refine z_idiv C dX6_wayEnd_55 56 rfl (by omega) (d) (by omega) ?_
            refine z_SR (r := .int (iI (nbZ x d))) (rest := []) C (m_xbes l G x d (by omega) (by omega)) kS_X6_65 ⟨Nat.le_of_ble_eq_true rfl, Nat.le_of_ble_eq_true rfl⟩ (gP_nil) hK rfl hl.1 rfl (Nat.le_of_ble_eq_true rfl) dX6_wayEnd_56 ⟨Nat.le_of_ble_eq_true rfl, Nat.le_of_ble_eq_true rfl⟩ 59 rfl ?_
            have hb56 := nbZ_rng x d
            refine z_is C hl dX6_wayEnd_59 61 rfl (by decide) (lv' := [(7, .int (iI (nbZ x d))), (9, .int (iI (0))), (8, .int (iI (k))), (6, .int (iI (P))), (5, .int (iI (t))), (4, .int (iI (wy))), (3, .int (iI (c0))), (2, .int (iI (kd))), (1, .int (iI (z))), (0, .ref (X 0))]) rfl (fun ls hl => ?_)
            refine z_il C hl dX6_wayEnd_61 0 rfl 63 rfl ?_
            refine z_bipush C dX6_wayEnd_63 (by decide) 65 rfl ?_
            refine z_icmp_eq C dX6_wayEnd_65 96 68 (by decide) rfl (by omega) (fun c65 => ?_) (fun c65 => ?_)
            · skip
              refine z_bipush C dX6_wayEnd_96 (by decide) 98 rfl ?_
              exact z_ri C dX6_wayEnd_98 (by rw [← h3, wayN_1 (k := n - k) (by omega), if_pos (Or.inr (Or.inl (nbZ_m c65)))])
            · skip
              have hbe := nbZ_e c65
              have hbn : besZ x d ≠ -1 := fun h => c65 (by unfold nbZ; exact if_pos h)
              have hbr9 := besZ_rng x d
              rw [nbZ_e c65] at hl
              refine z_il C hl dX6_wayEnd_68 0 rfl 70 rfl ?_
              refine z_iconst C dX6_wayEnd_70 71 rfl ?_
              refine z_il C hl dX6_wayEnd_71 3 rfl 73 rfl ?_
              refine z_isub C dX6_wayEnd_73 74 rfl (1 - P) (rfl) ?_
              refine z_SR (r := .int (iI (harZ (1 - P)))) (rest := [.int (iI (besZ x d))]) C (m_xhar l G (1 - P) (by omega)) kS_X6_61 ⟨Nat.le_of_ble_eq_true rfl, Nat.le_of_ble_eq_true rfl⟩ (gP_nil) hK rfl hl.1 rfl (Nat.le_of_ble_eq_true rfl) dX6_wayEnd_74 ⟨Nat.le_of_ble_eq_true rfl, Nat.le_of_ble_eq_true rfl⟩ 77 rfl ?_
              have hh74 := harZ_rng (1 - P)
              refine z_icmp_eq C dX6_wayEnd_77 96 80 (by decide) rfl (by omega) (fun c77 => ?_) (fun c77 => ?_)
              · skip
                refine z_bipush C dX6_wayEnd_96 (by decide) 98 rfl ?_
                exact z_ri C dX6_wayEnd_98 (by rw [← h3, wayN_1 (k := n - k) (by omega), if_pos (Or.inr (Or.inr (Or.inl c77)))])
              · skip
                refine z_al_n C hl dX6_wayEnd_80 9 rfl 81 rfl ?_
                refine z_il_n C hl dX6_wayEnd_81 8 rfl 82 rfl ?_
                refine z_il C hl dX6_wayEnd_82 0 rfl 84 rfl ?_
                refine z_il_n C hl dX6_wayEnd_84 7 rfl 85 rfl ?_
                refine z_bipush C dX6_wayEnd_85 (by decide) 87 rfl ?_
                refine z_irem C dX6_wayEnd_87 88 rfl (by omega) (D) (by omega) ?_
                refine z_il C hl dX6_wayEnd_88 4 rfl 90 rfl ?_
                refine z_VR (r := .int (iI (bZ (wetB u (besZ x d) D t)))) (rest := []) C (m_xfloats l G X kn ml kp f z u (besZ x d) D t w (by omega) hu (by omega) (by omega) (by omega)) kV_X6_57 ⟨Nat.le_of_ble_eq_true rfl, Nat.le_of_ble_eq_true rfl⟩ hP hK 0 rfl rfl rfl hl.1 rfl (Nat.le_of_ble_eq_true rfl) dX6_wayEnd_90 ⟨Nat.le_of_ble_eq_true rfl, Nat.le_of_ble_eq_true rfl⟩ 93 rfl ?_
                refine z_ifb_ne C dX6_wayEnd_93 99 96 (by decide) rfl (fun c93 => ?_) (fun c93 => ?_)
                · skip
                  refine z_iinc C hl dX6_wayEnd_99 102 rfl 2 rfl (z := 1 + k) (by omega) (by decide) (lv' := [(8, .int (iI (1 + k))), (7, .int (iI (besZ x d))), (9, .int (iI (0))), (6, .int (iI (P))), (5, .int (iI (t))), (4, .int (iI (wy))), (3, .int (iI (c0))), (2, .int (iI (kd))), (1, .int (iI (z))), (0, .ref (X 0))]) rfl (fun ls hl => ?_)
                  refine z_goto C dX6_wayEnd_102 12 (by decide) ?_
                  exact ih12 (besZ x d) (1 + k) (by omega) (by omega) (by rw [← h3, wayN_1 (k := n - k) (by omega), if_neg (by rintro (h | h | h | h) <;> first | omega | (rw [c93] at h; cases h)), show n - k - 1 = n - (1 + k) by omega]) (by omega) ls (lv_sub hl [0, 1, 3, 4, 5, 6, 7, 8, 9] rfl)
                · skip
                  refine z_bipush C dX6_wayEnd_96 (by decide) 98 rfl ?_
                  exact z_ri C dX6_wayEnd_98 (by rw [← h3, wayN_1 (k := n - k) (by omega), if_pos (Or.inr (Or.inr (Or.inr c93)))])
          · exfalso; omega
        · skip
          skip
          refine z_iconst C dX6_wayEnd_32 33 rfl ?_
          refine z_goto C dX6_wayEnd_33 37 (by decide) ?_
          refine z_is C hl dX6_wayEnd_37 39 rfl (by decide) (lv' := [(9, .int (iI (1))), (8, .int (iI (k))), (7, .int (iI (x))), (6, .int (iI (P))), (5, .int (iI (t))), (4, .int (iI (wy))), (3, .int (iI (c0))), (2, .int (iI (kd))), (1, .int (iI (z))), (0, .ref (X 0))]) rfl (fun ls hl => ?_)
          refine z_il C hl dX6_wayEnd_39 0 rfl 41 rfl ?_
          refine z_if_eq C dX6_wayEnd_41 49 44 (by decide) rfl (by omega) (fun c41 => ?_) (fun c41 => ?_)
          · exfalso; omega
          · skip
            refine z_bipush C dX6_wayEnd_44 (by decide) 46 rfl ?_
            refine z_goto C dX6_wayEnd_46 59 (by decide) ?_
            refine z_is C hl dX6_wayEnd_59 61 rfl (by decide) (lv' := [(7, .int (iI (-5))), (9, .int (iI (1))), (8, .int (iI (k))), (6, .int (iI (P))), (5, .int (iI (t))), (4, .int (iI (wy))), (3, .int (iI (c0))), (2, .int (iI (kd))), (1, .int (iI (z))), (0, .ref (X 0))]) rfl (fun ls hl => ?_)
            refine z_il C hl dX6_wayEnd_61 0 rfl 63 rfl ?_
            refine z_bipush C dX6_wayEnd_63 (by decide) 65 rfl ?_
            refine z_icmp_eq C dX6_wayEnd_65 96 68 (by decide) rfl (by omega) (fun c65 => ?_) (fun c65 => ?_)
            · skip
              refine z_bipush C dX6_wayEnd_96 (by decide) 98 rfl ?_
              exact z_ri C dX6_wayEnd_98 (by rw [← h3, wayN_1 (k := n - k) (by omega), if_pos (Or.inl c29)])
            · exfalso; omega
  exact L12 (Int.toNat (n - 0) + 1) c0 0 (by omega) (by omega) (by rw [Int.sub_zero]) (by omega) ls (lv_sub hl [0, 1, 2, 8, 7, 6, 5, 4, 3] rfl)

set_option maxHeartbeats 4000000 in
set_option maxRecDepth 100000 in
theorem m_xbat (l : Launch) (G : gT) (X : Nat → Nat) (kn ml : Int) (kp : Bool) (f : Int → Int) (z : Int) (u : Int → Int) (x : Int) (w : Wf u) (hz : 0 ≤ z ∧ z ≤ 129) (hu : ∀ k : Int, 0 ≤ k → k < 129 → f (z + k) = u k) (hx : -2147483648 ≤ x ∧ x < 2147483648) : MR l G yX6_boatAt cX6_boatAt 4 (some .int) 2 [.ref (X 0), .int (iI (z)), .int (iI (x))] [[moO X kn kp ml], [arI G (X 1) 258 f]] ZT (.int (iI (batZ u x))) := by
  refine enterR (own := RX6) (by decide +kernel) rfl (Nat.le_of_ble_eq_true rfl) ?_
  intro p e s m below meth c C hP hK hZ ls hl
  have hl : lv_has ls 4 [(0, .ref (X 0)), (1, .int (iI (z))), (2, .int (iI (x)))] := hl
  have hn := w.n
  refine z_iconst C dX6_boatAt_0 1 rfl ?_
  refine z_is_n C hl dX6_boatAt_1 2 rfl (by decide) (lv' := [(3, .int (iI (0))), (0, .ref (X 0)), (1, .int (iI (z))), (2, .int (iI (x)))]) rfl (fun ls hl => ?_)
  have L2 : ∀ (fu : Nat) (k : Int) (h1 : 0 ≤ k ∧ k ≤ u 127) (h2 : batN u x (u 127 - k).toNat k = batZ u x) (hm : u 127 - k < (fu : Int)) (ls : Array Slot) (hl : lv_has ls 4 [(3, .int (iI (k))), (2, .int (iI (x))), (1, .int (iI (z))), (0, .ref (X 0))]), W p l e (rmN 2) s m [.ref (X 0), .int (iI (z)), .int (iI (x))].toArray below meth c s.heap [] 0 0 (MQ below (QR (.int (iI (batZ u x)))) [.ref (X 0), .int (iI (z)), .int (iI (x))].toArray s 0 0 (fun _ => False)) (F0 m 2 ls []) := by
    intro fu
    induction fu with
    | zero => intro k h1 h2 hm ls hl; exfalso; omega
    | succ fu ih =>
      intro k h1 h2 hm ls hl
      have ih2 := ih
      refine z_il_n C hl dX6_boatAt_2 0 rfl 3 rfl ?_
      refine z_al_n C hl dX6_boatAt_3 3 rfl 4 rfl ?_
      refine z_get C hP hK fl_X6_7 0 rfl rfl dX6_boatAt_4 7 rfl ?_
      refine z_il_n C hl dX6_boatAt_7 2 rfl 8 rfl ?_
      refine z_bipush C dX6_boatAt_8 (by decide) 10 rfl ?_
      refine z_iadd C dX6_boatAt_10 11 rfl (127 + z) (by omega) ?_
      refine z_iaZ C (f) hP hK 1 rfl (by omega) (by decide) (u 127) ((congrArg f (show (127 + z : Int) = z + 127 by omega)).trans (hu 127 (by omega) (by omega))) dX6_boatAt_11 12 rfl ?_
      refine z_icmp_ge C dX6_boatAt_12 44 15 (by decide) rfl (by omega) (fun c12 => ?_) (fun c12 => ?_)
      · skip
        refine z_bipush C dX6_boatAt_44 (by decide) 46 rfl ?_
        exact z_ri C dX6_boatAt_46 (by rw [← h2]; exact (batN_end (by omega)).symm)
      · skip
        have hk := w.b k (by omega)
        refine z_al_n C hl dX6_boatAt_15 3 rfl 16 rfl ?_
        refine z_il_n C hl dX6_boatAt_16 2 rfl 17 rfl ?_
        refine z_il_n C hl dX6_boatAt_17 0 rfl 18 rfl ?_
        refine z_iconst C dX6_boatAt_18 19 rfl ?_
        refine z_VR (r := .int (iI (u (74 + 5 * k)))) (rest := []) C (m_xits l G X kn ml kp f z u k 2 (74 + 5 * k)  (by omega) hu (by omega) (by omega)) kV_X6_68 ⟨Nat.le_of_ble_eq_true rfl, Nat.le_of_ble_eq_true rfl⟩ hP hK 0 rfl rfl rfl hl.1 rfl (Nat.le_of_ble_eq_true rfl) dX6_boatAt_19 ⟨Nat.le_of_ble_eq_true rfl, Nat.le_of_ble_eq_true rfl⟩ 22 rfl ?_
        refine z_if_ne C dX6_boatAt_22 38 25 (by decide) rfl (by omega) (fun c22 => ?_) (fun c22 => ?_)
        · skip
          refine z_iinc C hl dX6_boatAt_38 41 rfl 0 rfl (z := 1 + k) (by omega) (by decide) (lv' := [(3, .int (iI (1 + k))), (2, .int (iI (x))), (1, .int (iI (z))), (0, .ref (X 0))]) rfl (fun ls hl => ?_)
          refine z_goto C dX6_boatAt_41 2 (by decide) ?_
          exact ih2 (1 + k) (by omega) (by rw [← h2]; exact (batN_miss (by omega) (by omega) (by omega)).symm) (by omega) ls (lv_sub hl [0, 1, 2, 3] rfl)
        · skip
          refine z_al_n C hl dX6_boatAt_25 3 rfl 26 rfl ?_
          refine z_il_n C hl dX6_boatAt_26 2 rfl 27 rfl ?_
          refine z_il_n C hl dX6_boatAt_27 0 rfl 28 rfl ?_
          refine z_iconst C dX6_boatAt_28 29 rfl ?_
          refine z_VR (r := .int (iI (u (75 + 5 * k)))) (rest := []) C (m_xits l G X kn ml kp f z u k 3 (75 + 5 * k)  (by omega) hu (by omega) (by omega)) kV_X6_68 ⟨Nat.le_of_ble_eq_true rfl, Nat.le_of_ble_eq_true rfl⟩ hP hK 0 rfl rfl rfl hl.1 rfl (Nat.le_of_ble_eq_true rfl) dX6_boatAt_29 ⟨Nat.le_of_ble_eq_true rfl, Nat.le_of_ble_eq_true rfl⟩ 32 rfl ?_
          refine z_il_n C hl dX6_boatAt_32 1 rfl 33 rfl ?_
          refine z_icmp_ne C dX6_boatAt_33 38 36 (by decide) rfl (by omega) (fun c33 => ?_) (fun c33 => ?_)
          · skip
            refine z_iinc C hl dX6_boatAt_38 41 rfl 0 rfl (z := 1 + k) (by omega) (by decide) (lv' := [(3, .int (iI (1 + k))), (2, .int (iI (x))), (1, .int (iI (z))), (0, .ref (X 0))]) rfl (fun ls hl => ?_)
            refine z_goto C dX6_boatAt_41 2 (by decide) ?_
            exact ih2 (1 + k) (by omega) (by rw [← h2]; exact (batN_miss (by omega) (by omega) (by omega)).symm) (by omega) ls (lv_sub hl [0, 1, 2, 3] rfl)
          · skip
            refine z_il_n C hl dX6_boatAt_36 0 rfl 37 rfl ?_
            exact z_ri C dX6_boatAt_37 (by rw [← h2]; exact (batN_hit (by omega) ⟨c22, c33⟩).symm)
  exact L2 (Int.toNat (u 127 - 0) + 1) 0 (by omega) (by rw [Int.sub_zero]; rfl) (by omega) ls (lv_sub hl [0, 3, 2, 1] rfl)

set_option maxHeartbeats 4000000 in
set_option maxRecDepth 100000 in
theorem m_xafl (l : Launch) (G : gT) (X : Nat → Nat) (kn ml : Int) (kp : Bool) (f : Int → Int) (z : Int) (u : Int → Int) (b : Int) (w : Wf u) (hz : 0 ≤ z ∧ z ≤ 129) (hu : ∀ k : Int, 0 ≤ k → k < 129 → f (z + k) = u k) (hb : 0 ≤ b ∧ b < u 127) : MR l G yX6_isAfloat cX6_isAfloat 3 (some .boolean) 3 [.ref (X 0), .int (iI (z)), .int (iI (b))] [[moO X kn kp ml], [arI G (X 1) 258 f]] ZT (.int (iI (bZ (onB u b && floB u b)))) := by
  refine enterR (own := RX6) (by decide +kernel) rfl (Nat.le_of_ble_eq_true rfl) ?_
  intro p e s m below meth c C hP hK hZ ls hl
  have hl : lv_has ls 3 [(0, .ref (X 0)), (1, .int (iI (z))), (2, .int (iI (b)))] := hl
  have h127 := w.n
  have hw := w.b b (by omega)
  have hbb := w.bb b hb
  have ht := w.t
  refine z_al_n C hl dX6_isAfloat_0 0 rfl 1 rfl ?_
  refine z_il_n C hl dX6_isAfloat_1 1 rfl 2 rfl ?_
  refine z_il_n C hl dX6_isAfloat_2 2 rfl 3 rfl ?_
  refine z_iconst C dX6_isAfloat_3 4 rfl ?_
  refine z_VR (r := .int (iI (u (74 + 5 * b)))) (rest := []) C (m_xits l G X kn ml kp f z u b 2 (74 + 5 * b)  (by omega) hu (by omega) (by omega)) kV_X6_68 ⟨Nat.le_of_ble_eq_true rfl, Nat.le_of_ble_eq_true rfl⟩ hP hK 0 rfl rfl rfl hl.1 rfl (Nat.le_of_ble_eq_true rfl) dX6_isAfloat_4 ⟨Nat.le_of_ble_eq_true rfl, Nat.le_of_ble_eq_true rfl⟩ 7 rfl ?_
  refine z_if_ne C dX6_isAfloat_7 45 10 (by decide) rfl (by omega) (fun c7 => ?_) (fun c7 => ?_)
  · skip
    refine z_iconst C dX6_isAfloat_45 46 rfl ?_
    exact z_rz C dX6_isAfloat_46 (bZ_0 (by simp [onB, floB, c7]))
  · skip
    refine z_al_n C hl dX6_isAfloat_10 0 rfl 11 rfl ?_
    refine z_il_n C hl dX6_isAfloat_11 1 rfl 12 rfl ?_
    refine z_al_n C hl dX6_isAfloat_12 0 rfl 13 rfl ?_
    refine z_il_n C hl dX6_isAfloat_13 1 rfl 14 rfl ?_
    refine z_il_n C hl dX6_isAfloat_14 2 rfl 15 rfl ?_
    refine z_iconst C dX6_isAfloat_15 16 rfl ?_
    refine z_VR (r := .int (iI (u (75 + 5 * b)))) (rest := [.int (iI (z)), .ref (X 0)]) C (m_xits l G X kn ml kp f z u b 3 (75 + 5 * b)  (by omega) hu (by omega) (by omega)) kV_X6_68 ⟨Nat.le_of_ble_eq_true rfl, Nat.le_of_ble_eq_true rfl⟩ hP hK 0 rfl rfl rfl hl.1 rfl (Nat.le_of_ble_eq_true rfl) dX6_isAfloat_16 ⟨Nat.le_of_ble_eq_true rfl, Nat.le_of_ble_eq_true rfl⟩ 19 rfl ?_
    refine z_al_n C hl dX6_isAfloat_19 0 rfl 20 rfl ?_
    refine z_il_n C hl dX6_isAfloat_20 1 rfl 21 rfl ?_
    refine z_il_n C hl dX6_isAfloat_21 2 rfl 22 rfl ?_
    refine z_iconst C dX6_isAfloat_22 23 rfl ?_
    refine z_VR (r := .int (iI (u (73 + 5 * b)))) (rest := [.int (iI (u (75 + 5 * b))), .int (iI (z)), .ref (X 0)]) C (m_xits l G X kn ml kp f z u b 1 (73 + 5 * b)  (by omega) hu (by omega) (by omega)) kV_X6_68 ⟨Nat.le_of_ble_eq_true rfl, Nat.le_of_ble_eq_true rfl⟩ hP hK 0 rfl rfl rfl hl.1 rfl (Nat.le_of_ble_eq_true rfl) dX6_isAfloat_23 ⟨Nat.le_of_ble_eq_true rfl, Nat.le_of_ble_eq_true rfl⟩ 26 rfl ?_
    refine z_al_n C hl dX6_isAfloat_26 0 rfl 27 rfl ?_
    refine z_get C hP hK fl_X6_7 0 rfl rfl dX6_isAfloat_27 30 rfl ?_
    refine z_il_n C hl dX6_isAfloat_30 1 rfl 31 rfl ?_
    refine z_bipush C dX6_isAfloat_31 (by decide) 33 rfl ?_
    refine z_iadd C dX6_isAfloat_33 34 rfl (126 + z) (by omega) ?_
    refine z_iaZ C (f) hP hK 1 rfl (by omega) (by decide) (u 126) ((congrArg f (show (126 + z : Int) = z + 126 by omega)).trans (hu 126 (by omega) (by omega))) dX6_isAfloat_34 35 rfl ?_
    refine z_VR (r := .int (iI (bZ (wetB u (u (75 + 5 * b)) (u (73 + 5 * b)) (u 126))))) (rest := []) C (m_xfloats l G X kn ml kp f z u (u (75 + 5 * b)) (u (73 + 5 * b)) (u 126) w (by omega) hu (by omega) (by omega) (by omega)) kV_X6_57 ⟨Nat.le_of_ble_eq_true rfl, Nat.le_of_ble_eq_true rfl⟩ hP hK 0 rfl rfl rfl hl.1 rfl (Nat.le_of_ble_eq_true rfl) dX6_isAfloat_35 ⟨Nat.le_of_ble_eq_true rfl, Nat.le_of_ble_eq_true rfl⟩ 38 rfl ?_
    refine z_ifb_eq C dX6_isAfloat_38 45 41 (by decide) rfl (fun c38 => ?_) (fun c38 => ?_)
    · skip
      refine z_iconst C dX6_isAfloat_45 46 rfl ?_
      exact z_rz C dX6_isAfloat_46 (bZ_0 (by simp [onB, floB, c7, c38]))
    · skip
      refine z_iconst C dX6_isAfloat_41 42 rfl ?_
      refine z_goto C dX6_isAfloat_42 46 (by decide) ?_
      exact z_rz C dX6_isAfloat_46 (bZ_1 (by simp [onB, floB, c7, c38]))

set_option maxHeartbeats 4000000 in
set_option maxRecDepth 100000 in
theorem m_xkind (l : Launch) (G : gT) (X : Nat → Nat) (kn ml : Int) (kp : Bool) (f : Int → Int) (z : Int) (u : Int → Int) (b : Int) (w : Wf u) (hz : 0 ≤ z ∧ z ≤ 129) (hu : ∀ k : Int, 0 ≤ k → k < 129 → f (z + k) = u k) (hb : 0 ≤ b ∧ b < u 127) : MR l G yX6_kind cX6_kind 3 (some .int) 2 [.ref (X 0), .int (iI (z)), .int (iI (b))] [[moO X kn kp ml], [arI G (X 1) 258 f]] ZT (.int (iI (100 * u (72 + 5 * b) + u (73 + 5 * b)))) := by
  refine enterR (own := RX6) (by decide +kernel) rfl (Nat.le_of_ble_eq_true rfl) ?_
  intro p e s m below meth c C hP hK hZ ls hl
  have hl : lv_has ls 3 [(0, .ref (X 0)), (1, .int (iI (z))), (2, .int (iI (b)))] := hl
  have h127 := w.n
  have hw := w.b b (by omega)
  have hbb := w.bb b hb
  have ht := w.t
  refine z_bipush C dX6_kind_0 (by decide) 2 rfl ?_
  refine z_al_n C hl dX6_kind_2 0 rfl 3 rfl ?_
  refine z_il_n C hl dX6_kind_3 1 rfl 4 rfl ?_
  refine z_il_n C hl dX6_kind_4 2 rfl 5 rfl ?_
  refine z_iconst C dX6_kind_5 6 rfl ?_
  refine z_VR (r := .int (iI (u (72 + 5 * b)))) (rest := [.int (iI (100))]) C (m_xits l G X kn ml kp f z u b 0 (72 + 5 * b)  (by omega) hu (by omega) (by omega)) kV_X6_68 ⟨Nat.le_of_ble_eq_true rfl, Nat.le_of_ble_eq_true rfl⟩ hP hK 0 rfl rfl rfl hl.1 rfl (Nat.le_of_ble_eq_true rfl) dX6_kind_6 ⟨Nat.le_of_ble_eq_true rfl, Nat.le_of_ble_eq_true rfl⟩ 9 rfl ?_
  refine z_imul C dX6_kind_9 10 rfl (100 * u (72 + 5 * b)) (by omega) ?_
  refine z_al_n C hl dX6_kind_10 0 rfl 11 rfl ?_
  refine z_il_n C hl dX6_kind_11 1 rfl 12 rfl ?_
  refine z_il_n C hl dX6_kind_12 2 rfl 13 rfl ?_
  refine z_iconst C dX6_kind_13 14 rfl ?_
  refine z_VR (r := .int (iI (u (73 + 5 * b)))) (rest := [.int (iI (100 * u (72 + 5 * b)))]) C (m_xits l G X kn ml kp f z u b 1 (73 + 5 * b)  (by omega) hu (by omega) (by omega)) kV_X6_68 ⟨Nat.le_of_ble_eq_true rfl, Nat.le_of_ble_eq_true rfl⟩ hP hK 0 rfl rfl rfl hl.1 rfl (Nat.le_of_ble_eq_true rfl) dX6_kind_14 ⟨Nat.le_of_ble_eq_true rfl, Nat.le_of_ble_eq_true rfl⟩ 17 rfl ?_
  refine z_iadd C dX6_kind_17 18 rfl (100 * u (72 + 5 * b) + u (73 + 5 * b)) (by omega) ?_
  exact z_ri C dX6_kind_18 (by omega)

set_option maxHeartbeats 4000000 in
set_option maxRecDepth 100000 in
theorem m_xcnt (l : Launch) (G : gT) (X : Nat → Nat) (kn ml : Int) (kp : Bool) (f : Int → Int) (z : Int) (u : Int → Int) (x : Int) (w : Wf u) (hz : 0 ≤ z ∧ z ≤ 129) (hu : ∀ k : Int, 0 ≤ k → k < 129 → f (z + k) = u k) (hx : -2147483648 ≤ x ∧ x < 2147483648) : MR l G yX6_onBoard cX6_onBoard 5 (some .int) 2 [.ref (X 0), .int (iI (z)), .int (iI (x))] [[moO X kn kp ml], [arI G (X 1) 258 f]] ZT (.int (iI (cntZ u x))) := by
  refine enterR (own := RX6) (by decide +kernel) rfl (Nat.le_of_ble_eq_true rfl) ?_
  intro p e s m below meth c C hP hK hZ ls hl
  have hl : lv_has ls 5 [(0, .ref (X 0)), (1, .int (iI (z))), (2, .int (iI (x)))] := hl
  have hn := w.n
  refine z_iconst C dX6_onBoard_0 1 rfl ?_
  refine z_is_n C hl dX6_onBoard_1 2 rfl (by decide) (lv' := [(3, .int (iI (0))), (0, .ref (X 0)), (1, .int (iI (z))), (2, .int (iI (x)))]) rfl (fun ls hl => ?_)
  refine z_iconst C dX6_onBoard_2 3 rfl ?_
  refine z_is C hl dX6_onBoard_3 5 rfl (by decide) (lv' := [(4, .int (iI (0))), (3, .int (iI (0))), (0, .ref (X 0)), (1, .int (iI (z))), (2, .int (iI (x)))]) rfl (fun ls hl => ?_)
  have L5 : ∀ (fu : Nat) (g : Int) (k : Int) (h1 : 0 ≤ k ∧ k ≤ u 127) (h2 : g = sumN (fun k => if u (74 + 5 * k) = x then 1 else 0) k.toNat) (hm : u 127 - k < (fu : Int)) (ls : Array Slot) (hl : lv_has ls 5 [(4, .int (iI (k))), (3, .int (iI (g))), (2, .int (iI (x))), (1, .int (iI (z))), (0, .ref (X 0))]), W p l e (rmN 2) s m [.ref (X 0), .int (iI (z)), .int (iI (x))].toArray below meth c s.heap [] 0 0 (MQ below (QR (.int (iI (cntZ u x)))) [.ref (X 0), .int (iI (z)), .int (iI (x))].toArray s 0 0 (fun _ => False)) (F0 m 5 ls []) := by
    intro fu
    induction fu with
    | zero => intro g k h1 h2 hm ls hl; exfalso; omega
    | succ fu ih =>
      intro g k h1 h2 hm ls hl
      have ih5 := ih
      refine z_il C hl dX6_onBoard_5 0 rfl 7 rfl ?_
      refine z_al_n C hl dX6_onBoard_7 4 rfl 8 rfl ?_
      refine z_get C hP hK fl_X6_7 0 rfl rfl dX6_onBoard_8 11 rfl ?_
      refine z_il_n C hl dX6_onBoard_11 3 rfl 12 rfl ?_
      refine z_bipush C dX6_onBoard_12 (by decide) 14 rfl ?_
      refine z_iadd C dX6_onBoard_14 15 rfl (127 + z) (by omega) ?_
      refine z_iaZ C (f) hP hK 1 rfl (by omega) (by decide) (u 127) ((congrArg f (show (127 + z : Int) = z + 127 by omega)).trans (hu 127 (by omega) (by omega))) dX6_onBoard_15 16 rfl ?_
      refine z_icmp_ge C dX6_onBoard_16 45 19 (by decide) rfl (by omega) (fun c16 => ?_) (fun c16 => ?_)
      · skip
        refine z_il_n C hl dX6_onBoard_45 1 rfl 46 rfl ?_
        exact z_ri C dX6_onBoard_46 (by rw [h2, show k = u 127 by omega]; rfl)
      · skip
        have hk := w.b k (by omega)
        refine z_il_n C hl dX6_onBoard_19 1 rfl 20 rfl ?_
        refine z_al_n C hl dX6_onBoard_20 4 rfl 21 rfl ?_
        refine z_il_n C hl dX6_onBoard_21 3 rfl 22 rfl ?_
        refine z_il C hl dX6_onBoard_22 0 rfl 24 rfl ?_
        refine z_iconst C dX6_onBoard_24 25 rfl ?_
        refine z_VR (r := .int (iI (u (74 + 5 * k)))) (rest := [.int (iI (g))]) C (m_xits l G X kn ml kp f z u k 2 (74 + 5 * k)  (by omega) hu (by omega) (by omega)) kV_X6_68 ⟨Nat.le_of_ble_eq_true rfl, Nat.le_of_ble_eq_true rfl⟩ hP hK 0 rfl rfl rfl hl.1 rfl (Nat.le_of_ble_eq_true rfl) dX6_onBoard_25 ⟨Nat.le_of_ble_eq_true rfl, Nat.le_of_ble_eq_true rfl⟩ 28 rfl ?_
        refine z_il_n C hl dX6_onBoard_28 2 rfl 29 rfl ?_
        refine z_icmp_ne C dX6_onBoard_29 36 32 (by decide) rfl (by omega) (fun c29 => ?_) (fun c29 => ?_)
        · skip
          refine z_iconst C dX6_onBoard_36 37 rfl ?_
          refine z_iadd C dX6_onBoard_37 38 rfl (g) (by omega) ?_
          refine z_is_n C hl dX6_onBoard_38 39 rfl (by decide) (lv' := [(3, .int (iI (g))), (4, .int (iI (k))), (2, .int (iI (x))), (1, .int (iI (z))), (0, .ref (X 0))]) rfl (fun ls hl => ?_)
          refine z_iinc C hl dX6_onBoard_39 42 rfl 1 rfl (z := 1 + k) (by omega) (by decide) (lv' := [(4, .int (iI (1 + k))), (3, .int (iI (g))), (2, .int (iI (x))), (1, .int (iI (z))), (0, .ref (X 0))]) rfl (fun ls hl => ?_)
          refine z_goto C dX6_onBoard_42 5 (by decide) ?_
          exact ih5 g (1 + k) (by omega) (by rw [sumN_s (by omega), ← h2]; (try dsimp only); rw [if_neg c29]; omega) (by omega) ls (lv_sub hl [0, 1, 2, 3, 4] rfl)
        · skip
          refine z_iconst C dX6_onBoard_32 33 rfl ?_
          refine z_goto C dX6_onBoard_33 37 (by decide) ?_
          refine z_iadd C dX6_onBoard_37 38 rfl (1 + g) (by omega) ?_
          refine z_is_n C hl dX6_onBoard_38 39 rfl (by decide) (lv' := [(3, .int (iI (1 + g))), (4, .int (iI (k))), (2, .int (iI (x))), (1, .int (iI (z))), (0, .ref (X 0))]) rfl (fun ls hl => ?_)
          refine z_iinc C hl dX6_onBoard_39 42 rfl 1 rfl (z := 1 + k) (by omega) (by decide) (lv' := [(4, .int (iI (1 + k))), (3, .int (iI (1 + g))), (2, .int (iI (x))), (1, .int (iI (z))), (0, .ref (X 0))]) rfl (fun ls hl => ?_)
          refine z_goto C dX6_onBoard_42 5 (by decide) ?_
          exact ih5 (1 + g) (1 + k) (by omega) (by rw [sumN_s (by omega), ← h2]; (try dsimp only); rw [if_pos c29]; omega) (by omega) ls (lv_sub hl [0, 1, 2, 3, 4] rfl)
  exact L5 (Int.toNat (u 127 - 0) + 1) 0 0 (by omega) (rfl) (by omega) ls (lv_sub hl [0, 1, 4, 3, 2] rfl)

set_option maxHeartbeats 4000000 in
set_option maxRecDepth 100000 in
theorem m_xover (l : Launch) (G : gT) (X : Nat → Nat) (kn ml : Int) (kp : Bool) (f : Int → Int) (z : Int) (u : Int → Int) (w : Wf u) (hz : 0 ≤ z ∧ z ≤ 129) (hu : ∀ k : Int, 0 ≤ k → k < 129 → f (z + k) = u k) : MR l G yX6_isOver cX6_isOver 2 (some .boolean) 3 [.ref (X 0), .int (iI (z))] [[moO X kn kp ml], [arI G (X 1) 258 f]] ZT (.int (iI (bZ (overB u)))) := by
  refine enterR (own := RX6) (by decide +kernel) rfl (Nat.le_of_ble_eq_true rfl) ?_
  intro p e s m below meth c C hP hK hZ ls hl
  have hl : lv_has ls 2 [(0, .ref (X 0)), (1, .int (iI (z)))] := hl
  have ht := w.t
  have hs := w.s
  refine z_al_n C hl dX6_isOver_0 0 rfl 1 rfl ?_
  refine z_get C hP hK fl_X6_7 0 rfl rfl dX6_isOver_1 4 rfl ?_
  refine z_il_n C hl dX6_isOver_4 1 rfl 5 rfl ?_
  refine z_bipush C dX6_isOver_5 (by decide) 7 rfl ?_
  refine z_iadd C dX6_isOver_7 8 rfl (126 + z) (by omega) ?_
  refine z_iaZ C (f) hP hK 1 rfl (by omega) (by decide) (u 126) ((congrArg f (show (126 + z : Int) = z + 126 by omega)).trans (hu 126 (by omega) (by omega))) dX6_isOver_8 9 rfl ?_
  refine z_al_n C hl dX6_isOver_9 0 rfl 10 rfl ?_
  refine z_get C hP hK fl_X6_7 0 rfl rfl dX6_isOver_10 13 rfl ?_
  refine z_il_n C hl dX6_isOver_13 1 rfl 14 rfl ?_
  refine z_bipush C dX6_isOver_14 (by decide) 16 rfl ?_
  refine z_iadd C dX6_isOver_16 17 rfl (122 + z) (by omega) ?_
  refine z_iconst C dX6_isOver_17 18 rfl ?_
  refine z_iadd C dX6_isOver_18 19 rfl (125 + z) (by omega) ?_
  refine z_iaZ C (f) hP hK 1 rfl (by omega) (by decide) (u 125) ((congrArg f (show (125 + z : Int) = z + 125 by omega)).trans (hu 125 (by omega) (by omega))) dX6_isOver_19 20 rfl ?_
  refine z_icmp_gt C dX6_isOver_20 32 23 (by decide) rfl (by omega) (fun c20 => ?_) (fun c20 => ?_)
  · skip
    refine z_iconst C dX6_isOver_32 33 rfl ?_
    refine z_goto C dX6_isOver_33 37 (by decide) ?_
    exact z_rz C dX6_isOver_37 (by unfold overB; exact bZ_dt (by omega))
  · skip
    refine z_al_n C hl dX6_isOver_23 0 rfl 24 rfl ?_
    refine z_il_n C hl dX6_isOver_24 1 rfl 25 rfl ?_
    refine z_iconst C dX6_isOver_25 26 rfl ?_
    refine z_VR (r := .int (iI (cntZ u 0))) (rest := []) C (m_xcnt l G X kn ml kp f z u 0 w (by omega) hu (by omega)) kV_X6_78 ⟨Nat.le_of_ble_eq_true rfl, Nat.le_of_ble_eq_true rfl⟩ hP hK 0 rfl rfl rfl hl.1 rfl (Nat.le_of_ble_eq_true rfl) dX6_isOver_26 ⟨Nat.le_of_ble_eq_true rfl, Nat.le_of_ble_eq_true rfl⟩ 29 rfl ?_
    have r26 := cntZ_rng w 0
    refine z_if_ne C dX6_isOver_29 36 32 (by decide) rfl (by omega) (fun c29 => ?_) (fun c29 => ?_)
    · skip
      refine z_iconst C dX6_isOver_36 37 rfl ?_
      exact z_rz C dX6_isOver_37 (by unfold overB; exact bZ_df (by omega))
    · skip
      refine z_iconst C dX6_isOver_32 33 rfl ?_
      refine z_goto C dX6_isOver_33 37 (by decide) ?_
      exact z_rz C dX6_isOver_37 (by unfold overB; exact bZ_dt (by omega))

set_option maxHeartbeats 4000000 in
set_option maxRecDepth 100000 in
theorem m_xblk (l : Launch) (G : gT) (X : Nat → Nat) (kn ml : Int) (kp : Bool) (f : Int → Int) (z : Int) (u : Int → Int) (b wy d n : Int) (w : Wf u) (hz : 0 ≤ z ∧ z ≤ 129) (hu : ∀ k : Int, 0 ≤ k → k < 129 → f (z + k) = u k) (hb : 0 ≤ b ∧ b < u 127) (hwy : wy = 10 * d + n) (hd : 0 ≤ d ∧ d < 4) (hn : 1 ≤ n ∧ n ≤ 3) (hway : wayZ u b d n ≠ -5) : MR l G yX6_isBlocked cX6_isBlocked 10 (some .boolean) 4 [.ref (X 0), .int (iI (z)), .int (iI (b)), .int (iI (wy))] [[moO X kn kp ml], [arI G (X 1) 258 f]] ZT (.int (iI (bZ (blkB u b d n)))) := by
  refine enterR (own := RX6) (by decide +kernel) rfl (Nat.le_of_ble_eq_true rfl) ?_
  intro p e s m below meth c C hP hK hZ ls hl
  have hl : lv_has ls 10 [(0, .ref (X 0)), (1, .int (iI (z))), (2, .int (iI (b))), (3, .int (iI (wy)))] := hl
  have h127 := w.n
  have hw := w.b b (by omega)
  have hbb := w.bb b hb
  have ht := w.t
  refine z_al_n C hl dX6_isBlocked_0 0 rfl 1 rfl ?_
  refine z_il_n C hl dX6_isBlocked_1 1 rfl 2 rfl ?_
  refine z_il_n C hl dX6_isBlocked_2 2 rfl 3 rfl ?_
  refine z_iconst C dX6_isBlocked_3 4 rfl ?_
  refine z_VR (r := .int (iI (u (75 + 5 * b)))) (rest := []) C (m_xits l G X kn ml kp f z u b 3 (75 + 5 * b)  (by omega) hu (by omega) (by omega)) kV_X6_68 ⟨Nat.le_of_ble_eq_true rfl, Nat.le_of_ble_eq_true rfl⟩ hP hK 0 rfl rfl rfl hl.1 rfl (Nat.le_of_ble_eq_true rfl) dX6_isBlocked_4 ⟨Nat.le_of_ble_eq_true rfl, Nat.le_of_ble_eq_true rfl⟩ 7 rfl ?_
  refine z_is C hl dX6_isBlocked_7 9 rfl (by decide) (lv' := [(4, .int (iI (u (75 + 5 * b)))), (0, .ref (X 0)), (1, .int (iI (z))), (2, .int (iI (b))), (3, .int (iI (wy)))]) rfl (fun ls hl => ?_)
  refine z_iconst C dX6_isBlocked_9 10 rfl ?_
  refine z_is C hl dX6_isBlocked_10 12 rfl (by decide) (lv' := [(5, .int (iI (0))), (4, .int (iI (u (75 + 5 * b)))), (0, .ref (X 0)), (1, .int (iI (z))), (2, .int (iI (b))), (3, .int (iI (wy)))]) rfl (fun ls hl => ?_)
  refine z_iconst C dX6_isBlocked_12 13 rfl ?_
  refine z_is C hl dX6_isBlocked_13 15 rfl (by decide) (lv' := [(6, .int (iI (0))), (5, .int (iI (0))), (4, .int (iI (u (75 + 5 * b)))), (0, .ref (X 0)), (1, .int (iI (z))), (2, .int (iI (b))), (3, .int (iI (wy)))]) rfl (fun ls hl => ?_)
  have L15 : ∀ (fu : Nat) (x : Int) (g : Bool) (k : Int) (h1 : 0 ≤ k ∧ k ≤ n) (h2 : 0 ≤ x ∧ x < 36) (hw3 : wayN u (u (72 + 5 * b)) (u (73 + 5 * b)) (u 126) d (n - k).toNat x ≠ -5) (h3 : (g || blkN u b d (n - k).toNat x) = blkB u b d n) (hm : n - k < (fu : Int)) (ls : Array Slot) (hl : lv_has ls 10 [(6, .int (iI (k))), (5, .int (iI (bZ (g)))), (4, .int (iI (x))), (3, .int (iI (wy))), (2, .int (iI (b))), (1, .int (iI (z))), (0, .ref (X 0))]), W p l e (rmN 4) s m [.ref (X 0), .int (iI (z)), .int (iI (b)), .int (iI (wy))].toArray below meth c s.heap [] 0 0 (MQ below (QR (.int (iI (bZ (blkB u b d n))))) [.ref (X 0), .int (iI (z)), .int (iI (b)), .int (iI (wy))].toArray s 0 0 (fun _ => False)) (F0 m 15 ls []) := by
    intro fu
    induction fu with
    | zero => intro x g k h1 h2 hw3 h3 hm ls hl; exfalso; omega
    | succ fu ih =>
      intro x g k h1 h2 hw3 h3 hm ls hl
      have ih15 := ih
      refine z_il C hl dX6_isBlocked_15 0 rfl 17 rfl ?_
      refine z_il_n C hl dX6_isBlocked_17 3 rfl 18 rfl ?_
      refine z_bipush C dX6_isBlocked_18 (by decide) 20 rfl ?_
      refine z_irem C dX6_isBlocked_20 21 rfl (by omega) (n) (by omega) ?_
      refine z_icmp_ge C dX6_isBlocked_21 139 24 (by decide) rfl (by omega) (fun c21 => ?_) (fun c21 => ?_)
      · skip
        refine z_il C hl dX6_isBlocked_139 1 rfl 141 rfl ?_
        exact z_rz C dX6_isBlocked_141 (by rw [← h3, blkN_0 (by omega), Bool.or_false])
      · skip
        have hw4 := wayN_s (by omega) hw3
        have hbr := besZ_rng x d
        refine z_il C hl dX6_isBlocked_24 2 rfl 26 rfl ?_
        refine z_il_n C hl dX6_isBlocked_26 3 rfl 27 rfl ?_
        refine z_bipush C dX6_isBlocked_27 (by decide) 29 rfl ?_
        refine z_idiv C dX6_isBlocked_29 30 rfl (by omega) (d) (by omega) ?_
        refine z_SR (r := .int (iI (nbZ x d))) (rest := []) C (m_xbes l G x d (by omega) (by omega)) kS_X6_65 ⟨Nat.le_of_ble_eq_true rfl, Nat.le_of_ble_eq_true rfl⟩ (gP_nil) hK rfl hl.1 rfl (Nat.le_of_ble_eq_true rfl) dX6_isBlocked_30 ⟨Nat.le_of_ble_eq_true rfl, Nat.le_of_ble_eq_true rfl⟩ 33 rfl ?_
        have hb30 := nbZ_rng x d
        refine z_top (b := .int (iI (besZ x d))) (congrArg (fun z => Value.int (iI z)) (nbZ_b hw4.1.2.1)) ?_
        refine z_is C hl dX6_isBlocked_33 35 rfl (by decide) (lv' := [(4, .int (iI (besZ x d))), (6, .int (iI (k))), (5, .int (iI (bZ (g)))), (3, .int (iI (wy))), (2, .int (iI (b))), (1, .int (iI (z))), (0, .ref (X 0))]) rfl (fun ls hl => ?_)
        refine z_al_n C hl dX6_isBlocked_35 6 rfl 36 rfl ?_
        refine z_il_n C hl dX6_isBlocked_36 5 rfl 37 rfl ?_
        refine z_il C hl dX6_isBlocked_37 0 rfl 39 rfl ?_
        refine z_VR (r := .int (iI (batZ u (besZ x d)))) (rest := []) C (m_xbat l G X kn ml kp f z u (besZ x d) w (by omega) hu (by omega)) kV_X6_71 ⟨Nat.le_of_ble_eq_true rfl, Nat.le_of_ble_eq_true rfl⟩ hP hK 0 rfl rfl rfl hl.1 rfl (Nat.le_of_ble_eq_true rfl) dX6_isBlocked_39 ⟨Nat.le_of_ble_eq_true rfl, Nat.le_of_ble_eq_true rfl⟩ 42 rfl ?_
        have r39 := batZ_rng w (besZ x d)
        refine z_is C hl dX6_isBlocked_42 44 rfl (by decide) (lv' := [(7, .int (iI (batZ u (besZ x d)))), (4, .int (iI (besZ x d))), (6, .int (iI (k))), (5, .int (iI (bZ (g)))), (3, .int (iI (wy))), (2, .int (iI (b))), (1, .int (iI (z))), (0, .ref (X 0))]) rfl (fun ls hl => ?_)
        refine z_il C hl dX6_isBlocked_44 2 rfl 46 rfl ?_
        refine z_il_n C hl dX6_isBlocked_46 4 rfl 47 rfl ?_
        refine z_bipush C dX6_isBlocked_47 (by decide) 49 rfl ?_
        refine z_irem C dX6_isBlocked_49 50 rfl (by omega) (n) (by omega) ?_
        refine z_iconst C dX6_isBlocked_50 51 rfl ?_
        refine z_isub C dX6_isBlocked_51 52 rfl (n - 1) (rfl) ?_
        refine z_icmp_ne C dX6_isBlocked_52 59 55 (by decide) rfl (by omega) (fun c52 => ?_) (fun c52 => ?_)
        · skip
          have hl1 : ¬ n - k = 1 := by omega
          skip
          refine z_iconst C dX6_isBlocked_59 60 rfl ?_
          refine z_is C hl dX6_isBlocked_60 62 rfl (by decide) (lv' := [(8, .int (iI (0))), (7, .int (iI (batZ u (besZ x d)))), (4, .int (iI (besZ x d))), (6, .int (iI (k))), (5, .int (iI (bZ (g)))), (3, .int (iI (wy))), (2, .int (iI (b))), (1, .int (iI (z))), (0, .ref (X 0))]) rfl (fun ls hl => ?_)
          refine z_il C hl dX6_isBlocked_62 1 rfl 64 rfl ?_
          refine z_bipush C dX6_isBlocked_64 (by decide) 66 rfl ?_
          refine z_icmp_eq C dX6_isBlocked_66 106 69 (by decide) rfl (by omega) (fun c66 => ?_) (fun c66 => ?_)
          · skip
            skip
            skip
            refine z_iconst C dX6_isBlocked_106 107 rfl ?_
            refine z_is C hl dX6_isBlocked_107 109 rfl (by decide) (lv' := [(9, .int (iI (0))), (8, .int (iI (0))), (7, .int (iI (batZ u (besZ x d)))), (4, .int (iI (besZ x d))), (6, .int (iI (k))), (5, .int (iI (bZ (g)))), (3, .int (iI (wy))), (2, .int (iI (b))), (1, .int (iI (z))), (0, .ref (X 0))]) rfl (fun ls hl => ?_)
            refine z_il C hl dX6_isBlocked_109 5 rfl 111 rfl ?_
            refine z_ifb_ne C dX6_isBlocked_111 126 114 (by decide) rfl (fun c111 => ?_) (fun c111 => ?_)
            · skip
              skip
              refine z_iconst C dX6_isBlocked_126 127 rfl ?_
              refine z_goto C dX6_isBlocked_127 131 (by decide) ?_
              refine z_is C hl dX6_isBlocked_131 133 rfl (by decide) (lv' := [(5, .int (iI (1))), (9, .int (iI (0))), (8, .int (iI (0))), (7, .int (iI (batZ u (besZ x d)))), (4, .int (iI (besZ x d))), (6, .int (iI (k))), (3, .int (iI (wy))), (2, .int (iI (b))), (1, .int (iI (z))), (0, .ref (X 0))]) rfl (fun ls hl => ?_)
              refine z_iinc C hl dX6_isBlocked_133 136 rfl 5 rfl (z := 1 + k) (by omega) (by decide) (lv' := [(6, .int (iI (1 + k))), (5, .int (iI (1))), (9, .int (iI (0))), (8, .int (iI (0))), (7, .int (iI (batZ u (besZ x d)))), (4, .int (iI (besZ x d))), (3, .int (iI (wy))), (2, .int (iI (b))), (1, .int (iI (z))), (0, .ref (X 0))]) rfl (fun ls hl => ?_)
              refine z_goto C dX6_isBlocked_136 15 (by decide) ?_
              exact ih15 (besZ x d) true (1 + k) (by omega) (by omega) (by rw [show n - (1 + k) = n - k - 1 by omega]; exact hw4.2) (by rw [← h3, c111]; simp) (by omega) ls (lv_sub hl [0, 1, 5, 6, 7, 8, 9] rfl)
            · skip
              skip
              refine z_il C hl dX6_isBlocked_114 2 rfl 116 rfl ?_
              refine z_bipush C dX6_isBlocked_116 (by decide) 118 rfl ?_
              refine z_icmp_eq C dX6_isBlocked_118 130 121 (by decide) rfl (by omega) (fun c118 => ?_) (fun c118 => ?_)
              · skip
                refine z_iconst C dX6_isBlocked_130 131 rfl ?_
                refine z_is C hl dX6_isBlocked_131 133 rfl (by decide) (lv' := [(5, .int (iI (0))), (9, .int (iI (0))), (8, .int (iI (0))), (7, .int (iI (batZ u (besZ x d)))), (4, .int (iI (besZ x d))), (6, .int (iI (k))), (3, .int (iI (wy))), (2, .int (iI (b))), (1, .int (iI (z))), (0, .ref (X 0))]) rfl (fun ls hl => ?_)
                refine z_iinc C hl dX6_isBlocked_133 136 rfl 5 rfl (z := 1 + k) (by omega) (by decide) (lv' := [(6, .int (iI (1 + k))), (5, .int (iI (0))), (9, .int (iI (0))), (8, .int (iI (0))), (7, .int (iI (batZ u (besZ x d)))), (4, .int (iI (besZ x d))), (3, .int (iI (wy))), (2, .int (iI (b))), (1, .int (iI (z))), (0, .ref (X 0))]) rfl (fun ls hl => ?_)
                refine z_goto C dX6_isBlocked_136 15 (by decide) ?_
                exact ih15 (besZ x d) false (1 + k) (by omega) (by omega) (by rw [show n - (1 + k) = n - k - 1 by omega]; exact hw4.2) (by (have hcd : (decide (batZ u (besZ x d) ≠ -5) && !(decide (n - k = 1) && (decide (u (72 + 5 * batZ u (besZ x d)) ≠ u (72 + 5 * b)) && !wetB u (besZ x d) (u (73 + 5 * batZ u (besZ x d))) (u 126)))) = false := by simp [hl1, c66]); rw [show n - (1 + k) = n - k - 1 by omega, ← h3, c111, blkN_1 (k := n - k) (by omega), hcd]; rfl) (by omega) ls (lv_sub hl [0, 1, 5, 6, 7, 8, 9] rfl)
              · exfalso; exact c118 c66
          · skip
            skip
            skip
            have ho := r39.resolve_left c66
            have ho2 := w.b (batZ u (besZ x d)) (by omega)
            have hfo : (onB u (batZ u (besZ x d)) && floB u (batZ u (besZ x d))) = wetB u (besZ x d) (u (73 + 5 * batZ u (besZ x d))) (u 126) := by unfold onB floB; rw [decide_eq_true ho.2.2.1, ho.2.2.2]; rfl
            refine z_il C hl dX6_isBlocked_69 0 rfl 71 rfl ?_
            refine z_if_eq C dX6_isBlocked_71 106 74 (by decide) rfl (by omega) (fun c71 => ?_) (fun c71 => ?_)
            · skip
              refine z_iconst C dX6_isBlocked_106 107 rfl ?_
              refine z_is C hl dX6_isBlocked_107 109 rfl (by decide) (lv' := [(9, .int (iI (0))), (8, .int (iI (0))), (7, .int (iI (batZ u (besZ x d)))), (4, .int (iI (besZ x d))), (6, .int (iI (k))), (5, .int (iI (bZ (g)))), (3, .int (iI (wy))), (2, .int (iI (b))), (1, .int (iI (z))), (0, .ref (X 0))]) rfl (fun ls hl => ?_)
              refine z_il C hl dX6_isBlocked_109 5 rfl 111 rfl ?_
              refine z_ifb_ne C dX6_isBlocked_111 126 114 (by decide) rfl (fun c111 => ?_) (fun c111 => ?_)
              · skip
                skip
                refine z_iconst C dX6_isBlocked_126 127 rfl ?_
                refine z_goto C dX6_isBlocked_127 131 (by decide) ?_
                refine z_is C hl dX6_isBlocked_131 133 rfl (by decide) (lv' := [(5, .int (iI (1))), (9, .int (iI (0))), (8, .int (iI (0))), (7, .int (iI (batZ u (besZ x d)))), (4, .int (iI (besZ x d))), (6, .int (iI (k))), (3, .int (iI (wy))), (2, .int (iI (b))), (1, .int (iI (z))), (0, .ref (X 0))]) rfl (fun ls hl => ?_)
                refine z_iinc C hl dX6_isBlocked_133 136 rfl 5 rfl (z := 1 + k) (by omega) (by decide) (lv' := [(6, .int (iI (1 + k))), (5, .int (iI (1))), (9, .int (iI (0))), (8, .int (iI (0))), (7, .int (iI (batZ u (besZ x d)))), (4, .int (iI (besZ x d))), (3, .int (iI (wy))), (2, .int (iI (b))), (1, .int (iI (z))), (0, .ref (X 0))]) rfl (fun ls hl => ?_)
                refine z_goto C dX6_isBlocked_136 15 (by decide) ?_
                exact ih15 (besZ x d) true (1 + k) (by omega) (by omega) (by rw [show n - (1 + k) = n - k - 1 by omega]; exact hw4.2) (by rw [← h3, c111]; simp) (by omega) ls (lv_sub hl [0, 1, 5, 6, 7, 8, 9] rfl)
              · skip
                skip
                refine z_il C hl dX6_isBlocked_114 2 rfl 116 rfl ?_
                refine z_bipush C dX6_isBlocked_116 (by decide) 118 rfl ?_
                refine z_icmp_eq C dX6_isBlocked_118 130 121 (by decide) rfl (by omega) (fun c118 => ?_) (fun c118 => ?_)
                · exfalso; exact c66 c118
                · skip
                  refine z_il C hl dX6_isBlocked_121 0 rfl 123 rfl ?_
                  refine z_if_ne C dX6_isBlocked_123 130 126 (by decide) rfl (by omega) (fun c123 => ?_) (fun c123 => ?_)
                  · exfalso; omega
                  · skip
                    refine z_iconst C dX6_isBlocked_126 127 rfl ?_
                    refine z_goto C dX6_isBlocked_127 131 (by decide) ?_
                    refine z_is C hl dX6_isBlocked_131 133 rfl (by decide) (lv' := [(5, .int (iI (1))), (9, .int (iI (0))), (8, .int (iI (0))), (7, .int (iI (batZ u (besZ x d)))), (4, .int (iI (besZ x d))), (6, .int (iI (k))), (3, .int (iI (wy))), (2, .int (iI (b))), (1, .int (iI (z))), (0, .ref (X 0))]) rfl (fun ls hl => ?_)
                    refine z_iinc C hl dX6_isBlocked_133 136 rfl 5 rfl (z := 1 + k) (by omega) (by decide) (lv' := [(6, .int (iI (1 + k))), (5, .int (iI (1))), (9, .int (iI (0))), (8, .int (iI (0))), (7, .int (iI (batZ u (besZ x d)))), (4, .int (iI (besZ x d))), (3, .int (iI (wy))), (2, .int (iI (b))), (1, .int (iI (z))), (0, .ref (X 0))]) rfl (fun ls hl => ?_)
                    refine z_goto C dX6_isBlocked_136 15 (by decide) ?_
                    exact ih15 (besZ x d) true (1 + k) (by omega) (by omega) (by rw [show n - (1 + k) = n - k - 1 by omega]; exact hw4.2) (by (have hcd : (decide (batZ u (besZ x d) ≠ -5) && !(decide (n - k = 1) && (decide (u (72 + 5 * batZ u (besZ x d)) ≠ u (72 + 5 * b)) && !wetB u (besZ x d) (u (73 + 5 * batZ u (besZ x d))) (u 126)))) = true := by simp [hl1, c66]); rw [show n - (1 + k) = n - k - 1 by omega, ← h3, c111, blkN_1 (k := n - k) (by omega), hcd]; rfl) (by omega) ls (lv_sub hl [0, 1, 5, 6, 7, 8, 9] rfl)
            · exfalso; omega
        · skip
          have hl1 : n - k = 1 := by omega
          skip
          refine z_iconst C dX6_isBlocked_55 56 rfl ?_
          refine z_goto C dX6_isBlocked_56 60 (by decide) ?_
          refine z_is C hl dX6_isBlocked_60 62 rfl (by decide) (lv' := [(8, .int (iI (1))), (7, .int (iI (batZ u (besZ x d)))), (4, .int (iI (besZ x d))), (6, .int (iI (k))), (5, .int (iI (bZ (g)))), (3, .int (iI (wy))), (2, .int (iI (b))), (1, .int (iI (z))), (0, .ref (X 0))]) rfl (fun ls hl => ?_)
          refine z_il C hl dX6_isBlocked_62 1 rfl 64 rfl ?_
          refine z_bipush C dX6_isBlocked_64 (by decide) 66 rfl ?_
          refine z_icmp_eq C dX6_isBlocked_66 106 69 (by decide) rfl (by omega) (fun c66 => ?_) (fun c66 => ?_)
          · skip
            skip
            skip
            refine z_iconst C dX6_isBlocked_106 107 rfl ?_
            refine z_is C hl dX6_isBlocked_107 109 rfl (by decide) (lv' := [(9, .int (iI (0))), (8, .int (iI (1))), (7, .int (iI (batZ u (besZ x d)))), (4, .int (iI (besZ x d))), (6, .int (iI (k))), (5, .int (iI (bZ (g)))), (3, .int (iI (wy))), (2, .int (iI (b))), (1, .int (iI (z))), (0, .ref (X 0))]) rfl (fun ls hl => ?_)
            refine z_il C hl dX6_isBlocked_109 5 rfl 111 rfl ?_
            refine z_ifb_ne C dX6_isBlocked_111 126 114 (by decide) rfl (fun c111 => ?_) (fun c111 => ?_)
            · skip
              skip
              refine z_iconst C dX6_isBlocked_126 127 rfl ?_
              refine z_goto C dX6_isBlocked_127 131 (by decide) ?_
              refine z_is C hl dX6_isBlocked_131 133 rfl (by decide) (lv' := [(5, .int (iI (1))), (9, .int (iI (0))), (8, .int (iI (1))), (7, .int (iI (batZ u (besZ x d)))), (4, .int (iI (besZ x d))), (6, .int (iI (k))), (3, .int (iI (wy))), (2, .int (iI (b))), (1, .int (iI (z))), (0, .ref (X 0))]) rfl (fun ls hl => ?_)
              refine z_iinc C hl dX6_isBlocked_133 136 rfl 5 rfl (z := 1 + k) (by omega) (by decide) (lv' := [(6, .int (iI (1 + k))), (5, .int (iI (1))), (9, .int (iI (0))), (8, .int (iI (1))), (7, .int (iI (batZ u (besZ x d)))), (4, .int (iI (besZ x d))), (3, .int (iI (wy))), (2, .int (iI (b))), (1, .int (iI (z))), (0, .ref (X 0))]) rfl (fun ls hl => ?_)
              refine z_goto C dX6_isBlocked_136 15 (by decide) ?_
              exact ih15 (besZ x d) true (1 + k) (by omega) (by omega) (by rw [show n - (1 + k) = n - k - 1 by omega]; exact hw4.2) (by rw [← h3, c111]; simp) (by omega) ls (lv_sub hl [0, 1, 5, 6, 7, 8, 9] rfl)
            · skip
              skip
              refine z_il C hl dX6_isBlocked_114 2 rfl 116 rfl ?_
              refine z_bipush C dX6_isBlocked_116 (by decide) 118 rfl ?_
              refine z_icmp_eq C dX6_isBlocked_118 130 121 (by decide) rfl (by omega) (fun c118 => ?_) (fun c118 => ?_)
              · skip
                refine z_iconst C dX6_isBlocked_130 131 rfl ?_
                refine z_is C hl dX6_isBlocked_131 133 rfl (by decide) (lv' := [(5, .int (iI (0))), (9, .int (iI (0))), (8, .int (iI (1))), (7, .int (iI (batZ u (besZ x d)))), (4, .int (iI (besZ x d))), (6, .int (iI (k))), (3, .int (iI (wy))), (2, .int (iI (b))), (1, .int (iI (z))), (0, .ref (X 0))]) rfl (fun ls hl => ?_)
                refine z_iinc C hl dX6_isBlocked_133 136 rfl 5 rfl (z := 1 + k) (by omega) (by decide) (lv' := [(6, .int (iI (1 + k))), (5, .int (iI (0))), (9, .int (iI (0))), (8, .int (iI (1))), (7, .int (iI (batZ u (besZ x d)))), (4, .int (iI (besZ x d))), (3, .int (iI (wy))), (2, .int (iI (b))), (1, .int (iI (z))), (0, .ref (X 0))]) rfl (fun ls hl => ?_)
                refine z_goto C dX6_isBlocked_136 15 (by decide) ?_
                exact ih15 (besZ x d) false (1 + k) (by omega) (by omega) (by rw [show n - (1 + k) = n - k - 1 by omega]; exact hw4.2) (by (have hcd : (decide (batZ u (besZ x d) ≠ -5) && !(decide (n - k = 1) && (decide (u (72 + 5 * batZ u (besZ x d)) ≠ u (72 + 5 * b)) && !wetB u (besZ x d) (u (73 + 5 * batZ u (besZ x d))) (u 126)))) = false := by simp [hl1, c66]); rw [show n - (1 + k) = n - k - 1 by omega, ← h3, c111, blkN_1 (k := n - k) (by omega), hcd]; rfl) (by omega) ls (lv_sub hl [0, 1, 5, 6, 7, 8, 9] rfl)
              · exfalso; exact c118 c66
          · skip
            skip
            skip
            have ho := r39.resolve_left c66
            have ho2 := w.b (batZ u (besZ x d)) (by omega)
            have hfo : (onB u (batZ u (besZ x d)) && floB u (batZ u (besZ x d))) = wetB u (besZ x d) (u (73 + 5 * batZ u (besZ x d))) (u 126) := by unfold onB floB; rw [decide_eq_true ho.2.2.1, ho.2.2.2]; rfl
            refine z_il C hl dX6_isBlocked_69 0 rfl 71 rfl ?_
            refine z_if_eq C dX6_isBlocked_71 106 74 (by decide) rfl (by omega) (fun c71 => ?_) (fun c71 => ?_)
            · exfalso; omega
            · skip
              refine z_al_n C hl dX6_isBlocked_74 8 rfl 75 rfl ?_
              refine z_il_n C hl dX6_isBlocked_75 7 rfl 76 rfl ?_
              refine z_il C hl dX6_isBlocked_76 1 rfl 78 rfl ?_
              refine z_iconst C dX6_isBlocked_78 79 rfl ?_
              refine z_VR (r := .int (iI (u (72 + 5 * batZ u (besZ x d))))) (rest := []) C (m_xits l G X kn ml kp f z u (batZ u (besZ x d)) 0 (72 + 5 * batZ u (besZ x d))  (by omega) hu (by omega) (by omega)) kV_X6_68 ⟨Nat.le_of_ble_eq_true rfl, Nat.le_of_ble_eq_true rfl⟩ hP hK 0 rfl rfl rfl hl.1 rfl (Nat.le_of_ble_eq_true rfl) dX6_isBlocked_79 ⟨Nat.le_of_ble_eq_true rfl, Nat.le_of_ble_eq_true rfl⟩ 82 rfl ?_
              refine z_al_n C hl dX6_isBlocked_82 8 rfl 83 rfl ?_
              refine z_il_n C hl dX6_isBlocked_83 7 rfl 84 rfl ?_
              refine z_il_n C hl dX6_isBlocked_84 6 rfl 85 rfl ?_
              refine z_iconst C dX6_isBlocked_85 86 rfl ?_
              refine z_VR (r := .int (iI (u (72 + 5 * b)))) (rest := [.int (iI (u (72 + 5 * batZ u (besZ x d))))]) C (m_xits l G X kn ml kp f z u b 0 (72 + 5 * b)  (by omega) hu (by omega) (by omega)) kV_X6_68 ⟨Nat.le_of_ble_eq_true rfl, Nat.le_of_ble_eq_true rfl⟩ hP hK 0 rfl rfl rfl hl.1 rfl (Nat.le_of_ble_eq_true rfl) dX6_isBlocked_86 ⟨Nat.le_of_ble_eq_true rfl, Nat.le_of_ble_eq_true rfl⟩ 89 rfl ?_
              refine z_icmp_eq C dX6_isBlocked_89 106 92 (by decide) rfl (by omega) (fun c89 => ?_) (fun c89 => ?_)
              · skip
                skip
                refine z_iconst C dX6_isBlocked_106 107 rfl ?_
                refine z_is C hl dX6_isBlocked_107 109 rfl (by decide) (lv' := [(9, .int (iI (0))), (8, .int (iI (1))), (7, .int (iI (batZ u (besZ x d)))), (4, .int (iI (besZ x d))), (6, .int (iI (k))), (5, .int (iI (bZ (g)))), (3, .int (iI (wy))), (2, .int (iI (b))), (1, .int (iI (z))), (0, .ref (X 0))]) rfl (fun ls hl => ?_)
                refine z_il C hl dX6_isBlocked_109 5 rfl 111 rfl ?_
                refine z_ifb_ne C dX6_isBlocked_111 126 114 (by decide) rfl (fun c111 => ?_) (fun c111 => ?_)
                · skip
                  skip
                  refine z_iconst C dX6_isBlocked_126 127 rfl ?_
                  refine z_goto C dX6_isBlocked_127 131 (by decide) ?_
                  refine z_is C hl dX6_isBlocked_131 133 rfl (by decide) (lv' := [(5, .int (iI (1))), (9, .int (iI (0))), (8, .int (iI (1))), (7, .int (iI (batZ u (besZ x d)))), (4, .int (iI (besZ x d))), (6, .int (iI (k))), (3, .int (iI (wy))), (2, .int (iI (b))), (1, .int (iI (z))), (0, .ref (X 0))]) rfl (fun ls hl => ?_)
                  refine z_iinc C hl dX6_isBlocked_133 136 rfl 5 rfl (z := 1 + k) (by omega) (by decide) (lv' := [(6, .int (iI (1 + k))), (5, .int (iI (1))), (9, .int (iI (0))), (8, .int (iI (1))), (7, .int (iI (batZ u (besZ x d)))), (4, .int (iI (besZ x d))), (3, .int (iI (wy))), (2, .int (iI (b))), (1, .int (iI (z))), (0, .ref (X 0))]) rfl (fun ls hl => ?_)
                  refine z_goto C dX6_isBlocked_136 15 (by decide) ?_
                  exact ih15 (besZ x d) true (1 + k) (by omega) (by omega) (by rw [show n - (1 + k) = n - k - 1 by omega]; exact hw4.2) (by rw [← h3, c111]; simp) (by omega) ls (lv_sub hl [0, 1, 5, 6, 7, 8, 9] rfl)
                · skip
                  skip
                  refine z_il C hl dX6_isBlocked_114 2 rfl 116 rfl ?_
                  refine z_bipush C dX6_isBlocked_116 (by decide) 118 rfl ?_
                  refine z_icmp_eq C dX6_isBlocked_118 130 121 (by decide) rfl (by omega) (fun c118 => ?_) (fun c118 => ?_)
                  · exfalso; exact c66 c118
                  · skip
                    refine z_il C hl dX6_isBlocked_121 0 rfl 123 rfl ?_
                    refine z_if_ne C dX6_isBlocked_123 130 126 (by decide) rfl (by omega) (fun c123 => ?_) (fun c123 => ?_)
                    · exfalso; omega
                    · skip
                      refine z_iconst C dX6_isBlocked_126 127 rfl ?_
                      refine z_goto C dX6_isBlocked_127 131 (by decide) ?_
                      refine z_is C hl dX6_isBlocked_131 133 rfl (by decide) (lv' := [(5, .int (iI (1))), (9, .int (iI (0))), (8, .int (iI (1))), (7, .int (iI (batZ u (besZ x d)))), (4, .int (iI (besZ x d))), (6, .int (iI (k))), (3, .int (iI (wy))), (2, .int (iI (b))), (1, .int (iI (z))), (0, .ref (X 0))]) rfl (fun ls hl => ?_)
                      refine z_iinc C hl dX6_isBlocked_133 136 rfl 5 rfl (z := 1 + k) (by omega) (by decide) (lv' := [(6, .int (iI (1 + k))), (5, .int (iI (1))), (9, .int (iI (0))), (8, .int (iI (1))), (7, .int (iI (batZ u (besZ x d)))), (4, .int (iI (besZ x d))), (3, .int (iI (wy))), (2, .int (iI (b))), (1, .int (iI (z))), (0, .ref (X 0))]) rfl (fun ls hl => ?_)
                      refine z_goto C dX6_isBlocked_136 15 (by decide) ?_
                      exact ih15 (besZ x d) true (1 + k) (by omega) (by omega) (by rw [show n - (1 + k) = n - k - 1 by omega]; exact hw4.2) (by (have hcd : (decide (batZ u (besZ x d) ≠ -5) && !(decide (n - k = 1) && (decide (u (72 + 5 * batZ u (besZ x d)) ≠ u (72 + 5 * b)) && !wetB u (besZ x d) (u (73 + 5 * batZ u (besZ x d))) (u 126)))) = true := by simp [hl1, c66, c89]); rw [show n - (1 + k) = n - k - 1 by omega, ← h3, c111, blkN_1 (k := n - k) (by omega), hcd]; rfl) (by omega) ls (lv_sub hl [0, 1, 5, 6, 7, 8, 9] rfl)
              · skip
                skip
                refine z_al_n C hl dX6_isBlocked_92 8 rfl 93 rfl ?_
                refine z_il_n C hl dX6_isBlocked_93 7 rfl 94 rfl ?_
                refine z_il C hl dX6_isBlocked_94 1 rfl 96 rfl ?_
                refine z_VR (r := .int (iI (bZ (onB u (batZ u (besZ x d)) && floB u (batZ u (besZ x d)))))) (rest := []) C (m_xafl l G X kn ml kp f z u (batZ u (besZ x d)) w (by omega) hu (by omega)) kV_X6_74 ⟨Nat.le_of_ble_eq_true rfl, Nat.le_of_ble_eq_true rfl⟩ hP hK 0 rfl rfl rfl hl.1 rfl (Nat.le_of_ble_eq_true rfl) dX6_isBlocked_96 ⟨Nat.le_of_ble_eq_true rfl, Nat.le_of_ble_eq_true rfl⟩ 99 rfl ?_
                refine z_ifb_ne C dX6_isBlocked_99 106 102 (by decide) rfl (fun c99 => ?_) (fun c99 => ?_)
                · skip
                  rw [hfo] at c99
                  skip
                  refine z_iconst C dX6_isBlocked_106 107 rfl ?_
                  refine z_is C hl dX6_isBlocked_107 109 rfl (by decide) (lv' := [(9, .int (iI (0))), (8, .int (iI (1))), (7, .int (iI (batZ u (besZ x d)))), (4, .int (iI (besZ x d))), (6, .int (iI (k))), (5, .int (iI (bZ (g)))), (3, .int (iI (wy))), (2, .int (iI (b))), (1, .int (iI (z))), (0, .ref (X 0))]) rfl (fun ls hl => ?_)
                  refine z_il C hl dX6_isBlocked_109 5 rfl 111 rfl ?_
                  refine z_ifb_ne C dX6_isBlocked_111 126 114 (by decide) rfl (fun c111 => ?_) (fun c111 => ?_)
                  · skip
                    skip
                    refine z_iconst C dX6_isBlocked_126 127 rfl ?_
                    refine z_goto C dX6_isBlocked_127 131 (by decide) ?_
                    refine z_is C hl dX6_isBlocked_131 133 rfl (by decide) (lv' := [(5, .int (iI (1))), (9, .int (iI (0))), (8, .int (iI (1))), (7, .int (iI (batZ u (besZ x d)))), (4, .int (iI (besZ x d))), (6, .int (iI (k))), (3, .int (iI (wy))), (2, .int (iI (b))), (1, .int (iI (z))), (0, .ref (X 0))]) rfl (fun ls hl => ?_)
                    refine z_iinc C hl dX6_isBlocked_133 136 rfl 5 rfl (z := 1 + k) (by omega) (by decide) (lv' := [(6, .int (iI (1 + k))), (5, .int (iI (1))), (9, .int (iI (0))), (8, .int (iI (1))), (7, .int (iI (batZ u (besZ x d)))), (4, .int (iI (besZ x d))), (3, .int (iI (wy))), (2, .int (iI (b))), (1, .int (iI (z))), (0, .ref (X 0))]) rfl (fun ls hl => ?_)
                    refine z_goto C dX6_isBlocked_136 15 (by decide) ?_
                    exact ih15 (besZ x d) true (1 + k) (by omega) (by omega) (by rw [show n - (1 + k) = n - k - 1 by omega]; exact hw4.2) (by rw [← h3, c111]; simp) (by omega) ls (lv_sub hl [0, 1, 5, 6, 7, 8, 9] rfl)
                  · skip
                    skip
                    refine z_il C hl dX6_isBlocked_114 2 rfl 116 rfl ?_
                    refine z_bipush C dX6_isBlocked_116 (by decide) 118 rfl ?_
                    refine z_icmp_eq C dX6_isBlocked_118 130 121 (by decide) rfl (by omega) (fun c118 => ?_) (fun c118 => ?_)
                    · exfalso; exact c66 c118
                    · skip
                      refine z_il C hl dX6_isBlocked_121 0 rfl 123 rfl ?_
                      refine z_if_ne C dX6_isBlocked_123 130 126 (by decide) rfl (by omega) (fun c123 => ?_) (fun c123 => ?_)
                      · exfalso; omega
                      · skip
                        refine z_iconst C dX6_isBlocked_126 127 rfl ?_
                        refine z_goto C dX6_isBlocked_127 131 (by decide) ?_
                        refine z_is C hl dX6_isBlocked_131 133 rfl (by decide) (lv' := [(5, .int (iI (1))), (9, .int (iI (0))), (8, .int (iI (1))), (7, .int (iI (batZ u (besZ x d)))), (4, .int (iI (besZ x d))), (6, .int (iI (k))), (3, .int (iI (wy))), (2, .int (iI (b))), (1, .int (iI (z))), (0, .ref (X 0))]) rfl (fun ls hl => ?_)
                        refine z_iinc C hl dX6_isBlocked_133 136 rfl 5 rfl (z := 1 + k) (by omega) (by decide) (lv' := [(6, .int (iI (1 + k))), (5, .int (iI (1))), (9, .int (iI (0))), (8, .int (iI (1))), (7, .int (iI (batZ u (besZ x d)))), (4, .int (iI (besZ x d))), (3, .int (iI (wy))), (2, .int (iI (b))), (1, .int (iI (z))), (0, .ref (X 0))]) rfl (fun ls hl => ?_)
                        refine z_goto C dX6_isBlocked_136 15 (by decide) ?_
                        exact ih15 (besZ x d) true (1 + k) (by omega) (by omega) (by rw [show n - (1 + k) = n - k - 1 by omega]; exact hw4.2) (by (have hcd : (decide (batZ u (besZ x d) ≠ -5) && !(decide (n - k = 1) && (decide (u (72 + 5 * batZ u (besZ x d)) ≠ u (72 + 5 * b)) && !wetB u (besZ x d) (u (73 + 5 * batZ u (besZ x d))) (u 126)))) = true := by simp [hl1, c66, c89, c99]); rw [show n - (1 + k) = n - k - 1 by omega, ← h3, c111, blkN_1 (k := n - k) (by omega), hcd]; rfl) (by omega) ls (lv_sub hl [0, 1, 5, 6, 7, 8, 9] rfl)
                · skip
                  rw [hfo] at c99
                  skip
                  refine z_iconst C dX6_isBlocked_102 103 rfl ?_
                  refine z_goto C dX6_isBlocked_103 107 (by decide) ?_
                  refine z_is C hl dX6_isBlocked_107 109 rfl (by decide) (lv' := [(9, .int (iI (1))), (8, .int (iI (1))), (7, .int (iI (batZ u (besZ x d)))), (4, .int (iI (besZ x d))), (6, .int (iI (k))), (5, .int (iI (bZ (g)))), (3, .int (iI (wy))), (2, .int (iI (b))), (1, .int (iI (z))), (0, .ref (X 0))]) rfl (fun ls hl => ?_)
                  refine z_il C hl dX6_isBlocked_109 5 rfl 111 rfl ?_
                  refine z_ifb_ne C dX6_isBlocked_111 126 114 (by decide) rfl (fun c111 => ?_) (fun c111 => ?_)
                  · skip
                    skip
                    refine z_iconst C dX6_isBlocked_126 127 rfl ?_
                    refine z_goto C dX6_isBlocked_127 131 (by decide) ?_
                    refine z_is C hl dX6_isBlocked_131 133 rfl (by decide) (lv' := [(5, .int (iI (1))), (9, .int (iI (1))), (8, .int (iI (1))), (7, .int (iI (batZ u (besZ x d)))), (4, .int (iI (besZ x d))), (6, .int (iI (k))), (3, .int (iI (wy))), (2, .int (iI (b))), (1, .int (iI (z))), (0, .ref (X 0))]) rfl (fun ls hl => ?_)
                    refine z_iinc C hl dX6_isBlocked_133 136 rfl 5 rfl (z := 1 + k) (by omega) (by decide) (lv' := [(6, .int (iI (1 + k))), (5, .int (iI (1))), (9, .int (iI (1))), (8, .int (iI (1))), (7, .int (iI (batZ u (besZ x d)))), (4, .int (iI (besZ x d))), (3, .int (iI (wy))), (2, .int (iI (b))), (1, .int (iI (z))), (0, .ref (X 0))]) rfl (fun ls hl => ?_)
                    refine z_goto C dX6_isBlocked_136 15 (by decide) ?_
                    exact ih15 (besZ x d) true (1 + k) (by omega) (by omega) (by rw [show n - (1 + k) = n - k - 1 by omega]; exact hw4.2) (by rw [← h3, c111]; simp) (by omega) ls (lv_sub hl [0, 1, 5, 6, 7, 8, 9] rfl)
                  · skip
                    skip
                    refine z_il C hl dX6_isBlocked_114 2 rfl 116 rfl ?_
                    refine z_bipush C dX6_isBlocked_116 (by decide) 118 rfl ?_
                    refine z_icmp_eq C dX6_isBlocked_118 130 121 (by decide) rfl (by omega) (fun c118 => ?_) (fun c118 => ?_)
                    · exfalso; exact c66 c118
                    · skip
                      refine z_il C hl dX6_isBlocked_121 0 rfl 123 rfl ?_
                      refine z_if_ne C dX6_isBlocked_123 130 126 (by decide) rfl (by omega) (fun c123 => ?_) (fun c123 => ?_)
                      · skip
                        refine z_iconst C dX6_isBlocked_130 131 rfl ?_
                        refine z_is C hl dX6_isBlocked_131 133 rfl (by decide) (lv' := [(5, .int (iI (0))), (9, .int (iI (1))), (8, .int (iI (1))), (7, .int (iI (batZ u (besZ x d)))), (4, .int (iI (besZ x d))), (6, .int (iI (k))), (3, .int (iI (wy))), (2, .int (iI (b))), (1, .int (iI (z))), (0, .ref (X 0))]) rfl (fun ls hl => ?_)
                        refine z_iinc C hl dX6_isBlocked_133 136 rfl 5 rfl (z := 1 + k) (by omega) (by decide) (lv' := [(6, .int (iI (1 + k))), (5, .int (iI (0))), (9, .int (iI (1))), (8, .int (iI (1))), (7, .int (iI (batZ u (besZ x d)))), (4, .int (iI (besZ x d))), (3, .int (iI (wy))), (2, .int (iI (b))), (1, .int (iI (z))), (0, .ref (X 0))]) rfl (fun ls hl => ?_)
                        refine z_goto C dX6_isBlocked_136 15 (by decide) ?_
                        exact ih15 (besZ x d) false (1 + k) (by omega) (by omega) (by rw [show n - (1 + k) = n - k - 1 by omega]; exact hw4.2) (by (have hcd : (decide (batZ u (besZ x d) ≠ -5) && !(decide (n - k = 1) && (decide (u (72 + 5 * batZ u (besZ x d)) ≠ u (72 + 5 * b)) && !wetB u (besZ x d) (u (73 + 5 * batZ u (besZ x d))) (u 126)))) = false := by simp [hl1, c66, c89, c99]); rw [show n - (1 + k) = n - k - 1 by omega, ← h3, c111, blkN_1 (k := n - k) (by omega), hcd]; rfl) (by omega) ls (lv_sub hl [0, 1, 5, 6, 7, 8, 9] rfl)
                      · exfalso; omega
  exact L15 (Int.toNat (n - 0) + 1) (u (75 + 5 * b)) false 0 (by omega) (by omega) (by rw [Int.sub_zero]; exact hway) (by rw [Int.sub_zero]; rfl) (by omega) ls (lv_sub hl [0, 1, 2, 6, 5, 4, 3] rfl)

set_option maxHeartbeats 4000000 in
set_option maxRecDepth 100000 in
theorem m_xrea (l : Launch) (G : gT) (X : Nat → Nat) (kn ml : Int) (kp : Bool) (f : Int → Int) (z : Int) (u : Int → Int) (b wy d n : Int) (w : Wf u) (hz : 0 ≤ z ∧ z ≤ 129) (hu : ∀ k : Int, 0 ≤ k → k < 129 → f (z + k) = u k) (hb : 0 ≤ b ∧ b < u 127) (hwy : wy = 10 * d + n) (hd : 0 ≤ d ∧ d < 4) (hn : 1 ≤ n ∧ n ≤ 3) : MR l G yX6_reason cX6_reason 5 (some .int) 5 [.ref (X 0), .int (iI (z)), .int (iI (b)), .int (iI (wy))] [[moO X kn kp ml], [arI G (X 1) 258 f]] ZT (.int (iI (reaZ u b d n true))) := by
  refine enterR (own := RX6) (by decide +kernel) rfl (Nat.le_of_ble_eq_true rfl) ?_
  intro p e s m below meth c C hP hK hZ ls hl
  have hl : lv_has ls 5 [(0, .ref (X 0)), (1, .int (iI (z))), (2, .int (iI (b))), (3, .int (iI (wy)))] := hl
  have h127 := w.n
  have hw := w.b b (by omega)
  have hbb := w.bb b hb
  have ht := w.t
  refine z_al_n C hl dX6_reason_0 0 rfl 1 rfl ?_
  refine z_il_n C hl dX6_reason_1 1 rfl 2 rfl ?_
  refine z_VR (r := .int (iI (bZ (overB u)))) (rest := []) C (m_xover l G X kn ml kp f z u  w (by omega) hu ) kV_X6_81 ⟨Nat.le_of_ble_eq_true rfl, Nat.le_of_ble_eq_true rfl⟩ hP hK 0 rfl rfl rfl hl.1 rfl (Nat.le_of_ble_eq_true rfl) dX6_reason_2 ⟨Nat.le_of_ble_eq_true rfl, Nat.le_of_ble_eq_true rfl⟩ 5 rfl ?_
  refine z_ifb_eq C dX6_reason_5 10 8 (by decide) rfl (fun c5 => ?_) (fun c5 => ?_)
  · skip
    refine z_al_n C hl dX6_reason_10 0 rfl 11 rfl ?_
    refine z_il_n C hl dX6_reason_11 1 rfl 12 rfl ?_
    refine z_il_n C hl dX6_reason_12 2 rfl 13 rfl ?_
    refine z_iconst C dX6_reason_13 14 rfl ?_
    refine z_VR (r := .int (iI (u (74 + 5 * b)))) (rest := []) C (m_xits l G X kn ml kp f z u b 2 (74 + 5 * b)  (by omega) hu (by omega) (by omega)) kV_X6_68 ⟨Nat.le_of_ble_eq_true rfl, Nat.le_of_ble_eq_true rfl⟩ hP hK 0 rfl rfl rfl hl.1 rfl (Nat.le_of_ble_eq_true rfl) dX6_reason_14 ⟨Nat.le_of_ble_eq_true rfl, Nat.le_of_ble_eq_true rfl⟩ 17 rfl ?_
    refine z_if_eq C dX6_reason_17 22 20 (by decide) rfl (by omega) (fun c17 => ?_) (fun c17 => ?_)
    · skip
      refine z_al_n C hl dX6_reason_22 0 rfl 23 rfl ?_
      refine z_il_n C hl dX6_reason_23 1 rfl 24 rfl ?_
      refine z_il_n C hl dX6_reason_24 2 rfl 25 rfl ?_
      refine z_VR (r := .int (iI (bZ (onB u b && floB u b)))) (rest := []) C (m_xafl l G X kn ml kp f z u b w (by omega) hu (by omega)) kV_X6_74 ⟨Nat.le_of_ble_eq_true rfl, Nat.le_of_ble_eq_true rfl⟩ hP hK 0 rfl rfl rfl hl.1 rfl (Nat.le_of_ble_eq_true rfl) dX6_reason_25 ⟨Nat.le_of_ble_eq_true rfl, Nat.le_of_ble_eq_true rfl⟩ 28 rfl ?_
      refine z_ifb_ne C dX6_reason_28 33 31 (by decide) rfl (fun c28 => ?_) (fun c28 => ?_)
      · skip
        have hfl : floB u b = true := by simpa [onB, c17] using c28
        refine z_al_n C hl dX6_reason_33 0 rfl 34 rfl ?_
        refine z_il_n C hl dX6_reason_34 1 rfl 35 rfl ?_
        refine z_al_n C hl dX6_reason_35 0 rfl 36 rfl ?_
        refine z_il_n C hl dX6_reason_36 1 rfl 37 rfl ?_
        refine z_il_n C hl dX6_reason_37 2 rfl 38 rfl ?_
        refine z_VR (r := .int (iI (100 * u (72 + 5 * b) + u (73 + 5 * b)))) (rest := [.int (iI (z)), .ref (X 0)]) C (m_xkind l G X kn ml kp f z u b w (by omega) hu (by omega)) kV_X6_85 ⟨Nat.le_of_ble_eq_true rfl, Nat.le_of_ble_eq_true rfl⟩ hP hK 0 rfl rfl rfl hl.1 rfl (Nat.le_of_ble_eq_true rfl) dX6_reason_38 ⟨Nat.le_of_ble_eq_true rfl, Nat.le_of_ble_eq_true rfl⟩ 41 rfl ?_
        refine z_al_n C hl dX6_reason_41 0 rfl 42 rfl ?_
        refine z_il_n C hl dX6_reason_42 1 rfl 43 rfl ?_
        refine z_il_n C hl dX6_reason_43 2 rfl 44 rfl ?_
        refine z_iconst C dX6_reason_44 45 rfl ?_
        refine z_VR (r := .int (iI (u (75 + 5 * b)))) (rest := [.int (iI (100 * u (72 + 5 * b) + u (73 + 5 * b))), .int (iI (z)), .ref (X 0)]) C (m_xits l G X kn ml kp f z u b 3 (75 + 5 * b)  (by omega) hu (by omega) (by omega)) kV_X6_68 ⟨Nat.le_of_ble_eq_true rfl, Nat.le_of_ble_eq_true rfl⟩ hP hK 0 rfl rfl rfl hl.1 rfl (Nat.le_of_ble_eq_true rfl) dX6_reason_45 ⟨Nat.le_of_ble_eq_true rfl, Nat.le_of_ble_eq_true rfl⟩ 48 rfl ?_
        refine z_il_n C hl dX6_reason_48 3 rfl 49 rfl ?_
        refine z_al_n C hl dX6_reason_49 0 rfl 50 rfl ?_
        refine z_get C hP hK fl_X6_7 0 rfl rfl dX6_reason_50 53 rfl ?_
        refine z_il_n C hl dX6_reason_53 1 rfl 54 rfl ?_
        refine z_bipush C dX6_reason_54 (by decide) 56 rfl ?_
        refine z_iadd C dX6_reason_56 57 rfl (126 + z) (by omega) ?_
        refine z_iaZ C (f) hP hK 1 rfl (by omega) (by decide) (u 126) ((congrArg f (show (126 + z : Int) = z + 126 by omega)).trans (hu 126 (by omega) (by omega))) dX6_reason_57 58 rfl ?_
        refine z_VR (r := .int (iI (wayN u (u (72 + 5 * b)) (u (73 + 5 * b)) (u 126) d (Int.toNat n) (u (75 + 5 * b))))) (rest := []) C (m_xway l G X kn ml kp f z u (100 * u (72 + 5 * b) + u (73 + 5 * b)) (u (75 + 5 * b)) wy (u 126) (u (72 + 5 * b)) (u (73 + 5 * b)) d n w (by omega) hu (by omega) (by omega) (by omega) (by omega) (by omega) (by omega) (by omega) (by omega)) kV_X6_88 ⟨Nat.le_of_ble_eq_true rfl, Nat.le_of_ble_eq_true rfl⟩ hP hK 0 rfl rfl rfl hl.1 rfl (Nat.le_of_ble_eq_true rfl) dX6_reason_58 ⟨Nat.le_of_ble_eq_true rfl, Nat.le_of_ble_eq_true rfl⟩ 61 rfl ?_
        refine z_top (b := .int (iI (wayZ u b d n))) rfl ?_
        refine z_is C hl dX6_reason_61 63 rfl (by decide) (lv' := [(4, .int (iI (wayZ u b d n))), (0, .ref (X 0)), (1, .int (iI (z))), (2, .int (iI (b))), (3, .int (iI (wy)))]) rfl (fun ls hl => ?_)
        refine z_il C hl dX6_reason_63 0 rfl 65 rfl ?_
        refine z_bipush C dX6_reason_65 (by decide) 67 rfl ?_
        refine z_icmp_ne C dX6_reason_67 74 70 (by decide) rfl (by have := wayZ_rng (v := u) (b := b) (d := d) (n := n) (by omega); omega) (fun c67 => ?_) (fun c67 => ?_)
        · skip
          refine z_al_n C hl dX6_reason_74 1 rfl 75 rfl ?_
          refine z_il_n C hl dX6_reason_75 2 rfl 76 rfl ?_
          refine z_il_n C hl dX6_reason_76 3 rfl 77 rfl ?_
          refine z_il_n C hl dX6_reason_77 4 rfl 78 rfl ?_
          refine z_VR (r := .int (iI (bZ (blkB u b d n)))) (rest := []) C (m_xblk l G X kn ml kp f z u b wy d n w (by omega) hu (by omega) (by omega) (by omega) (by omega) (by assumption)) kV_X6_92 ⟨Nat.le_of_ble_eq_true rfl, Nat.le_of_ble_eq_true rfl⟩ hP hK 0 rfl rfl rfl hl.1 rfl (Nat.le_of_ble_eq_true rfl) dX6_reason_78 ⟨Nat.le_of_ble_eq_true rfl, Nat.le_of_ble_eq_true rfl⟩ 81 rfl ?_
          refine z_ifb_eq C dX6_reason_81 89 84 (by decide) rfl (fun c81 => ?_) (fun c81 => ?_)
          · skip
            refine z_iconst C dX6_reason_89 90 rfl ?_
            exact z_ri C dX6_reason_90 (by simp [reaZ, onB, c5, c17, hfl, c67, c81])
          · skip
            refine z_bipush C dX6_reason_84 (by decide) 86 rfl ?_
            refine z_goto C dX6_reason_86 90 (by decide) ?_
            exact z_ri C dX6_reason_90 (by simp [reaZ, onB, c5, c17, hfl, c67, c81])
        · skip
          refine z_iconst C dX6_reason_70 71 rfl ?_
          refine z_goto C dX6_reason_71 90 (by decide) ?_
          exact z_ri C dX6_reason_90 (by simp [reaZ, onB, c5, c17, hfl, c67])
      · skip
        have hfl : floB u b = false := by simpa [onB, c17] using c28
        refine z_iconst C dX6_reason_31 32 rfl ?_
        exact z_ri C dX6_reason_32 (by simp [reaZ, onB, c5, c17, hfl])
    · skip
      refine z_iconst C dX6_reason_20 21 rfl ?_
      exact z_ri C dX6_reason_21 (by simp [reaZ, onB, c5, c17])
  · skip
    refine z_iconst C dX6_reason_8 9 rfl ?_
    exact z_ri C dX6_reason_9 (by simp [reaZ, onB, c5])

set_option maxHeartbeats 4000000 in
set_option maxRecDepth 100000 in
theorem m_xwhy (l : Launch) (G : gT) (X : Nat → Nat) (kn ml : Int) (kp : Bool) (f : Int → Int) (z : Int) (u : Int → Int) (b wy d n : Int) (w : Wf u) (hz : 0 ≤ z ∧ z ≤ 129) (hu : ∀ k : Int, 0 ≤ k → k < 129 → f (z + k) = u k) (hb : 0 ≤ b ∧ b < u 127) (hwy : wy = 10 * d + n) (hd : 0 ≤ d ∧ d < 4) (hn : 1 ≤ n ∧ n ≤ 3) : MR l G yX6_whyNot cX6_whyNot 6 (some .int) 6 [.ref (X 0), .int (iI (z)), .int (iI (b)), .int (iI (wy))] [[moO X kn kp ml], [arI G (X 1) 258 f]] ZT (.int (iI (reaZ u b d n false))) := by
  refine enterR (own := RX6) (by decide +kernel) rfl (Nat.le_of_ble_eq_true rfl) ?_
  intro p e s m below meth c C hP hK hZ ls hl
  have hl : lv_has ls 6 [(0, .ref (X 0)), (1, .int (iI (z))), (2, .int (iI (b))), (3, .int (iI (wy)))] := hl
  have h127 := w.n
  have hw := w.b b (by omega)
  have hbb := w.bb b hb
  have ht := w.t
  refine z_al_n C hl dX6_whyNot_0 0 rfl 1 rfl ?_
  refine z_il_n C hl dX6_whyNot_1 1 rfl 2 rfl ?_
  refine z_il_n C hl dX6_whyNot_2 2 rfl 3 rfl ?_
  refine z_il_n C hl dX6_whyNot_3 3 rfl 4 rfl ?_
  refine z_VR (r := .int (iI (reaZ u b d n true))) (rest := []) C (m_xrea l G X kn ml kp f z u b wy d n w (by omega) hu (by omega) (by omega) (by omega) (by omega)) kV_X6_95 ⟨Nat.le_of_ble_eq_true rfl, Nat.le_of_ble_eq_true rfl⟩ hP hK 0 rfl rfl rfl hl.1 rfl (Nat.le_of_ble_eq_true rfl) dX6_whyNot_4 ⟨Nat.le_of_ble_eq_true rfl, Nat.le_of_ble_eq_true rfl⟩ 7 rfl ?_
  have r4 := reaZ_rng u b d n true
  refine z_is C hl dX6_whyNot_7 9 rfl (by decide) (lv' := [(4, .int (iI (reaZ u b d n true))), (0, .ref (X 0)), (1, .int (iI (z))), (2, .int (iI (b))), (3, .int (iI (wy)))]) rfl (fun ls hl => ?_)
  refine z_al_n C hl dX6_whyNot_9 1 rfl 10 rfl ?_
  refine z_il_n C hl dX6_whyNot_10 2 rfl 11 rfl ?_
  refine z_il_n C hl dX6_whyNot_11 3 rfl 12 rfl ?_
  refine z_iconst C dX6_whyNot_12 13 rfl ?_
  refine z_VR (r := .int (iI (u (72 + 5 * b)))) (rest := []) C (m_xits l G X kn ml kp f z u b 0 (72 + 5 * b)  (by omega) hu (by omega) (by omega)) kV_X6_68 ⟨Nat.le_of_ble_eq_true rfl, Nat.le_of_ble_eq_true rfl⟩ hP hK 0 rfl rfl rfl hl.1 rfl (Nat.le_of_ble_eq_true rfl) dX6_whyNot_13 ⟨Nat.le_of_ble_eq_true rfl, Nat.le_of_ble_eq_true rfl⟩ 16 rfl ?_
  refine z_al_n C hl dX6_whyNot_16 1 rfl 17 rfl ?_
  refine z_get C hP hK fl_X6_7 0 rfl rfl dX6_whyNot_17 20 rfl ?_
  refine z_il_n C hl dX6_whyNot_20 2 rfl 21 rfl ?_
  refine z_bipush C dX6_whyNot_21 (by decide) 23 rfl ?_
  refine z_iadd C dX6_whyNot_23 24 rfl (126 + z) (by omega) ?_
  refine z_iaZ C (f) hP hK 1 rfl (by omega) (by decide) (u 126) ((congrArg f (show (126 + z : Int) = z + 126 by omega)).trans (hu 126 (by omega) (by omega))) dX6_whyNot_24 25 rfl ?_
  refine z_iconst C dX6_whyNot_25 26 rfl ?_
  refine z_irem C dX6_whyNot_26 27 rfl (by omega) (((u 126) % 2)) (rfl) ?_
  refine z_icmp_eq C dX6_whyNot_27 34 30 (by decide) rfl (by omega) (fun c27 => ?_) (fun c27 => ?_)
  · skip
    refine z_iconst C dX6_whyNot_34 35 rfl ?_
    refine z_is C hl dX6_whyNot_35 37 rfl (by decide) (lv' := [(5, .int (iI (0))), (4, .int (iI (reaZ u b d n true))), (0, .ref (X 0)), (1, .int (iI (z))), (2, .int (iI (b))), (3, .int (iI (wy)))]) rfl (fun ls hl => ?_)
    refine z_il C hl dX6_whyNot_37 1 rfl 39 rfl ?_
    refine z_iconst C dX6_whyNot_39 40 rfl ?_
    refine z_icmp_eq C dX6_whyNot_40 58 43 (by decide) rfl (by omega) (fun c40 => ?_) (fun c40 => ?_)
    · skip
      refine z_il C hl dX6_whyNot_58 1 rfl 60 rfl ?_
      exact z_ri C dX6_whyNot_60 (by rw [rea_f, if_neg (fun h => h.1 c40)])
    · skip
      refine z_il C hl dX6_whyNot_43 1 rfl 45 rfl ?_
      refine z_iconst C dX6_whyNot_45 46 rfl ?_
      refine z_icmp_eq C dX6_whyNot_46 58 49 (by decide) rfl (by omega) (fun c46 => ?_) (fun c46 => ?_)
      · skip
        skip
        refine z_il C hl dX6_whyNot_58 1 rfl 60 rfl ?_
        exact z_ri C dX6_whyNot_60 (by rw [rea_f, if_neg (fun h => h.2.1 c46)])
      · skip
        refine z_il C hl dX6_whyNot_49 0 rfl 51 rfl ?_
        refine z_if_eq C dX6_whyNot_51 58 54 (by decide) rfl (by omega) (fun c51 => ?_) (fun c51 => ?_)
        · skip
          refine z_il C hl dX6_whyNot_58 1 rfl 60 rfl ?_
          exact z_ri C dX6_whyNot_60 (by rw [rea_f, if_neg (fun h => h.2.2 c27)])
        · exfalso; omega
  · skip
    refine z_iconst C dX6_whyNot_30 31 rfl ?_
    refine z_goto C dX6_whyNot_31 35 (by decide) ?_
    refine z_is C hl dX6_whyNot_35 37 rfl (by decide) (lv' := [(5, .int (iI (1))), (4, .int (iI (reaZ u b d n true))), (0, .ref (X 0)), (1, .int (iI (z))), (2, .int (iI (b))), (3, .int (iI (wy)))]) rfl (fun ls hl => ?_)
    refine z_il C hl dX6_whyNot_37 1 rfl 39 rfl ?_
    refine z_iconst C dX6_whyNot_39 40 rfl ?_
    refine z_icmp_eq C dX6_whyNot_40 58 43 (by decide) rfl (by omega) (fun c40 => ?_) (fun c40 => ?_)
    · skip
      refine z_il C hl dX6_whyNot_58 1 rfl 60 rfl ?_
      exact z_ri C dX6_whyNot_60 (by rw [rea_f, if_neg (fun h => h.1 c40)])
    · skip
      refine z_il C hl dX6_whyNot_43 1 rfl 45 rfl ?_
      refine z_iconst C dX6_whyNot_45 46 rfl ?_
      refine z_icmp_eq C dX6_whyNot_46 58 49 (by decide) rfl (by omega) (fun c46 => ?_) (fun c46 => ?_)
      · skip
        skip
        refine z_il C hl dX6_whyNot_58 1 rfl 60 rfl ?_
        exact z_ri C dX6_whyNot_60 (by rw [rea_f, if_neg (fun h => h.2.1 c46)])
      · skip
        refine z_il C hl dX6_whyNot_49 0 rfl 51 rfl ?_
        refine z_if_eq C dX6_whyNot_51 58 54 (by decide) rfl (by omega) (fun c51 => ?_) (fun c51 => ?_)
        · exfalso; omega
        · skip
          refine z_iconst C dX6_whyNot_54 55 rfl ?_
          refine z_goto C dX6_whyNot_55 60 (by decide) ?_
          exact z_ri C dX6_whyNot_60 (by rw [rea_f, if_pos ⟨c40, c46, c27⟩])
