theorem qc401 : (Jvm.Cond.constantFloat "TideBoats" (212 : Nat) (3212836864 : UInt32)) ∈ lw_all := all_mem 401 (by decide +kernel) (by decide +kernel)
theorem qc453 : (Jvm.Cond.constantLong "TideBoats$HomeSearch" (82 : Nat) (-1 : Int64)) ∈ lw_all := all_mem 453 (by decide +kernel) (by decide +kernel)
theorem qc465 : (Jvm.Cond.constantLong "TideBoats$HomeSearch" (108 : Nat) (-34905131041 : Int64)) ∈ lw_all := all_mem 465 (by decide +kernel) (by decide +kernel)
theorem qc466 : (Jvm.Cond.constantLong "TideBoats$HomeSearch" (110 : Nat) (68719476735 : Int64)) ∈ lw_all := all_mem 466 (by decide +kernel) (by decide +kernel)
theorem qc467 : (Jvm.Cond.constantLong "TideBoats$HomeSearch" (112 : Nat) (-1090785346 : Int64)) ∈ lw_all := all_mem 467 (by decide +kernel) (by decide +kernel)
theorem qc474 : (Jvm.Cond.constant "TideBoatsLaw" (7 : Nat) (2147483647 : Int32)) ∈ lw_all := all_mem 474 (by decide +kernel) (by decide +kernel)
theorem qc556 : (Jvm.Cond.constantFloat "TideBoatsLaw" (102 : Nat) (3212836864 : UInt32)) ∈ lw_all := all_mem 556 (by decide +kernel) (by decide +kernel)
set_option maxHeartbeats 4000000 in
set_option maxRecDepth 100000 in
theorem m_isCell (l : Launch) (G : gT) (x : Int) (hz : -2147483648 ≤ x ∧ x < 2147483648) : MR l G yX5_isCell cX5_isCell 1 (some .boolean) 0 [.int (iI (x))] [] ZT (.int (iI (bZ (decide (0 ≤ x ∧ x < 36))))) := by
  refine enterR (own := RX5) (by decide +kernel) rfl (Nat.le_of_ble_eq_true rfl) ?_
  intro p e s m below meth c C hP hK hZ ls hl
  have hl : lv_has ls 1 [(0, .int (iI (x)))] := hl
  refine z_il_n C hl dX5_isCell_0 0 rfl 1 rfl ?_
  refine z_if_lt C dX5_isCell_1 14 4 (by decide) rfl (by omega) (fun c1 => ?_) (fun c1 => ?_)
  · skip
    refine z_iconst C dX5_isCell_14 15 rfl ?_
    exact z_rz C dX5_isCell_15 (bZ_df (by omega))
  · skip
    refine z_il_n C hl dX5_isCell_4 0 rfl 5 rfl ?_
    refine z_bipush C dX5_isCell_5 (by decide) 7 rfl ?_
    refine z_icmp_ge C dX5_isCell_7 14 10 (by decide) rfl (by omega) (fun c7 => ?_) (fun c7 => ?_)
    · skip
      refine z_iconst C dX5_isCell_14 15 rfl ?_
      exact z_rz C dX5_isCell_15 (bZ_df (by omega))
    · skip
      refine z_iconst C dX5_isCell_10 11 rfl ?_
      refine z_goto C dX5_isCell_11 15 (by decide) ?_
      exact z_rz C dX5_isCell_15 (bZ_dt (by omega))

set_option maxHeartbeats 4000000 in
set_option maxRecDepth 100000 in
theorem m_isPlayer (l : Launch) (G : gT) (x : Int) (hz : -2147483648 ≤ x ∧ x < 2147483648) : MR l G yX5_isPlayer cX5_isPlayer 1 (some .boolean) 0 [.int (iI (x))] [] ZT (.int (iI (bZ (decide (0 ≤ x ∧ x < 2))))) := by
  refine enterR (own := RX5) (by decide +kernel) rfl (Nat.le_of_ble_eq_true rfl) ?_
  intro p e s m below meth c C hP hK hZ ls hl
  have hl : lv_has ls 1 [(0, .int (iI (x)))] := hl
  refine z_il_n C hl dX5_isPlayer_0 0 rfl 1 rfl ?_
  refine z_if_eq C dX5_isPlayer_1 9 4 (by decide) rfl (by omega) (fun c1 => ?_) (fun c1 => ?_)
  · skip
    refine z_iconst C dX5_isPlayer_9 10 rfl ?_
    refine z_goto C dX5_isPlayer_10 14 (by decide) ?_
    exact z_rz C dX5_isPlayer_14 (bZ_dt (by omega))
  · skip
    refine z_il_n C hl dX5_isPlayer_4 0 rfl 5 rfl ?_
    refine z_iconst C dX5_isPlayer_5 6 rfl ?_
    refine z_icmp_ne C dX5_isPlayer_6 13 9 (by decide) rfl (by omega) (fun c6 => ?_) (fun c6 => ?_)
    · skip
      refine z_iconst C dX5_isPlayer_13 14 rfl ?_
      exact z_rz C dX5_isPlayer_14 (bZ_df (by omega))
    · skip
      refine z_iconst C dX5_isPlayer_9 10 rfl ?_
      refine z_goto C dX5_isPlayer_10 14 (by decide) ?_
      exact z_rz C dX5_isPlayer_14 (bZ_dt (by omega))

set_option maxHeartbeats 4000000 in
set_option maxRecDepth 100000 in
theorem m_isDraft (l : Launch) (G : gT) (x : Int) (hz : -2147483648 ≤ x ∧ x < 2147483648) : MR l G yX5_isDraft cX5_isDraft 1 (some .boolean) 0 [.int (iI (x))] [] ZT (.int (iI (bZ (decide (1 ≤ x ∧ x < 4))))) := by
  refine enterR (own := RX5) (by decide +kernel) rfl (Nat.le_of_ble_eq_true rfl) ?_
  intro p e s m below meth c C hP hK hZ ls hl
  have hl : lv_has ls 1 [(0, .int (iI (x)))] := hl
  refine z_il_n C hl dX5_isDraft_0 0 rfl 1 rfl ?_
  refine z_iconst C dX5_isDraft_1 2 rfl ?_
  refine z_icmp_lt C dX5_isDraft_2 14 5 (by decide) rfl (by omega) (fun c2 => ?_) (fun c2 => ?_)
  · skip
    refine z_iconst C dX5_isDraft_14 15 rfl ?_
    exact z_rz C dX5_isDraft_15 (bZ_df (by omega))
  · skip
    refine z_il_n C hl dX5_isDraft_5 0 rfl 6 rfl ?_
    refine z_iconst C dX5_isDraft_6 7 rfl ?_
    refine z_icmp_gt C dX5_isDraft_7 14 10 (by decide) rfl (by omega) (fun c7 => ?_) (fun c7 => ?_)
    · skip
      refine z_iconst C dX5_isDraft_14 15 rfl ?_
      exact z_rz C dX5_isDraft_15 (bZ_df (by omega))
    · skip
      refine z_iconst C dX5_isDraft_10 11 rfl ?_
      refine z_goto C dX5_isDraft_11 15 (by decide) ?_
      exact z_rz C dX5_isDraft_15 (bZ_dt (by omega))

set_option maxHeartbeats 4000000 in
set_option maxRecDepth 100000 in
theorem m_isHarbour (l : Launch) (G : gT) (x : Int) (hz : -2147483648 ≤ x ∧ x < 2147483648) : MR l G yX5_isHarbour cX5_isHarbour 1 (some .boolean) 0 [.int (iI (x))] [] ZT (.int (iI (bZ (decide (x = 0 ∨ x = 35))))) := by
  refine enterR (own := RX5) (by decide +kernel) rfl (Nat.le_of_ble_eq_true rfl) ?_
  intro p e s m below meth c C hP hK hZ ls hl
  have hl : lv_has ls 1 [(0, .int (iI (x)))] := hl
  refine z_il_n C hl dX5_isHarbour_0 0 rfl 1 rfl ?_
  refine z_bipush C dX5_isHarbour_1 (by decide) 3 rfl ?_
  refine z_icmp_eq C dX5_isHarbour_3 10 6 (by decide) rfl (by omega) (fun c3 => ?_) (fun c3 => ?_)
  · skip
    refine z_iconst C dX5_isHarbour_10 11 rfl ?_
    refine z_goto C dX5_isHarbour_11 15 (by decide) ?_
    exact z_rz C dX5_isHarbour_15 (bZ_dt (by omega))
  · skip
    refine z_il_n C hl dX5_isHarbour_6 0 rfl 7 rfl ?_
    refine z_if_ne C dX5_isHarbour_7 14 10 (by decide) rfl (by omega) (fun c7 => ?_) (fun c7 => ?_)
    · skip
      refine z_iconst C dX5_isHarbour_14 15 rfl ?_
      exact z_rz C dX5_isHarbour_15 (bZ_df (by omega))
    · skip
      refine z_iconst C dX5_isHarbour_10 11 rfl ?_
      refine z_goto C dX5_isHarbour_11 15 (by decide) ?_
      exact z_rz C dX5_isHarbour_15 (bZ_dt (by omega))

set_option maxHeartbeats 4000000 in
set_option maxRecDepth 100000 in
theorem m_harbourOf (l : Launch) (G : gT) (x : Int) (hz : -2147483648 ≤ x ∧ x < 2147483648) : MR l G yX5_harbourOf cX5_harbourOf 1 (some .int) 0 [.int (iI (x))] [] ZT (.int (iI (harZ x))) := by
  refine enterR (own := RX5) (by decide +kernel) rfl (Nat.le_of_ble_eq_true rfl) ?_
  intro p e s m below meth c C hP hK hZ ls hl
  have hl : lv_has ls 1 [(0, .int (iI (x)))] := hl
  refine z_il_n C hl dX5_harbourOf_0 0 rfl 1 rfl ?_
  refine z_if_ne C dX5_harbourOf_1 9 4 (by decide) rfl (by omega) (fun c1 => ?_) (fun c1 => ?_)
  · skip
    refine z_iconst C dX5_harbourOf_9 10 rfl ?_
    exact z_ri C dX5_harbourOf_10 (by unfold harZ; split <;> omega)
  · skip
    refine z_bipush C dX5_harbourOf_4 (by decide) 6 rfl ?_
    refine z_goto C dX5_harbourOf_6 10 (by decide) ?_
    exact z_ri C dX5_harbourOf_10 (by unfold harZ; split <;> omega)

set_option maxHeartbeats 4000000 in
set_option maxRecDepth 100000 in
theorem m_cellBeside (l : Launch) (G : gT) (x d : Int) (hz : -2147483648 ≤ x ∧ x < 2147483648) (hd : -2147483648 ≤ d ∧ d < 2147483648) : MR l G yX5_cellBeside cX5_cellBeside 3 (some .int) 1 [.int (iI (x)), .int (iI (d))] [] ZT (.int (iI (besZ x d))) := by
  refine enterR (own := RX5) (by decide +kernel) rfl (Nat.le_of_ble_eq_true rfl) ?_
  intro p e s m below meth c C hP hK hZ ls hl
  have hl : lv_has ls 3 [(0, .int (iI (x))), (1, .int (iI (d)))] := hl
  refine z_il_n C hl dX5_cellBeside_0 0 rfl 1 rfl ?_
  refine z_SR (r := .int (iI (bZ (decide (0 ≤ x ∧ x < 36))))) (rest := []) C (m_isCell l G (x) (by omega)) kS_X5_108 ⟨Nat.le_of_ble_eq_true rfl, Nat.le_of_ble_eq_true rfl⟩ (gP_nil) hK rfl hl.1 rfl (Nat.le_of_ble_eq_true rfl) dX5_cellBeside_1 ⟨Nat.le_of_ble_eq_true rfl, Nat.le_of_ble_eq_true rfl⟩ 4 rfl ?_
  refine z_ifb_ne C dX5_cellBeside_4 9 7 (by decide) rfl (fun c4 => ?_) (fun c4 => ?_)
  · skip
    simp only [decide_eq_true_eq, decide_eq_false_iff_not] at c4
    refine z_il_n C hl dX5_cellBeside_9 0 rfl 10 rfl ?_
    refine z_bipush C dX5_cellBeside_10 (by decide) 12 rfl ?_
    refine z_irem C dX5_cellBeside_12 13 rfl (by omega) ((x % 6)) (rfl) ?_
    refine z_is_n C hl dX5_cellBeside_13 14 rfl (by decide) (lv' := [(2, .int (iI ((x % 6)))), (0, .int (iI (x))), (1, .int (iI (d)))]) rfl (fun ls hl => ?_)
    refine z_il_n C hl dX5_cellBeside_14 2 rfl 15 rfl ?_
    have hsw15 : (d) = 0 ∨ (d) = 1 ∨ (d) = 2 ∨ (d) = 3 ∨ ((d) < 0 ∨ 3 < (d)) := by omega
    rcases hsw15 with h15 | h15 | h15 | h15 | h15
    · skip
      refine z_swIn C dX5_cellBeside_15 (by omega) (by omega) 29 44 (by rw [h15]; rfl) (by decide) ?_
      refine z_il_n C hl dX5_cellBeside_44 0 rfl 45 rfl ?_
      refine z_iconst C dX5_cellBeside_45 46 rfl ?_
      refine z_icmp_ge C dX5_cellBeside_46 55 49 (by decide) rfl (by omega) (fun c46 => ?_) (fun c46 => ?_)
      · skip
        refine z_iconst C dX5_cellBeside_55 56 rfl ?_
        exact z_ri C dX5_cellBeside_56 (by unfold besZ; (repeat' split) <;> omega)
      · skip
        refine z_il_n C hl dX5_cellBeside_49 1 rfl 50 rfl ?_
        refine z_iconst C dX5_cellBeside_50 51 rfl ?_
        refine z_iadd C dX5_cellBeside_51 52 rfl (1 + x) (by omega) ?_
        refine z_goto C dX5_cellBeside_52 56 (by decide) ?_
        exact z_ri C dX5_cellBeside_56 (by unfold besZ; (repeat' split) <;> omega)
    · skip
      refine z_swIn C dX5_cellBeside_15 (by omega) (by omega) 42 57 (by rw [h15]; rfl) (by decide) ?_
      refine z_il_n C hl dX5_cellBeside_57 1 rfl 58 rfl ?_
      refine z_bipush C dX5_cellBeside_58 (by decide) 60 rfl ?_
      refine z_iadd C dX5_cellBeside_60 61 rfl (6 + x) (by omega) ?_
      refine z_bipush C dX5_cellBeside_61 (by decide) 63 rfl ?_
      refine z_icmp_ge C dX5_cellBeside_63 73 66 (by decide) rfl (by omega) (fun c63 => ?_) (fun c63 => ?_)
      · skip
        refine z_iconst C dX5_cellBeside_73 74 rfl ?_
        exact z_ri C dX5_cellBeside_74 (by unfold besZ; (repeat' split) <;> omega)
      · skip
        refine z_il_n C hl dX5_cellBeside_66 1 rfl 67 rfl ?_
        refine z_bipush C dX5_cellBeside_67 (by decide) 69 rfl ?_
        refine z_iadd C dX5_cellBeside_69 70 rfl (6 + x) (by omega) ?_
        refine z_goto C dX5_cellBeside_70 74 (by decide) ?_
        exact z_ri C dX5_cellBeside_74 (by unfold besZ; (repeat' split) <;> omega)
    · skip
      refine z_swIn C dX5_cellBeside_15 (by omega) (by omega) 60 75 (by rw [h15]; rfl) (by decide) ?_
      refine z_il_n C hl dX5_cellBeside_75 0 rfl 76 rfl ?_
      refine z_if_le C dX5_cellBeside_76 85 79 (by decide) rfl (by omega) (fun c76 => ?_) (fun c76 => ?_)
      · skip
        refine z_iconst C dX5_cellBeside_85 86 rfl ?_
        exact z_ri C dX5_cellBeside_86 (by unfold besZ; (repeat' split) <;> omega)
      · skip
        refine z_il_n C hl dX5_cellBeside_79 1 rfl 80 rfl ?_
        refine z_iconst C dX5_cellBeside_80 81 rfl ?_
        refine z_isub C dX5_cellBeside_81 82 rfl (x - 1) (rfl) ?_
        refine z_goto C dX5_cellBeside_82 86 (by decide) ?_
        exact z_ri C dX5_cellBeside_86 (by unfold besZ; (repeat' split) <;> omega)
    · skip
      refine z_swIn C dX5_cellBeside_15 (by omega) (by omega) 72 87 (by rw [h15]; rfl) (by decide) ?_
      refine z_il_n C hl dX5_cellBeside_87 1 rfl 88 rfl ?_
      refine z_bipush C dX5_cellBeside_88 (by decide) 90 rfl ?_
      refine z_icmp_lt C dX5_cellBeside_90 100 93 (by decide) rfl (by omega) (fun c90 => ?_) (fun c90 => ?_)
      · skip
        refine z_iconst C dX5_cellBeside_100 101 rfl ?_
        exact z_ri C dX5_cellBeside_101 (by unfold besZ; (repeat' split) <;> omega)
      · skip
        refine z_il_n C hl dX5_cellBeside_93 1 rfl 94 rfl ?_
        refine z_bipush C dX5_cellBeside_94 (by decide) 96 rfl ?_
        refine z_isub C dX5_cellBeside_96 97 rfl (x - 6) (rfl) ?_
        refine z_goto C dX5_cellBeside_97 101 (by decide) ?_
        exact z_ri C dX5_cellBeside_101 (by unfold besZ; (repeat' split) <;> omega)
    · skip
      refine z_swOut C dX5_cellBeside_15 (by omega) h15 102 (by decide) ?_
      refine z_iconst C dX5_cellBeside_102 103 rfl ?_
      exact z_ri C dX5_cellBeside_103 (by unfold besZ; (repeat' split) <;> omega)
  · skip
    simp only [decide_eq_true_eq, decide_eq_false_iff_not] at c4
    refine z_iconst C dX5_cellBeside_7 8 rfl ?_
    exact z_ri C dX5_cellBeside_8 (by unfold besZ; (repeat' split) <;> omega)

set_option maxHeartbeats 4000000 in
set_option maxRecDepth 100000 in
theorem m_cellFrom (l : Launch) (G : gT) (x d n : Int) (hz : -2147483648 ≤ x ∧ x < 2147483648) (hd : -2147483648 ≤ d ∧ d < 2147483648) (hn : 0 ≤ n ∧ n ≤ 3) : MR l G yX5_cellFrom cX5_cellFrom 5 (some .int) 2 [.int (iI (x)), .int (iI (d)), .int (iI (n))] [] ZT (.int (iI (froZ d n.toNat x))) := by
  refine enterR (own := RX5) (by decide +kernel) rfl (Nat.le_of_ble_eq_true rfl) ?_
  intro p e s m below meth c C hP hK hZ ls hl
  have hl : lv_has ls 5 [(0, .int (iI (x))), (1, .int (iI (d))), (2, .int (iI (n)))] := hl
  refine z_il_n C hl dX5_cellFrom_0 0 rfl 1 rfl ?_
  refine z_is_n C hl dX5_cellFrom_1 2 rfl (by decide) (lv' := [(3, .int (iI (x))), (0, .int (iI (x))), (1, .int (iI (d))), (2, .int (iI (n)))]) rfl (fun ls hl => ?_)
  refine z_iconst C dX5_cellFrom_2 3 rfl ?_
  refine z_is C hl dX5_cellFrom_3 5 rfl (by decide) (lv' := [(4, .int (iI (0))), (3, .int (iI (x))), (0, .int (iI (x))), (1, .int (iI (d))), (2, .int (iI (n)))]) rfl (fun ls hl => ?_)
  have L5 : ∀ (fu : Nat) (at_ : Int) (st : Int) (h1 : 0 ≤ st ∧ st ≤ n) (h2 : -2147483648 ≤ at_ ∧ at_ < 2147483648) (h3 : froZ d (n - st).toNat at_ = froZ d n.toNat x) (hm : 3 - st < (fu : Int)) (ls : Array Slot) (hl : lv_has ls 5 [(4, .int (iI (st))), (3, .int (iI (at_))), (2, .int (iI (n))), (1, .int (iI (d))), (0, .int (iI (x)))]), W p l e (rmN 2) s m [.int (iI (x)), .int (iI (d)), .int (iI (n))].toArray below meth c s.heap [] 0 0 (MQ below (QR (.int (iI (froZ d n.toNat x)))) [.int (iI (x)), .int (iI (d)), .int (iI (n))].toArray s 0 0 (fun _ => False)) (F0 m 5 ls []) := by
    intro fu
    induction fu with
    | zero => intro at_ st h1 h2 h3 hm ls hl; exfalso; omega
    | succ fu ih =>
      intro at_ st h1 h2 h3 hm ls hl
      have ih5 := ih
      refine z_il C hl dX5_cellFrom_5 0 rfl 7 rfl ?_
      refine z_il_n C hl dX5_cellFrom_7 2 rfl 8 rfl ?_
      refine z_icmp_ge C dX5_cellFrom_8 29 11 (by decide) rfl (by omega) (fun c8 => ?_) (fun c8 => ?_)
      · skip
        refine z_il_n C hl dX5_cellFrom_29 1 rfl 30 rfl ?_
        exact z_ri C dX5_cellFrom_30 (by rw [← h3, show (n - st).toNat = 0 by omega]; rfl)
      · skip
        refine z_il C hl dX5_cellFrom_11 0 rfl 13 rfl ?_
        refine z_iconst C dX5_cellFrom_13 14 rfl ?_
        refine z_icmp_ge C dX5_cellFrom_14 29 17 (by decide) rfl (by omega) (fun c14 => ?_) (fun c14 => ?_)
        · skip
          refine z_il_n C hl dX5_cellFrom_29 1 rfl 30 rfl ?_
          exact z_ri C dX5_cellFrom_30 (by rw [← h3, show (n - st).toNat = 0 by omega]; rfl)
        · skip
          refine z_il_n C hl dX5_cellFrom_17 1 rfl 18 rfl ?_
          refine z_il_n C hl dX5_cellFrom_18 3 rfl 19 rfl ?_
          refine z_SR (r := .int (iI (besZ at_ d))) (rest := []) C (m_cellBeside l G (at_) (d) (by omega) (by omega)) kS_X5_278 ⟨Nat.le_of_ble_eq_true rfl, Nat.le_of_ble_eq_true rfl⟩ (gP_nil) hK rfl hl.1 rfl (Nat.le_of_ble_eq_true rfl) dX5_cellFrom_19 ⟨Nat.le_of_ble_eq_true rfl, Nat.le_of_ble_eq_true rfl⟩ 22 rfl ?_
          have hb19 := besZ_rng (at_) (d)
          refine z_is_n C hl dX5_cellFrom_22 23 rfl (by decide) (lv' := [(3, .int (iI (besZ at_ d))), (4, .int (iI (st))), (2, .int (iI (n))), (1, .int (iI (d))), (0, .int (iI (x)))]) rfl (fun ls hl => ?_)
          refine z_iinc C hl dX5_cellFrom_23 26 rfl 1 rfl (z := 1 + st) (by omega) (by decide) (lv' := [(4, .int (iI (1 + st))), (3, .int (iI (besZ at_ d))), (2, .int (iI (n))), (1, .int (iI (d))), (0, .int (iI (x)))]) rfl (fun ls hl => ?_)
          refine z_goto C dX5_cellFrom_26 5 (by decide) ?_
          exact ih5 (besZ at_ d) (1 + st) (by omega) (by omega) (by rw [← h3, show (n - st).toNat = (n - (1 + st)).toNat + 1 by omega]; rfl) (by omega) ls (lv_sub hl [0, 1, 2, 3, 4] rfl)
  exact L5 (Int.toNat (3 - 0) + 1) x 0 (by omega) (by omega) (by simp) (by omega) ls (lv_sub hl [0, 1, 4, 3, 2] rfl)

set_option maxHeartbeats 4000000 in
set_option maxRecDepth 100000 in
theorem m_rd (l : Launch) (G : gT) (a n : Nat) (f : Int → Int) (i x : Int) (hn : (n : Int) ≤ 1000) (hi : 0 ≤ i ∧ i < n) (hx : f i = x) : MR l G yX5_read cX5_read 2 (some .int) 0 [.ref (a), .int (iI (i))] [[arI G a n f]] ZT (.int (iI (x))) := by
  refine enterR (own := RX5) (by decide +kernel) rfl (Nat.le_of_ble_eq_true rfl) ?_
  intro p e s m below meth c C hP hK hZ ls hl
  have hl : lv_has ls 2 [(0, .ref (a)), (1, .int (iI (i)))] := hl
  refine z_il_n C hl dX5_read_0 1 rfl 1 rfl ?_
  refine z_if_lt C dX5_read_1 16 4 (by decide) rfl (by omega) (fun c1 => ?_) (fun c1 => ?_)
  · exfalso; omega
  · skip
    refine z_il_n C hl dX5_read_4 1 rfl 5 rfl ?_
    refine z_al_n C hl dX5_read_5 0 rfl 6 rfl ?_
    refine z_alen C hP hK 0 0 rfl rfl ((n : Int)) rfl dX5_read_6 7 rfl ?_
    refine z_icmp_ge C dX5_read_7 16 10 (by decide) rfl (by omega) (fun c7 => ?_) (fun c7 => ?_)
    · exfalso; omega
    · skip
      refine z_al_n C hl dX5_read_10 0 rfl 11 rfl ?_
      refine z_il_n C hl dX5_read_11 1 rfl 12 rfl ?_
      refine z_iaZ C (f) hP hK 0 rfl (by omega) (by omega) (f i) (rfl) dX5_read_12 13 rfl ?_
      refine z_goto C dX5_read_13 17 (by decide) ?_
      exact z_ri C dX5_read_17 (hx)

set_option maxHeartbeats 4000000 in
set_option maxRecDepth 100000 in
theorem m_rdg (l : Launch) (G : gT) (a n : Nat) (f : Int → Int) (i : Int) (hn : (n : Int) ≤ 1000) (hi : -2147483648 ≤ i ∧ i < 2147483648) : MR l G yX5_read cX5_read 2 (some .int) 0 [.ref (a), .int (iI (i))] [[arI G a n f]] ZT (.int (iI (rdZ n f i))) := by
  refine enterR (own := RX5) (by decide +kernel) rfl (Nat.le_of_ble_eq_true rfl) ?_
  intro p e s m below meth c C hP hK hZ ls hl
  have hl : lv_has ls 2 [(0, .ref (a)), (1, .int (iI (i)))] := hl
  refine z_il_n C hl dX5_read_0 1 rfl 1 rfl ?_
  refine z_if_lt C dX5_read_1 16 4 (by decide) rfl (by omega) (fun c1 => ?_) (fun c1 => ?_)
  · skip
    refine z_iconst C dX5_read_16 17 rfl ?_
    exact z_ri C dX5_read_17 (by unfold rdZ; rw [if_neg (by omega)])
  · skip
    refine z_il_n C hl dX5_read_4 1 rfl 5 rfl ?_
    refine z_al_n C hl dX5_read_5 0 rfl 6 rfl ?_
    refine z_alen C hP hK 0 0 rfl rfl ((n : Int)) rfl dX5_read_6 7 rfl ?_
    refine z_icmp_ge C dX5_read_7 16 10 (by decide) rfl (by omega) (fun c7 => ?_) (fun c7 => ?_)
    · skip
      refine z_iconst C dX5_read_16 17 rfl ?_
      exact z_ri C dX5_read_17 (by unfold rdZ; rw [if_neg (by omega)])
    · skip
      refine z_al_n C hl dX5_read_10 0 rfl 11 rfl ?_
      refine z_il_n C hl dX5_read_11 1 rfl 12 rfl ?_
      refine z_iaZ C (f) hP hK 0 rfl (by omega) (by omega) (f i) (rfl) dX5_read_12 13 rfl ?_
      refine z_goto C dX5_read_13 17 (by decide) ?_
      exact z_ri C dX5_read_17 (by unfold rdZ; rw [if_pos (by omega)])

set_option maxHeartbeats 4000000 in
set_option maxRecDepth 100000 in
theorem m_wr (l : Launch) (G : gT) (a n : Nat) (f : Int → Int) (i x : Int) (hn : (n : Int) ≤ 1000) (hi : 0 ≤ i ∧ i < n) (hD : gD ([[arI G a n f]] : List va_W).flatten) : MW l G yX5_write cX5_write 3 (none) 0 [.ref (a), .int (iI (i)), .int (iI (x))] [[arI G a n f]] [[arI G a n (updZ f i x)]] ZT none := by
  refine enterW (own := RX5) (by decide +kernel) rfl (Nat.le_of_ble_eq_true rfl) hD ?_
  intro p e s m below meth c C hW hK hZ ls hl
  have hl : lv_has ls 3 [(0, .ref (a)), (1, .int (iI (i))), (2, .int (iI (x)))] := hl
  refine z_il_n C hl dX5_write_0 1 rfl 1 rfl ?_
  refine z_if_lt C dX5_write_1 14 4 (by decide) rfl (by omega) (fun c1 => ?_) (fun c1 => ?_)
  · exfalso; omega
  · skip
    refine z_il_n C hl dX5_write_4 1 rfl 5 rfl ?_
    refine z_al_n C hl dX5_write_5 0 rfl 6 rfl ?_
    refine z_alen C hW.1 hK 0 0 rfl rfl ((n : Int)) rfl dX5_write_6 7 rfl ?_
    refine z_icmp_ge C dX5_write_7 14 10 (by decide) rfl (by omega) (fun c7 => ?_) (fun c7 => ?_)
    · exfalso; omega
    · skip
      refine z_al_n C hl dX5_write_10 0 rfl 11 rfl ?_
      refine z_il_n C hl dX5_write_11 1 rfl 12 rfl ?_
      refine z_il_n C hl dX5_write_12 2 rfl 13 rfl ?_
      refine z_iasZ C (f) hW hK 0 rfl (by omega) (by omega) dX5_write_13 14 rfl (rs' := [[arI G a n (updZ f i x)]]) rfl (fun H locs hW => ?_)
      exact z_wv C hW dX5_write_14 rfl

set_option maxHeartbeats 4000000 in
set_option maxRecDepth 100000 in
theorem m_cp (l : Launch) (G : gT) (a b n : Nat) (f g : Int → Int) (hn : (n : Int) ≤ 1000) (hD : gD ([[arI G a n f], [arI G b n g]] : List va_W).flatten) : MW l G yX5_copy cX5_copy 3 (none) 0 [.ref (a), .ref (b)] [[arI G a n f], [arI G b n g]] [[arI G a n f], [arI G b n f]] ZT none := by
  refine enterW (own := RX5) (by decide +kernel) rfl (Nat.le_of_ble_eq_true rfl) hD ?_
  intro p e s m below meth c C hW hK hZ ls hl
  have hl : lv_has ls 3 [(0, .ref (a)), (1, .ref (b))] := hl
  refine z_iconst C dX5_copy_0 1 rfl ?_
  have hW := Wd.ceq (rs' := [[arI G a n f], [arI G b n (mixZ f g 0)]]) hW ⟨ceq.rf, ceq.I (fun k h _ => (mixZ_0 h).symm), trivial⟩
  refine z_is_n C hl dX5_copy_1 2 rfl (by decide) (lv' := [(2, .int (iI (0))), (0, .ref (a)), (1, .ref (b))]) rfl (fun ls hl => ?_)
  have L2 : ∀ (fu : Nat) (i : Int) (h1 : 0 ≤ i ∧ i ≤ n) (H : Heap) (locs : List Loc) (hW : Wd G (adr ([[arI G a n f], [arI G b n g]] : List va_W).flatten) [[arI G a n f], [arI G b n (mixZ f g i)]] s.heap H locs) (hm : (n : Int) - i < (fu : Int)) (ls : Array Slot) (hl : lv_has ls 3 [(2, .int (iI (i))), (1, .ref (b)), (0, .ref (a))]), W p l e (rmN 0) s m [.ref (a), .ref (b)].toArray below meth c H locs 0 0 (MQ below (QW G [[arI G a n f], [arI G b n g]] [[arI G a n f], [arI G b n f]] none) [.ref (a), .ref (b)].toArray s 0 0 (adr ([[arI G a n f], [arI G b n g]] : List va_W).flatten)) (F0 m 2 ls []) := by
    intro fu
    induction fu with
    | zero => intro i h1 H locs hW hm ls hl; exfalso; omega
    | succ fu ih =>
      intro i h1 H locs hW hm ls hl
      have ih2 := ih
      refine z_il_n C hl dX5_copy_2 0 rfl 3 rfl ?_
      refine z_al_n C hl dX5_copy_3 2 rfl 4 rfl ?_
      refine z_alen C hW.1 hK 0 0 rfl rfl ((n : Int)) rfl dX5_copy_4 5 rfl ?_
      refine z_icmp_ge C dX5_copy_5 26 8 (by decide) rfl (by omega) (fun c5 => ?_) (fun c5 => ?_)
      · skip
        have hW := Wd.ceq (rs' := [[arI G a n f], [arI G b n f]]) hW ⟨ceq.rf, ceq.I (fun k _ h => mixZ_n (by omega)), trivial⟩
        exact z_wv C hW dX5_copy_26 rfl
      · skip
        refine z_il_n C hl dX5_copy_8 0 rfl 9 rfl ?_
        refine z_al_n C hl dX5_copy_9 1 rfl 10 rfl ?_
        refine z_alen C hW.1 hK 1 0 rfl rfl ((n : Int)) rfl dX5_copy_10 11 rfl ?_
        refine z_icmp_ge C dX5_copy_11 26 14 (by decide) rfl (by omega) (fun c11 => ?_) (fun c11 => ?_)
        · exfalso; omega
        · skip
          refine z_al_n C hl dX5_copy_14 1 rfl 15 rfl ?_
          refine z_il_n C hl dX5_copy_15 0 rfl 16 rfl ?_
          refine z_al_n C hl dX5_copy_16 2 rfl 17 rfl ?_
          refine z_il_n C hl dX5_copy_17 0 rfl 18 rfl ?_
          refine z_iaZ C (f) hW.1 hK 0 rfl (by omega) (by omega) (f i) (rfl) dX5_copy_18 19 rfl ?_
          refine z_iasZ C ((mixZ f g i)) hW hK 1 rfl (by omega) (by omega) dX5_copy_19 20 rfl (rs' := [[arI G a n f], [arI G b n (updZ (mixZ f g i) i (f i))]]) rfl (fun H locs hW => ?_)
          rw [mixZ_s, Int.add_comm] at hW
          refine z_iinc C hl dX5_copy_20 23 rfl 0 rfl (z := 1 + i) (by omega) (by decide) (lv' := [(2, .int (iI (1 + i))), (1, .ref (b)), (0, .ref (a))]) rfl (fun ls hl => ?_)
          refine z_goto C dX5_copy_23 2 (by decide) ?_
          exact ih2 (1 + i) (by omega) _ _ hW (by omega) ls (lv_sub hl [0, 1, 2] rfl)
  exact L2 (Int.toNat ((n : Int) - 0) + 1) 0 (by omega) _ _ hW (by omega) ls (lv_sub hl [0, 2, 1] rfl)
