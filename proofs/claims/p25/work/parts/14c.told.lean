set_option maxHeartbeats 4000000 in
set_option maxRecDepth 100000 in
theorem m_cellOf (l : Launch) (G : gT) (tb r x cu h pa o sg : Nat) (qn qb sn : Nat → Nat) (v : Int → Int) (c0 k : Int) (w : Wf v) (hc0 : -2147483648 ≤ c0 ∧ c0 < 2147483648) (hk : -2147483648 ≤ k ∧ k < 2147483648) : MR l G yX5_cellOf cX5_cellOf 3 (some .int) 2 [.ref (tb), .int (iI (c0)), .int (iI (k))] [[tbO tb qn qb r x h o], stW G qn v] ZT (.int (iI (celR v c0 k))) := by
  refine enterR (own := RX5) (by decide +kernel) rfl (Nat.le_of_ble_eq_true rfl) ?_
  intro p e s m below meth c C hP hK hZ ls hl
  have hl : lv_has ls 3 [(0, .ref (tb)), (1, .int (iI (c0))), (2, .int (iI (k)))] := hl
  refine z_il_n C hl dX5_cellOf_0 1 rfl 1 rfl ?_
  refine z_SR (r := .int (iI (bZ (decide (0 ≤ c0 ∧ c0 < 36))))) (rest := []) C (m_isCell l G (c0) (by omega)) kS_X5_108 ⟨Nat.le_of_ble_eq_true rfl, Nat.le_of_ble_eq_true rfl⟩ (gP_nil) hK rfl hl.1 rfl (Nat.le_of_ble_eq_true rfl) dX5_cellOf_1 ⟨Nat.le_of_ble_eq_true rfl, Nat.le_of_ble_eq_true rfl⟩ 4 rfl ?_
  refine z_ifb_ne C dX5_cellOf_4 9 7 (by decide) rfl (fun c4 => ?_) (fun c4 => ?_)
  · skip
    simp only [decide_eq_true_eq, decide_eq_false_iff_not] at c4
    refine z_il_n C hl dX5_cellOf_9 2 rfl 10 rfl ?_
    have hsw10 : (k) = 0 ∨ (k) = 1 ∨ (k) = 2 ∨ (k) = 3 ∨ ((k) < 0 ∨ 3 < (k)) := by omega
    rcases hsw10 with h10 | h10 | h10 | h10 | h10
    · skip
      refine z_swIn C dX5_cellOf_10 (by omega) (by omega) 30 40 (by rw [h10]; rfl) (by decide) ?_
      refine z_al_n C hl dX5_cellOf_40 0 rfl 41 rfl ?_
      refine z_get C hP hK fl_X5_10 0 rfl rfl dX5_cellOf_41 44 rfl ?_
      refine z_getN C hP hK fl_X5_112 1 rfl rfl dX5_cellOf_44 47 rfl ?_
      refine z_il_n C hl dX5_cellOf_47 1 rfl 48 rfl ?_
      refine z_SR (r := .int (iI (v c0))) (rest := []) C (m_rd l G (qn 1) 36 (fun k => v k) (c0) (v c0) (by decide) (by omega) (rfl)) kS_X5_116 ⟨Nat.le_of_ble_eq_true rfl, Nat.le_of_ble_eq_true rfl⟩ (gP_c hP 2 rfl) hK rfl hl.1 rfl (Nat.le_of_ble_eq_true rfl) dX5_cellOf_48 ⟨Nat.le_of_ble_eq_true rfl, Nat.le_of_ble_eq_true rfl⟩ 51 rfl ?_
      exact z_ri C dX5_cellOf_51 (by unfold celR; rw [if_neg (by omega), if_pos (by omega)])
    · skip
      refine z_swIn C dX5_cellOf_10 (by omega) (by omega) 42 52 (by rw [h10]; rfl) (by decide) ?_
      refine z_al_n C hl dX5_cellOf_52 0 rfl 53 rfl ?_
      refine z_get C hP hK fl_X5_10 0 rfl rfl dX5_cellOf_53 56 rfl ?_
      refine z_getN C hP hK fl_X5_120 1 rfl rfl dX5_cellOf_56 59 rfl ?_
      refine z_il_n C hl dX5_cellOf_59 1 rfl 60 rfl ?_
      refine z_SR (r := .int (iI (v (36 + c0)))) (rest := []) C (m_rd l G (qn 2) 36 (fun k => v (36 + k)) (c0) (v (36 + c0)) (by decide) (by omega) (congrArg v (by omega))) kS_X5_116 ⟨Nat.le_of_ble_eq_true rfl, Nat.le_of_ble_eq_true rfl⟩ (gP_c hP 3 rfl) hK rfl hl.1 rfl (Nat.le_of_ble_eq_true rfl) dX5_cellOf_60 ⟨Nat.le_of_ble_eq_true rfl, Nat.le_of_ble_eq_true rfl⟩ 63 rfl ?_
      exact z_ri C dX5_cellOf_63 (by unfold celR; rw [if_neg (by omega), if_neg (by omega), if_pos (by omega)])
    · skip
      refine z_swIn C dX5_cellOf_10 (by omega) (by omega) 54 64 (by rw [h10]; rfl) (by decide) ?_
      refine z_al_n C hl dX5_cellOf_64 0 rfl 65 rfl ?_
      refine z_get C hP hK fl_X5_10 0 rfl rfl dX5_cellOf_65 68 rfl ?_
      refine z_il_n C hl dX5_cellOf_68 1 rfl 69 rfl ?_
      refine z_VR (r := .int (iI (watZ v c0))) (rest := []) C (m_waterOver l G qn v c0 w (by omega)) kV_X5_123 ⟨Nat.le_of_ble_eq_true rfl, Nat.le_of_ble_eq_true rfl⟩ (gP_rg hP [1] rfl) hK 0 rfl rfl rfl hl.1 rfl (Nat.le_of_ble_eq_true rfl) dX5_cellOf_69 ⟨Nat.le_of_ble_eq_true rfl, Nat.le_of_ble_eq_true rfl⟩ 72 rfl ?_
      exact z_ri C dX5_cellOf_72 (by unfold celR; rw [if_neg (by omega), if_neg (by omega), if_neg (by omega), if_pos (by omega)])
    · skip
      refine z_swIn C dX5_cellOf_10 (by omega) (by omega) 63 73 (by rw [h10]; rfl) (by decide) ?_
      refine z_al_n C hl dX5_cellOf_73 0 rfl 74 rfl ?_
      refine z_get C hP hK fl_X5_10 0 rfl rfl dX5_cellOf_74 77 rfl ?_
      refine z_il_n C hl dX5_cellOf_77 1 rfl 78 rfl ?_
      refine z_VR (r := .int (iI (batZ v c0))) (rest := []) C (m_boatAt l G qn v c0 w (by omega)) kV_X5_126 ⟨Nat.le_of_ble_eq_true rfl, Nat.le_of_ble_eq_true rfl⟩ (gP_rg hP [1] rfl) hK 0 rfl rfl rfl hl.1 rfl (Nat.le_of_ble_eq_true rfl) dX5_cellOf_78 ⟨Nat.le_of_ble_eq_true rfl, Nat.le_of_ble_eq_true rfl⟩ 81 rfl ?_
      have r78 := batZ_rng w c0
      exact z_ri C dX5_cellOf_81 (by unfold celR; rw [if_neg (by omega), if_neg (by omega), if_neg (by omega), if_neg (by omega), if_pos (by omega)])
    · skip
      refine z_swOut C dX5_cellOf_10 (by omega) h10 82 (by decide) ?_
      refine z_bipush C dX5_cellOf_82 (by decide) 84 rfl ?_
      exact z_ri C dX5_cellOf_84 (by unfold celR; rw [if_neg (by omega), if_neg (by omega), if_neg (by omega), if_neg (by omega), if_neg (by omega)])
  · skip
    simp only [decide_eq_true_eq, decide_eq_false_iff_not] at c4
    refine z_iconst C dX5_cellOf_7 8 rfl ?_
    exact z_ri C dX5_cellOf_8 (by unfold celR; rw [if_pos (by omega)])

set_option maxHeartbeats 4000000 in
set_option maxRecDepth 100000 in
theorem m_boatOf (l : Launch) (G : gT) (tb r x cu h pa o sg : Nat) (qn qb sn : Nat → Nat) (v : Int → Int) (b k : Int) (w : Wf v) (hb : -2147483648 ≤ b ∧ b < 2147483648) (hk : -2147483648 ≤ k ∧ k < 2147483648) : MR l G yX5_boatOf cX5_boatOf 3 (some .int) 5 [.ref (tb), .int (iI (b)), .int (iI (k))] [[tbO tb qn qb r x h o], [(r, .inr (3, [.ref (qn 0)]))], stW G qn v] ZT (.int (iI (boaR v b k))) := by
  refine enterR (own := RX5) (by decide +kernel) rfl (Nat.le_of_ble_eq_true rfl) ?_
  intro p e s m below meth c C hP hK hZ ls hl
  have hl : lv_has ls 3 [(0, .ref (tb)), (1, .int (iI (b))), (2, .int (iI (k)))] := hl
  have hn := w.n
  refine z_al_n C hl dX5_boatOf_0 0 rfl 1 rfl ?_
  refine z_get C hP hK fl_X5_10 0 rfl rfl dX5_boatOf_1 4 rfl ?_
  refine z_il_n C hl dX5_boatOf_4 1 rfl 5 rfl ?_
  refine z_VR (r := .int (iI (bZ (decide (0 ≤ b ∧ b < v 127))))) (rest := []) C (m_isBoat l G qn v b w (by omega)) kV_X5_129 ⟨Nat.le_of_ble_eq_true rfl, Nat.le_of_ble_eq_true rfl⟩ (gP_rg hP [2] rfl) hK 0 rfl rfl rfl hl.1 rfl (Nat.le_of_ble_eq_true rfl) dX5_boatOf_5 ⟨Nat.le_of_ble_eq_true rfl, Nat.le_of_ble_eq_true rfl⟩ 8 rfl ?_
  refine z_ifb_ne C dX5_boatOf_8 13 11 (by decide) rfl (fun c8 => ?_) (fun c8 => ?_)
  · skip
    simp only [decide_eq_true_eq, decide_eq_false_iff_not] at c8
    refine z_il_n C hl dX5_boatOf_13 2 rfl 14 rfl ?_
    have hsw14 : (k) = 0 ∨ (k) = 1 ∨ (k) = 2 ∨ (k) = 3 ∨ (k) = 4 ∨ (k) = 5 ∨ (k) = 6 ∨ ((k) < 0 ∨ 6 < (k)) := by omega
    rcases hsw14 with h14 | h14 | h14 | h14 | h14 | h14 | h14 | h14
    · skip
      refine z_swIn C dX5_boatOf_14 (by omega) (by omega) 42 56 (by rw [h14]; rfl) (by decide) ?_
      refine z_al_n C hl dX5_boatOf_56 0 rfl 57 rfl ?_
      refine z_get C hP hK fl_X5_10 0 rfl rfl dX5_boatOf_57 60 rfl ?_
      refine z_getN C hP hK fl_X5_132 2 rfl rfl dX5_boatOf_60 63 rfl ?_
      refine z_il_n C hl dX5_boatOf_63 1 rfl 64 rfl ?_
      refine z_SR (r := .int (iI (v (72 + 5 * b)))) (rest := []) C (m_rd l G (qn 3) 10 (fun k => v (72 + 5 * k)) (b) (v (72 + 5 * b)) (by decide) (by omega) (congrArg v (by omega))) kS_X5_116 ⟨Nat.le_of_ble_eq_true rfl, Nat.le_of_ble_eq_true rfl⟩ (gP_c hP 5 rfl) hK rfl hl.1 rfl (Nat.le_of_ble_eq_true rfl) dX5_boatOf_64 ⟨Nat.le_of_ble_eq_true rfl, Nat.le_of_ble_eq_true rfl⟩ 67 rfl ?_
      exact z_ri C dX5_boatOf_67 (by unfold boaR; rw [if_neg (by omega), if_pos (by omega)])
    · skip
      refine z_swIn C dX5_boatOf_14 (by omega) (by omega) 54 68 (by rw [h14]; rfl) (by decide) ?_
      refine z_al_n C hl dX5_boatOf_68 0 rfl 69 rfl ?_
      refine z_get C hP hK fl_X5_10 0 rfl rfl dX5_boatOf_69 72 rfl ?_
      refine z_getN C hP hK fl_X5_135 2 rfl rfl dX5_boatOf_72 75 rfl ?_
      refine z_il_n C hl dX5_boatOf_75 1 rfl 76 rfl ?_
      refine z_SR (r := .int (iI (v (73 + 5 * b)))) (rest := []) C (m_rd l G (qn 4) 10 (fun k => v (73 + 5 * k)) (b) (v (73 + 5 * b)) (by decide) (by omega) (congrArg v (by omega))) kS_X5_116 ⟨Nat.le_of_ble_eq_true rfl, Nat.le_of_ble_eq_true rfl⟩ (gP_c hP 6 rfl) hK rfl hl.1 rfl (Nat.le_of_ble_eq_true rfl) dX5_boatOf_76 ⟨Nat.le_of_ble_eq_true rfl, Nat.le_of_ble_eq_true rfl⟩ 79 rfl ?_
      exact z_ri C dX5_boatOf_79 (by unfold boaR; rw [if_neg (by omega), if_neg (by omega), if_pos (by omega)])
    · skip
      refine z_swIn C dX5_boatOf_14 (by omega) (by omega) 66 80 (by rw [h14]; rfl) (by decide) ?_
      refine z_al_n C hl dX5_boatOf_80 0 rfl 81 rfl ?_
      refine z_get C hP hK fl_X5_10 0 rfl rfl dX5_boatOf_81 84 rfl ?_
      refine z_getN C hP hK fl_X5_138 2 rfl rfl dX5_boatOf_84 87 rfl ?_
      refine z_il_n C hl dX5_boatOf_87 1 rfl 88 rfl ?_
      refine z_SR (r := .int (iI (v (74 + 5 * b)))) (rest := []) C (m_rd l G (qn 5) 10 (fun k => v (74 + 5 * k)) (b) (v (74 + 5 * b)) (by decide) (by omega) (congrArg v (by omega))) kS_X5_116 ⟨Nat.le_of_ble_eq_true rfl, Nat.le_of_ble_eq_true rfl⟩ (gP_c hP 7 rfl) hK rfl hl.1 rfl (Nat.le_of_ble_eq_true rfl) dX5_boatOf_88 ⟨Nat.le_of_ble_eq_true rfl, Nat.le_of_ble_eq_true rfl⟩ 91 rfl ?_
      exact z_ri C dX5_boatOf_91 (by unfold boaR; rw [if_neg (by omega), if_neg (by omega), if_neg (by omega), if_pos (by omega)])
    · skip
      refine z_swIn C dX5_boatOf_14 (by omega) (by omega) 78 92 (by rw [h14]; rfl) (by decide) ?_
      refine z_al_n C hl dX5_boatOf_92 0 rfl 93 rfl ?_
      refine z_get C hP hK fl_X5_10 0 rfl rfl dX5_boatOf_93 96 rfl ?_
      refine z_il_n C hl dX5_boatOf_96 1 rfl 97 rfl ?_
      refine z_VR (r := .int (iI (bZ (onB v b)))) (rest := []) C (m_isOnBoard l G qn v b w (by omega)) kV_X5_141 ⟨Nat.le_of_ble_eq_true rfl, Nat.le_of_ble_eq_true rfl⟩ (gP_rg hP [2] rfl) hK 0 rfl rfl rfl hl.1 rfl (Nat.le_of_ble_eq_true rfl) dX5_boatOf_97 ⟨Nat.le_of_ble_eq_true rfl, Nat.le_of_ble_eq_true rfl⟩ 100 rfl ?_
      refine z_ifb_eq C dX5_boatOf_100 117 103 (by decide) rfl (fun c100 => ?_) (fun c100 => ?_)
      · skip
        refine z_bipush C dX5_boatOf_117 (by decide) 119 rfl ?_
        exact z_ri C dX5_boatOf_119 (by unfold boaR; rw [if_neg (by omega), if_neg (by omega), if_neg (by omega), if_neg (by omega), if_pos (by omega), if_neg (by rw [c100]; decide)])
      · skip
        refine z_al_n C hl dX5_boatOf_103 0 rfl 104 rfl ?_
        refine z_get C hP hK fl_X5_10 0 rfl rfl dX5_boatOf_104 107 rfl ?_
        refine z_getN C hP hK fl_X5_144 2 rfl rfl dX5_boatOf_107 110 rfl ?_
        refine z_il_n C hl dX5_boatOf_110 1 rfl 111 rfl ?_
        refine z_SR (r := .int (iI (v (75 + 5 * b)))) (rest := []) C (m_rd l G (qn 6) 10 (fun k => v (75 + 5 * k)) (b) (v (75 + 5 * b)) (by decide) (by omega) (congrArg v (by omega))) kS_X5_116 ⟨Nat.le_of_ble_eq_true rfl, Nat.le_of_ble_eq_true rfl⟩ (gP_c hP 8 rfl) hK rfl hl.1 rfl (Nat.le_of_ble_eq_true rfl) dX5_boatOf_111 ⟨Nat.le_of_ble_eq_true rfl, Nat.le_of_ble_eq_true rfl⟩ 114 rfl ?_
        refine z_goto C dX5_boatOf_114 119 (by decide) ?_
        exact z_ri C dX5_boatOf_119 (by unfold boaR; rw [if_neg (by omega), if_neg (by omega), if_neg (by omega), if_neg (by omega), if_pos (by omega), if_pos c100])
    · skip
      refine z_swIn C dX5_boatOf_14 (by omega) (by omega) 106 120 (by rw [h14]; rfl) (by decide) ?_
      refine z_al_n C hl dX5_boatOf_120 0 rfl 121 rfl ?_
      refine z_get C hP hK fl_X5_10 0 rfl rfl dX5_boatOf_121 124 rfl ?_
      refine z_il_n C hl dX5_boatOf_124 1 rfl 125 rfl ?_
      refine z_VR (r := .int (iI (bZ (onB v b)))) (rest := []) C (m_isOnBoard l G qn v b w (by omega)) kV_X5_141 ⟨Nat.le_of_ble_eq_true rfl, Nat.le_of_ble_eq_true rfl⟩ (gP_rg hP [2] rfl) hK 0 rfl rfl rfl hl.1 rfl (Nat.le_of_ble_eq_true rfl) dX5_boatOf_125 ⟨Nat.le_of_ble_eq_true rfl, Nat.le_of_ble_eq_true rfl⟩ 128 rfl ?_
      refine z_ifb_eq C dX5_boatOf_128 146 131 (by decide) rfl (fun c128 => ?_) (fun c128 => ?_)
      · skip
        refine z_iconst C dX5_boatOf_146 147 rfl ?_
        exact z_ri C dX5_boatOf_147 (by unfold boaR; rw [if_neg (by omega), if_neg (by omega), if_neg (by omega), if_neg (by omega), if_neg (by omega), if_pos (by omega)]; exact bZ_0 (by simp [c128]))
      · skip
        refine z_al_n C hl dX5_boatOf_131 0 rfl 132 rfl ?_
        refine z_get C hP hK fl_X5_10 0 rfl rfl dX5_boatOf_132 135 rfl ?_
        refine z_il_n C hl dX5_boatOf_135 1 rfl 136 rfl ?_
        refine z_VR (r := .int (iI (bZ (floB v b)))) (rest := []) C (m_floats l G qn v b w (by omega)) kV_X5_147 ⟨Nat.le_of_ble_eq_true rfl, Nat.le_of_ble_eq_true rfl⟩ (gP_rg hP [2] rfl) hK 0 rfl rfl rfl hl.1 rfl (Nat.le_of_ble_eq_true rfl) dX5_boatOf_136 ⟨Nat.le_of_ble_eq_true rfl, Nat.le_of_ble_eq_true rfl⟩ 139 rfl ?_
        refine z_ifb_eq C dX5_boatOf_139 146 142 (by decide) rfl (fun c139 => ?_) (fun c139 => ?_)
        · skip
          refine z_iconst C dX5_boatOf_146 147 rfl ?_
          exact z_ri C dX5_boatOf_147 (by unfold boaR; rw [if_neg (by omega), if_neg (by omega), if_neg (by omega), if_neg (by omega), if_neg (by omega), if_pos (by omega)]; exact bZ_0 (by simp [c128, c139]))
        · skip
          refine z_iconst C dX5_boatOf_142 143 rfl ?_
          refine z_goto C dX5_boatOf_143 147 (by decide) ?_
          exact z_ri C dX5_boatOf_147 (by unfold boaR; rw [if_neg (by omega), if_neg (by omega), if_neg (by omega), if_neg (by omega), if_neg (by omega), if_pos (by omega)]; exact bZ_1 (by simp [c128, c139]))
    · skip
      refine z_swIn C dX5_boatOf_14 (by omega) (by omega) 134 148 (by rw [h14]; rfl) (by decide) ?_
      refine z_al_n C hl dX5_boatOf_148 0 rfl 149 rfl ?_
      refine z_get C hP hK fl_X5_10 0 rfl rfl dX5_boatOf_149 152 rfl ?_
      refine z_getN C hP hK fl_X5_150 2 rfl rfl dX5_boatOf_152 155 rfl ?_
      refine z_il_n C hl dX5_boatOf_155 1 rfl 156 rfl ?_
      refine z_SR (r := .int (iI (v (76 + 5 * b)))) (rest := []) C (m_rd l G (qn 7) 10 (fun k => v (76 + 5 * k)) (b) (v (76 + 5 * b)) (by decide) (by omega) (congrArg v (by omega))) kS_X5_116 ⟨Nat.le_of_ble_eq_true rfl, Nat.le_of_ble_eq_true rfl⟩ (gP_c hP 9 rfl) hK rfl hl.1 rfl (Nat.le_of_ble_eq_true rfl) dX5_boatOf_156 ⟨Nat.le_of_ble_eq_true rfl, Nat.le_of_ble_eq_true rfl⟩ 159 rfl ?_
      exact z_ri C dX5_boatOf_159 (by unfold boaR; rw [if_neg (by omega), if_neg (by omega), if_neg (by omega), if_neg (by omega), if_neg (by omega), if_neg (by omega), if_pos (by omega)])
    · skip
      refine z_swIn C dX5_boatOf_14 (by omega) (by omega) 146 160 (by rw [h14]; rfl) (by decide) ?_
      refine z_al_n C hl dX5_boatOf_160 0 rfl 161 rfl ?_
      refine z_get C hP hK fl_X5_24 0 rfl rfl dX5_boatOf_161 164 rfl ?_
      refine z_il_n C hl dX5_boatOf_164 1 rfl 165 rfl ?_
      refine z_VR (r := .int (iI (mvsZ v b))) (rest := []) C (m_movesOf l G r qn v b w (by omega)) kV_X5_153 ⟨Nat.le_of_ble_eq_true rfl, Nat.le_of_ble_eq_true rfl⟩ (gP_rg hP [1, 2] rfl) hK 0 rfl rfl rfl hl.1 rfl (Nat.le_of_ble_eq_true rfl) dX5_boatOf_165 ⟨Nat.le_of_ble_eq_true rfl, Nat.le_of_ble_eq_true rfl⟩ 168 rfl ?_
      exact z_ri C dX5_boatOf_168 (by unfold boaR; rw [if_neg (by omega), if_neg (by omega), if_neg (by omega), if_neg (by omega), if_neg (by omega), if_neg (by omega), if_neg (by omega), if_pos (by omega)])
    · skip
      refine z_swOut C dX5_boatOf_14 (by omega) h14 169 (by decide) ?_
      refine z_bipush C dX5_boatOf_169 (by decide) 171 rfl ?_
      exact z_ri C dX5_boatOf_171 (by unfold boaR; rw [if_neg (by omega), if_neg (by omega), if_neg (by omega), if_neg (by omega), if_neg (by omega), if_neg (by omega), if_neg (by omega), if_neg (by omega)])
  · skip
    simp only [decide_eq_true_eq, decide_eq_false_iff_not] at c8
    refine z_iconst C dX5_boatOf_11 12 rfl ?_
    exact z_ri C dX5_boatOf_12 (by unfold boaR; rw [if_pos (by omega)])

set_option maxHeartbeats 4000000 in
set_option maxRecDepth 100000 in
theorem m_tide (l : Launch) (G : gT) (tb r x cu h pa o sg : Nat) (qn qb sn : Nat → Nat) (v : Int → Int) (t : Int) (w : Wf v) (ht : -2147483648 ≤ t ∧ t < 2147483648) : MR l G yX5_tide cX5_tide 2 (some .int) 1 [.ref (tb), .int (iI (t))] [[tbO tb qn qb r x h o], stW G qn v] ZT (.int (iI (tidR v t))) := by
  refine enterR (own := RX5) (by decide +kernel) rfl (Nat.le_of_ble_eq_true rfl) ?_
  intro p e s m below meth c C hP hK hZ ls hl
  have hl : lv_has ls 2 [(0, .ref (tb)), (1, .int (iI (t)))] := hl
  refine z_il_n C hl dX5_tide_0 1 rfl 1 rfl ?_
  refine z_if_lt C dX5_tide_1 11 4 (by decide) rfl (by omega) (fun c1 => ?_) (fun c1 => ?_)
  · skip
    refine z_iconst C dX5_tide_11 12 rfl ?_
    refine z_goto C dX5_tide_12 23 (by decide) ?_
    exact z_ri C dX5_tide_23 (by unfold tidR; split <;> first | rfl | omega)
  · skip
    refine z_il_n C hl dX5_tide_4 1 rfl 5 rfl ?_
    refine z_sipush C dX5_tide_5 (by decide) 8 rfl ?_
    refine z_icmp_le C dX5_tide_8 15 11 (by decide) rfl (by omega) (fun c8 => ?_) (fun c8 => ?_)
    · skip
      refine z_al_n C hl dX5_tide_15 0 rfl 16 rfl ?_
      refine z_get C hP hK fl_X5_10 0 rfl rfl dX5_tide_16 19 rfl ?_
      refine z_il_n C hl dX5_tide_19 1 rfl 20 rfl ?_
      refine z_VR (r := .int (iI (tideZ v t))) (rest := []) C (m_tideIn l G qn v t w (by omega)) kV_X5_156 ⟨Nat.le_of_ble_eq_true rfl, Nat.le_of_ble_eq_true rfl⟩ (gP_rg hP [1] rfl) hK 0 rfl rfl rfl hl.1 rfl (Nat.le_of_ble_eq_true rfl) dX5_tide_20 ⟨Nat.le_of_ble_eq_true rfl, Nat.le_of_ble_eq_true rfl⟩ 23 rfl ?_
      have r20 := tideZ_rng w t
      exact z_ri C dX5_tide_23 (by unfold tidR; split <;> first | rfl | omega)
    · skip
      refine z_iconst C dX5_tide_11 12 rfl ?_
      refine z_goto C dX5_tide_12 23 (by decide) ?_
      exact z_ri C dX5_tide_23 (by unfold tidR; split <;> first | rfl | omega)

set_option maxHeartbeats 4000000 in
set_option maxRecDepth 100000 in
theorem m_why (l : Launch) (G : gT) (tb r x cu h pa o sg : Nat) (qn qb sn : Nat → Nat) (v : Int → Int) (b d n : Int) (w : Wf v) (hb : -2147483648 ≤ b ∧ b < 2147483648) (hd : -2147483648 ≤ d ∧ d < 2147483648) (hn : -2147483648 ≤ n ∧ n < 2147483648) : MR l G yX5_why cX5_why 5 (some .int) 4 [.ref (tb), .int (iI (b)), .int (iI (d)), .int (iI (n))] [[tbO tb qn qb r x h o], [(r, .inr (3, [.ref (qn 0)]))], stW G qn v] ZT (.int (iI (whyR v b d n))) := by
  refine enterR (own := RX5) (by decide +kernel) rfl (Nat.le_of_ble_eq_true rfl) ?_
  intro p e s m below meth c C hP hK hZ ls hl
  have hl : lv_has ls 5 [(0, .ref (tb)), (1, .int (iI (b))), (2, .int (iI (d))), (3, .int (iI (n)))] := hl
  refine z_al_n C hl dX5_why_0 0 rfl 1 rfl ?_
  refine z_get C hP hK fl_X5_24 0 rfl rfl dX5_why_1 4 rfl ?_
  refine z_il_n C hl dX5_why_4 1 rfl 5 rfl ?_
  refine z_il_n C hl dX5_why_5 2 rfl 6 rfl ?_
  refine z_il_n C hl dX5_why_6 3 rfl 7 rfl ?_
  refine z_VR (r := .int (iI (errZ v b d n))) (rest := []) C (m_errorOfMove l G r qn v b d n w (by omega) (by omega) (by omega)) kV_X5_159 ⟨Nat.le_of_ble_eq_true rfl, Nat.le_of_ble_eq_true rfl⟩ (gP_rg hP [1, 2] rfl) hK 0 rfl rfl rfl hl.1 rfl (Nat.le_of_ble_eq_true rfl) dX5_why_7 ⟨Nat.le_of_ble_eq_true rfl, Nat.le_of_ble_eq_true rfl⟩ 10 rfl ?_
  refine z_is C hl dX5_why_10 12 rfl (by decide) (lv' := [(4, .int (iI (errZ v b d n))), (0, .ref (tb)), (1, .int (iI (b))), (2, .int (iI (d))), (3, .int (iI (n)))]) rfl (fun ls hl => ?_)
  refine z_il C hl dX5_why_12 0 rfl 14 rfl ?_
  refine z_if_eq C dX5_why_14 22 17 (by decide) rfl (by unfold errZ; (repeat' split) <;> omega) (fun c14 => ?_) (fun c14 => ?_)
  · skip
    obtain ⟨hb0, hd0, hn0⟩ := err0 c14
    refine z_al_n C hl dX5_why_22 1 rfl 23 rfl ?_
    refine z_get C hP hK fl_X5_24 0 rfl rfl dX5_why_23 26 rfl ?_
    refine z_il_n C hl dX5_why_26 2 rfl 27 rfl ?_
    refine z_il_n C hl dX5_why_27 3 rfl 28 rfl ?_
    refine z_il_n C hl dX5_why_28 4 rfl 29 rfl ?_
    refine z_iconst C dX5_why_29 30 rfl ?_
    refine z_VR (r := .int (iI (reaZ v b d n false))) (rest := []) C (m_reasonAgainst l G r qn v b d n false w (by omega) (by omega) (by omega)) kV_X5_162 ⟨Nat.le_of_ble_eq_true rfl, Nat.le_of_ble_eq_true rfl⟩ (gP_rg hP [1, 2] rfl) hK 0 rfl rfl rfl hl.1 rfl (Nat.le_of_ble_eq_true rfl) dX5_why_30 ⟨Nat.le_of_ble_eq_true rfl, Nat.le_of_ble_eq_true rfl⟩ 33 rfl ?_
    have r30 := reaZ_rng v b d n false
    exact z_ri C dX5_why_33 (by unfold whyR; rw [if_pos c14])
  · skip
    refine z_il C hl dX5_why_17 0 rfl 19 rfl ?_
    refine z_goto C dX5_why_19 33 (by decide) ?_
    exact z_ri C dX5_why_33 (by unfold whyR; rw [if_neg c14])

set_option maxHeartbeats 4000000 in
set_option maxRecDepth 100000 in
theorem m_movesOfMover (l : Launch) (G : gT) (tb r x cu h pa o sg : Nat) (qn qb sn : Nat → Nat) (v : Int → Int) (w : Wf v) : MR l G yX5_movesOfMover cX5_movesOfMover 3 (some .int) 5 [.ref (tb)] [[tbO tb qn qb r x h o], [(r, .inr (3, [.ref (qn 0)]))], stW G qn v] ZT (.int (iI (mmvZ v))) := by
  refine enterR (own := RX5) (by decide +kernel) rfl (Nat.le_of_ble_eq_true rfl) ?_
  intro p e s m below meth c C hP hK hZ ls hl
  have hl : lv_has ls 3 [(0, .ref (tb))] := hl
  have hn := w.n
  have ht := w.t
  refine z_iconst C dX5_movesOfMover_0 1 rfl ?_
  refine z_is_n C hl dX5_movesOfMover_1 2 rfl (by decide) (lv' := [(1, .int (iI (0))), (0, .ref (tb))]) rfl (fun ls hl => ?_)
  refine z_iconst C dX5_movesOfMover_2 3 rfl ?_
  refine z_is_n C hl dX5_movesOfMover_3 4 rfl (by decide) (lv' := [(2, .int (iI (0))), (1, .int (iI (0))), (0, .ref (tb))]) rfl (fun ls hl => ?_)
  have L4 : ∀ (fu : Nat) (f : Int) (k : Int) (h1 : 0 ≤ k ∧ k ≤ v 127) (h2 : f = sumN (fun k => if v (72 + 5 * k) = v 126 % 2 then mvsZ v k else 0) k.toNat) (hm : v 127 - k < (fu : Int)) (ls : Array Slot) (hl : lv_has ls 3 [(2, .int (iI (k))), (1, .int (iI (f))), (0, .ref (tb))]), W p l e (rmN 5) s m [.ref (tb)].toArray below meth c s.heap [] 0 0 (MQ below (QR (.int (iI (mmvZ v)))) [.ref (tb)].toArray s 0 0 (fun _ => False)) (F0 m 4 ls []) := by
    intro fu
    induction fu with
    | zero => intro f k h1 h2 hm ls hl; exfalso; omega
    | succ fu ih =>
      intro f k h1 h2 hm ls hl
      have ih4 := ih
      refine z_il_n C hl dX5_movesOfMover_4 0 rfl 5 rfl ?_
      refine z_al_n C hl dX5_movesOfMover_5 2 rfl 6 rfl ?_
      refine z_get C hP hK fl_X5_10 0 rfl rfl dX5_movesOfMover_6 9 rfl ?_
      refine z_getN C hP hK fl_X5_172 2 rfl rfl dX5_movesOfMover_9 12 rfl ?_
      refine z_icmp_ge C dX5_movesOfMover_12 53 15 (by decide) rfl (by omega) (fun c12 => ?_) (fun c12 => ?_)
      · skip
        refine z_il_n C hl dX5_movesOfMover_53 1 rfl 54 rfl ?_
        exact z_ri C dX5_movesOfMover_54 (by rw [h2, show k = v 127 by omega]; rfl)
      · skip
        have hk := w.b k (by omega)
        refine z_al_n C hl dX5_movesOfMover_15 2 rfl 16 rfl ?_
        refine z_get C hP hK fl_X5_10 0 rfl rfl dX5_movesOfMover_16 19 rfl ?_
        refine z_getN C hP hK fl_X5_132 2 rfl rfl dX5_movesOfMover_19 22 rfl ?_
        refine z_il_n C hl dX5_movesOfMover_22 0 rfl 23 rfl ?_
        refine z_SR (r := .int (iI (v (72 + 5 * k)))) (rest := []) C (m_rd l G (qn 3) 10 (fun k => v (72 + 5 * k)) (k) (v (72 + 5 * k)) (by decide) (by omega) (congrArg v (by omega))) kS_X5_116 ⟨Nat.le_of_ble_eq_true rfl, Nat.le_of_ble_eq_true rfl⟩ (gP_c hP 5 rfl) hK rfl hl.1 rfl (Nat.le_of_ble_eq_true rfl) dX5_movesOfMover_23 ⟨Nat.le_of_ble_eq_true rfl, Nat.le_of_ble_eq_true rfl⟩ 26 rfl ?_
        refine z_al_n C hl dX5_movesOfMover_26 2 rfl 27 rfl ?_
        refine z_get C hP hK fl_X5_10 0 rfl rfl dX5_movesOfMover_27 30 rfl ?_
        refine z_VR (r := .int (iI ((v 126 % 2)))) (rest := [.int (iI (v (72 + 5 * k)))]) C (m_mover l G qn v  w ) kV_X5_166 ⟨Nat.le_of_ble_eq_true rfl, Nat.le_of_ble_eq_true rfl⟩ (gP_rg hP [2] rfl) hK 0 rfl rfl rfl hl.1 rfl (Nat.le_of_ble_eq_true rfl) dX5_movesOfMover_30 ⟨Nat.le_of_ble_eq_true rfl, Nat.le_of_ble_eq_true rfl⟩ 33 rfl ?_
        refine z_icmp_ne C dX5_movesOfMover_33 47 36 (by decide) rfl (by omega) (fun c33 => ?_) (fun c33 => ?_)
        · skip
          refine z_iinc C hl dX5_movesOfMover_47 50 rfl 0 rfl (z := 1 + k) (by omega) (by decide) (lv' := [(2, .int (iI (1 + k))), (1, .int (iI (f))), (0, .ref (tb))]) rfl (fun ls hl => ?_)
          refine z_goto C dX5_movesOfMover_50 4 (by decide) ?_
          exact ih4 f (1 + k) (by omega) (by rw [sumN_s (by omega), ← h2]; simp only [if_neg c33]; (try omega)) (by omega) ls (lv_sub hl [0, 1, 2] rfl)
        · skip
          refine z_il_n C hl dX5_movesOfMover_36 1 rfl 37 rfl ?_
          refine z_al_n C hl dX5_movesOfMover_37 2 rfl 38 rfl ?_
          refine z_get C hP hK fl_X5_24 0 rfl rfl dX5_movesOfMover_38 41 rfl ?_
          refine z_il_n C hl dX5_movesOfMover_41 0 rfl 42 rfl ?_
          refine z_VR (r := .int (iI (mvsZ v k))) (rest := [.int (iI (f))]) C (m_movesOf l G r qn v k w (by omega)) kV_X5_153 ⟨Nat.le_of_ble_eq_true rfl, Nat.le_of_ble_eq_true rfl⟩ (gP_rg hP [1, 2] rfl) hK 0 rfl rfl rfl hl.1 rfl (Nat.le_of_ble_eq_true rfl) dX5_movesOfMover_42 ⟨Nat.le_of_ble_eq_true rfl, Nat.le_of_ble_eq_true rfl⟩ 45 rfl ?_
          refine z_iadd C dX5_movesOfMover_45 46 rfl (f + mvsZ v k) (by omega) ?_
          refine z_is_n C hl dX5_movesOfMover_46 47 rfl (by decide) (lv' := [(1, .int (iI (f + mvsZ v k))), (2, .int (iI (k))), (0, .ref (tb))]) rfl (fun ls hl => ?_)
          refine z_iinc C hl dX5_movesOfMover_47 50 rfl 1 rfl (z := 1 + k) (by omega) (by decide) (lv' := [(2, .int (iI (1 + k))), (1, .int (iI (f + mvsZ v k))), (0, .ref (tb))]) rfl (fun ls hl => ?_)
          refine z_goto C dX5_movesOfMover_50 4 (by decide) ?_
          exact ih4 (f + mvsZ v k) (1 + k) (by omega) (by rw [sumN_s (by omega), ← h2]; simp only [if_pos c33]; (try omega)) (by omega) ls (lv_sub hl [0, 1, 2] rfl)
  exact L4 (Int.toNat (v 127 - 0) + 1) 0 0 (by omega) (rfl) (by omega) ls (lv_sub hl [0, 1, 2] rfl)

set_option maxHeartbeats 4000000 in
set_option maxRecDepth 100000 in
theorem m_count (l : Launch) (G : gT) (tb r x cu h pa o sg : Nat) (qn qb sn : Nat → Nat) (S : Nat → Nat → Nat) (g : Nat → Int → Int) (n : Int) (has : Bool) (v : Int → Int) (ln k : Int) (w : Wf v) (hk : -2147483648 ≤ k ∧ k < 2147483648) : MR l G yX5_count cX5_count 2 (some .int) 6 [.ref (tb), .int (iI (k))] [[tbO tb qn qb r x h o], [(r, .inr (3, [.ref (qn 0)]))], stW G qn v, hiW G h pa sn n S g has, [orO G o sg ln]] ZT (.int (iI (cntR v n ln k))) := by
  refine enterR (own := RX5) (by decide +kernel) rfl (Nat.le_of_ble_eq_true rfl) ?_
  intro p e s m below meth c C hP hK hZ ls hl
  have hl : lv_has ls 2 [(0, .ref (tb)), (1, .int (iI (k)))] := hl
  have ht := w.t
  refine z_il_n C hl dX5_count_0 1 rfl 1 rfl ?_
  have hsw1 : (k) = 0 ∨ (k) = 1 ∨ (k) = 2 ∨ (k) = 3 ∨ (k) = 4 ∨ (k) = 5 ∨ (k) = 6 ∨ (k) = 7 ∨ (k) = 8 ∨ (k) = 9 ∨ (k) = 10 ∨ (k) = 11 ∨ (k) = 12 ∨ (k) = 13 ∨ (k) = 14 ∨ (k) = 15 ∨ (k) = 16 ∨ (k) = 17 ∨ (k) = 18 ∨ ((k) < 0 ∨ 18 < (k)) := by omega
  rcases hsw1 with h1 | h1 | h1 | h1 | h1 | h1 | h1 | h1 | h1 | h1 | h1 | h1 | h1 | h1 | h1 | h1 | h1 | h1 | h1 | h1
  · skip
    refine z_swIn C dX5_count_1 (by omega) (by omega) 91 92 (by rw [h1]; rfl) (by decide) ?_
    refine z_al_n C hl dX5_count_92 0 rfl 93 rfl ?_
    refine z_get C hP hK fl_X5_10 0 rfl rfl dX5_count_93 96 rfl ?_
    refine z_getN C hP hK fl_X5_102 2 rfl rfl dX5_count_96 99 rfl ?_
    exact z_ri C dX5_count_99 (by unfold cntR; rw [if_pos (by omega)])
  · skip
    refine z_swIn C dX5_count_1 (by omega) (by omega) 99 100 (by rw [h1]; rfl) (by decide) ?_
    refine z_al_n C hl dX5_count_100 0 rfl 101 rfl ?_
    refine z_get C hP hK fl_X5_10 0 rfl rfl dX5_count_101 104 rfl ?_
    refine z_VR (r := .int (iI ((v 126 % 2)))) (rest := []) C (m_mover l G qn v  w ) kV_X5_166 ⟨Nat.le_of_ble_eq_true rfl, Nat.le_of_ble_eq_true rfl⟩ (gP_rg hP [2] rfl) hK 0 rfl rfl rfl hl.1 rfl (Nat.le_of_ble_eq_true rfl) dX5_count_104 ⟨Nat.le_of_ble_eq_true rfl, Nat.le_of_ble_eq_true rfl⟩ 107 rfl ?_
    exact z_ri C dX5_count_107 (by unfold cntR; rw [if_neg (by omega), if_pos (by omega)])
  · skip
    refine z_swIn C dX5_count_1 (by omega) (by omega) 107 108 (by rw [h1]; rfl) (by decide) ?_
    refine z_al_n C hl dX5_count_108 0 rfl 109 rfl ?_
    refine z_get C hP hK fl_X5_10 0 rfl rfl dX5_count_109 112 rfl ?_
    refine z_al_n C hl dX5_count_112 0 rfl 113 rfl ?_
    refine z_get C hP hK fl_X5_10 0 rfl rfl dX5_count_113 116 rfl ?_
    refine z_getN C hP hK fl_X5_102 2 rfl rfl dX5_count_116 119 rfl ?_
    refine z_VR (r := .int (iI (tideZ v (v 126)))) (rest := []) C (m_tideIn l G qn v (v 126) w (by omega)) kV_X5_156 ⟨Nat.le_of_ble_eq_true rfl, Nat.le_of_ble_eq_true rfl⟩ (gP_rg hP [2] rfl) hK 0 rfl rfl rfl hl.1 rfl (Nat.le_of_ble_eq_true rfl) dX5_count_119 ⟨Nat.le_of_ble_eq_true rfl, Nat.le_of_ble_eq_true rfl⟩ 122 rfl ?_
    have r119 := tideZ_rng w (v 126)
    exact z_ri C dX5_count_122 (by unfold cntR; rw [if_neg (by omega), if_neg (by omega), if_pos (by omega)])
  · skip
    refine z_swIn C dX5_count_1 (by omega) (by omega) 122 123 (by rw [h1]; rfl) (by decide) ?_
    refine z_al_n C hl dX5_count_123 0 rfl 124 rfl ?_
    refine z_get C hP hK fl_X5_10 0 rfl rfl dX5_count_124 127 rfl ?_
    refine z_iconst C dX5_count_127 128 rfl ?_
    refine z_VR (r := .int (iI (scoZ v 0))) (rest := []) C (m_scoreOf l G qn v 0 w (by omega)) kV_X5_169 ⟨Nat.le_of_ble_eq_true rfl, Nat.le_of_ble_eq_true rfl⟩ (gP_rg hP [2] rfl) hK 0 rfl rfl rfl hl.1 rfl (Nat.le_of_ble_eq_true rfl) dX5_count_128 ⟨Nat.le_of_ble_eq_true rfl, Nat.le_of_ble_eq_true rfl⟩ 131 rfl ?_
    exact z_ri C dX5_count_131 (by unfold cntR; rw [if_neg (by omega), if_neg (by omega), if_neg (by omega), if_pos (by omega)])
  · skip
    refine z_swIn C dX5_count_1 (by omega) (by omega) 131 132 (by rw [h1]; rfl) (by decide) ?_
    refine z_al_n C hl dX5_count_132 0 rfl 133 rfl ?_
    refine z_get C hP hK fl_X5_10 0 rfl rfl dX5_count_133 136 rfl ?_
    refine z_iconst C dX5_count_136 137 rfl ?_
    refine z_VR (r := .int (iI (scoZ v 1))) (rest := []) C (m_scoreOf l G qn v 1 w (by omega)) kV_X5_169 ⟨Nat.le_of_ble_eq_true rfl, Nat.le_of_ble_eq_true rfl⟩ (gP_rg hP [2] rfl) hK 0 rfl rfl rfl hl.1 rfl (Nat.le_of_ble_eq_true rfl) dX5_count_137 ⟨Nat.le_of_ble_eq_true rfl, Nat.le_of_ble_eq_true rfl⟩ 140 rfl ?_
    exact z_ri C dX5_count_140 (by unfold cntR; rw [if_neg (by omega), if_neg (by omega), if_neg (by omega), if_neg (by omega), if_pos (by omega)])
  · skip
    refine z_swIn C dX5_count_1 (by omega) (by omega) 140 141 (by rw [h1]; rfl) (by decide) ?_
    refine z_al_n C hl dX5_count_141 0 rfl 142 rfl ?_
    refine z_get C hP hK fl_X5_10 0 rfl rfl dX5_count_142 145 rfl ?_
    refine z_getN C hP hK fl_X5_172 2 rfl rfl dX5_count_145 148 rfl ?_
    exact z_ri C dX5_count_148 (by unfold cntR; rw [if_neg (by omega), if_neg (by omega), if_neg (by omega), if_neg (by omega), if_neg (by omega), if_pos (by omega)])
  · skip
    refine z_swIn C dX5_count_1 (by omega) (by omega) 148 149 (by rw [h1]; rfl) (by decide) ?_
    refine z_al_n C hl dX5_count_149 0 rfl 150 rfl ?_
    refine z_get C hP hK fl_X5_10 0 rfl rfl dX5_count_150 153 rfl ?_
    refine z_iconst C dX5_count_153 154 rfl ?_
    refine z_VR (r := .int (iI (cntZ v 0))) (rest := []) C (m_boatsThatAre l G qn v 0 w (by omega)) kV_X5_175 ⟨Nat.le_of_ble_eq_true rfl, Nat.le_of_ble_eq_true rfl⟩ (gP_rg hP [2] rfl) hK 0 rfl rfl rfl hl.1 rfl (Nat.le_of_ble_eq_true rfl) dX5_count_154 ⟨Nat.le_of_ble_eq_true rfl, Nat.le_of_ble_eq_true rfl⟩ 157 rfl ?_
    have r154 := cntZ_rng w 0
    exact z_ri C dX5_count_157 (by unfold cntR; rw [if_neg (by omega), if_neg (by omega), if_neg (by omega), if_neg (by omega), if_neg (by omega), if_neg (by omega), if_pos (by omega)])
  · skip
    refine z_swIn C dX5_count_1 (by omega) (by omega) 157 158 (by rw [h1]; rfl) (by decide) ?_
    refine z_al_n C hl dX5_count_158 0 rfl 159 rfl ?_
    refine z_get C hP hK fl_X5_10 0 rfl rfl dX5_count_159 162 rfl ?_
    refine z_iconst C dX5_count_162 163 rfl ?_
    refine z_VR (r := .int (iI (cntZ v 1))) (rest := []) C (m_boatsThatAre l G qn v 1 w (by omega)) kV_X5_175 ⟨Nat.le_of_ble_eq_true rfl, Nat.le_of_ble_eq_true rfl⟩ (gP_rg hP [2] rfl) hK 0 rfl rfl rfl hl.1 rfl (Nat.le_of_ble_eq_true rfl) dX5_count_163 ⟨Nat.le_of_ble_eq_true rfl, Nat.le_of_ble_eq_true rfl⟩ 166 rfl ?_
    have r163 := cntZ_rng w 1
    exact z_ri C dX5_count_166 (by unfold cntR; rw [if_neg (by omega), if_neg (by omega), if_neg (by omega), if_neg (by omega), if_neg (by omega), if_neg (by omega), if_neg (by omega), if_pos (by omega)])
  · skip
    refine z_swIn C dX5_count_1 (by omega) (by omega) 166 167 (by rw [h1]; rfl) (by decide) ?_
    refine z_al_n C hl dX5_count_167 0 rfl 168 rfl ?_
    refine z_get C hP hK fl_X5_10 0 rfl rfl dX5_count_168 171 rfl ?_
    refine z_iconst C dX5_count_171 172 rfl ?_
    refine z_VR (r := .int (iI (cntZ v 2))) (rest := []) C (m_boatsThatAre l G qn v 2 w (by omega)) kV_X5_175 ⟨Nat.le_of_ble_eq_true rfl, Nat.le_of_ble_eq_true rfl⟩ (gP_rg hP [2] rfl) hK 0 rfl rfl rfl hl.1 rfl (Nat.le_of_ble_eq_true rfl) dX5_count_172 ⟨Nat.le_of_ble_eq_true rfl, Nat.le_of_ble_eq_true rfl⟩ 175 rfl ?_
    have r172 := cntZ_rng w 2
    exact z_ri C dX5_count_175 (by unfold cntR; rw [if_neg (by omega), if_neg (by omega), if_neg (by omega), if_neg (by omega), if_neg (by omega), if_neg (by omega), if_neg (by omega), if_neg (by omega), if_pos (by omega)])
  · skip
    refine z_swIn C dX5_count_1 (by omega) (by omega) 175 176 (by rw [h1]; rfl) (by decide) ?_
    refine z_al_n C hl dX5_count_176 0 rfl 177 rfl ?_
    refine z_get C hP hK fl_X5_10 0 rfl rfl dX5_count_177 180 rfl ?_
    refine z_VR (r := .int (iI (agrZ v))) (rest := []) C (m_boatsAground l G qn v  w ) kV_X5_178 ⟨Nat.le_of_ble_eq_true rfl, Nat.le_of_ble_eq_true rfl⟩ (gP_rg hP [2] rfl) hK 0 rfl rfl rfl hl.1 rfl (Nat.le_of_ble_eq_true rfl) dX5_count_180 ⟨Nat.le_of_ble_eq_true rfl, Nat.le_of_ble_eq_true rfl⟩ 183 rfl ?_
    exact z_ri C dX5_count_183 (by unfold cntR; rw [if_neg (by omega), if_neg (by omega), if_neg (by omega), if_neg (by omega), if_neg (by omega), if_neg (by omega), if_neg (by omega), if_neg (by omega), if_neg (by omega), if_pos (by omega)])
  · skip
    refine z_swIn C dX5_count_1 (by omega) (by omega) 183 184 (by rw [h1]; rfl) (by decide) ?_
    refine z_al_n C hl dX5_count_184 0 rfl 185 rfl ?_
    refine z_get C hP hK fl_X5_10 0 rfl rfl dX5_count_185 188 rfl ?_
    refine z_getN C hP hK fl_X5_181 2 rfl rfl dX5_count_188 191 rfl ?_
    exact z_ri C dX5_count_191 (by unfold cntR; rw [if_neg (by omega), if_neg (by omega), if_neg (by omega), if_neg (by omega), if_neg (by omega), if_neg (by omega), if_neg (by omega), if_neg (by omega), if_neg (by omega), if_neg (by omega), if_pos (by omega)])
  · skip
    refine z_swIn C dX5_count_1 (by omega) (by omega) 191 192 (by rw [h1]; rfl) (by decide) ?_
    refine z_al_n C hl dX5_count_192 0 rfl 193 rfl ?_
    refine z_get C hP hK fl_X5_10 0 rfl rfl dX5_count_193 196 rfl ?_
    refine z_VR (r := .int (iI (bZ (overB v)))) (rest := []) C (m_isOver l G qn v  w ) kV_X5_184 ⟨Nat.le_of_ble_eq_true rfl, Nat.le_of_ble_eq_true rfl⟩ (gP_rg hP [2] rfl) hK 0 rfl rfl rfl hl.1 rfl (Nat.le_of_ble_eq_true rfl) dX5_count_196 ⟨Nat.le_of_ble_eq_true rfl, Nat.le_of_ble_eq_true rfl⟩ 199 rfl ?_
    refine z_ifb_eq C dX5_count_199 206 202 (by decide) rfl (fun c199 => ?_) (fun c199 => ?_)
    · skip
      refine z_iconst C dX5_count_206 207 rfl ?_
      exact z_ri C dX5_count_207 (by unfold cntR; rw [if_neg (by omega), if_neg (by omega), if_neg (by omega), if_neg (by omega), if_neg (by omega), if_neg (by omega), if_neg (by omega), if_neg (by omega), if_neg (by omega), if_neg (by omega), if_neg (by omega), if_pos (by omega)]; exact bZ_0 c199)
    · skip
      refine z_iconst C dX5_count_202 203 rfl ?_
      refine z_goto C dX5_count_203 207 (by decide) ?_
      exact z_ri C dX5_count_207 (by unfold cntR; rw [if_neg (by omega), if_neg (by omega), if_neg (by omega), if_neg (by omega), if_neg (by omega), if_neg (by omega), if_neg (by omega), if_neg (by omega), if_neg (by omega), if_neg (by omega), if_neg (by omega), if_pos (by omega)]; exact bZ_1 c199)
  · skip
    refine z_swIn C dX5_count_1 (by omega) (by omega) 207 208 (by rw [h1]; rfl) (by decide) ?_
    refine z_al_n C hl dX5_count_208 0 rfl 209 rfl ?_
    refine z_VR (r := .int (iI (mmvZ v))) (rest := []) C (m_movesOfMover l G tb r x cu h pa o sg qn qb sn v w) kV_X5_188 ⟨Nat.le_of_ble_eq_true rfl, Nat.le_of_ble_eq_true rfl⟩ (gP_rg hP [0, 1, 2] rfl) hK 0 rfl rfl rfl hl.1 rfl (Nat.le_of_ble_eq_true rfl) dX5_count_209 ⟨Nat.le_of_ble_eq_true rfl, Nat.le_of_ble_eq_true rfl⟩ 212 rfl ?_
    exact z_ri C dX5_count_212 (by unfold cntR; rw [if_neg (by omega), if_neg (by omega), if_neg (by omega), if_neg (by omega), if_neg (by omega), if_neg (by omega), if_neg (by omega), if_neg (by omega), if_neg (by omega), if_neg (by omega), if_neg (by omega), if_neg (by omega), if_pos (by omega)])
  · skip
    refine z_swIn C dX5_count_1 (by omega) (by omega) 212 213 (by rw [h1]; rfl) (by decide) ?_
    refine z_al_n C hl dX5_count_213 0 rfl 214 rfl ?_
    refine z_get C hP hK fl_X5_38 0 rfl rfl dX5_count_214 217 rfl ?_
    refine z_getN C hP hK fl_X5_191 10 rfl rfl dX5_count_217 220 rfl ?_
    exact z_ri C dX5_count_220 (by unfold cntR; rw [if_neg (by omega), if_neg (by omega), if_neg (by omega), if_neg (by omega), if_neg (by omega), if_neg (by omega), if_neg (by omega), if_neg (by omega), if_neg (by omega), if_neg (by omega), if_neg (by omega), if_neg (by omega), if_neg (by omega), if_pos (by omega)])
  · skip
    refine z_swIn C dX5_count_1 (by omega) (by omega) 220 221 (by rw [h1]; rfl) (by decide) ?_
    refine z_al_n C hl dX5_count_221 0 rfl 222 rfl ?_
    refine z_get C hP hK fl_X5_45 0 rfl rfl dX5_count_222 225 rfl ?_
    refine z_getN C hP hK fl_X5_85 44 rfl rfl dX5_count_225 228 rfl ?_
    exact z_ri C dX5_count_228 (by unfold cntR; rw [if_neg (by omega), if_neg (by omega), if_neg (by omega), if_neg (by omega), if_neg (by omega), if_neg (by omega), if_neg (by omega), if_neg (by omega), if_neg (by omega), if_neg (by omega), if_neg (by omega), if_neg (by omega), if_neg (by omega), if_neg (by omega), if_pos (by omega)])
  · skip
    refine z_swIn C dX5_count_1 (by omega) (by omega) 228 229 (by rw [h1]; rfl) (by decide) ?_
    refine z_al_n C hl dX5_count_229 0 rfl 230 rfl ?_
    refine z_get C hP hK fl_X5_10 0 rfl rfl dX5_count_230 233 rfl ?_
    refine z_getN C hP hK fl_X5_194 2 rfl rfl dX5_count_233 236 rfl ?_
    exact z_ri C dX5_count_236 (by unfold cntR; rw [if_neg (by omega), if_neg (by omega), if_neg (by omega), if_neg (by omega), if_neg (by omega), if_neg (by omega), if_neg (by omega), if_neg (by omega), if_neg (by omega), if_neg (by omega), if_neg (by omega), if_neg (by omega), if_neg (by omega), if_neg (by omega), if_neg (by omega), if_pos (by omega)])
  · skip
    refine z_swIn C dX5_count_1 (by omega) (by omega) 236 237 (by rw [h1]; rfl) (by decide) ?_
    refine z_al_n C hl dX5_count_237 0 rfl 238 rfl ?_
    refine z_get C hP hK fl_X5_10 0 rfl rfl dX5_count_238 241 rfl ?_
    refine z_getN C hP hK fl_X5_197 2 rfl rfl dX5_count_241 244 rfl ?_
    exact z_ri C dX5_count_244 (by unfold cntR; rw [if_neg (by omega), if_neg (by omega), if_neg (by omega), if_neg (by omega), if_neg (by omega), if_neg (by omega), if_neg (by omega), if_neg (by omega), if_neg (by omega), if_neg (by omega), if_neg (by omega), if_neg (by omega), if_neg (by omega), if_neg (by omega), if_neg (by omega), if_neg (by omega), if_pos (by omega)])
  · skip
    refine z_swIn C dX5_count_1 (by omega) (by omega) 244 245 (by rw [h1]; rfl) (by decide) ?_
    refine z_al_n C hl dX5_count_245 0 rfl 246 rfl ?_
    refine z_get C hP hK fl_X5_10 0 rfl rfl dX5_count_246 249 rfl ?_
    refine z_getN C hP hK fl_X5_200 2 rfl rfl dX5_count_249 252 rfl ?_
    exact z_ri C dX5_count_252 (by unfold cntR; rw [if_neg (by omega), if_neg (by omega), if_neg (by omega), if_neg (by omega), if_neg (by omega), if_neg (by omega), if_neg (by omega), if_neg (by omega), if_neg (by omega), if_neg (by omega), if_neg (by omega), if_neg (by omega), if_neg (by omega), if_neg (by omega), if_neg (by omega), if_neg (by omega), if_neg (by omega), if_pos (by omega)])
  · skip
    refine z_swIn C dX5_count_1 (by omega) (by omega) 252 253 (by rw [h1]; rfl) (by decide) ?_
    refine z_al_n C hl dX5_count_253 0 rfl 254 rfl ?_
    refine z_get C hP hK fl_X5_10 0 rfl rfl dX5_count_254 257 rfl ?_
    refine z_getN C hP hK fl_X5_203 2 rfl rfl dX5_count_257 260 rfl ?_
    exact z_ri C dX5_count_260 (by unfold cntR; rw [if_neg (by omega), if_neg (by omega), if_neg (by omega), if_neg (by omega), if_neg (by omega), if_neg (by omega), if_neg (by omega), if_neg (by omega), if_neg (by omega), if_neg (by omega), if_neg (by omega), if_neg (by omega), if_neg (by omega), if_neg (by omega), if_neg (by omega), if_neg (by omega), if_neg (by omega), if_neg (by omega), if_pos (by omega)])
  · skip
    refine z_swOut C dX5_count_1 (by omega) h1 261 (by decide) ?_
    refine z_bipush C dX5_count_261 (by decide) 263 rfl ?_
    exact z_ri C dX5_count_263 (by unfold cntR; rw [if_neg (by omega), if_neg (by omega), if_neg (by omega), if_neg (by omega), if_neg (by omega), if_neg (by omega), if_neg (by omega), if_neg (by omega), if_neg (by omega), if_neg (by omega), if_neg (by omega), if_neg (by omega), if_neg (by omega), if_neg (by omega), if_neg (by omega), if_neg (by omega), if_neg (by omega), if_neg (by omega), if_neg (by omega)])

set_option maxHeartbeats 4000000 in
set_option maxRecDepth 100000 in
theorem m_afloat (l : Launch) (G : gT) (tb r x cu h pa o sg : Nat) (qn qb sn : Nat → Nat) (v : Int → Int) (c0 d0 : Int) (w : Wf v) (hc0 : -2147483648 ≤ c0 ∧ c0 < 2147483648) (hd0 : -2147483648 ≤ d0 ∧ d0 < 2147483648) : MR l G yX5_afloat cX5_afloat 6 (some .float) 2 [.ref (tb), .int (iI (c0)), .int (iI (d0))] [[tbO tb qn qb r x h o], stW G qn v] ZT (.float (aflF v c0 d0)) := by
  refine enterR (own := RX5) (by decide +kernel) rfl (Nat.le_of_ble_eq_true rfl) ?_
  intro p e s m below meth c C hP hK hZ ls hl
  have hl : lv_has ls 6 [(0, .ref (tb)), (1, .int (iI (c0))), (2, .int (iI (d0)))] := hl
  refine z_al_n C hl dX5_afloat_0 0 rfl 1 rfl ?_
  refine z_get C hP hK fl_X5_10 0 rfl rfl dX5_afloat_1 4 rfl ?_
  refine z_VR (r := .int (iI (perZ v))) (rest := []) C (m_turnsOfTide l G qn v  w ) kV_X5_206 ⟨Nat.le_of_ble_eq_true rfl, Nat.le_of_ble_eq_true rfl⟩ (gP_rg hP [1] rfl) hK 0 rfl rfl rfl hl.1 rfl (Nat.le_of_ble_eq_true rfl) dX5_afloat_4 ⟨Nat.le_of_ble_eq_true rfl, Nat.le_of_ble_eq_true rfl⟩ 7 rfl ?_
  have r4 := perZ_rng w
  refine z_is_n C hl dX5_afloat_7 8 rfl (by decide) (lv' := [(3, .int (iI (perZ v))), (0, .ref (tb)), (1, .int (iI (c0))), (2, .int (iI (d0)))]) rfl (fun ls hl => ?_)
  refine z_il_n C hl dX5_afloat_8 2 rfl 9 rfl ?_
  refine z_SR (r := .int (iI (bZ (decide (0 ≤ c0 ∧ c0 < 36))))) (rest := []) C (m_isCell l G (c0) (by omega)) kS_X5_108 ⟨Nat.le_of_ble_eq_true rfl, Nat.le_of_ble_eq_true rfl⟩ (gP_nil) hK rfl hl.1 rfl (Nat.le_of_ble_eq_true rfl) dX5_afloat_9 ⟨Nat.le_of_ble_eq_true rfl, Nat.le_of_ble_eq_true rfl⟩ 12 rfl ?_
  refine z_ifb_eq C dX5_afloat_12 27 15 (by decide) rfl (fun c12 => ?_) (fun c12 => ?_)
  · skip
    simp only [decide_eq_true_eq, decide_eq_false_iff_not] at c12
    refine z_ldcf C qc401 dX5_afloat_27 29 rfl ?_
    exact z_rf C dX5_afloat_29 (by unfold aflF; rw [if_neg (by omega)])
  · skip
    simp only [decide_eq_true_eq, decide_eq_false_iff_not] at c12
    refine z_il_n C hl dX5_afloat_15 3 rfl 16 rfl ?_
    refine z_SR (r := .int (iI (bZ (decide (1 ≤ d0 ∧ d0 < 4))))) (rest := []) C (m_isDraft l G (d0) (by omega)) kS_X5_209 ⟨Nat.le_of_ble_eq_true rfl, Nat.le_of_ble_eq_true rfl⟩ (gP_nil) hK rfl hl.1 rfl (Nat.le_of_ble_eq_true rfl) dX5_afloat_16 ⟨Nat.le_of_ble_eq_true rfl, Nat.le_of_ble_eq_true rfl⟩ 19 rfl ?_
    refine z_ifb_eq C dX5_afloat_19 27 22 (by decide) rfl (fun c19 => ?_) (fun c19 => ?_)
    · skip
      simp only [decide_eq_true_eq, decide_eq_false_iff_not] at c19
      refine z_ldcf C qc401 dX5_afloat_27 29 rfl ?_
      exact z_rf C dX5_afloat_29 (by unfold aflF; rw [if_neg (by omega)])
    · skip
      simp only [decide_eq_true_eq, decide_eq_false_iff_not] at c19
      refine z_il_n C hl dX5_afloat_22 0 rfl 23 rfl ?_
      refine z_iconst C dX5_afloat_23 24 rfl ?_
      refine z_icmp_ge C dX5_afloat_24 30 27 (by decide) rfl (by omega) (fun c24 => ?_) (fun c24 => ?_)
      · skip
        refine z_iconst C dX5_afloat_30 31 rfl ?_
        refine z_is C hl dX5_afloat_31 33 rfl (by decide) (lv' := [(4, .int (iI (0))), (3, .int (iI (perZ v))), (0, .ref (tb)), (1, .int (iI (c0))), (2, .int (iI (d0)))]) rfl (fun ls hl => ?_)
        refine z_iconst C dX5_afloat_33 34 rfl ?_
        refine z_is C hl dX5_afloat_34 36 rfl (by decide) (lv' := [(5, .int (iI (0))), (4, .int (iI (0))), (3, .int (iI (perZ v))), (0, .ref (tb)), (1, .int (iI (c0))), (2, .int (iI (d0)))]) rfl (fun ls hl => ?_)
        have L36 : ∀ (fu : Nat) (f : Int) (t : Int) (h1 : 0 ≤ t ∧ t ≤ perZ v) (h2 : f = sumN (fun t => bZ (wetB v c0 d0 t)) t.toNat) (hm : perZ v - t < (fu : Int)) (ls : Array Slot) (hl : lv_has ls 6 [(5, .int (iI (t))), (4, .int (iI (f))), (3, .int (iI (perZ v))), (2, .int (iI (d0))), (1, .int (iI (c0))), (0, .ref (tb))]), W p l e (rmN 2) s m [.ref (tb), .int (iI (c0)), .int (iI (d0))].toArray below meth c s.heap [] 0 0 (MQ below (QR (.float (aflF v c0 d0))) [.ref (tb), .int (iI (c0)), .int (iI (d0))].toArray s 0 0 (fun _ => False)) (F0 m 36 ls []) := by
          intro fu
          induction fu with
          | zero => intro f t h1 h2 hm ls hl; exfalso; omega
          | succ fu ih =>
            intro f t h1 h2 hm ls hl
            have ih36 := ih
            refine z_il C hl dX5_afloat_36 0 rfl 38 rfl ?_
            refine z_il_n C hl dX5_afloat_38 2 rfl 39 rfl ?_
            refine z_icmp_ge C dX5_afloat_39 65 42 (by decide) rfl (by omega) (fun c39 => ?_) (fun c39 => ?_)
            · skip
              have hf := afn_rng w c0 d0
              have hff : f = afnZ v c0 d0 := by rw [h2, show t = perZ v by omega]; rfl
              skip
              refine z_il C hl dX5_afloat_65 1 rfl 67 rfl ?_
              refine z_i2f C dX5_afloat_67 68 rfl ?_
              refine z_il_n C hl dX5_afloat_68 2 rfl 69 rfl ?_
              refine z_i2f C dX5_afloat_69 70 rfl ?_
              refine z_fdiv C dX5_afloat_70 (fdZ (by omega) (by omega)) 71 rfl ?_
              exact z_rf C dX5_afloat_71 (by rw [hff]; unfold aflF; rw [if_pos ⟨c12, c19⟩])
            · skip
              refine z_al_n C hl dX5_afloat_42 5 rfl 43 rfl ?_
              refine z_get C hP hK fl_X5_10 0 rfl rfl dX5_afloat_43 46 rfl ?_
              refine z_il_n C hl dX5_afloat_46 4 rfl 47 rfl ?_
              refine z_il_n C hl dX5_afloat_47 3 rfl 48 rfl ?_
              refine z_il C hl dX5_afloat_48 0 rfl 50 rfl ?_
              refine z_VR (r := .int (iI (bZ (wetB v c0 d0 t)))) (rest := []) C (m_isWet l G qn v c0 d0 t w (by omega) (by omega) (by omega)) kV_X5_213 ⟨Nat.le_of_ble_eq_true rfl, Nat.le_of_ble_eq_true rfl⟩ (gP_rg hP [1] rfl) hK 0 rfl rfl rfl hl.1 rfl (Nat.le_of_ble_eq_true rfl) dX5_afloat_50 ⟨Nat.le_of_ble_eq_true rfl, Nat.le_of_ble_eq_true rfl⟩ 53 rfl ?_
              refine z_ifb_eq C dX5_afloat_53 59 56 (by decide) rfl (fun c53 => ?_) (fun c53 => ?_)
              · skip
                refine z_iinc C hl dX5_afloat_59 62 rfl 0 rfl (z := 1 + t) (by omega) (by decide) (lv' := [(5, .int (iI (1 + t))), (4, .int (iI (f))), (3, .int (iI (perZ v))), (2, .int (iI (d0))), (1, .int (iI (c0))), (0, .ref (tb))]) rfl (fun ls hl => ?_)
                refine z_goto C dX5_afloat_62 36 (by decide) ?_
                exact ih36 f (1 + t) (by omega) (by rw [sumN_s (by omega), ← h2]; simp only [c53]; show _ = f + bZ _; unfold bZ; simp; try omega) (by omega) ls (lv_sub hl [0, 1, 2, 3, 4, 5] rfl)
              · skip
                refine z_iinc C hl dX5_afloat_56 59 rfl 1 rfl (z := 1 + f) (by omega) (by decide) (lv' := [(4, .int (iI (1 + f))), (5, .int (iI (t))), (3, .int (iI (perZ v))), (2, .int (iI (d0))), (1, .int (iI (c0))), (0, .ref (tb))]) rfl (fun ls hl => ?_)
                refine z_iinc C hl dX5_afloat_59 62 rfl 1 rfl (z := 1 + t) (by omega) (by decide) (lv' := [(5, .int (iI (1 + t))), (4, .int (iI (1 + f))), (3, .int (iI (perZ v))), (2, .int (iI (d0))), (1, .int (iI (c0))), (0, .ref (tb))]) rfl (fun ls hl => ?_)
                refine z_goto C dX5_afloat_62 36 (by decide) ?_
                exact ih36 (1 + f) (1 + t) (by omega) (by rw [sumN_s (by omega), ← h2]; simp only [c53]; show _ = f + bZ _; unfold bZ; simp; try omega) (by omega) ls (lv_sub hl [0, 1, 2, 3, 4, 5] rfl)
        exact L36 (Int.toNat (perZ v - 0) + 1) 0 0 (by omega) (rfl) (by omega) ls (lv_sub hl [0, 1, 2, 5, 4, 3] rfl)
      · exfalso; omega

set_option maxHeartbeats 4000000 in
set_option maxRecDepth 100000 in
theorem m_floatsIn (l : Launch) (G : gT) (tb r x cu h pa o sg : Nat) (qn qb sn : Nat → Nat) (v : Int → Int) (b : Int) (w : Wf v) (hb : -2147483648 ≤ b ∧ b < 2147483648) : MR l G yX5_floatsIn cX5_floatsIn 6 (some .int) 2 [.ref (tb), .int (iI (b))] [[tbO tb qn qb r x h o], stW G qn v] ZT (.int (iI (floR v b))) := by
  refine enterR (own := RX5) (by decide +kernel) rfl (Nat.le_of_ble_eq_true rfl) ?_
  intro p e s m below meth c C hP hK hZ ls hl
  have hl : lv_has ls 6 [(0, .ref (tb)), (1, .int (iI (b)))] := hl
  have ht := w.t
  refine z_al_n C hl dX5_floatsIn_0 0 rfl 1 rfl ?_
  refine z_get C hP hK fl_X5_10 0 rfl rfl dX5_floatsIn_1 4 rfl ?_
  refine z_il_n C hl dX5_floatsIn_4 1 rfl 5 rfl ?_
  refine z_VR (r := .int (iI (bZ (decide (0 ≤ b ∧ b < v 127))))) (rest := []) C (m_isBoat l G qn v b w (by omega)) kV_X5_129 ⟨Nat.le_of_ble_eq_true rfl, Nat.le_of_ble_eq_true rfl⟩ (gP_rg hP [1] rfl) hK 0 rfl rfl rfl hl.1 rfl (Nat.le_of_ble_eq_true rfl) dX5_floatsIn_5 ⟨Nat.le_of_ble_eq_true rfl, Nat.le_of_ble_eq_true rfl⟩ 8 rfl ?_
  refine z_ifb_ne C dX5_floatsIn_8 13 11 (by decide) rfl (fun c8 => ?_) (fun c8 => ?_)
  · skip
    simp only [decide_eq_true_eq, decide_eq_false_iff_not] at c8
    have hn := w.n
    have hw := w.b b (by omega)
    refine z_al_n C hl dX5_floatsIn_13 0 rfl 14 rfl ?_
    refine z_get C hP hK fl_X5_10 0 rfl rfl dX5_floatsIn_14 17 rfl ?_
    refine z_il_n C hl dX5_floatsIn_17 1 rfl 18 rfl ?_
    refine z_VR (r := .int (iI (bZ (onB v b)))) (rest := []) C (m_isOnBoard l G qn v b w (by omega)) kV_X5_141 ⟨Nat.le_of_ble_eq_true rfl, Nat.le_of_ble_eq_true rfl⟩ (gP_rg hP [1] rfl) hK 0 rfl rfl rfl hl.1 rfl (Nat.le_of_ble_eq_true rfl) dX5_floatsIn_18 ⟨Nat.le_of_ble_eq_true rfl, Nat.le_of_ble_eq_true rfl⟩ 21 rfl ?_
    refine z_ifb_ne C dX5_floatsIn_21 27 24 (by decide) rfl (fun c21 => ?_) (fun c21 => ?_)
    · skip
      refine z_al_n C hl dX5_floatsIn_27 0 rfl 28 rfl ?_
      refine z_get C hP hK fl_X5_10 0 rfl rfl dX5_floatsIn_28 31 rfl ?_
      refine z_getN C hP hK fl_X5_144 1 rfl rfl dX5_floatsIn_31 34 rfl ?_
      refine z_il_n C hl dX5_floatsIn_34 1 rfl 35 rfl ?_
      refine z_SR (r := .int (iI (v (75 + 5 * b)))) (rest := []) C (m_rd l G (qn 6) 10 (fun k => v (75 + 5 * k)) (b) (v (75 + 5 * b)) (by decide) (by omega) (congrArg v (by omega))) kS_X5_116 ⟨Nat.le_of_ble_eq_true rfl, Nat.le_of_ble_eq_true rfl⟩ (gP_c hP 7 rfl) hK rfl hl.1 rfl (Nat.le_of_ble_eq_true rfl) dX5_floatsIn_35 ⟨Nat.le_of_ble_eq_true rfl, Nat.le_of_ble_eq_true rfl⟩ 38 rfl ?_
      refine z_is_n C hl dX5_floatsIn_38 39 rfl (by decide) (lv' := [(2, .int (iI (v (75 + 5 * b)))), (0, .ref (tb)), (1, .int (iI (b)))]) rfl (fun ls hl => ?_)
      refine z_al_n C hl dX5_floatsIn_39 1 rfl 40 rfl ?_
      refine z_get C hP hK fl_X5_10 0 rfl rfl dX5_floatsIn_40 43 rfl ?_
      refine z_getN C hP hK fl_X5_135 1 rfl rfl dX5_floatsIn_43 46 rfl ?_
      refine z_il_n C hl dX5_floatsIn_46 2 rfl 47 rfl ?_
      refine z_SR (r := .int (iI (v (73 + 5 * b)))) (rest := []) C (m_rd l G (qn 4) 10 (fun k => v (73 + 5 * k)) (b) (v (73 + 5 * b)) (by decide) (by omega) (congrArg v (by omega))) kS_X5_116 ⟨Nat.le_of_ble_eq_true rfl, Nat.le_of_ble_eq_true rfl⟩ (gP_c hP 5 rfl) hK rfl hl.1 rfl (Nat.le_of_ble_eq_true rfl) dX5_floatsIn_47 ⟨Nat.le_of_ble_eq_true rfl, Nat.le_of_ble_eq_true rfl⟩ 50 rfl ?_
      refine z_is_n C hl dX5_floatsIn_50 51 rfl (by decide) (lv' := [(3, .int (iI (v (73 + 5 * b)))), (2, .int (iI (v (75 + 5 * b)))), (0, .ref (tb)), (1, .int (iI (b)))]) rfl (fun ls hl => ?_)
      refine z_al_n C hl dX5_floatsIn_51 2 rfl 52 rfl ?_
      refine z_get C hP hK fl_X5_10 0 rfl rfl dX5_floatsIn_52 55 rfl ?_
      refine z_VR (r := .int (iI (perZ v))) (rest := []) C (m_turnsOfTide l G qn v  w ) kV_X5_206 ⟨Nat.le_of_ble_eq_true rfl, Nat.le_of_ble_eq_true rfl⟩ (gP_rg hP [1] rfl) hK 0 rfl rfl rfl hl.1 rfl (Nat.le_of_ble_eq_true rfl) dX5_floatsIn_55 ⟨Nat.le_of_ble_eq_true rfl, Nat.le_of_ble_eq_true rfl⟩ 58 rfl ?_
      have r55 := perZ_rng w
      refine z_is C hl dX5_floatsIn_58 60 rfl (by decide) (lv' := [(4, .int (iI (perZ v))), (3, .int (iI (v (73 + 5 * b)))), (2, .int (iI (v (75 + 5 * b)))), (0, .ref (tb)), (1, .int (iI (b)))]) rfl (fun ls hl => ?_)
      refine z_iconst C dX5_floatsIn_60 61 rfl ?_
      refine z_is C hl dX5_floatsIn_61 63 rfl (by decide) (lv' := [(5, .int (iI (0))), (4, .int (iI (perZ v))), (3, .int (iI (v (73 + 5 * b)))), (2, .int (iI (v (75 + 5 * b)))), (0, .ref (tb)), (1, .int (iI (b)))]) rfl (fun ls hl => ?_)
      have L63 : ∀ (fu : Nat) (k : Int) (h1 : 0 ≤ k ∧ k ≤ perZ v) (h2 : firN v (v (75 + 5 * b)) (v (73 + 5 * b)) (v 126) (perZ v - k).toNat k = floR v b) (hm : perZ v - k < (fu : Int)) (ls : Array Slot) (hl : lv_has ls 6 [(5, .int (iI (k))), (4, .int (iI (perZ v))), (3, .int (iI (v (73 + 5 * b)))), (2, .int (iI (v (75 + 5 * b)))), (0, .ref (tb)), (1, .int (iI (b)))]), W p l e (rmN 2) s m [.ref (tb), .int (iI (b))].toArray below meth c s.heap [] 0 0 (MQ below (QR (.int (iI (floR v b)))) [.ref (tb), .int (iI (b))].toArray s 0 0 (fun _ => False)) (F0 m 63 ls []) := by
        intro fu
        induction fu with
        | zero => intro k h1 h2 hm ls hl; exfalso; omega
        | succ fu ih =>
          intro k h1 h2 hm ls hl
          have ih63 := ih
          refine z_il C hl dX5_floatsIn_63 0 rfl 65 rfl ?_
          refine z_il C hl dX5_floatsIn_65 1 rfl 67 rfl ?_
          refine z_icmp_ge C dX5_floatsIn_67 101 70 (by decide) rfl (by omega) (fun c67 => ?_) (fun c67 => ?_)
          · skip
            refine z_bipush C dX5_floatsIn_101 (by decide) 103 rfl ?_
            exact z_ri C dX5_floatsIn_103 (by rw [← h2, firN_0 (by omega)])
          · skip
            refine z_al_n C hl dX5_floatsIn_70 4 rfl 71 rfl ?_
            refine z_get C hP hK fl_X5_10 0 rfl rfl dX5_floatsIn_71 74 rfl ?_
            refine z_il_n C hl dX5_floatsIn_74 3 rfl 75 rfl ?_
            refine z_il_n C hl dX5_floatsIn_75 2 rfl 76 rfl ?_
            refine z_al_n C hl dX5_floatsIn_76 4 rfl 77 rfl ?_
            refine z_get C hP hK fl_X5_10 0 rfl rfl dX5_floatsIn_77 80 rfl ?_
            refine z_getN C hP hK fl_X5_102 1 rfl rfl dX5_floatsIn_80 83 rfl ?_
            refine z_il C hl dX5_floatsIn_83 0 rfl 85 rfl ?_
            refine z_iadd C dX5_floatsIn_85 86 rfl (k + v 126) (by omega) ?_
            refine z_VR (r := .int (iI (bZ (wetB v (v (75 + 5 * b)) (v (73 + 5 * b)) (k + v 126))))) (rest := []) C (m_isWet l G qn v (v (75 + 5 * b)) (v (73 + 5 * b)) (k + v 126) w (by omega) (by omega) (by omega)) kV_X5_213 ⟨Nat.le_of_ble_eq_true rfl, Nat.le_of_ble_eq_true rfl⟩ (gP_rg hP [1] rfl) hK 0 rfl rfl rfl hl.1 rfl (Nat.le_of_ble_eq_true rfl) dX5_floatsIn_86 ⟨Nat.le_of_ble_eq_true rfl, Nat.le_of_ble_eq_true rfl⟩ 89 rfl ?_
            refine z_ifb_eq C dX5_floatsIn_89 95 92 (by decide) rfl (fun c89 => ?_) (fun c89 => ?_)
            · skip
              refine z_iinc C hl dX5_floatsIn_95 98 rfl 0 rfl (z := 1 + k) (by omega) (by decide) (lv' := [(5, .int (iI (1 + k))), (4, .int (iI (perZ v))), (3, .int (iI (v (73 + 5 * b)))), (2, .int (iI (v (75 + 5 * b)))), (0, .ref (tb)), (1, .int (iI (b)))]) rfl (fun ls hl => ?_)
              refine z_goto C dX5_floatsIn_98 63 (by decide) ?_
              exact ih63 (1 + k) (by omega) (by rw [← h2, firN_1 (n := perZ v - k) (by omega), if_neg (by rw [c89]; decide), show perZ v - k - 1 = perZ v - (1 + k) by omega]) (by omega) ls (lv_sub hl [0, 1, 2, 3, 4, 5] rfl)
            · skip
              refine z_il C hl dX5_floatsIn_92 0 rfl 94 rfl ?_
              exact z_ri C dX5_floatsIn_94 (by rw [← h2, firN_1 (n := perZ v - k) (by omega), if_pos c89])
      exact L63 (Int.toNat (perZ v - 0) + 1) 0 (by omega) (by unfold floR; rw [if_neg (by omega), if_neg (by rw [c21]; decide), Int.sub_zero]) (by omega) ls (lv_sub hl [0, 1, 2, 3, 4, 5] rfl)
    · skip
      refine z_bipush C dX5_floatsIn_24 (by decide) 26 rfl ?_
      exact z_ri C dX5_floatsIn_26 (by unfold floR; rw [if_neg (by omega), if_pos c21])
  · skip
    simp only [decide_eq_true_eq, decide_eq_false_iff_not] at c8
    refine z_iconst C dX5_floatsIn_11 12 rfl ?_
    exact z_ri C dX5_floatsIn_12 (by unfold floR; rw [if_pos (by omega)])

set_option maxHeartbeats 4000000 in
set_option maxRecDepth 100000 in
theorem m_inDanger (l : Launch) (G : gT) (tb r x cu h pa o sg : Nat) (qn qb sn : Nat → Nat) (v : Int → Int) (y : Int) (w : Wf v) (hy : -2147483648 ≤ y ∧ y < 2147483648) : MR l G yX5_inDanger cX5_inDanger 4 (some .int) 3 [.ref (tb), .int (iI (y))] [[tbO tb qn qb r x h o], stW G qn v] ZT (.int (danR v y)) := by
  refine enterR (own := RX5) (by decide +kernel) rfl (Nat.le_of_ble_eq_true rfl) ?_
  intro p e s m below meth c C hP hK hZ ls hl
  have hl : lv_has ls 4 [(0, .ref (tb)), (1, .int (iI (y)))] := hl
  have hn := w.n
  refine z_il_n C hl dX5_inDanger_0 1 rfl 1 rfl ?_
  refine z_SR (r := .int (iI (bZ (decide (0 ≤ y ∧ y < 2))))) (rest := []) C (m_isPlayer l G (y) (by omega)) kS_X5_227 ⟨Nat.le_of_ble_eq_true rfl, Nat.le_of_ble_eq_true rfl⟩ (gP_nil) hK rfl hl.1 rfl (Nat.le_of_ble_eq_true rfl) dX5_inDanger_1 ⟨Nat.le_of_ble_eq_true rfl, Nat.le_of_ble_eq_true rfl⟩ 4 rfl ?_
  refine z_ifb_ne C dX5_inDanger_4 9 7 (by decide) rfl (fun c4 => ?_) (fun c4 => ?_)
  · skip
    simp only [decide_eq_true_eq, decide_eq_false_iff_not] at c4
    refine z_al_n C hl dX5_inDanger_9 0 rfl 10 rfl ?_
    refine z_get C hP hK fl_X5_10 0 rfl rfl dX5_inDanger_10 13 rfl ?_
    refine z_VR (r := .int (iI (bZ (overB v)))) (rest := []) C (m_isOver l G qn v  w ) kV_X5_184 ⟨Nat.le_of_ble_eq_true rfl, Nat.le_of_ble_eq_true rfl⟩ (gP_rg hP [1] rfl) hK 0 rfl rfl rfl hl.1 rfl (Nat.le_of_ble_eq_true rfl) dX5_inDanger_13 ⟨Nat.le_of_ble_eq_true rfl, Nat.le_of_ble_eq_true rfl⟩ 16 rfl ?_
    refine z_ifb_eq C dX5_inDanger_16 21 19 (by decide) rfl (fun c16 => ?_) (fun c16 => ?_)
    · skip
      refine z_iconst C dX5_inDanger_21 22 rfl ?_
      refine z_top (b := .int (danN v y (Int.toNat 0))) rfl ?_
      refine z_is_n C hl dX5_inDanger_22 23 rfl (by decide) (lv' := [(2, .int (danN v y (Int.toNat 0))), (0, .ref (tb)), (1, .int (iI (y)))]) rfl (fun ls hl => ?_)
      refine z_iconst C dX5_inDanger_23 24 rfl ?_
      refine z_is_n C hl dX5_inDanger_24 25 rfl (by decide) (lv' := [(3, .int (iI (0))), (2, .int (danN v y (Int.toNat 0))), (0, .ref (tb)), (1, .int (iI (y)))]) rfl (fun ls hl => ?_)
      have L25 : ∀ (fu : Nat) (k : Int) (h1 : 0 ≤ k ∧ k ≤ v 127) (hm : v 127 - k < (fu : Int)) (ls : Array Slot) (hl : lv_has ls 4 [(3, .int (iI (k))), (2, .int (danN v y k.toNat)), (1, .int (iI (y))), (0, .ref (tb))]), W p l e (rmN 3) s m [.ref (tb), .int (iI (y))].toArray below meth c s.heap [] 0 0 (MQ below (QR (.int (danR v y))) [.ref (tb), .int (iI (y))].toArray s 0 0 (fun _ => False)) (F0 m 25 ls []) := by
        intro fu
        induction fu with
        | zero => intro k h1 hm ls hl; exfalso; omega
        | succ fu ih =>
          intro k h1 hm ls hl
          have ih25 := ih
          refine z_il_n C hl dX5_inDanger_25 0 rfl 26 rfl ?_
          refine z_al_n C hl dX5_inDanger_26 3 rfl 27 rfl ?_
          refine z_get C hP hK fl_X5_10 0 rfl rfl dX5_inDanger_27 30 rfl ?_
          refine z_getN C hP hK fl_X5_172 1 rfl rfl dX5_inDanger_30 33 rfl ?_
          refine z_icmp_ge C dX5_inDanger_33 74 36 (by decide) rfl (by omega) (fun c33 => ?_) (fun c33 => ?_)
          · skip
            refine z_il_n C hl dX5_inDanger_74 1 rfl 75 rfl ?_
            exact z_ri32 C dX5_inDanger_75 (by unfold danR; rw [if_neg (by omega), if_neg (by rw [c16]; decide), show k = v 127 by omega])
          · skip
            have hk := w.b k (by omega)
            refine z_al_n C hl dX5_inDanger_36 3 rfl 37 rfl ?_
            refine z_get C hP hK fl_X5_10 0 rfl rfl dX5_inDanger_37 40 rfl ?_
            refine z_getN C hP hK fl_X5_132 1 rfl rfl dX5_inDanger_40 43 rfl ?_
            refine z_il_n C hl dX5_inDanger_43 0 rfl 44 rfl ?_
            refine z_SR (r := .int (iI (v (72 + 5 * k)))) (rest := []) C (m_rd l G (qn 3) 10 (fun k => v (72 + 5 * k)) (k) (v (72 + 5 * k)) (by decide) (by omega) (congrArg v (by omega))) kS_X5_116 ⟨Nat.le_of_ble_eq_true rfl, Nat.le_of_ble_eq_true rfl⟩ (gP_c hP 4 rfl) hK rfl hl.1 rfl (Nat.le_of_ble_eq_true rfl) dX5_inDanger_44 ⟨Nat.le_of_ble_eq_true rfl, Nat.le_of_ble_eq_true rfl⟩ 47 rfl ?_
            refine z_il_n C hl dX5_inDanger_47 2 rfl 48 rfl ?_
            refine z_icmp_ne C dX5_inDanger_48 68 51 (by decide) rfl (by omega) (fun c48 => ?_) (fun c48 => ?_)
            · skip
              rw [show danN v y k.toNat = danN v y (1 + k).toNat by rw [danN_s h1.1, if_neg (fun z => c48 z.1)]] at hl
              refine z_iinc C hl dX5_inDanger_68 71 rfl 0 rfl (z := 1 + k) (by omega) (by decide) (lv' := [(3, .int (iI (1 + k))), (2, .int (danN v y (1 + k).toNat)), (1, .int (iI (y))), (0, .ref (tb))]) rfl (fun ls hl => ?_)
              refine z_goto C dX5_inDanger_71 25 (by decide) ?_
              exact ih25 (1 + k) (by omega) (by omega) ls (lv_sub hl [0, 1, 2, 3] rfl)
            · skip
              refine z_al_n C hl dX5_inDanger_51 3 rfl 52 rfl ?_
              refine z_get C hP hK fl_X5_10 0 rfl rfl dX5_inDanger_52 55 rfl ?_
              refine z_il_n C hl dX5_inDanger_55 0 rfl 56 rfl ?_
              refine z_VR (r := .int (iI (bZ (hitB v k)))) (rest := []) C (m_isWreckedAhead l G qn v k w (by omega)) kV_X5_230 ⟨Nat.le_of_ble_eq_true rfl, Nat.le_of_ble_eq_true rfl⟩ (gP_rg hP [1] rfl) hK 0 rfl rfl rfl hl.1 rfl (Nat.le_of_ble_eq_true rfl) dX5_inDanger_56 ⟨Nat.le_of_ble_eq_true rfl, Nat.le_of_ble_eq_true rfl⟩ 59 rfl ?_
              refine z_ifb_eq C dX5_inDanger_59 68 62 (by decide) rfl (fun c59 => ?_) (fun c59 => ?_)
              · skip
                rw [show danN v y k.toNat = danN v y (1 + k).toNat by rw [danN_s h1.1, if_neg (fun z => by rw [c59] at z; cases z.2)]] at hl
                refine z_iinc C hl dX5_inDanger_68 71 rfl 0 rfl (z := 1 + k) (by omega) (by decide) (lv' := [(3, .int (iI (1 + k))), (2, .int (danN v y (1 + k).toNat)), (1, .int (iI (y))), (0, .ref (tb))]) rfl (fun ls hl => ?_)
                refine z_goto C dX5_inDanger_71 25 (by decide) ?_
                exact ih25 (1 + k) (by omega) (by omega) ls (lv_sub hl [0, 1, 2, 3] rfl)
              · skip
                refine z_il_n C hl dX5_inDanger_62 1 rfl 63 rfl ?_
                refine z_iconst C dX5_inDanger_63 64 rfl ?_
                refine z_il_n C hl dX5_inDanger_64 0 rfl 65 rfl ?_
                refine z_ishl C dX5_inDanger_65 66 rfl ?_
                refine z_ior C dX5_inDanger_66 67 rfl ?_
                refine z_top (b := .int (danN v y (1 + k).toNat)) (congrArg Value.int (by rw [danN_s h1.1, if_pos ⟨c48, c59⟩])) ?_
                refine z_is_n C hl dX5_inDanger_67 68 rfl (by decide) (lv' := [(2, .int (danN v y (1 + k).toNat)), (3, .int (iI (k))), (1, .int (iI (y))), (0, .ref (tb))]) rfl (fun ls hl => ?_)
                skip
                refine z_iinc C hl dX5_inDanger_68 71 rfl 1 rfl (z := 1 + k) (by omega) (by decide) (lv' := [(3, .int (iI (1 + k))), (2, .int (danN v y (1 + k).toNat)), (1, .int (iI (y))), (0, .ref (tb))]) rfl (fun ls hl => ?_)
                refine z_goto C dX5_inDanger_71 25 (by decide) ?_
                exact ih25 (1 + k) (by omega) (by omega) ls (lv_sub hl [0, 1, 2, 3] rfl)
      exact L25 (Int.toNat (v 127 - 0) + 1) 0 (by omega) (by omega) ls (lv_sub hl [0, 1, 3, 2] rfl)
    · skip
      refine z_iconst C dX5_inDanger_19 20 rfl ?_
      exact z_ri32 C dX5_inDanger_20 (by unfold danR; rw [if_neg (by omega), if_pos c16])
  · skip
    simp only [decide_eq_true_eq, decide_eq_false_iff_not] at c4
    refine z_iconst C dX5_inDanger_7 8 rfl ?_
    exact z_ri32 C dX5_inDanger_8 (by unfold danR; rw [if_pos (by omega)])

set_option maxHeartbeats 4000000 in
set_option maxRecDepth 100000 in
theorem m_homeIn (l : Launch) (G : gT) (tb r x cu h pa o sg : Nat) (qn qb sn : Nat → Nat) (v : Int → Int) (k : sK) (b y : Int) (w : Wf v) (hb : -2147483648 ≤ b ∧ b < 2147483648) (hy : -2147483648 ≤ y ∧ y < 2147483648) (hD : gD ([[tbO tb qn qb r x h o], [sxA x cu qn k.1], [arL G cu 5 k.2], stW G qn v] : List va_W).flatten) : MW l G yX5_homeIn cX5_homeIn 4 (some .int) 5 [.ref (tb), .int (iI (b)), .int (iI (y))] [[tbO tb qn qb r x h o], [sxA x cu qn k.1], [arL G cu 5 k.2], stW G qn v] [[tbO tb qn qb r x h o], [sxA x cu qn (homK v b y k).1], [arL G cu 5 (homK v b y k).2], stW G qn v] ZT (some (.int (iI (homR v b y)))) := by
  refine enterW (own := RX5) (by decide +kernel) rfl (Nat.le_of_ble_eq_true rfl) hD ?_
  intro p e s m below meth c C hW hK hZ ls hl
  have hl : lv_has ls 4 [(0, .ref (tb)), (1, .int (iI (b))), (2, .int (iI (y)))] := hl
  have ht := w.t
  have hn := w.n
  refine z_al_n C hl dX5_homeIn_0 0 rfl 1 rfl ?_
  refine z_get C hW.1 hK fl_X5_10 0 rfl rfl dX5_homeIn_1 4 rfl ?_
  refine z_il_n C hl dX5_homeIn_4 1 rfl 5 rfl ?_
  refine z_VR (r := .int (iI (bZ (decide (0 ≤ b ∧ b < v 127))))) (rest := []) C (m_isBoat l G qn v b w (by omega)) kV_X5_129 ⟨Nat.le_of_ble_eq_true rfl, Nat.le_of_ble_eq_true rfl⟩ (gP_rg hW.1 [3] rfl) hK 0 rfl rfl rfl hl.1 rfl (Nat.le_of_ble_eq_true rfl) dX5_homeIn_5 ⟨Nat.le_of_ble_eq_true rfl, Nat.le_of_ble_eq_true rfl⟩ 8 rfl ?_
  refine z_ifb_ne C dX5_homeIn_8 13 11 (by decide) rfl (fun c8 => ?_) (fun c8 => ?_)
  · skip
    simp only [decide_eq_true_eq, decide_eq_false_iff_not] at c8
    refine z_il_n C hl dX5_homeIn_13 2 rfl 14 rfl ?_
    refine z_if_eq C dX5_homeIn_14 25 17 (by decide) rfl (by omega) (fun c14 => ?_) (fun c14 => ?_)
    · skip
      refine z_al_n C hl dX5_homeIn_25 0 rfl 26 rfl ?_
      refine z_get C hW.1 hK fl_X5_10 0 rfl rfl dX5_homeIn_26 29 rfl ?_
      refine z_il_n C hl dX5_homeIn_29 1 rfl 30 rfl ?_
      refine z_VR (r := .int (iI (bZ (onB v b)))) (rest := []) C (m_isOnBoard l G qn v b w (by omega)) kV_X5_141 ⟨Nat.le_of_ble_eq_true rfl, Nat.le_of_ble_eq_true rfl⟩ (gP_rg hW.1 [3] rfl) hK 0 rfl rfl rfl hl.1 rfl (Nat.le_of_ble_eq_true rfl) dX5_homeIn_30 ⟨Nat.le_of_ble_eq_true rfl, Nat.le_of_ble_eq_true rfl⟩ 33 rfl ?_
      refine z_ifb_ne C dX5_homeIn_33 39 36 (by decide) rfl (fun c33 => ?_) (fun c33 => ?_)
      · skip
        have hw := w.b b (by omega)
        have hbb := w.bb b (by omega)
        have hon : v (74 + 5 * b) = 0 := of_decide_eq_true c33
        have hpp : 0 ≤ v (72 + 5 * b) ∧ v (72 + 5 * b) ≤ 1 := hw.1
        have hdd : 1 ≤ v (73 + 5 * b) ∧ v (73 + 5 * b) ≤ 3 := by omega
        have hne : v (75 + 5 * b) ≠ harZ (v (72 + 5 * b)) := by have := harZ_c (p := v (72 + 5 * b)) (by omega); omega
        refine z_al_n C hl dX5_homeIn_39 0 rfl 40 rfl ?_
        refine z_get C hW.1 hK fl_X5_31 0 rfl rfl dX5_homeIn_40 43 rfl ?_
        refine z_il_n C hl dX5_homeIn_43 1 rfl 44 rfl ?_
        refine z_VWv (rest := []) C (m_prepare l G x cu qn v b k.1 k.2 w (by omega) (gD_rg hW.2.1 [1, 2, 3] (by decide) rfl)) kV_X5_217 ⟨Nat.le_of_ble_eq_true rfl, Nat.le_of_ble_eq_true rfl⟩ hW hK [1, 2, 3] rfl (sameA_of rfl) 0 rfl rfl rfl hl.1 rfl (Nat.le_of_ble_eq_true rfl) dX5_homeIn_44 ⟨Nat.le_of_ble_eq_true rfl, Nat.le_of_ble_eq_true rfl⟩ 47 rfl (rs' := [[tbO tb qn qb r x h o], [sxO x cu qn v (v (72 + 5 * b)) (v (73 + 5 * b))], [arL G cu 5 (fun k => bL (upS v k))], stW G qn v]) rfl (fun H locs hW hkeep => ?_)
        refine z_al_n C hl dX5_homeIn_47 0 rfl 48 rfl ?_
        refine z_get C hW.1 hK fl_X5_10 0 rfl rfl dX5_homeIn_48 51 rfl ?_
        refine z_getN C hW.1 hK fl_X5_144 3 rfl rfl dX5_homeIn_51 54 rfl ?_
        refine z_il_n C hl dX5_homeIn_54 1 rfl 55 rfl ?_
        refine z_SR (r := .int (iI (v (75 + 5 * b)))) (rest := []) C (m_rd l G (qn 6) 10 (fun k => v (75 + 5 * k)) (b) (v (75 + 5 * b)) (by decide) (by omega) (congrArg v (by omega))) kS_X5_116 ⟨Nat.le_of_ble_eq_true rfl, Nat.le_of_ble_eq_true rfl⟩ (gP_c hW.1 9 rfl) hK rfl hl.1 rfl (Nat.le_of_ble_eq_true rfl) dX5_homeIn_55 ⟨Nat.le_of_ble_eq_true rfl, Nat.le_of_ble_eq_true rfl⟩ 58 rfl ?_
        refine z_is_n C hl dX5_homeIn_58 59 rfl (by decide) (lv' := [(3, .int (iI (v (75 + 5 * b)))), (0, .ref (tb)), (1, .int (iI (b))), (2, .int (iI (y)))]) rfl (fun ls hl => ?_)
        refine z_il_n C hl dX5_homeIn_59 3 rfl 60 rfl ?_
        refine z_if_ne C dX5_homeIn_60 81 63 (by decide) rfl (by omega) (fun c60 => ?_) (fun c60 => ?_)
        · skip
          refine z_al_n C hl dX5_homeIn_81 1 rfl 82 rfl ?_
          refine z_get C hW.1 hK fl_X5_31 0 rfl rfl dX5_homeIn_82 85 rfl ?_
          refine z_il_n C hl dX5_homeIn_85 0 rfl 86 rfl ?_
          refine z_al_n C hl dX5_homeIn_86 1 rfl 87 rfl ?_
          refine z_get C hW.1 hK fl_X5_10 0 rfl rfl dX5_homeIn_87 90 rfl ?_
          refine z_getN C hW.1 hK fl_X5_102 3 rfl rfl dX5_homeIn_90 93 rfl ?_
          refine z_VR (r := .int (iI (bwZ v (v (72 + 5 * b)) (v (73 + 5 * b)) (v (75 + 5 * b)) (v 126)))) (rest := []) C (m_turnsBackwards l G x cu qn v (v (72 + 5 * b)) (v (73 + 5 * b)) (v (75 + 5 * b)) (v 126) w hpp hdd (by omega) (by omega)) kV_X5_224 ⟨Nat.le_of_ble_eq_true rfl, Nat.le_of_ble_eq_true rfl⟩ (gP_rg hW.1 [1, 2, 3] rfl) hK 0 rfl rfl rfl hl.1 rfl (Nat.le_of_ble_eq_true rfl) dX5_homeIn_93 ⟨Nat.le_of_ble_eq_true rfl, Nat.le_of_ble_eq_true rfl⟩ 96 rfl ?_
          have hr : homR v b y = bwZ v (v (72 + 5 * b)) (v (73 + 5 * b)) (v (75 + 5 * b)) (v 126) := by unfold homR; rw [if_neg (by omega), if_neg (by omega), if_neg (by rw [c33]; decide), if_neg (by omega)]
          have hk : homK v b y k = preK v b := by unfold homK; exact if_neg (fun z => by rcases z with z | z | z <;> first | omega | (rw [c33] at z; cases z))
          rw [hr, hk]
          exact z_wi C hW dX5_homeIn_96 rfl rfl
        · skip
          refine z_al_n C hl dX5_homeIn_63 1 rfl 64 rfl ?_
          refine z_get C hW.1 hK fl_X5_31 0 rfl rfl dX5_homeIn_64 67 rfl ?_
          refine z_il_n C hl dX5_homeIn_67 0 rfl 68 rfl ?_
          refine z_al_n C hl dX5_homeIn_68 1 rfl 69 rfl ?_
          refine z_get C hW.1 hK fl_X5_10 0 rfl rfl dX5_homeIn_69 72 rfl ?_
          refine z_getN C hW.1 hK fl_X5_102 3 rfl rfl dX5_homeIn_72 75 rfl ?_
          refine z_VR (r := .int (iI (fwZ v (v (72 + 5 * b)) (v (73 + 5 * b)) (v (75 + 5 * b)) (v 126)))) (rest := []) C (m_turnsForwards l G x cu qn v (v (72 + 5 * b)) (v (73 + 5 * b)) (v (75 + 5 * b)) (v 126) w hpp hdd (by omega) (by omega) (by assumption)) kV_X5_221 ⟨Nat.le_of_ble_eq_true rfl, Nat.le_of_ble_eq_true rfl⟩ (gP_rg hW.1 [1, 2, 3] rfl) hK 0 rfl rfl rfl hl.1 rfl (Nat.le_of_ble_eq_true rfl) dX5_homeIn_75 ⟨Nat.le_of_ble_eq_true rfl, Nat.le_of_ble_eq_true rfl⟩ 78 rfl ?_
          refine z_goto C dX5_homeIn_78 96 (by decide) ?_
          have hr : homR v b y = fwZ v (v (72 + 5 * b)) (v (73 + 5 * b)) (v (75 + 5 * b)) (v 126) := by unfold homR; rw [if_neg (by omega), if_neg (by omega), if_neg (by rw [c33]; decide), if_pos (by omega)]
          have hk : homK v b y k = preK v b := by unfold homK; exact if_neg (fun z => by rcases z with z | z | z <;> first | omega | (rw [c33] at z; cases z))
          rw [hr, hk]
          exact z_wi C hW dX5_homeIn_96 rfl rfl
      · skip
        refine z_bipush C dX5_homeIn_36 (by decide) 38 rfl ?_
        have hr : homR v b y = -4 := by unfold homR; rw [if_neg (by omega), if_neg (by omega), if_pos c33]
        have hk : homK v b y k = k := by unfold homK; exact if_pos (Or.inr (Or.inr c33))
        rw [hr, hk]
        exact z_wi C hW dX5_homeIn_38 rfl rfl
    · skip
      refine z_il_n C hl dX5_homeIn_17 2 rfl 18 rfl ?_
      refine z_iconst C dX5_homeIn_18 19 rfl ?_
      refine z_icmp_eq C dX5_homeIn_19 25 22 (by decide) rfl (by omega) (fun c19 => ?_) (fun c19 => ?_)
      · skip
        refine z_al_n C hl dX5_homeIn_25 0 rfl 26 rfl ?_
        refine z_get C hW.1 hK fl_X5_10 0 rfl rfl dX5_homeIn_26 29 rfl ?_
        refine z_il_n C hl dX5_homeIn_29 1 rfl 30 rfl ?_
        refine z_VR (r := .int (iI (bZ (onB v b)))) (rest := []) C (m_isOnBoard l G qn v b w (by omega)) kV_X5_141 ⟨Nat.le_of_ble_eq_true rfl, Nat.le_of_ble_eq_true rfl⟩ (gP_rg hW.1 [3] rfl) hK 0 rfl rfl rfl hl.1 rfl (Nat.le_of_ble_eq_true rfl) dX5_homeIn_30 ⟨Nat.le_of_ble_eq_true rfl, Nat.le_of_ble_eq_true rfl⟩ 33 rfl ?_
        refine z_ifb_ne C dX5_homeIn_33 39 36 (by decide) rfl (fun c33 => ?_) (fun c33 => ?_)
        · skip
          have hw := w.b b (by omega)
          have hbb := w.bb b (by omega)
          have hon : v (74 + 5 * b) = 0 := of_decide_eq_true c33
          have hpp : 0 ≤ v (72 + 5 * b) ∧ v (72 + 5 * b) ≤ 1 := hw.1
          have hdd : 1 ≤ v (73 + 5 * b) ∧ v (73 + 5 * b) ≤ 3 := by omega
          have hne : v (75 + 5 * b) ≠ harZ (v (72 + 5 * b)) := by have := harZ_c (p := v (72 + 5 * b)) (by omega); omega
          refine z_al_n C hl dX5_homeIn_39 0 rfl 40 rfl ?_
          refine z_get C hW.1 hK fl_X5_31 0 rfl rfl dX5_homeIn_40 43 rfl ?_
          refine z_il_n C hl dX5_homeIn_43 1 rfl 44 rfl ?_
          refine z_VWv (rest := []) C (m_prepare l G x cu qn v b k.1 k.2 w (by omega) (gD_rg hW.2.1 [1, 2, 3] (by decide) rfl)) kV_X5_217 ⟨Nat.le_of_ble_eq_true rfl, Nat.le_of_ble_eq_true rfl⟩ hW hK [1, 2, 3] rfl (sameA_of rfl) 0 rfl rfl rfl hl.1 rfl (Nat.le_of_ble_eq_true rfl) dX5_homeIn_44 ⟨Nat.le_of_ble_eq_true rfl, Nat.le_of_ble_eq_true rfl⟩ 47 rfl (rs' := [[tbO tb qn qb r x h o], [sxO x cu qn v (v (72 + 5 * b)) (v (73 + 5 * b))], [arL G cu 5 (fun k => bL (upS v k))], stW G qn v]) rfl (fun H locs hW hkeep => ?_)
          refine z_al_n C hl dX5_homeIn_47 0 rfl 48 rfl ?_
          refine z_get C hW.1 hK fl_X5_10 0 rfl rfl dX5_homeIn_48 51 rfl ?_
          refine z_getN C hW.1 hK fl_X5_144 3 rfl rfl dX5_homeIn_51 54 rfl ?_
          refine z_il_n C hl dX5_homeIn_54 1 rfl 55 rfl ?_
          refine z_SR (r := .int (iI (v (75 + 5 * b)))) (rest := []) C (m_rd l G (qn 6) 10 (fun k => v (75 + 5 * k)) (b) (v (75 + 5 * b)) (by decide) (by omega) (congrArg v (by omega))) kS_X5_116 ⟨Nat.le_of_ble_eq_true rfl, Nat.le_of_ble_eq_true rfl⟩ (gP_c hW.1 9 rfl) hK rfl hl.1 rfl (Nat.le_of_ble_eq_true rfl) dX5_homeIn_55 ⟨Nat.le_of_ble_eq_true rfl, Nat.le_of_ble_eq_true rfl⟩ 58 rfl ?_
          refine z_is_n C hl dX5_homeIn_58 59 rfl (by decide) (lv' := [(3, .int (iI (v (75 + 5 * b)))), (0, .ref (tb)), (1, .int (iI (b))), (2, .int (iI (y)))]) rfl (fun ls hl => ?_)
          refine z_il_n C hl dX5_homeIn_59 3 rfl 60 rfl ?_
          refine z_if_ne C dX5_homeIn_60 81 63 (by decide) rfl (by omega) (fun c60 => ?_) (fun c60 => ?_)
          · skip
            refine z_al_n C hl dX5_homeIn_81 1 rfl 82 rfl ?_
            refine z_get C hW.1 hK fl_X5_31 0 rfl rfl dX5_homeIn_82 85 rfl ?_
            refine z_il_n C hl dX5_homeIn_85 0 rfl 86 rfl ?_
            refine z_al_n C hl dX5_homeIn_86 1 rfl 87 rfl ?_
            refine z_get C hW.1 hK fl_X5_10 0 rfl rfl dX5_homeIn_87 90 rfl ?_
            refine z_getN C hW.1 hK fl_X5_102 3 rfl rfl dX5_homeIn_90 93 rfl ?_
            refine z_VR (r := .int (iI (bwZ v (v (72 + 5 * b)) (v (73 + 5 * b)) (v (75 + 5 * b)) (v 126)))) (rest := []) C (m_turnsBackwards l G x cu qn v (v (72 + 5 * b)) (v (73 + 5 * b)) (v (75 + 5 * b)) (v 126) w hpp hdd (by omega) (by omega)) kV_X5_224 ⟨Nat.le_of_ble_eq_true rfl, Nat.le_of_ble_eq_true rfl⟩ (gP_rg hW.1 [1, 2, 3] rfl) hK 0 rfl rfl rfl hl.1 rfl (Nat.le_of_ble_eq_true rfl) dX5_homeIn_93 ⟨Nat.le_of_ble_eq_true rfl, Nat.le_of_ble_eq_true rfl⟩ 96 rfl ?_
            have hr : homR v b y = bwZ v (v (72 + 5 * b)) (v (73 + 5 * b)) (v (75 + 5 * b)) (v 126) := by unfold homR; rw [if_neg (by omega), if_neg (by omega), if_neg (by rw [c33]; decide), if_neg (by omega)]
            have hk : homK v b y k = preK v b := by unfold homK; exact if_neg (fun z => by rcases z with z | z | z <;> first | omega | (rw [c33] at z; cases z))
            rw [hr, hk]
            exact z_wi C hW dX5_homeIn_96 rfl rfl
          · skip
            refine z_al_n C hl dX5_homeIn_63 1 rfl 64 rfl ?_
            refine z_get C hW.1 hK fl_X5_31 0 rfl rfl dX5_homeIn_64 67 rfl ?_
            refine z_il_n C hl dX5_homeIn_67 0 rfl 68 rfl ?_
            refine z_al_n C hl dX5_homeIn_68 1 rfl 69 rfl ?_
            refine z_get C hW.1 hK fl_X5_10 0 rfl rfl dX5_homeIn_69 72 rfl ?_
            refine z_getN C hW.1 hK fl_X5_102 3 rfl rfl dX5_homeIn_72 75 rfl ?_
            refine z_VR (r := .int (iI (fwZ v (v (72 + 5 * b)) (v (73 + 5 * b)) (v (75 + 5 * b)) (v 126)))) (rest := []) C (m_turnsForwards l G x cu qn v (v (72 + 5 * b)) (v (73 + 5 * b)) (v (75 + 5 * b)) (v 126) w hpp hdd (by omega) (by omega) (by assumption)) kV_X5_221 ⟨Nat.le_of_ble_eq_true rfl, Nat.le_of_ble_eq_true rfl⟩ (gP_rg hW.1 [1, 2, 3] rfl) hK 0 rfl rfl rfl hl.1 rfl (Nat.le_of_ble_eq_true rfl) dX5_homeIn_75 ⟨Nat.le_of_ble_eq_true rfl, Nat.le_of_ble_eq_true rfl⟩ 78 rfl ?_
            refine z_goto C dX5_homeIn_78 96 (by decide) ?_
            have hr : homR v b y = fwZ v (v (72 + 5 * b)) (v (73 + 5 * b)) (v (75 + 5 * b)) (v 126) := by unfold homR; rw [if_neg (by omega), if_neg (by omega), if_neg (by rw [c33]; decide), if_pos (by omega)]
            have hk : homK v b y k = preK v b := by unfold homK; exact if_neg (fun z => by rcases z with z | z | z <;> first | omega | (rw [c33] at z; cases z))
            rw [hr, hk]
            exact z_wi C hW dX5_homeIn_96 rfl rfl
        · skip
          refine z_bipush C dX5_homeIn_36 (by decide) 38 rfl ?_
          have hr : homR v b y = -4 := by unfold homR; rw [if_neg (by omega), if_neg (by omega), if_pos c33]
          have hk : homK v b y k = k := by unfold homK; exact if_pos (Or.inr (Or.inr c33))
          rw [hr, hk]
          exact z_wi C hW dX5_homeIn_38 rfl rfl
      · skip
        refine z_bipush C dX5_homeIn_22 (by decide) 24 rfl ?_
        have hr : homR v b y = -2 := by unfold homR; rw [if_neg (by omega), if_pos (by omega)]
        have hk : homK v b y k = k := by unfold homK; exact if_pos (Or.inr (Or.inl (by omega)))
        rw [hr, hk]
        exact z_wi C hW dX5_homeIn_24 rfl rfl
  · skip
    simp only [decide_eq_true_eq, decide_eq_false_iff_not] at c8
    refine z_iconst C dX5_homeIn_11 12 rfl ?_
    have hr : homR v b y = -1 := by unfold homR; rw [if_pos (by omega)]
    have hk : homK v b y k = k := by unfold homK; exact if_pos (Or.inl (by omega))
    rw [hr, hk]
    exact z_wi C hW dX5_homeIn_12 rfl rfl

set_option maxHeartbeats 4000000 in
set_option maxRecDepth 100000 in
theorem m_worthOf (l : Launch) (G : gT) (tb r x cu h pa o sg : Nat) (qn qb sn : Nat → Nat) (v : Int → Int) (k : sK) (b d n : Int) (w : Wf v) (hb : 0 ≤ b ∧ b < v 127) (hd : 0 ≤ d ∧ d < 4) (hn : 1 ≤ n ∧ n ≤ 3) (hD : gD ([[tbO tb qn qb r x h o], [(r, .inr (3, [.ref (qn 0)]))], [sxA x cu qn k.1], [arL G cu 5 k.2], stW G qn v] : List va_W).flatten) : MW l G yX5_worthOf cX5_worthOf 7 (some .int) 5 [.ref (tb), .int (iI (b)), .int (iI (d)), .int (iI (n))] [[tbO tb qn qb r x h o], [(r, .inr (3, [.ref (qn 0)]))], [sxA x cu qn k.1], [arL G cu 5 k.2], stW G qn v] [[tbO tb qn qb r x h o], [(r, .inr (3, [.ref (qn 0)]))], [sxA x cu qn (worK v b d n k).1], [arL G cu 5 (worK v b d n k).2], stW G qn v] ZT (some (.int (iI (worZ v b d n)))) := by
  refine enterW (own := RX5) (by decide +kernel) rfl (Nat.le_of_ble_eq_true rfl) hD ?_
  intro p e s m below meth c C hW hK hZ ls hl
  have hl : lv_has ls 7 [(0, .ref (tb)), (1, .int (iI (b))), (2, .int (iI (d))), (3, .int (iI (n)))] := hl
  have ht := w.t
  have h127 := w.n
  have hw := w.b b (by omega)
  have hbb := w.bb b hb
  have hpp : 0 ≤ v (72 + 5 * b) ∧ v (72 + 5 * b) ≤ 1 := hw.1
  have hdd : 1 ≤ v (73 + 5 * b) ∧ v (73 + 5 * b) ≤ 3 := by omega
  refine z_al_n C hl dX5_worthOf_0 0 rfl 1 rfl ?_
  refine z_get C hW.1 hK fl_X5_24 0 rfl rfl dX5_worthOf_1 4 rfl ?_
  refine z_il_n C hl dX5_worthOf_4 1 rfl 5 rfl ?_
  refine z_il_n C hl dX5_worthOf_5 2 rfl 6 rfl ?_
  refine z_il_n C hl dX5_worthOf_6 3 rfl 7 rfl ?_
  refine z_iconst C dX5_worthOf_7 8 rfl ?_
  refine z_VR (r := .int (iI (reaZ v b d n false))) (rest := []) C (m_reasonAgainst l G r qn v b d n false w (by omega) (by omega) (by omega)) kV_X5_162 ⟨Nat.le_of_ble_eq_true rfl, Nat.le_of_ble_eq_true rfl⟩ (gP_rg hW.1 [1, 4] rfl) hK 0 rfl rfl rfl hl.1 rfl (Nat.le_of_ble_eq_true rfl) dX5_worthOf_8 ⟨Nat.le_of_ble_eq_true rfl, Nat.le_of_ble_eq_true rfl⟩ 11 rfl ?_
  have r8 := reaZ_rng v b d n false
  refine z_if_eq C dX5_worthOf_11 16 14 (by decide) rfl (by omega) (fun c11 => ?_) (fun c11 => ?_)
  · skip
    obtain ⟨g1, g2, g3⟩ := gol_rng w hb c11
    refine z_al_n C hl dX5_worthOf_16 0 rfl 17 rfl ?_
    refine z_get C hW.1 hK fl_X5_10 0 rfl rfl dX5_worthOf_17 20 rfl ?_
    refine z_getN C hW.1 hK fl_X5_144 4 rfl rfl dX5_worthOf_20 23 rfl ?_
    refine z_il_n C hl dX5_worthOf_23 1 rfl 24 rfl ?_
    refine z_SR (r := .int (iI (v (75 + 5 * b)))) (rest := []) C (m_rd l G (qn 6) 10 (fun k => v (75 + 5 * k)) (b) (v (75 + 5 * b)) (by decide) (by omega) (congrArg v (by omega))) kS_X5_116 ⟨Nat.le_of_ble_eq_true rfl, Nat.le_of_ble_eq_true rfl⟩ (gP_c hW.1 10 rfl) hK rfl hl.1 rfl (Nat.le_of_ble_eq_true rfl) dX5_worthOf_24 ⟨Nat.le_of_ble_eq_true rfl, Nat.le_of_ble_eq_true rfl⟩ 27 rfl ?_
    refine z_il_n C hl dX5_worthOf_27 2 rfl 28 rfl ?_
    refine z_il_n C hl dX5_worthOf_28 3 rfl 29 rfl ?_
    refine z_SR (r := .int (iI (froZ d (Int.toNat n) (v (75 + 5 * b))))) (rest := []) C (m_cellFrom l G (v (75 + 5 * b)) (d) (n) (by omega) (by omega) (by omega)) kS_X5_269 ⟨Nat.le_of_ble_eq_true rfl, Nat.le_of_ble_eq_true rfl⟩ (gP_nil) hK rfl hl.1 rfl (Nat.le_of_ble_eq_true rfl) dX5_worthOf_29 ⟨Nat.le_of_ble_eq_true rfl, Nat.le_of_ble_eq_true rfl⟩ 32 rfl ?_
    refine z_top (b := .int (iI (golZ v b d n))) rfl ?_
    refine z_is C hl dX5_worthOf_32 34 rfl (by decide) (lv' := [(4, .int (iI (golZ v b d n))), (0, .ref (tb)), (1, .int (iI (b))), (2, .int (iI (d))), (3, .int (iI (n)))]) rfl (fun ls hl => ?_)
    refine z_il C hl dX5_worthOf_34 0 rfl 36 rfl ?_
    refine z_al_n C hl dX5_worthOf_36 1 rfl 37 rfl ?_
    refine z_get C hW.1 hK fl_X5_10 0 rfl rfl dX5_worthOf_37 40 rfl ?_
    refine z_getN C hW.1 hK fl_X5_132 4 rfl rfl dX5_worthOf_40 43 rfl ?_
    refine z_il_n C hl dX5_worthOf_43 2 rfl 44 rfl ?_
    refine z_SR (r := .int (iI (v (72 + 5 * b)))) (rest := [.int (iI (golZ v b d n))]) C (m_rd l G (qn 3) 10 (fun k => v (72 + 5 * k)) (b) (v (72 + 5 * b)) (by decide) (by omega) (congrArg v (by omega))) kS_X5_116 ⟨Nat.le_of_ble_eq_true rfl, Nat.le_of_ble_eq_true rfl⟩ (gP_c hW.1 7 rfl) hK rfl hl.1 rfl (Nat.le_of_ble_eq_true rfl) dX5_worthOf_44 ⟨Nat.le_of_ble_eq_true rfl, Nat.le_of_ble_eq_true rfl⟩ 47 rfl ?_
    refine z_SR (r := .int (iI (harZ (v (72 + 5 * b))))) (rest := [.int (iI (golZ v b d n))]) C (m_harbourOf l G (v (72 + 5 * b)) (by omega)) kS_X5_272 ⟨Nat.le_of_ble_eq_true rfl, Nat.le_of_ble_eq_true rfl⟩ (gP_nil) hK rfl hl.1 rfl (Nat.le_of_ble_eq_true rfl) dX5_worthOf_47 ⟨Nat.le_of_ble_eq_true rfl, Nat.le_of_ble_eq_true rfl⟩ 50 rfl ?_
    have hh47 := harZ_rng (v (72 + 5 * b))
    refine z_icmp_ne C dX5_worthOf_50 69 53 (by decide) rfl (by omega) (fun c50 => ?_) (fun c50 => ?_)
    · skip
      refine z_al_n C hl dX5_worthOf_69 1 rfl 70 rfl ?_
      refine z_get C hW.1 hK fl_X5_10 0 rfl rfl dX5_worthOf_70 73 rfl ?_
      refine z_il C hl dX5_worthOf_73 0 rfl 75 rfl ?_
      refine z_VR (r := .int (iI (batZ v (golZ v b d n)))) (rest := []) C (m_boatAt l G qn v (golZ v b d n) w (by omega)) kV_X5_126 ⟨Nat.le_of_ble_eq_true rfl, Nat.le_of_ble_eq_true rfl⟩ (gP_rg hW.1 [4] rfl) hK 0 rfl rfl rfl hl.1 rfl (Nat.le_of_ble_eq_true rfl) dX5_worthOf_75 ⟨Nat.le_of_ble_eq_true rfl, Nat.le_of_ble_eq_true rfl⟩ 78 rfl ?_
      have r75 := batZ_rng w (golZ v b d n)
      refine z_is C hl dX5_worthOf_78 80 rfl (by decide) (lv' := [(5, .int (iI (batZ v (golZ v b d n)))), (4, .int (iI (golZ v b d n))), (0, .ref (tb)), (1, .int (iI (b))), (2, .int (iI (d))), (3, .int (iI (n)))]) rfl (fun ls hl => ?_)
      refine z_il C hl dX5_worthOf_80 0 rfl 82 rfl ?_
      refine z_bipush C dX5_worthOf_82 (by decide) 84 rfl ?_
      refine z_icmp_eq C dX5_worthOf_84 104 87 (by decide) rfl (by omega) (fun c84 => ?_) (fun c84 => ?_)
      · skip
        have hbz := behZ_rng w (v (72 + 5 * b)) (v (73 + 5 * b)) (golZ v b d n) (v 126) (by omega)
        refine z_al_n C hl dX5_worthOf_104 2 rfl 105 rfl ?_
        refine z_get C hW.1 hK fl_X5_31 0 rfl rfl dX5_worthOf_105 108 rfl ?_
        refine z_il_n C hl dX5_worthOf_108 3 rfl 109 rfl ?_
        refine z_VWv (rest := []) C (m_prepare l G x cu qn v b k.1 k.2 w (by omega) (gD_rg hW.2.1 [2, 3, 4] (by decide) rfl)) kV_X5_217 ⟨Nat.le_of_ble_eq_true rfl, Nat.le_of_ble_eq_true rfl⟩ hW hK [2, 3, 4] rfl (sameA_of rfl) 0 rfl rfl rfl hl.1 rfl (Nat.le_of_ble_eq_true rfl) dX5_worthOf_109 ⟨Nat.le_of_ble_eq_true rfl, Nat.le_of_ble_eq_true rfl⟩ 112 rfl (rs' := [[tbO tb qn qb r x h o], [(r, .inr (3, [.ref (qn 0)]))], [sxO x cu qn v (v (72 + 5 * b)) (v (73 + 5 * b))], [arL G cu 5 (fun k => bL (upS v k))], stW G qn v]) rfl (fun H locs hW hkeep => ?_)
        refine z_al_n C hl dX5_worthOf_112 2 rfl 113 rfl ?_
        refine z_get C hW.1 hK fl_X5_31 0 rfl rfl dX5_worthOf_113 116 rfl ?_
        refine z_il C hl dX5_worthOf_116 1 rfl 118 rfl ?_
        refine z_al_n C hl dX5_worthOf_118 2 rfl 119 rfl ?_
        refine z_get C hW.1 hK fl_X5_10 0 rfl rfl dX5_worthOf_119 122 rfl ?_
        refine z_getN C hW.1 hK fl_X5_102 4 rfl rfl dX5_worthOf_122 125 rfl ?_
        refine z_VR (r := .int (iI (behZ v (v (72 + 5 * b)) (v (73 + 5 * b)) (golZ v b d n) (v 126)))) (rest := []) C (m_turnsBehind l G x cu qn v (v (72 + 5 * b)) (v (73 + 5 * b)) (golZ v b d n) (v 126) w hpp hdd (by omega) (by omega) (by assumption)) kV_X5_275 ⟨Nat.le_of_ble_eq_true rfl, Nat.le_of_ble_eq_true rfl⟩ (gP_rg hW.1 [2, 3, 4] rfl) hK 0 rfl rfl rfl hl.1 rfl (Nat.le_of_ble_eq_true rfl) dX5_worthOf_125 ⟨Nat.le_of_ble_eq_true rfl, Nat.le_of_ble_eq_true rfl⟩ 128 rfl ?_
        refine z_is C hl dX5_worthOf_128 130 rfl (by decide) (lv' := [(6, .int (iI (behZ v (v (72 + 5 * b)) (v (73 + 5 * b)) (golZ v b d n) (v 126)))), (5, .int (iI (batZ v (golZ v b d n)))), (4, .int (iI (golZ v b d n))), (0, .ref (tb)), (1, .int (iI (b))), (2, .int (iI (d))), (3, .int (iI (n)))]) rfl (fun ls hl => ?_)
        refine z_il C hl dX5_worthOf_130 0 rfl 132 rfl ?_
        refine z_bipush C dX5_worthOf_132 (by decide) 134 rfl ?_
        refine z_icmp_ne C dX5_worthOf_134 141 137 (by decide) rfl (by omega) (fun c134 => ?_) (fun c134 => ?_)
        · skip
          refine z_sipush C dX5_worthOf_141 (by decide) 144 rfl ?_
          refine z_il C hl dX5_worthOf_144 0 rfl 146 rfl ?_
          refine z_isub C dX5_worthOf_146 147 rfl (1000 - behZ v (v (72 + 5 * b)) (v (73 + 5 * b)) (golZ v b d n) (v 126)) (by omega) ?_
          have hr : worZ v b d n = 1000 - behZ v (v (72 + 5 * b)) (v (73 + 5 * b)) (golZ v b d n) (v 126) := by unfold worZ; rw [if_neg (by omega), if_neg c50, if_neg (by omega), if_neg c134]
          have hk : worK v b d n k = preK v b := by unfold worK; exact if_neg (fun z => by rcases z with z | z | z <;> first | exact z c11 | exact c50 z | exact z c84)
          rw [hr, hk]
          exact z_wi C hW dX5_worthOf_147 rfl rfl
        · skip
          refine z_iconst C dX5_worthOf_137 138 rfl ?_
          refine z_goto C dX5_worthOf_138 147 (by decide) ?_
          have hr : worZ v b d n = 0 := by unfold worZ; rw [if_neg (by omega), if_neg c50, if_neg (by omega), if_pos c134]
          have hk : worK v b d n k = preK v b := by unfold worK; exact if_neg (fun z => by rcases z with z | z | z <;> first | exact z c11 | exact c50 z | exact z c84)
          rw [hr, hk]
          exact z_wi C hW dX5_worthOf_147 rfl rfl
      · skip
        have ho2 := w.b (batZ v (golZ v b d n)) (by omega)
        refine z_sipush C dX5_worthOf_87 (by decide) 90 rfl ?_
        refine z_al_n C hl dX5_worthOf_90 2 rfl 91 rfl ?_
        refine z_get C hW.1 hK fl_X5_10 0 rfl rfl dX5_worthOf_91 94 rfl ?_
        refine z_getN C hW.1 hK fl_X5_135 4 rfl rfl dX5_worthOf_94 97 rfl ?_
        refine z_il C hl dX5_worthOf_97 0 rfl 99 rfl ?_
        refine z_SR (r := .int (iI (v (73 + 5 * batZ v (golZ v b d n))))) (rest := [.int (iI (2000))]) C (m_rd l G (qn 4) 10 (fun k => v (73 + 5 * k)) (batZ v (golZ v b d n)) (v (73 + 5 * batZ v (golZ v b d n))) (by decide) (by omega) (congrArg v (by omega))) kS_X5_116 ⟨Nat.le_of_ble_eq_true rfl, Nat.le_of_ble_eq_true rfl⟩ (gP_c hW.1 8 rfl) hK rfl hl.1 rfl (Nat.le_of_ble_eq_true rfl) dX5_worthOf_99 ⟨Nat.le_of_ble_eq_true rfl, Nat.le_of_ble_eq_true rfl⟩ 102 rfl ?_
        refine z_iadd C dX5_worthOf_102 103 rfl (2000 + v (73 + 5 * batZ v (golZ v b d n))) (by omega) ?_
        have hr : worZ v b d n = 2000 + v (73 + 5 * batZ v (golZ v b d n)) := by unfold worZ; rw [if_neg (by omega), if_neg c50, if_pos c84]
        have hk : worK v b d n k = k := by unfold worK; exact if_pos (Or.inr (Or.inr c84))
        rw [hr, hk]
        exact z_wi C hW dX5_worthOf_103 rfl rfl
    · skip
      refine z_sipush C dX5_worthOf_53 (by decide) 56 rfl ?_
      refine z_al_n C hl dX5_worthOf_56 1 rfl 57 rfl ?_
      refine z_get C hW.1 hK fl_X5_10 0 rfl rfl dX5_worthOf_57 60 rfl ?_
      refine z_getN C hW.1 hK fl_X5_135 4 rfl rfl dX5_worthOf_60 63 rfl ?_
      refine z_il_n C hl dX5_worthOf_63 2 rfl 64 rfl ?_
      refine z_SR (r := .int (iI (v (73 + 5 * b)))) (rest := [.int (iI (3000))]) C (m_rd l G (qn 4) 10 (fun k => v (73 + 5 * k)) (b) (v (73 + 5 * b)) (by decide) (by omega) (congrArg v (by omega))) kS_X5_116 ⟨Nat.le_of_ble_eq_true rfl, Nat.le_of_ble_eq_true rfl⟩ (gP_c hW.1 8 rfl) hK rfl hl.1 rfl (Nat.le_of_ble_eq_true rfl) dX5_worthOf_64 ⟨Nat.le_of_ble_eq_true rfl, Nat.le_of_ble_eq_true rfl⟩ 67 rfl ?_
      refine z_iadd C dX5_worthOf_67 68 rfl (3000 + v (73 + 5 * b)) (by omega) ?_
      have hr : worZ v b d n = 3000 + v (73 + 5 * b) := by unfold worZ; rw [if_neg (by omega), if_pos c50]
      have hk : worK v b d n k = k := by unfold worK; exact if_pos (Or.inr (Or.inl c50))
      rw [hr, hk]
      exact z_wi C hW dX5_worthOf_68 rfl rfl
  · skip
    refine z_iconst C dX5_worthOf_14 15 rfl ?_
    have hr : worZ v b d n = 0 := by unfold worZ; rw [if_pos c11]
    have hk : worK v b d n k = k := by unfold worK; exact if_pos (Or.inl c11)
    rw [hr, hk]
    exact z_wi C hW dX5_worthOf_15 rfl rfl

set_option maxHeartbeats 4000000 in
set_option maxRecDepth 100000 in
theorem m_best (l : Launch) (G : gT) (tb r x cu h pa o sg : Nat) (qn qb sn : Nat → Nat) (v : Int → Int) (k : sK) (w : Wf v) (hD : gD ([[tbO tb qn qb r x h o], [(r, .inr (3, [.ref (qn 0)]))], [sxA x cu qn k.1], [arL G cu 5 k.2], stW G qn v] : List va_W).flatten) : MW l G yX5_best cX5_best 7 (some .int) 6 [.ref (tb)] [[tbO tb qn qb r x h o], [(r, .inr (3, [.ref (qn 0)]))], [sxA x cu qn k.1], [arL G cu 5 k.2], stW G qn v] [[tbO tb qn qb r x h o], [(r, .inr (3, [.ref (qn 0)]))], [sxA x cu qn (besK v k).1], [arL G cu 5 (besK v k).2], stW G qn v] ZT (some (.int (iI (besR v)))) := by
  refine enterW (own := RX5) (by decide +kernel) rfl (Nat.le_of_ble_eq_true rfl) hD ?_
  intro p e s m below meth c C hW hK hZ ls hl
  have hl : lv_has ls 7 [(0, .ref (tb))] := hl
  have h127 := w.n
  refine z_al_n C hl dX5_best_0 0 rfl 1 rfl ?_
  refine z_get C hW.1 hK fl_X5_10 0 rfl rfl dX5_best_1 4 rfl ?_
  refine z_VR (r := .int (iI (bZ (overB v)))) (rest := []) C (m_isOver l G qn v  w ) kV_X5_184 ⟨Nat.le_of_ble_eq_true rfl, Nat.le_of_ble_eq_true rfl⟩ (gP_rg hW.1 [4] rfl) hK 0 rfl rfl rfl hl.1 rfl (Nat.le_of_ble_eq_true rfl) dX5_best_4 ⟨Nat.le_of_ble_eq_true rfl, Nat.le_of_ble_eq_true rfl⟩ 7 rfl ?_
  refine z_ifb_eq C dX5_best_7 13 10 (by decide) rfl (fun c7 => ?_) (fun c7 => ?_)
  · skip
    refine z_bipush C dX5_best_13 (by decide) 15 rfl ?_
    refine z_is_n C hl dX5_best_15 16 rfl (by decide) (lv' := [(1, .int (iI (-5))), (0, .ref (tb))]) rfl (fun ls hl => ?_)
    refine z_iconst C dX5_best_16 17 rfl ?_
    refine z_is_n C hl dX5_best_17 18 rfl (by decide) (lv' := [(2, .int (iI (0))), (1, .int (iI (-5))), (0, .ref (tb))]) rfl (fun ls hl => ?_)
    refine z_iconst C dX5_best_18 19 rfl ?_
    have hW := hW.re (rs' := [[tbO tb qn qb r x h o], [(r, .inr (3, [.ref (qn 0)]))], [sxA x cu qn (bstK v k (12 * (0 : Int)).toNat).1], [arL G cu 5 (bstK v k (12 * (0 : Int)).toNat).2], stW G qn v]) rfl
    refine z_is_n C hl dX5_best_19 20 rfl (by decide) (lv' := [(3, .int (iI (0))), (2, .int (iI (0))), (1, .int (iI (-5))), (0, .ref (tb))]) rfl (fun ls hl => ?_)
    have L20 : ∀ (fu : Nat) (z : Int) (y : Int) (b : Int) (h1 : 0 ≤ b ∧ b ≤ v 127) (hy1 : 0 ≤ y ∧ y ≤ 3003) (h2 : bstN v (12 * b).toNat = (y, z)) (H : Heap) (locs : List Loc) (hW : Wd G (adr ([[tbO tb qn qb r x h o], [(r, .inr (3, [.ref (qn 0)]))], [sxA x cu qn k.1], [arL G cu 5 k.2], stW G qn v] : List va_W).flatten) [[tbO tb qn qb r x h o], [(r, .inr (3, [.ref (qn 0)]))], [sxA x cu qn (bstK v k (12 * b).toNat).1], [arL G cu 5 (bstK v k (12 * b).toNat).2], stW G qn v] s.heap H locs) (hm : v 127 - b < (fu : Int)) (ls : Array Slot) (hl : lv_has ls 7 [(3, .int (iI (b))), (2, .int (iI (y))), (1, .int (iI (z))), (0, .ref (tb))]), W p l e (rmN 6) s m [.ref (tb)].toArray below meth c H locs 0 0 (MQ below (QW G [[tbO tb qn qb r x h o], [(r, .inr (3, [.ref (qn 0)]))], [sxA x cu qn k.1], [arL G cu 5 k.2], stW G qn v] [[tbO tb qn qb r x h o], [(r, .inr (3, [.ref (qn 0)]))], [sxA x cu qn (besK v k).1], [arL G cu 5 (besK v k).2], stW G qn v] (some (.int (iI (besR v))))) [.ref (tb)].toArray s 0 0 (adr ([[tbO tb qn qb r x h o], [(r, .inr (3, [.ref (qn 0)]))], [sxA x cu qn k.1], [arL G cu 5 k.2], stW G qn v] : List va_W).flatten)) (F0 m 20 ls []) := by
      intro fu
      induction fu with
      | zero => intro z y b h1 hy1 h2 H locs hW hm ls hl; exfalso; omega
      | succ fu ih =>
        intro z y b h1 hy1 h2 H locs hW hm ls hl
        have ih20 := ih
        refine z_il_n C hl dX5_best_20 0 rfl 21 rfl ?_
        refine z_al_n C hl dX5_best_21 3 rfl 22 rfl ?_
        refine z_get C hW.1 hK fl_X5_10 0 rfl rfl dX5_best_22 25 rfl ?_
        refine z_getN C hW.1 hK fl_X5_172 4 rfl rfl dX5_best_25 28 rfl ?_
        refine z_icmp_ge C dX5_best_28 101 31 (by decide) rfl (by omega) (fun c28 => ?_) (fun c28 => ?_)
        · skip
          refine z_il_n C hl dX5_best_101 2 rfl 102 rfl ?_
          have hr : besR v = z := by unfold besR; rw [if_neg (by rw [c7]; decide), show v 127 = b by omega, h2]
          have hk : besK v k = bstK v k (12 * b).toNat := by unfold besK; rw [if_neg (by rw [c7]; decide), show v 127 = b by omega]
          rw [hr, hk]
          exact z_wi C hW dX5_best_102 rfl rfl
        · skip
          refine z_iconst C dX5_best_31 32 rfl ?_
          rw [show 12 * b = 12 * b + 3 * 0 by omega] at hW
          refine z_is C hl dX5_best_32 34 rfl (by decide) (lv' := [(4, .int (iI (0))), (3, .int (iI (b))), (2, .int (iI (y))), (1, .int (iI (z))), (0, .ref (tb))]) rfl (fun ls hl => ?_)
          have L34 : ∀ (fu : Nat) (z : Int) (y : Int) (d : Int) (f1 : 0 ≤ d ∧ d ≤ 4) (hy2 : 0 ≤ y ∧ y ≤ 3003) (f2 : bstN v (12 * b + 3 * d).toNat = (y, z)) (H : Heap) (locs : List Loc) (hW : Wd G (adr ([[tbO tb qn qb r x h o], [(r, .inr (3, [.ref (qn 0)]))], [sxA x cu qn k.1], [arL G cu 5 k.2], stW G qn v] : List va_W).flatten) [[tbO tb qn qb r x h o], [(r, .inr (3, [.ref (qn 0)]))], [sxA x cu qn (bstK v k (12 * b + 3 * d).toNat).1], [arL G cu 5 (bstK v k (12 * b + 3 * d).toNat).2], stW G qn v] s.heap H locs) (hm : 4 - d < (fu : Int)) (ls : Array Slot) (hl : lv_has ls 7 [(4, .int (iI (d))), (3, .int (iI (b))), (2, .int (iI (y))), (1, .int (iI (z))), (0, .ref (tb))]), W p l e (rmN 6) s m [.ref (tb)].toArray below meth c H locs 0 0 (MQ below (QW G [[tbO tb qn qb r x h o], [(r, .inr (3, [.ref (qn 0)]))], [sxA x cu qn k.1], [arL G cu 5 k.2], stW G qn v] [[tbO tb qn qb r x h o], [(r, .inr (3, [.ref (qn 0)]))], [sxA x cu qn (besK v k).1], [arL G cu 5 (besK v k).2], stW G qn v] (some (.int (iI (besR v))))) [.ref (tb)].toArray s 0 0 (adr ([[tbO tb qn qb r x h o], [(r, .inr (3, [.ref (qn 0)]))], [sxA x cu qn k.1], [arL G cu 5 k.2], stW G qn v] : List va_W).flatten)) (F0 m 34 ls []) := by
            intro fu
            induction fu with
            | zero => intro z y d f1 hy2 f2 H locs hW hm ls hl; exfalso; omega
            | succ fu ih =>
              intro z y d f1 hy2 f2 H locs hW hm ls hl
              have ih34 := ih
              refine z_il C hl dX5_best_34 0 rfl 36 rfl ?_
              refine z_iconst C dX5_best_36 37 rfl ?_
              refine z_icmp_ge C dX5_best_37 95 40 (by decide) rfl (by omega) (fun c37 => ?_) (fun c37 => ?_)
              · skip
                rw [show 12 * b + 3 * d = 12 * (1 + b) by omega] at hW
                refine z_iinc C hl dX5_best_95 98 rfl 1 rfl (z := 1 + b) (by omega) (by decide) (lv' := [(3, .int (iI (1 + b))), (4, .int (iI (d))), (2, .int (iI (y))), (1, .int (iI (z))), (0, .ref (tb))]) rfl (fun ls hl => ?_)
                refine z_goto C dX5_best_98 20 (by decide) ?_
                exact ih20 z y (1 + b) (by omega) (by omega) (by rw [show 12 * (1 + b) = 12 * b + 3 * d by omega]; exact f2) _ _ hW (by omega) ls (lv_sub hl [0, 2, 3, 4] rfl)
              · skip
                refine z_iconst C dX5_best_40 41 rfl ?_
                rw [show 12 * b + 3 * d = 12 * b + 3 * d + 1 - 1 by omega] at hW
                refine z_is C hl dX5_best_41 43 rfl (by decide) (lv' := [(5, .int (iI (1))), (4, .int (iI (d))), (3, .int (iI (b))), (2, .int (iI (y))), (1, .int (iI (z))), (0, .ref (tb))]) rfl (fun ls hl => ?_)
                have L43 : ∀ (fu : Nat) (z : Int) (y : Int) (n : Int) (g1 : 1 ≤ n ∧ n ≤ 4) (hy3 : 0 ≤ y ∧ y ≤ 3003) (g2 : bstN v (12 * b + 3 * d + n - 1).toNat = (y, z)) (H : Heap) (locs : List Loc) (hW : Wd G (adr ([[tbO tb qn qb r x h o], [(r, .inr (3, [.ref (qn 0)]))], [sxA x cu qn k.1], [arL G cu 5 k.2], stW G qn v] : List va_W).flatten) [[tbO tb qn qb r x h o], [(r, .inr (3, [.ref (qn 0)]))], [sxA x cu qn (bstK v k (12 * b + 3 * d + n - 1).toNat).1], [arL G cu 5 (bstK v k (12 * b + 3 * d + n - 1).toNat).2], stW G qn v] s.heap H locs) (hm : 4 - n < (fu : Int)) (ls : Array Slot) (hl : lv_has ls 7 [(5, .int (iI (n))), (4, .int (iI (d))), (3, .int (iI (b))), (2, .int (iI (y))), (1, .int (iI (z))), (0, .ref (tb))]), W p l e (rmN 6) s m [.ref (tb)].toArray below meth c H locs 0 0 (MQ below (QW G [[tbO tb qn qb r x h o], [(r, .inr (3, [.ref (qn 0)]))], [sxA x cu qn k.1], [arL G cu 5 k.2], stW G qn v] [[tbO tb qn qb r x h o], [(r, .inr (3, [.ref (qn 0)]))], [sxA x cu qn (besK v k).1], [arL G cu 5 (besK v k).2], stW G qn v] (some (.int (iI (besR v))))) [.ref (tb)].toArray s 0 0 (adr ([[tbO tb qn qb r x h o], [(r, .inr (3, [.ref (qn 0)]))], [sxA x cu qn k.1], [arL G cu 5 k.2], stW G qn v] : List va_W).flatten)) (F0 m 43 ls []) := by
                  intro fu
                  induction fu with
                  | zero => intro z y n g1 hy3 g2 H locs hW hm ls hl; exfalso; omega
                  | succ fu ih =>
                    intro z y n g1 hy3 g2 H locs hW hm ls hl
                    have ih43 := ih
                    refine z_il C hl dX5_best_43 0 rfl 45 rfl ?_
                    refine z_iconst C dX5_best_45 46 rfl ?_
                    refine z_icmp_gt C dX5_best_46 89 49 (by decide) rfl (by omega) (fun c46 => ?_) (fun c46 => ?_)
                    · skip
                      rw [show 12 * b + 3 * d + n - 1 = 12 * b + 3 * (1 + d) by omega] at hW
                      refine z_iinc C hl dX5_best_89 92 rfl 1 rfl (z := 1 + d) (by omega) (by decide) (lv' := [(4, .int (iI (1 + d))), (5, .int (iI (n))), (3, .int (iI (b))), (2, .int (iI (y))), (1, .int (iI (z))), (0, .ref (tb))]) rfl (fun ls hl => ?_)
                      refine z_goto C dX5_best_92 34 (by decide) ?_
                      exact ih34 z y (1 + d) (by omega) (by omega) (by rw [show 12 * b + 3 * (1 + d) = 12 * b + 3 * d + n - 1 by omega]; exact g2) _ _ hW (by omega) ls (lv_sub hl [0, 2, 3, 4, 5] rfl)
                    · skip
                      refine z_al_n C hl dX5_best_49 5 rfl 50 rfl ?_
                      refine z_il_n C hl dX5_best_50 2 rfl 51 rfl ?_
                      refine z_il C hl dX5_best_51 1 rfl 53 rfl ?_
                      refine z_il C hl dX5_best_53 0 rfl 55 rfl ?_
                      refine z_VWi (r := .int (iI (worZ v b d n))) (rest := []) C (m_worthOf l G tb r x cu h pa o sg qn qb sn v (bstK v k (12 * b + 3 * d + n - 1).toNat) b d n w (by omega) (by omega) (by omega) (gD_rg hW.2.1 [0, 1, 2, 3, 4] (by decide) rfl)) kV_X5_233 ⟨Nat.le_of_ble_eq_true rfl, Nat.le_of_ble_eq_true rfl⟩ hW hK [0, 1, 2, 3, 4] rfl (sameA_of rfl) 0 rfl rfl rfl hl.1 rfl (Nat.le_of_ble_eq_true rfl) dX5_best_55 ⟨Nat.le_of_ble_eq_true rfl, Nat.le_of_ble_eq_true rfl⟩ 58 rfl (rs' := [[tbO tb qn qb r x h o], [(r, .inr (3, [.ref (qn 0)]))], [sxA x cu qn (worK v b d n (bstK v k (12 * b + 3 * d + n - 1).toNat)).1], [arL G cu 5 (worK v b d n (bstK v k (12 * b + 3 * d + n - 1).toNat)).2], stW G qn v]) rfl (fun H locs hW hkeep => ?_)
                      have y55 := worZ_rng w d n (b := b) (by omega)
                      rw [← bstK_s (v := v) (k := k) (b := b) (d := d) (s := n) (by omega) (by omega) (by omega)] at hW
                      refine z_is C hl dX5_best_58 60 rfl (by decide) (lv' := [(6, .int (iI (worZ v b d n))), (5, .int (iI (n))), (4, .int (iI (d))), (3, .int (iI (b))), (2, .int (iI (y))), (1, .int (iI (z))), (0, .ref (tb))]) rfl (fun ls hl => ?_)
                      refine z_il C hl dX5_best_60 0 rfl 62 rfl ?_
                      refine z_il_n C hl dX5_best_62 4 rfl 63 rfl ?_
                      refine z_icmp_le C dX5_best_63 83 66 (by decide) rfl (by omega) (fun c63 => ?_) (fun c63 => ?_)
                      · skip
                        rw [show 12 * b + 3 * d + n = 12 * b + 3 * d + (1 + n) - 1 by omega] at hW
                        refine z_iinc C hl dX5_best_83 86 rfl 1 rfl (z := 1 + n) (by omega) (by decide) (lv' := [(5, .int (iI (1 + n))), (6, .int (iI (worZ v b d n))), (4, .int (iI (d))), (3, .int (iI (b))), (2, .int (iI (y))), (1, .int (iI (z))), (0, .ref (tb))]) rfl (fun ls hl => ?_)
                        refine z_goto C dX5_best_86 43 (by decide) ?_
                        exact ih43 z y (1 + n) (by omega) (by omega) (by rw [show 12 * b + 3 * d + (1 + n) - 1 = 12 * b + 3 * d + n by omega, bstN_s (by omega) (by omega) (by omega), g2, if_neg (by omega)]) _ _ hW (by omega) ls (lv_sub hl [0, 2, 3, 4, 5, 6] rfl)
                      · skip
                        refine z_il C hl dX5_best_66 0 rfl 68 rfl ?_
                        refine z_is_n C hl dX5_best_68 69 rfl (by decide) (lv' := [(2, .int (iI (worZ v b d n))), (6, .int (iI (worZ v b d n))), (5, .int (iI (n))), (4, .int (iI (d))), (3, .int (iI (b))), (1, .int (iI (z))), (0, .ref (tb))]) rfl (fun ls hl => ?_)
                        refine z_bipush C dX5_best_69 (by decide) 71 rfl ?_
                        refine z_il_n C hl dX5_best_71 4 rfl 72 rfl ?_
                        refine z_imul C dX5_best_72 73 rfl (100 * b) (rfl) ?_
                        refine z_bipush C dX5_best_73 (by decide) 75 rfl ?_
                        refine z_il C hl dX5_best_75 3 rfl 77 rfl ?_
                        refine z_imul C dX5_best_77 78 rfl (10 * d) (rfl) ?_
                        refine z_iadd C dX5_best_78 79 rfl (100 * b + 10 * d) (by omega) ?_
                        refine z_il C hl dX5_best_79 2 rfl 81 rfl ?_
                        refine z_iadd C dX5_best_81 82 rfl (100 * b + 10 * d + n) (by omega) ?_
                        refine z_is_n C hl dX5_best_82 83 rfl (by decide) (lv' := [(1, .int (iI (100 * b + 10 * d + n))), (2, .int (iI (worZ v b d n))), (6, .int (iI (worZ v b d n))), (5, .int (iI (n))), (4, .int (iI (d))), (3, .int (iI (b))), (0, .ref (tb))]) rfl (fun ls hl => ?_)
                        rw [show 12 * b + 3 * d + n = 12 * b + 3 * d + (1 + n) - 1 by omega] at hW
                        refine z_iinc C hl dX5_best_83 86 rfl 3 rfl (z := 1 + n) (by omega) (by decide) (lv' := [(5, .int (iI (1 + n))), (1, .int (iI (100 * b + 10 * d + n))), (2, .int (iI (worZ v b d n))), (6, .int (iI (worZ v b d n))), (4, .int (iI (d))), (3, .int (iI (b))), (0, .ref (tb))]) rfl (fun ls hl => ?_)
                        refine z_goto C dX5_best_86 43 (by decide) ?_
                        exact ih43 (100 * b + 10 * d + n) (worZ v b d n) (1 + n) (by omega) (by omega) (by rw [show 12 * b + 3 * d + (1 + n) - 1 = 12 * b + 3 * d + n by omega, bstN_s (by omega) (by omega) (by omega), g2, if_pos (by omega)]) _ _ hW (by omega) ls (lv_sub hl [0, 4, 5, 2, 1, 6] rfl)
                exact L43 (Int.toNat (4 - 1) + 1) z y 1 (by omega) (by omega) (by rw [show 12 * b + 3 * d + 1 - 1 = 12 * b + 3 * d by omega]; exact f2) _ _ hW (by omega) ls (lv_sub hl [0, 1, 2, 3, 4, 5] rfl)
          exact L34 (Int.toNat (4 - 0) + 1) z y 0 (by omega) (by omega) (by rw [show 12 * b + 3 * 0 = 12 * b by omega]; exact h2) _ _ hW (by omega) ls (lv_sub hl [0, 1, 2, 3, 4] rfl)
    exact L20 (Int.toNat (v 127 - 0) + 1) (-5) 0 0 (by omega) (by omega) (rfl) _ _ hW (by omega) ls (lv_sub hl [0, 1, 2, 3] rfl)
  · skip
    refine z_bipush C dX5_best_10 (by decide) 12 rfl ?_
    have hr : besR v = -4 := by unfold besR; exact if_pos c7
    have hk : besK v k = k := by unfold besK; exact if_pos c7
    rw [hr, hk]
    exact z_wi C hW dX5_best_12 rfl rfl
