set_option maxHeartbeats 4000000 in
set_option maxRecDepth 100000 in
theorem m_laySand (l : Launch) (G : gT) (r : Nat) (q : Nat → Nat) (v : Int → Int) (x h : Int) (k : Bool) (w : Wf v) (hx : -2147483648 ≤ x ∧ x < 2147483648) (hh : -2147483648 ≤ h ∧ h < 2147483648) (hD : gD ([[(r, .inr (3, [.ref (q 0)]))], stW G q v] : List va_W).flatten) : MW l G yX3_laySand cX3_laySand 6 (some .int) 1 [.ref (r), .int (iI (x)), .int (iI (h)), .int (iI (bZ (k)))] [[(r, .inr (3, [.ref (q 0)]))], stW G q v] [[(r, .inr (3, [.ref (q 0)]))], stW G q (layV v x h (bZ k))] ZT (some (.int (iI (layR v x h (bZ k))))) := by
  refine enterW (own := RX3) (by decide +kernel) rfl (Nat.le_of_ble_eq_true rfl) hD ?_
  intro p e s m below meth c C hW hK hZ ls hl
  have hl : lv_has ls 6 [(0, .ref (r)), (1, .int (iI (x))), (2, .int (iI (h))), (3, .int (iI (bZ (k))))] := hl
  have ht := w.t
  refine z_il_n C hl dX3_laySand_0 1 rfl 1 rfl ?_
  refine z_NR (r := .int (iI (bZ (decide (0 ≤ x ∧ x < 36))))) (rest := []) C (m_isCell l G (x) (by omega)) kN_X3_15 ⟨Nat.le_of_ble_eq_true rfl, Nat.le_of_ble_eq_true rfl⟩ (gP_nil) hK rfl hl.1 rfl (Nat.le_of_ble_eq_true rfl) dX3_laySand_1 ⟨Nat.le_of_ble_eq_true rfl, Nat.le_of_ble_eq_true rfl⟩ 4 rfl ?_
  refine z_ifb_ne C dX3_laySand_4 9 7 (by decide) rfl (fun c4 => ?_) (fun c4 => ?_)
  · skip
    simp only [decide_eq_true_eq, decide_eq_false_iff_not] at c4
    refine z_il_n C hl dX3_laySand_9 2 rfl 10 rfl ?_
    refine z_if_lt C dX3_laySand_10 18 13 (by decide) rfl (by omega) (fun c10 => ?_) (fun c10 => ?_)
    · skip
      refine z_bipush C dX3_laySand_18 (by decide) 20 rfl ?_
      have hr : layR v x h (bZ k) = -2 := by unfold layR; (repeat' split) <;> first | rfl | omega | (exfalso; omega)
      have hv : layV v x h (bZ k) = v := by unfold layV; exact if_neg (by rw [hr]; omega)
      rw [hr, hv]
      exact z_wi C hW dX3_laySand_20 rfl rfl
    · skip
      refine z_il_n C hl dX3_laySand_13 2 rfl 14 rfl ?_
      refine z_iconst C dX3_laySand_14 15 rfl ?_
      refine z_icmp_le C dX3_laySand_15 21 18 (by decide) rfl (by omega) (fun c15 => ?_) (fun c15 => ?_)
      · skip
        refine z_il_n C hl dX3_laySand_21 1 rfl 22 rfl ?_
        refine z_NR (r := .int (iI (bZ (decide (x = 0 ∨ x = 35))))) (rest := []) C (m_isHarbour l G (x) (by omega)) kN_X3_19 ⟨Nat.le_of_ble_eq_true rfl, Nat.le_of_ble_eq_true rfl⟩ (gP_nil) hK rfl hl.1 rfl (Nat.le_of_ble_eq_true rfl) dX3_laySand_22 ⟨Nat.le_of_ble_eq_true rfl, Nat.le_of_ble_eq_true rfl⟩ 25 rfl ?_
        refine z_ifb_ne C dX3_laySand_25 38 28 (by decide) rfl (fun c25 => ?_) (fun c25 => ?_)
        · skip
          simp only [decide_eq_true_eq, decide_eq_false_iff_not] at c25
          refine z_bipush C dX3_laySand_38 (by decide) 40 rfl ?_
          have hr : layR v x h (bZ k) = -4 := by unfold layR; (repeat' split) <;> first | rfl | omega | (exfalso; omega)
          have hv : layV v x h (bZ k) = v := by unfold layV; exact if_neg (by rw [hr]; omega)
          rw [hr, hv]
          exact z_wi C hW dX3_laySand_40 rfl rfl
        · skip
          simp only [decide_eq_true_eq, decide_eq_false_iff_not] at c25
          refine z_al_n C hl dX3_laySand_28 0 rfl 29 rfl ?_
          refine z_get C hW.1 hK fl_X3_9 0 rfl rfl dX3_laySand_29 32 rfl ?_
          refine z_getN C hW.1 hK fl_X3_22 1 rfl rfl dX3_laySand_32 35 rfl ?_
          refine z_if_eq C dX3_laySand_35 41 38 (by decide) rfl (by omega) (fun c35 => ?_) (fun c35 => ?_)
          · skip
            refine z_il_n C hl dX3_laySand_41 3 rfl 42 rfl ?_
            refine z_ifb_eq C dX3_laySand_42 49 45 (by decide) rfl (fun c42 => ?_) (fun c42 => ?_)
            · skip
              have ek : bZ k = 0 := bZ_f c42
              refine z_iconst C dX3_laySand_49 50 rfl ?_
              have hx2 := w.h x (by omega)
              have hx3 := w.r x (by omega)
              refine z_is C hl dX3_laySand_50 52 rfl (by decide) (lv' := [(4, .int (iI (0))), (0, .ref (r)), (1, .int (iI (x))), (2, .int (iI (h))), (3, .int (iI (bZ (k))))]) rfl (fun ls hl => ?_)
              refine z_al_n C hl dX3_laySand_52 1 rfl 53 rfl ?_
              refine z_get C hW.1 hK fl_X3_9 0 rfl rfl dX3_laySand_53 56 rfl ?_
              refine z_getN C hW.1 hK fl_X3_28 1 rfl rfl dX3_laySand_56 59 rfl ?_
              refine z_il_n C hl dX3_laySand_59 2 rfl 60 rfl ?_
              refine z_NR (r := .int (iI (v x))) (rest := []) C (m_rd l G (q 1) 36 (fun k => v k) (x) (v x) (by decide) (by omega) (rfl)) kN_X3_32 ⟨Nat.le_of_ble_eq_true rfl, Nat.le_of_ble_eq_true rfl⟩ (gP_c hW.1 2 rfl) hK rfl hl.1 rfl (Nat.le_of_ble_eq_true rfl) dX3_laySand_60 ⟨Nat.le_of_ble_eq_true rfl, Nat.le_of_ble_eq_true rfl⟩ 63 rfl ?_
              refine z_is C hl dX3_laySand_63 65 rfl (by decide) (lv' := [(5, .int (iI (v x))), (4, .int (iI (0))), (0, .ref (r)), (1, .int (iI (x))), (2, .int (iI (h))), (3, .int (iI (bZ (k))))]) rfl (fun ls hl => ?_)
              refine z_il C hl dX3_laySand_65 0 rfl 67 rfl ?_
              refine z_il_n C hl dX3_laySand_67 4 rfl 68 rfl ?_
              refine z_icmp_ne C dX3_laySand_68 90 71 (by decide) rfl (by omega) (fun c68 => ?_) (fun c68 => ?_)
              · skip
                refine z_al_n C hl dX3_laySand_90 2 rfl 91 rfl ?_
                refine z_get C hW.1 hK fl_X3_9 0 rfl rfl dX3_laySand_91 94 rfl ?_
                refine z_getN C hW.1 hK fl_X3_28 1 rfl rfl dX3_laySand_94 97 rfl ?_
                refine z_il_n C hl dX3_laySand_97 3 rfl 98 rfl ?_
                refine z_il_n C hl dX3_laySand_98 4 rfl 99 rfl ?_
                refine z_NWc C (x := arI G (q 1) 36 (fun k => v k)) (x' := arI G (q 1) 36 (updZ (fun k => v k) x h)) (rest := []) (m_wr l G (q 1) 36 (fun k => v k) (x) (h) (by decide) (by omega) gD_1) kN_X3_39 ⟨Nat.le_of_ble_eq_true rfl, Nat.le_of_ble_eq_true rfl⟩ hW hK 2 rfl rfl rfl hl.1 rfl (Nat.le_of_ble_eq_true rfl) dX3_laySand_99 ⟨Nat.le_of_ble_eq_true rfl, Nat.le_of_ble_eq_true rfl⟩ 102 rfl (rs' := [[(r, .inr (3, [.ref (q 0)]))], stW G q (updZ v (x) h)]) (⟨ceq.rf, stw_a1 (by omega)⟩) (fun H locs hW => ?_)
                refine z_al_n C hl dX3_laySand_102 2 rfl 103 rfl ?_
                refine z_get C hW.1 hK fl_X3_9 0 rfl rfl dX3_laySand_103 106 rfl ?_
                refine z_getN C hW.1 hK fl_X3_36 1 rfl rfl dX3_laySand_106 109 rfl ?_
                refine z_il_n C hl dX3_laySand_109 3 rfl 110 rfl ?_
                refine z_il C hl dX3_laySand_110 1 rfl 112 rfl ?_
                refine z_NWc C (x := arI G (q 2) 36 (fun k => updZ v (x) h (36 + k))) (x' := arI G (q 2) 36 (updZ (fun k => updZ v (x) h (36 + k)) x 0)) (rest := []) (m_wr l G (q 2) 36 (fun k => updZ v (x) h (36 + k)) (x) (0) (by decide) (by omega) gD_1) kN_X3_39 ⟨Nat.le_of_ble_eq_true rfl, Nat.le_of_ble_eq_true rfl⟩ hW hK 3 rfl rfl rfl hl.1 rfl (Nat.le_of_ble_eq_true rfl) dX3_laySand_112 ⟨Nat.le_of_ble_eq_true rfl, Nat.le_of_ble_eq_true rfl⟩ 115 rfl (rs' := [[(r, .inr (3, [.ref (q 0)]))], stW G q (updZ (updZ v (x) h) (36 + x) 0)]) (⟨ceq.rf, stw_a2 (by omega)⟩) (fun H locs hW => ?_)
                refine z_il C hl dX3_laySand_115 0 rfl 117 rfl ?_
                have hr : layR v x h (bZ k) = v x := by unfold layR; (repeat' split) <;> first | rfl | omega | (exfalso; omega)
                have hv : layV v x h (bZ k) = updZ (updZ v (x) h) (36 + x) 0 := by unfold layV; rw [if_pos (by rw [hr]; omega), ek]
                rw [hr, hv]
                exact z_wi C hW dX3_laySand_117 rfl rfl
              · skip
                refine z_al_n C hl dX3_laySand_71 2 rfl 72 rfl ?_
                refine z_get C hW.1 hK fl_X3_9 0 rfl rfl dX3_laySand_72 75 rfl ?_
                refine z_getN C hW.1 hK fl_X3_36 1 rfl rfl dX3_laySand_75 78 rfl ?_
                refine z_il_n C hl dX3_laySand_78 3 rfl 79 rfl ?_
                refine z_NR (r := .int (iI (v (36 + x)))) (rest := []) C (m_rd l G (q 2) 36 (fun k => v (36 + k)) (x) (v (36 + x)) (by decide) (by omega) (congrArg v (by omega))) kN_X3_32 ⟨Nat.le_of_ble_eq_true rfl, Nat.le_of_ble_eq_true rfl⟩ (gP_c hW.1 3 rfl) hK rfl hl.1 rfl (Nat.le_of_ble_eq_true rfl) dX3_laySand_79 ⟨Nat.le_of_ble_eq_true rfl, Nat.le_of_ble_eq_true rfl⟩ 82 rfl ?_
                refine z_il C hl dX3_laySand_82 1 rfl 84 rfl ?_
                refine z_icmp_ne C dX3_laySand_84 90 87 (by decide) rfl (by omega) (fun c84 => ?_) (fun c84 => ?_)
                · skip
                  refine z_al_n C hl dX3_laySand_90 2 rfl 91 rfl ?_
                  refine z_get C hW.1 hK fl_X3_9 0 rfl rfl dX3_laySand_91 94 rfl ?_
                  refine z_getN C hW.1 hK fl_X3_28 1 rfl rfl dX3_laySand_94 97 rfl ?_
                  refine z_il_n C hl dX3_laySand_97 3 rfl 98 rfl ?_
                  refine z_il_n C hl dX3_laySand_98 4 rfl 99 rfl ?_
                  refine z_NWc C (x := arI G (q 1) 36 (fun k => v k)) (x' := arI G (q 1) 36 (updZ (fun k => v k) x h)) (rest := []) (m_wr l G (q 1) 36 (fun k => v k) (x) (h) (by decide) (by omega) gD_1) kN_X3_39 ⟨Nat.le_of_ble_eq_true rfl, Nat.le_of_ble_eq_true rfl⟩ hW hK 2 rfl rfl rfl hl.1 rfl (Nat.le_of_ble_eq_true rfl) dX3_laySand_99 ⟨Nat.le_of_ble_eq_true rfl, Nat.le_of_ble_eq_true rfl⟩ 102 rfl (rs' := [[(r, .inr (3, [.ref (q 0)]))], stW G q (updZ v (x) h)]) (⟨ceq.rf, stw_a1 (by omega)⟩) (fun H locs hW => ?_)
                  refine z_al_n C hl dX3_laySand_102 2 rfl 103 rfl ?_
                  refine z_get C hW.1 hK fl_X3_9 0 rfl rfl dX3_laySand_103 106 rfl ?_
                  refine z_getN C hW.1 hK fl_X3_36 1 rfl rfl dX3_laySand_106 109 rfl ?_
                  refine z_il_n C hl dX3_laySand_109 3 rfl 110 rfl ?_
                  refine z_il C hl dX3_laySand_110 1 rfl 112 rfl ?_
                  refine z_NWc C (x := arI G (q 2) 36 (fun k => updZ v (x) h (36 + k))) (x' := arI G (q 2) 36 (updZ (fun k => updZ v (x) h (36 + k)) x 0)) (rest := []) (m_wr l G (q 2) 36 (fun k => updZ v (x) h (36 + k)) (x) (0) (by decide) (by omega) gD_1) kN_X3_39 ⟨Nat.le_of_ble_eq_true rfl, Nat.le_of_ble_eq_true rfl⟩ hW hK 3 rfl rfl rfl hl.1 rfl (Nat.le_of_ble_eq_true rfl) dX3_laySand_112 ⟨Nat.le_of_ble_eq_true rfl, Nat.le_of_ble_eq_true rfl⟩ 115 rfl (rs' := [[(r, .inr (3, [.ref (q 0)]))], stW G q (updZ (updZ v (x) h) (36 + x) 0)]) (⟨ceq.rf, stw_a2 (by omega)⟩) (fun H locs hW => ?_)
                  refine z_il C hl dX3_laySand_115 0 rfl 117 rfl ?_
                  have hr : layR v x h (bZ k) = v x := by unfold layR; (repeat' split) <;> first | rfl | omega | (exfalso; omega)
                  have hv : layV v x h (bZ k) = updZ (updZ v (x) h) (36 + x) 0 := by unfold layV; rw [if_pos (by rw [hr]; omega), ek]
                  rw [hr, hv]
                  exact z_wi C hW dX3_laySand_117 rfl rfl
                · skip
                  refine z_bipush C dX3_laySand_87 (by decide) 89 rfl ?_
                  have hr : layR v x h (bZ k) = -5 := by unfold layR; (repeat' split) <;> first | rfl | omega | (exfalso; omega)
                  have hv : layV v x h (bZ k) = v := by unfold layV; exact if_neg (by rw [hr]; omega)
                  rw [hr, hv]
                  exact z_wi C hW dX3_laySand_89 rfl rfl
            · skip
              have ek : bZ k = 1 := bZ_t c42
              refine z_iconst C dX3_laySand_45 46 rfl ?_
              refine z_goto C dX3_laySand_46 50 (by decide) ?_
              have hx2 := w.h x (by omega)
              have hx3 := w.r x (by omega)
              refine z_is C hl dX3_laySand_50 52 rfl (by decide) (lv' := [(4, .int (iI (1))), (0, .ref (r)), (1, .int (iI (x))), (2, .int (iI (h))), (3, .int (iI (bZ (k))))]) rfl (fun ls hl => ?_)
              refine z_al_n C hl dX3_laySand_52 1 rfl 53 rfl ?_
              refine z_get C hW.1 hK fl_X3_9 0 rfl rfl dX3_laySand_53 56 rfl ?_
              refine z_getN C hW.1 hK fl_X3_28 1 rfl rfl dX3_laySand_56 59 rfl ?_
              refine z_il_n C hl dX3_laySand_59 2 rfl 60 rfl ?_
              refine z_NR (r := .int (iI (v x))) (rest := []) C (m_rd l G (q 1) 36 (fun k => v k) (x) (v x) (by decide) (by omega) (rfl)) kN_X3_32 ⟨Nat.le_of_ble_eq_true rfl, Nat.le_of_ble_eq_true rfl⟩ (gP_c hW.1 2 rfl) hK rfl hl.1 rfl (Nat.le_of_ble_eq_true rfl) dX3_laySand_60 ⟨Nat.le_of_ble_eq_true rfl, Nat.le_of_ble_eq_true rfl⟩ 63 rfl ?_
              refine z_is C hl dX3_laySand_63 65 rfl (by decide) (lv' := [(5, .int (iI (v x))), (4, .int (iI (1))), (0, .ref (r)), (1, .int (iI (x))), (2, .int (iI (h))), (3, .int (iI (bZ (k))))]) rfl (fun ls hl => ?_)
              refine z_il C hl dX3_laySand_65 0 rfl 67 rfl ?_
              refine z_il_n C hl dX3_laySand_67 4 rfl 68 rfl ?_
              refine z_icmp_ne C dX3_laySand_68 90 71 (by decide) rfl (by omega) (fun c68 => ?_) (fun c68 => ?_)
              · skip
                refine z_al_n C hl dX3_laySand_90 2 rfl 91 rfl ?_
                refine z_get C hW.1 hK fl_X3_9 0 rfl rfl dX3_laySand_91 94 rfl ?_
                refine z_getN C hW.1 hK fl_X3_28 1 rfl rfl dX3_laySand_94 97 rfl ?_
                refine z_il_n C hl dX3_laySand_97 3 rfl 98 rfl ?_
                refine z_il_n C hl dX3_laySand_98 4 rfl 99 rfl ?_
                refine z_NWc C (x := arI G (q 1) 36 (fun k => v k)) (x' := arI G (q 1) 36 (updZ (fun k => v k) x h)) (rest := []) (m_wr l G (q 1) 36 (fun k => v k) (x) (h) (by decide) (by omega) gD_1) kN_X3_39 ⟨Nat.le_of_ble_eq_true rfl, Nat.le_of_ble_eq_true rfl⟩ hW hK 2 rfl rfl rfl hl.1 rfl (Nat.le_of_ble_eq_true rfl) dX3_laySand_99 ⟨Nat.le_of_ble_eq_true rfl, Nat.le_of_ble_eq_true rfl⟩ 102 rfl (rs' := [[(r, .inr (3, [.ref (q 0)]))], stW G q (updZ v (x) h)]) (⟨ceq.rf, stw_a1 (by omega)⟩) (fun H locs hW => ?_)
                refine z_al_n C hl dX3_laySand_102 2 rfl 103 rfl ?_
                refine z_get C hW.1 hK fl_X3_9 0 rfl rfl dX3_laySand_103 106 rfl ?_
                refine z_getN C hW.1 hK fl_X3_36 1 rfl rfl dX3_laySand_106 109 rfl ?_
                refine z_il_n C hl dX3_laySand_109 3 rfl 110 rfl ?_
                refine z_il C hl dX3_laySand_110 1 rfl 112 rfl ?_
                refine z_NWc C (x := arI G (q 2) 36 (fun k => updZ v (x) h (36 + k))) (x' := arI G (q 2) 36 (updZ (fun k => updZ v (x) h (36 + k)) x 1)) (rest := []) (m_wr l G (q 2) 36 (fun k => updZ v (x) h (36 + k)) (x) (1) (by decide) (by omega) gD_1) kN_X3_39 ⟨Nat.le_of_ble_eq_true rfl, Nat.le_of_ble_eq_true rfl⟩ hW hK 3 rfl rfl rfl hl.1 rfl (Nat.le_of_ble_eq_true rfl) dX3_laySand_112 ⟨Nat.le_of_ble_eq_true rfl, Nat.le_of_ble_eq_true rfl⟩ 115 rfl (rs' := [[(r, .inr (3, [.ref (q 0)]))], stW G q (updZ (updZ v (x) h) (36 + x) 1)]) (⟨ceq.rf, stw_a2 (by omega)⟩) (fun H locs hW => ?_)
                refine z_il C hl dX3_laySand_115 0 rfl 117 rfl ?_
                have hr : layR v x h (bZ k) = v x := by unfold layR; (repeat' split) <;> first | rfl | omega | (exfalso; omega)
                have hv : layV v x h (bZ k) = updZ (updZ v (x) h) (36 + x) 1 := by unfold layV; rw [if_pos (by rw [hr]; omega), ek]
                rw [hr, hv]
                exact z_wi C hW dX3_laySand_117 rfl rfl
              · skip
                refine z_al_n C hl dX3_laySand_71 2 rfl 72 rfl ?_
                refine z_get C hW.1 hK fl_X3_9 0 rfl rfl dX3_laySand_72 75 rfl ?_
                refine z_getN C hW.1 hK fl_X3_36 1 rfl rfl dX3_laySand_75 78 rfl ?_
                refine z_il_n C hl dX3_laySand_78 3 rfl 79 rfl ?_
                refine z_NR (r := .int (iI (v (36 + x)))) (rest := []) C (m_rd l G (q 2) 36 (fun k => v (36 + k)) (x) (v (36 + x)) (by decide) (by omega) (congrArg v (by omega))) kN_X3_32 ⟨Nat.le_of_ble_eq_true rfl, Nat.le_of_ble_eq_true rfl⟩ (gP_c hW.1 3 rfl) hK rfl hl.1 rfl (Nat.le_of_ble_eq_true rfl) dX3_laySand_79 ⟨Nat.le_of_ble_eq_true rfl, Nat.le_of_ble_eq_true rfl⟩ 82 rfl ?_
                refine z_il C hl dX3_laySand_82 1 rfl 84 rfl ?_
                refine z_icmp_ne C dX3_laySand_84 90 87 (by decide) rfl (by omega) (fun c84 => ?_) (fun c84 => ?_)
                · skip
                  refine z_al_n C hl dX3_laySand_90 2 rfl 91 rfl ?_
                  refine z_get C hW.1 hK fl_X3_9 0 rfl rfl dX3_laySand_91 94 rfl ?_
                  refine z_getN C hW.1 hK fl_X3_28 1 rfl rfl dX3_laySand_94 97 rfl ?_
                  refine z_il_n C hl dX3_laySand_97 3 rfl 98 rfl ?_
                  refine z_il_n C hl dX3_laySand_98 4 rfl 99 rfl ?_
                  refine z_NWc C (x := arI G (q 1) 36 (fun k => v k)) (x' := arI G (q 1) 36 (updZ (fun k => v k) x h)) (rest := []) (m_wr l G (q 1) 36 (fun k => v k) (x) (h) (by decide) (by omega) gD_1) kN_X3_39 ⟨Nat.le_of_ble_eq_true rfl, Nat.le_of_ble_eq_true rfl⟩ hW hK 2 rfl rfl rfl hl.1 rfl (Nat.le_of_ble_eq_true rfl) dX3_laySand_99 ⟨Nat.le_of_ble_eq_true rfl, Nat.le_of_ble_eq_true rfl⟩ 102 rfl (rs' := [[(r, .inr (3, [.ref (q 0)]))], stW G q (updZ v (x) h)]) (⟨ceq.rf, stw_a1 (by omega)⟩) (fun H locs hW => ?_)
                  refine z_al_n C hl dX3_laySand_102 2 rfl 103 rfl ?_
                  refine z_get C hW.1 hK fl_X3_9 0 rfl rfl dX3_laySand_103 106 rfl ?_
                  refine z_getN C hW.1 hK fl_X3_36 1 rfl rfl dX3_laySand_106 109 rfl ?_
                  refine z_il_n C hl dX3_laySand_109 3 rfl 110 rfl ?_
                  refine z_il C hl dX3_laySand_110 1 rfl 112 rfl ?_
                  refine z_NWc C (x := arI G (q 2) 36 (fun k => updZ v (x) h (36 + k))) (x' := arI G (q 2) 36 (updZ (fun k => updZ v (x) h (36 + k)) x 1)) (rest := []) (m_wr l G (q 2) 36 (fun k => updZ v (x) h (36 + k)) (x) (1) (by decide) (by omega) gD_1) kN_X3_39 ⟨Nat.le_of_ble_eq_true rfl, Nat.le_of_ble_eq_true rfl⟩ hW hK 3 rfl rfl rfl hl.1 rfl (Nat.le_of_ble_eq_true rfl) dX3_laySand_112 ⟨Nat.le_of_ble_eq_true rfl, Nat.le_of_ble_eq_true rfl⟩ 115 rfl (rs' := [[(r, .inr (3, [.ref (q 0)]))], stW G q (updZ (updZ v (x) h) (36 + x) 1)]) (⟨ceq.rf, stw_a2 (by omega)⟩) (fun H locs hW => ?_)
                  refine z_il C hl dX3_laySand_115 0 rfl 117 rfl ?_
                  have hr : layR v x h (bZ k) = v x := by unfold layR; (repeat' split) <;> first | rfl | omega | (exfalso; omega)
                  have hv : layV v x h (bZ k) = updZ (updZ v (x) h) (36 + x) 1 := by unfold layV; rw [if_pos (by rw [hr]; omega), ek]
                  rw [hr, hv]
                  exact z_wi C hW dX3_laySand_117 rfl rfl
                · skip
                  refine z_bipush C dX3_laySand_87 (by decide) 89 rfl ?_
                  have hr : layR v x h (bZ k) = -5 := by unfold layR; (repeat' split) <;> first | rfl | omega | (exfalso; omega)
                  have hv : layV v x h (bZ k) = v := by unfold layV; exact if_neg (by rw [hr]; omega)
                  rw [hr, hv]
                  exact z_wi C hW dX3_laySand_89 rfl rfl
          · skip
            refine z_bipush C dX3_laySand_38 (by decide) 40 rfl ?_
            have hr : layR v x h (bZ k) = -4 := by unfold layR; (repeat' split) <;> first | rfl | omega | (exfalso; omega)
            have hv : layV v x h (bZ k) = v := by unfold layV; exact if_neg (by rw [hr]; omega)
            rw [hr, hv]
            exact z_wi C hW dX3_laySand_40 rfl rfl
      · skip
        refine z_bipush C dX3_laySand_18 (by decide) 20 rfl ?_
        have hr : layR v x h (bZ k) = -2 := by unfold layR; (repeat' split) <;> first | rfl | omega | (exfalso; omega)
        have hv : layV v x h (bZ k) = v := by unfold layV; exact if_neg (by rw [hr]; omega)
        rw [hr, hv]
        exact z_wi C hW dX3_laySand_20 rfl rfl
  · skip
    simp only [decide_eq_true_eq, decide_eq_false_iff_not] at c4
    refine z_iconst C dX3_laySand_7 8 rfl ?_
    have hr : layR v x h (bZ k) = -1 := by unfold layR; (repeat' split) <;> first | rfl | omega | (exfalso; omega)
    have hv : layV v x h (bZ k) = v := by unfold layV; exact if_neg (by rw [hr]; omega)
    rw [hr, hv]
    exact z_wi C hW dX3_laySand_8 rfl rfl

set_option maxHeartbeats 4000000 in
set_option maxRecDepth 100000 in
theorem m_addBoat (l : Launch) (G : gT) (r : Nat) (q : Nat → Nat) (v : Int → Int) (p0 dr x : Int) (w : Wf v) (hp0 : -2147483648 ≤ p0 ∧ p0 < 2147483648) (hdr : -2147483648 ≤ dr ∧ dr < 2147483648) (hx : -2147483648 ≤ x ∧ x < 2147483648) (hD : gD ([[(r, .inr (3, [.ref (q 0)]))], stW G q v] : List va_W).flatten) : MW l G yX3_addBoat cX3_addBoat 5 (some .int) 2 [.ref (r), .int (iI (p0)), .int (iI (dr)), .int (iI (x))] [[(r, .inr (3, [.ref (q 0)]))], stW G q v] [[(r, .inr (3, [.ref (q 0)]))], stW G q (addV v p0 dr x)] ZT (some (.int (iI (addR v p0 dr x)))) := by
  refine enterW (own := RX3) (by decide +kernel) rfl (Nat.le_of_ble_eq_true rfl) hD ?_
  intro p e s m below meth c C hW hK hZ ls hl
  have hl : lv_has ls 5 [(0, .ref (r)), (1, .int (iI (p0))), (2, .int (iI (dr))), (3, .int (iI (x)))] := hl
  have ht := w.t
  have h127 := w.n
  refine z_il_n C hl dX3_addBoat_0 1 rfl 1 rfl ?_
  refine z_NR (r := .int (iI (bZ (decide (0 ≤ p0 ∧ p0 < 2))))) (rest := []) C (m_isPlayer l G (p0) (by omega)) kN_X3_43 ⟨Nat.le_of_ble_eq_true rfl, Nat.le_of_ble_eq_true rfl⟩ (gP_nil) hK rfl hl.1 rfl (Nat.le_of_ble_eq_true rfl) dX3_addBoat_1 ⟨Nat.le_of_ble_eq_true rfl, Nat.le_of_ble_eq_true rfl⟩ 4 rfl ?_
  refine z_ifb_eq C dX3_addBoat_4 14 7 (by decide) rfl (fun c4 => ?_) (fun c4 => ?_)
  · skip
    simp only [decide_eq_true_eq, decide_eq_false_iff_not] at c4
    refine z_iconst C dX3_addBoat_14 15 rfl ?_
    have hr : addR v p0 dr x = -1 := by unfold addR; (repeat' split) <;> first | rfl | omega | (exfalso; omega)
    have hv : addV v p0 dr x = v := by unfold addV; exact if_neg (by rw [hr]; omega)
    rw [hr, hv]
    exact z_wi C hW dX3_addBoat_15 rfl rfl
  · skip
    simp only [decide_eq_true_eq, decide_eq_false_iff_not] at c4
    refine z_il_n C hl dX3_addBoat_7 3 rfl 8 rfl ?_
    refine z_NR (r := .int (iI (bZ (decide (0 ≤ x ∧ x < 36))))) (rest := []) C (m_isCell l G (x) (by omega)) kN_X3_15 ⟨Nat.le_of_ble_eq_true rfl, Nat.le_of_ble_eq_true rfl⟩ (gP_nil) hK rfl hl.1 rfl (Nat.le_of_ble_eq_true rfl) dX3_addBoat_8 ⟨Nat.le_of_ble_eq_true rfl, Nat.le_of_ble_eq_true rfl⟩ 11 rfl ?_
    refine z_ifb_ne C dX3_addBoat_11 16 14 (by decide) rfl (fun c11 => ?_) (fun c11 => ?_)
    · skip
      simp only [decide_eq_true_eq, decide_eq_false_iff_not] at c11
      refine z_il_n C hl dX3_addBoat_16 2 rfl 17 rfl ?_
      refine z_NR (r := .int (iI (bZ (decide (1 ≤ dr ∧ dr < 4))))) (rest := []) C (m_isDraft l G (dr) (by omega)) kN_X3_46 ⟨Nat.le_of_ble_eq_true rfl, Nat.le_of_ble_eq_true rfl⟩ (gP_nil) hK rfl hl.1 rfl (Nat.le_of_ble_eq_true rfl) dX3_addBoat_17 ⟨Nat.le_of_ble_eq_true rfl, Nat.le_of_ble_eq_true rfl⟩ 20 rfl ?_
      refine z_ifb_ne C dX3_addBoat_20 26 23 (by decide) rfl (fun c20 => ?_) (fun c20 => ?_)
      · skip
        simp only [decide_eq_true_eq, decide_eq_false_iff_not] at c20
        refine z_al_n C hl dX3_addBoat_26 0 rfl 27 rfl ?_
        refine z_get C hW.1 hK fl_X3_9 0 rfl rfl dX3_addBoat_27 30 rfl ?_
        refine z_getN C hW.1 hK fl_X3_22 1 rfl rfl dX3_addBoat_30 33 rfl ?_
        refine z_if_ne C dX3_addBoat_33 56 36 (by decide) rfl (by omega) (fun c33 => ?_) (fun c33 => ?_)
        · skip
          refine z_bipush C dX3_addBoat_56 (by decide) 58 rfl ?_
          have hr : addR v p0 dr x = -4 := by unfold addR; (repeat' split) <;> first | rfl | omega | (exfalso; omega)
          have hv : addV v p0 dr x = v := by unfold addV; exact if_neg (by rw [hr]; omega)
          rw [hr, hv]
          exact z_wi C hW dX3_addBoat_58 rfl rfl
        · skip
          refine z_il_n C hl dX3_addBoat_36 3 rfl 37 rfl ?_
          refine z_NR (r := .int (iI (bZ (decide (x = 0 ∨ x = 35))))) (rest := []) C (m_isHarbour l G (x) (by omega)) kN_X3_19 ⟨Nat.le_of_ble_eq_true rfl, Nat.le_of_ble_eq_true rfl⟩ (gP_nil) hK rfl hl.1 rfl (Nat.le_of_ble_eq_true rfl) dX3_addBoat_37 ⟨Nat.le_of_ble_eq_true rfl, Nat.le_of_ble_eq_true rfl⟩ 40 rfl ?_
          refine z_ifb_ne C dX3_addBoat_40 56 43 (by decide) rfl (fun c40 => ?_) (fun c40 => ?_)
          · skip
            simp only [decide_eq_true_eq, decide_eq_false_iff_not] at c40
            refine z_bipush C dX3_addBoat_56 (by decide) 58 rfl ?_
            have hr : addR v p0 dr x = -4 := by unfold addR; (repeat' split) <;> first | rfl | omega | (exfalso; omega)
            have hv : addV v p0 dr x = v := by unfold addV; exact if_neg (by rw [hr]; omega)
            rw [hr, hv]
            exact z_wi C hW dX3_addBoat_58 rfl rfl
          · skip
            simp only [decide_eq_true_eq, decide_eq_false_iff_not] at c40
            refine z_al_n C hl dX3_addBoat_43 0 rfl 44 rfl ?_
            refine z_get C hW.1 hK fl_X3_9 0 rfl rfl dX3_addBoat_44 47 rfl ?_
            refine z_il_n C hl dX3_addBoat_47 3 rfl 48 rfl ?_
            refine z_VR (r := .int (iI (batZ v x))) (rest := []) C (m_boatAt l G q v x w (by omega)) kV_X3_49 ⟨Nat.le_of_ble_eq_true rfl, Nat.le_of_ble_eq_true rfl⟩ (gP_rg hW.1 [1] rfl) hK 0 rfl rfl rfl hl.1 rfl (Nat.le_of_ble_eq_true rfl) dX3_addBoat_48 ⟨Nat.le_of_ble_eq_true rfl, Nat.le_of_ble_eq_true rfl⟩ 51 rfl ?_
            have r48 := batZ_rng w x
            refine z_bipush C dX3_addBoat_51 (by decide) 53 rfl ?_
            refine z_icmp_eq C dX3_addBoat_53 59 56 (by decide) rfl (by omega) (fun c53 => ?_) (fun c53 => ?_)
            · skip
              refine z_al_n C hl dX3_addBoat_59 0 rfl 60 rfl ?_
              refine z_get C hW.1 hK fl_X3_9 0 rfl rfl dX3_addBoat_60 63 rfl ?_
              refine z_getN C hW.1 hK fl_X3_53 1 rfl rfl dX3_addBoat_63 66 rfl ?_
              refine z_is C hl dX3_addBoat_66 68 rfl (by decide) (lv' := [(4, .int (iI (v 127))), (0, .ref (r)), (1, .int (iI (p0))), (2, .int (iI (dr))), (3, .int (iI (x)))]) rfl (fun ls hl => ?_)
              refine z_il C hl dX3_addBoat_68 0 rfl 70 rfl ?_
              refine z_bipush C dX3_addBoat_70 (by decide) 72 rfl ?_
              refine z_icmp_lt C dX3_addBoat_72 78 75 (by decide) rfl (by omega) (fun c72 => ?_) (fun c72 => ?_)
              · skip
                refine z_al_n C hl dX3_addBoat_78 1 rfl 79 rfl ?_
                refine z_get C hW.1 hK fl_X3_9 0 rfl rfl dX3_addBoat_79 82 rfl ?_
                refine z_getN C hW.1 hK fl_X3_56 1 rfl rfl dX3_addBoat_82 85 rfl ?_
                refine z_il C hl dX3_addBoat_85 0 rfl 87 rfl ?_
                refine z_il_n C hl dX3_addBoat_87 2 rfl 88 rfl ?_
                refine z_NWc C (x := arI G (q 3) 10 (fun k => v (72 + 5 * k))) (x' := arI G (q 3) 10 (updZ (fun k => v (72 + 5 * k)) (v 127) p0)) (rest := []) (m_wr l G (q 3) 10 (fun k => v (72 + 5 * k)) (v 127) (p0) (by decide) (by omega) gD_1) kN_X3_39 ⟨Nat.le_of_ble_eq_true rfl, Nat.le_of_ble_eq_true rfl⟩ hW hK 4 rfl rfl rfl hl.1 rfl (Nat.le_of_ble_eq_true rfl) dX3_addBoat_88 ⟨Nat.le_of_ble_eq_true rfl, Nat.le_of_ble_eq_true rfl⟩ 91 rfl (rs' := [[(r, .inr (3, [.ref (q 0)]))], stW G q (updZ v (72 + 5 * (v 127)) p0)]) (⟨ceq.rf, stw_a3 (by omega)⟩) (fun H locs hW => ?_)
                refine z_al_n C hl dX3_addBoat_91 1 rfl 92 rfl ?_
                refine z_get C hW.1 hK fl_X3_9 0 rfl rfl dX3_addBoat_92 95 rfl ?_
                refine z_getN C hW.1 hK fl_X3_59 1 rfl rfl dX3_addBoat_95 98 rfl ?_
                refine z_il C hl dX3_addBoat_98 0 rfl 100 rfl ?_
                refine z_il_n C hl dX3_addBoat_100 3 rfl 101 rfl ?_
                refine z_NWc C (x := arI G (q 4) 10 (fun k => updZ v (72 + 5 * (v 127)) p0 (73 + 5 * k))) (x' := arI G (q 4) 10 (updZ (fun k => updZ v (72 + 5 * (v 127)) p0 (73 + 5 * k)) (v 127) dr)) (rest := []) (m_wr l G (q 4) 10 (fun k => updZ v (72 + 5 * (v 127)) p0 (73 + 5 * k)) (v 127) (dr) (by decide) (by omega) gD_1) kN_X3_39 ⟨Nat.le_of_ble_eq_true rfl, Nat.le_of_ble_eq_true rfl⟩ hW hK 5 rfl rfl rfl hl.1 rfl (Nat.le_of_ble_eq_true rfl) dX3_addBoat_101 ⟨Nat.le_of_ble_eq_true rfl, Nat.le_of_ble_eq_true rfl⟩ 104 rfl (rs' := [[(r, .inr (3, [.ref (q 0)]))], stW G q (updZ (updZ v (72 + 5 * (v 127)) p0) (73 + 5 * (v 127)) dr)]) (⟨ceq.rf, stw_a4 (by omega)⟩) (fun H locs hW => ?_)
                refine z_al_n C hl dX3_addBoat_104 1 rfl 105 rfl ?_
                refine z_get C hW.1 hK fl_X3_9 0 rfl rfl dX3_addBoat_105 108 rfl ?_
                refine z_getN C hW.1 hK fl_X3_62 1 rfl rfl dX3_addBoat_108 111 rfl ?_
                refine z_il C hl dX3_addBoat_111 0 rfl 113 rfl ?_
                refine z_iconst C dX3_addBoat_113 114 rfl ?_
                refine z_NWc C (x := arI G (q 5) 10 (fun k => updZ (updZ v (72 + 5 * (v 127)) p0) (73 + 5 * (v 127)) dr (74 + 5 * k))) (x' := arI G (q 5) 10 (updZ (fun k => updZ (updZ v (72 + 5 * (v 127)) p0) (73 + 5 * (v 127)) dr (74 + 5 * k)) (v 127) 0)) (rest := []) (m_wr l G (q 5) 10 (fun k => updZ (updZ v (72 + 5 * (v 127)) p0) (73 + 5 * (v 127)) dr (74 + 5 * k)) (v 127) (0) (by decide) (by omega) gD_1) kN_X3_39 ⟨Nat.le_of_ble_eq_true rfl, Nat.le_of_ble_eq_true rfl⟩ hW hK 6 rfl rfl rfl hl.1 rfl (Nat.le_of_ble_eq_true rfl) dX3_addBoat_114 ⟨Nat.le_of_ble_eq_true rfl, Nat.le_of_ble_eq_true rfl⟩ 117 rfl (rs' := [[(r, .inr (3, [.ref (q 0)]))], stW G q (updZ (updZ (updZ v (72 + 5 * (v 127)) p0) (73 + 5 * (v 127)) dr) (74 + 5 * (v 127)) 0)]) (⟨ceq.rf, stw_a5 (by omega)⟩) (fun H locs hW => ?_)
                refine z_al_n C hl dX3_addBoat_117 1 rfl 118 rfl ?_
                refine z_get C hW.1 hK fl_X3_9 0 rfl rfl dX3_addBoat_118 121 rfl ?_
                refine z_getN C hW.1 hK fl_X3_65 1 rfl rfl dX3_addBoat_121 124 rfl ?_
                refine z_il C hl dX3_addBoat_124 0 rfl 126 rfl ?_
                refine z_il_n C hl dX3_addBoat_126 4 rfl 127 rfl ?_
                refine z_NWc C (x := arI G (q 6) 10 (fun k => updZ (updZ (updZ v (72 + 5 * (v 127)) p0) (73 + 5 * (v 127)) dr) (74 + 5 * (v 127)) 0 (75 + 5 * k))) (x' := arI G (q 6) 10 (updZ (fun k => updZ (updZ (updZ v (72 + 5 * (v 127)) p0) (73 + 5 * (v 127)) dr) (74 + 5 * (v 127)) 0 (75 + 5 * k)) (v 127) x)) (rest := []) (m_wr l G (q 6) 10 (fun k => updZ (updZ (updZ v (72 + 5 * (v 127)) p0) (73 + 5 * (v 127)) dr) (74 + 5 * (v 127)) 0 (75 + 5 * k)) (v 127) (x) (by decide) (by omega) gD_1) kN_X3_39 ⟨Nat.le_of_ble_eq_true rfl, Nat.le_of_ble_eq_true rfl⟩ hW hK 7 rfl rfl rfl hl.1 rfl (Nat.le_of_ble_eq_true rfl) dX3_addBoat_127 ⟨Nat.le_of_ble_eq_true rfl, Nat.le_of_ble_eq_true rfl⟩ 130 rfl (rs' := [[(r, .inr (3, [.ref (q 0)]))], stW G q (updZ (updZ (updZ (updZ v (72 + 5 * (v 127)) p0) (73 + 5 * (v 127)) dr) (74 + 5 * (v 127)) 0) (75 + 5 * (v 127)) x)]) (⟨ceq.rf, stw_a6 (by omega)⟩) (fun H locs hW => ?_)
                refine z_al_n C hl dX3_addBoat_130 1 rfl 131 rfl ?_
                refine z_get C hW.1 hK fl_X3_9 0 rfl rfl dX3_addBoat_131 134 rfl ?_
                refine z_getN C hW.1 hK fl_X3_68 1 rfl rfl dX3_addBoat_134 137 rfl ?_
                refine z_il C hl dX3_addBoat_137 0 rfl 139 rfl ?_
                refine z_iconst C dX3_addBoat_139 140 rfl ?_
                refine z_NWc C (x := arI G (q 7) 10 (fun k => updZ (updZ (updZ (updZ v (72 + 5 * (v 127)) p0) (73 + 5 * (v 127)) dr) (74 + 5 * (v 127)) 0) (75 + 5 * (v 127)) x (76 + 5 * k))) (x' := arI G (q 7) 10 (updZ (fun k => updZ (updZ (updZ (updZ v (72 + 5 * (v 127)) p0) (73 + 5 * (v 127)) dr) (74 + 5 * (v 127)) 0) (75 + 5 * (v 127)) x (76 + 5 * k)) (v 127) 0)) (rest := []) (m_wr l G (q 7) 10 (fun k => updZ (updZ (updZ (updZ v (72 + 5 * (v 127)) p0) (73 + 5 * (v 127)) dr) (74 + 5 * (v 127)) 0) (75 + 5 * (v 127)) x (76 + 5 * k)) (v 127) (0) (by decide) (by omega) gD_1) kN_X3_39 ⟨Nat.le_of_ble_eq_true rfl, Nat.le_of_ble_eq_true rfl⟩ hW hK 8 rfl rfl rfl hl.1 rfl (Nat.le_of_ble_eq_true rfl) dX3_addBoat_140 ⟨Nat.le_of_ble_eq_true rfl, Nat.le_of_ble_eq_true rfl⟩ 143 rfl (rs' := [[(r, .inr (3, [.ref (q 0)]))], stW G q (updZ (updZ (updZ (updZ (updZ v (72 + 5 * (v 127)) p0) (73 + 5 * (v 127)) dr) (74 + 5 * (v 127)) 0) (75 + 5 * (v 127)) x) (76 + 5 * (v 127)) 0)]) (⟨ceq.rf, stw_a7 (by omega)⟩) (fun H locs hW => ?_)
                refine z_al_n C hl dX3_addBoat_143 1 rfl 144 rfl ?_
                refine z_get C hW.1 hK fl_X3_9 0 rfl rfl dX3_addBoat_144 147 rfl ?_
                refine z_il C hl dX3_addBoat_147 0 rfl 149 rfl ?_
                refine z_iconst C dX3_addBoat_149 150 rfl ?_
                refine z_iadd C dX3_addBoat_150 151 rfl (1 + v 127) (by omega) ?_
                refine z_putcN C hW hK fl_X3_53 fc_X4_7 1 rfl rfl rfl (Nat.le_of_ble_eq_true rfl) dX3_addBoat_151 154 rfl (rs' := [[(r, .inr (3, [.ref (q 0)]))], stW G q (updZ (updZ (updZ (updZ (updZ (updZ v (72 + 5 * (v 127)) p0) (73 + 5 * (v 127)) dr) (74 + 5 * (v 127)) 0) (75 + 5 * (v 127)) x) (76 + 5 * (v 127)) 0) 127 (1 + v 127))]) (⟨ceq.rf, stw_f7⟩) (fun H locs hW => ?_)
                refine z_il C hl dX3_addBoat_154 0 rfl 156 rfl ?_
                have hr : addR v p0 dr x = v 127 := by unfold addR; (repeat' split) <;> first | rfl | omega | (exfalso; omega)
                have hv : addV v p0 dr x = updZ (updZ (updZ (updZ (updZ (updZ v (72 + 5 * (v 127)) p0) (73 + 5 * (v 127)) dr) (74 + 5 * (v 127)) 0) (75 + 5 * (v 127)) x) (76 + 5 * (v 127)) 0) 127 (1 + v 127) := by unfold addV; rw [if_pos (by rw [hr]; omega)]
                rw [hr, hv]
                exact z_wi C hW dX3_addBoat_156 rfl rfl
              · skip
                refine z_bipush C dX3_addBoat_75 (by decide) 77 rfl ?_
                have hr : addR v p0 dr x = -3 := by unfold addR; (repeat' split) <;> first | rfl | omega | (exfalso; omega)
                have hv : addV v p0 dr x = v := by unfold addV; exact if_neg (by rw [hr]; omega)
                rw [hr, hv]
                exact z_wi C hW dX3_addBoat_77 rfl rfl
            · skip
              refine z_bipush C dX3_addBoat_56 (by decide) 58 rfl ?_
              have hr : addR v p0 dr x = -4 := by unfold addR; (repeat' split) <;> first | rfl | omega | (exfalso; omega)
              have hv : addV v p0 dr x = v := by unfold addV; exact if_neg (by rw [hr]; omega)
              rw [hr, hv]
              exact z_wi C hW dX3_addBoat_58 rfl rfl
      · skip
        simp only [decide_eq_true_eq, decide_eq_false_iff_not] at c20
        refine z_bipush C dX3_addBoat_23 (by decide) 25 rfl ?_
        have hr : addR v p0 dr x = -2 := by unfold addR; (repeat' split) <;> first | rfl | omega | (exfalso; omega)
        have hv : addV v p0 dr x = v := by unfold addV; exact if_neg (by rw [hr]; omega)
        rw [hr, hv]
        exact z_wi C hW dX3_addBoat_25 rfl rfl
    · skip
      simp only [decide_eq_true_eq, decide_eq_false_iff_not] at c11
      refine z_iconst C dX3_addBoat_14 15 rfl ?_
      have hr : addR v p0 dr x = -1 := by unfold addR; (repeat' split) <;> first | rfl | omega | (exfalso; omega)
      have hv : addV v p0 dr x = v := by unfold addV; exact if_neg (by rw [hr]; omega)
      rw [hr, hv]
      exact z_wi C hW dX3_addBoat_15 rfl rfl

set_option maxHeartbeats 4000000 in
set_option maxRecDepth 100000 in
theorem m_changeSettingS (l : Launch) (G : gT) (q : Nat → Nat) (v : Int → Int) (k x : Int) (w : Wf v) (hk : 0 ≤ k ∧ k < 4) (hD : gD ([stW G q v] : List va_W).flatten) : MW l G yX4_changeSetting cX4_changeSetting 3 (none) 0 [.ref (q 0), .int (iI (k)), .int (iI (x))] [stW G q v] [stW G q (updZ v (122 + k) x)] ZT none := by
  refine enterW (own := RX4) (by decide +kernel) rfl (Nat.le_of_ble_eq_true rfl) hD ?_
  intro p e s m below meth c C hW hK hZ ls hl
  have hl : lv_has ls 3 [(0, .ref (q 0)), (1, .int (iI (k))), (2, .int (iI (x)))] := hl
  refine z_il_n C hl dX4_changeSetting_0 1 rfl 1 rfl ?_
  have hsw1 : (k) = 0 ∨ (k) = 1 ∨ (k) = 2 ∨ ((k) < 0 ∨ 2 < (k)) := by omega
  rcases hsw1 with h1 | h1 | h1 | h1
  · skip
    refine z_swIn C dX4_changeSetting_1 (by omega) (by omega) 27 28 (by rw [h1]; rfl) (by decide) ?_
    refine z_al_n C hl dX4_changeSetting_28 0 rfl 29 rfl ?_
    refine z_il_n C hl dX4_changeSetting_29 2 rfl 30 rfl ?_
    refine z_putc C hW hK fl_X4_33 fc_X4_10 0 rfl rfl rfl (Nat.le_of_ble_eq_true rfl) dX4_changeSetting_30 33 rfl (rs' := [stW G q (updZ v 122 x)]) (stw_f10) (fun H locs hW => ?_)
    refine z_goto C dX4_changeSetting_33 57 (by decide) ?_
    have e : updZ v 122 x = updZ v (122 + k) x := by rw [show (122 + k : Int) = 122 by omega]
    rw [e] at hW
    exact z_wv C hW dX4_changeSetting_57 rfl
  · skip
    refine z_swIn C dX4_changeSetting_1 (by omega) (by omega) 35 36 (by rw [h1]; rfl) (by decide) ?_
    refine z_al_n C hl dX4_changeSetting_36 0 rfl 37 rfl ?_
    refine z_il_n C hl dX4_changeSetting_37 2 rfl 38 rfl ?_
    refine z_putc C hW hK fl_X4_37 fc_X4_11 0 rfl rfl rfl (Nat.le_of_ble_eq_true rfl) dX4_changeSetting_38 41 rfl (rs' := [stW G q (updZ v 123 x)]) (stw_f11) (fun H locs hW => ?_)
    refine z_goto C dX4_changeSetting_41 57 (by decide) ?_
    have e : updZ v 123 x = updZ v (122 + k) x := by rw [show (122 + k : Int) = 123 by omega]
    rw [e] at hW
    exact z_wv C hW dX4_changeSetting_57 rfl
  · skip
    refine z_swIn C dX4_changeSetting_1 (by omega) (by omega) 43 44 (by rw [h1]; rfl) (by decide) ?_
    refine z_al_n C hl dX4_changeSetting_44 0 rfl 45 rfl ?_
    refine z_il_n C hl dX4_changeSetting_45 2 rfl 46 rfl ?_
    refine z_putc C hW hK fl_X4_40 fc_X4_12 0 rfl rfl rfl (Nat.le_of_ble_eq_true rfl) dX4_changeSetting_46 49 rfl (rs' := [stW G q (updZ v 124 x)]) (stw_f12) (fun H locs hW => ?_)
    refine z_goto C dX4_changeSetting_49 57 (by decide) ?_
    have e : updZ v 124 x = updZ v (122 + k) x := by rw [show (122 + k : Int) = 124 by omega]
    rw [e] at hW
    exact z_wv C hW dX4_changeSetting_57 rfl
  · skip
    refine z_swOut C dX4_changeSetting_1 (by omega) h1 52 (by decide) ?_
    refine z_al_n C hl dX4_changeSetting_52 0 rfl 53 rfl ?_
    refine z_il_n C hl dX4_changeSetting_53 2 rfl 54 rfl ?_
    refine z_putc C hW hK fl_X4_43 fc_X4_13 0 rfl rfl rfl (Nat.le_of_ble_eq_true rfl) dX4_changeSetting_54 57 rfl (rs' := [stW G q (updZ v 125 x)]) (stw_f13) (fun H locs hW => ?_)
    have e : updZ v 125 x = updZ v (122 + k) x := by rw [show (122 + k : Int) = 125 by omega]
    rw [e] at hW
    exact z_wv C hW dX4_changeSetting_57 rfl

set_option maxHeartbeats 4000000 in
set_option maxRecDepth 100000 in
theorem m_ram (l : Launch) (G : gT) (r : Nat) (q : Nat → Nat) (v : Int → Int) (b : Int) (w : Wf v) (hb : b = -5 ∨ (0 ≤ b ∧ b < v 127)) (hD : gD ([[(r, .inr (3, [.ref (q 0)]))], stW G q v] : List va_W).flatten) : MW l G yX3_ram cX3_ram 2 (some .int) 1 [.ref (r), .int (iI (b))] [[(r, .inr (3, [.ref (q 0)]))], stW G q v] [[(r, .inr (3, [.ref (q 0)]))], stW G q (ramV v b)] ZT (some (.int (iI (ramR v b)))) := by
  refine enterW (own := RX3) (by decide +kernel) rfl (Nat.le_of_ble_eq_true rfl) hD ?_
  intro p e s m below meth c C hW hK hZ ls hl
  have hl : lv_has ls 2 [(0, .ref (r)), (1, .int (iI (b)))] := hl
  have h127 := w.n
  refine z_il_n C hl dX3_ram_0 1 rfl 1 rfl ?_
  refine z_bipush C dX3_ram_1 (by decide) 3 rfl ?_
  refine z_icmp_ne C dX3_ram_3 8 6 (by decide) rfl (by omega) (fun c3 => ?_) (fun c3 => ?_)
  · skip
    refine z_al_n C hl dX3_ram_8 0 rfl 9 rfl ?_
    refine z_get C hW.1 hK fl_X3_9 0 rfl rfl dX3_ram_9 12 rfl ?_
    refine z_getN C hW.1 hK fl_X3_62 1 rfl rfl dX3_ram_12 15 rfl ?_
    refine z_il_n C hl dX3_ram_15 1 rfl 16 rfl ?_
    refine z_iconst C dX3_ram_16 17 rfl ?_
    refine z_NWc C (x := arI G (q 5) 10 (fun k => v (74 + 5 * k))) (x' := arI G (q 5) 10 (updZ (fun k => v (74 + 5 * k)) b 2)) (rest := []) (m_wr l G (q 5) 10 (fun k => v (74 + 5 * k)) (b) (2) (by decide) (by omega) gD_1) kN_X3_39 ⟨Nat.le_of_ble_eq_true rfl, Nat.le_of_ble_eq_true rfl⟩ hW hK 6 rfl rfl rfl hl.1 rfl (Nat.le_of_ble_eq_true rfl) dX3_ram_17 ⟨Nat.le_of_ble_eq_true rfl, Nat.le_of_ble_eq_true rfl⟩ 20 rfl (rs' := [[(r, .inr (3, [.ref (q 0)]))], stW G q (updZ v (74 + 5 * b) 2)]) (⟨ceq.rf, stw_a5 (by omega)⟩) (fun H locs hW => ?_)
    refine z_al_n C hl dX3_ram_20 0 rfl 21 rfl ?_
    refine z_get C hW.1 hK fl_X3_9 0 rfl rfl dX3_ram_21 24 rfl ?_
    refine z_dup C dX3_ram_24 rfl 25 rfl ?_
    refine z_getN C hW.1 hK fl_X3_138 1 rfl rfl dX3_ram_25 28 rfl ?_
    refine z_top (b := .int (iI (v 128))) (congrArg (fun z => Value.int (iI z)) (updZ_n (by omega))) ?_
    refine z_iconst C dX3_ram_28 29 rfl ?_
    refine z_iadd C dX3_ram_29 30 rfl (1 + v 128) (by omega) ?_
    refine z_putcN C hW hK fl_X3_138 fc_X4_8 1 rfl rfl rfl (Nat.le_of_ble_eq_true rfl) dX3_ram_30 33 rfl (rs' := [[(r, .inr (3, [.ref (q 0)]))], stW G q (updZ (updZ v (74 + 5 * b) 2) 128 (1 + v 128))]) (⟨ceq.rf, stw_f8⟩) (fun H locs hW => ?_)
    refine z_al_n C hl dX3_ram_33 0 rfl 34 rfl ?_
    refine z_get C hW.1 hK fl_X3_9 0 rfl rfl dX3_ram_34 37 rfl ?_
    refine z_getN C hW.1 hK fl_X3_59 1 rfl rfl dX3_ram_37 40 rfl ?_
    refine z_il_n C hl dX3_ram_40 1 rfl 41 rfl ?_
    refine z_NR (r := .int (iI (v (73 + 5 * b)))) (rest := []) C (m_rd l G (q 4) 10 (fun k => updZ (updZ v (74 + 5 * b) 2) 128 (1 + v 128) (73 + 5 * k)) (b) (v (73 + 5 * b)) (by decide) (by omega) (by rw [updZ_n (by omega), updZ_n (by omega)])) kN_X3_32 ⟨Nat.le_of_ble_eq_true rfl, Nat.le_of_ble_eq_true rfl⟩ (gP_c hW.1 5 rfl) hK rfl hl.1 rfl (Nat.le_of_ble_eq_true rfl) dX3_ram_41 ⟨Nat.le_of_ble_eq_true rfl, Nat.le_of_ble_eq_true rfl⟩ 44 rfl ?_
    have hr : ramR v b = v (73 + 5 * b) := by unfold ramR; rw [if_neg (by omega)]
    have hv : ramV v b = updZ (updZ v (74 + 5 * b) 2) 128 (1 + v 128) := by unfold ramV; rw [if_neg (by omega)]
    rw [hr, hv]
    exact z_wi C hW dX3_ram_44 rfl rfl
  · skip
    refine z_iconst C dX3_ram_6 7 rfl ?_
    have hr : ramR v b = 0 := by unfold ramR; rw [if_pos c3]
    have hv : ramV v b = v := by unfold ramV; rw [if_pos (by omega)]
    rw [hr, hv]
    exact z_wi C hW dX3_ram_7 rfl rfl

set_option maxHeartbeats 4000000 in
set_option maxRecDepth 100000 in
theorem m_endTurn (l : Launch) (G : gT) (r : Nat) (q : Nat → Nat) (v : Int → Int) (w : Wf v) (hD : gD ([[(r, .inr (3, [.ref (q 0)]))], stW G q v] : List va_W).flatten) : MW l G yX3_endTurn cX3_endTurn 2 (none) 3 [.ref (r)] [[(r, .inr (3, [.ref (q 0)]))], stW G q v] [[(r, .inr (3, [.ref (q 0)]))], stW G q (pasV v)] ZT none := by
  refine enterW (own := RX3) (by decide +kernel) rfl (Nat.le_of_ble_eq_true rfl) hD ?_
  intro p e s m below meth c C hW hK hZ ls hl
  have hl : lv_has ls 2 [(0, .ref (r))] := hl
  have h127 := w.n
  have ht := w.t
  refine z_iconst C dX3_endTurn_0 1 rfl ?_
  have hW := hW.re (rs' := [[(r, .inr (3, [.ref (q 0)]))], stW G q (pasP v 0)]) (by rw [pasP_0])
  refine z_is_n C hl dX3_endTurn_1 2 rfl (by decide) (lv' := [(1, .int (iI (0))), (0, .ref (r))]) rfl (fun ls hl => ?_)
  have L2 : ∀ (fu : Nat) (i : Int) (h1 : 0 ≤ i ∧ i ≤ v 127) (H : Heap) (locs : List Loc) (hW : Wd G (adr ([[(r, .inr (3, [.ref (q 0)]))], stW G q v] : List va_W).flatten) [[(r, .inr (3, [.ref (q 0)]))], stW G q (pasP v i)] s.heap H locs) (hm : v 127 - i < (fu : Int)) (ls : Array Slot) (hl : lv_has ls 2 [(1, .int (iI (i))), (0, .ref (r))]), W p l e (rmN 3) s m [.ref (r)].toArray below meth c H locs 0 0 (MQ below (QW G [[(r, .inr (3, [.ref (q 0)]))], stW G q v] [[(r, .inr (3, [.ref (q 0)]))], stW G q (pasV v)] none) [.ref (r)].toArray s 0 0 (adr ([[(r, .inr (3, [.ref (q 0)]))], stW G q v] : List va_W).flatten)) (F0 m 2 ls []) := by
    intro fu
    induction fu with
    | zero => intro i h1 H locs hW hm ls hl; exfalso; omega
    | succ fu ih =>
      intro i h1 H locs hW hm ls hl
      have wi := w.paq i h1
      have e127 : pasP v i 127 = v 127 := pasP_o (by omega)
      have ih2 := ih
      refine z_il_n C hl dX3_endTurn_2 0 rfl 3 rfl ?_
      refine z_al_n C hl dX3_endTurn_3 1 rfl 4 rfl ?_
      refine z_get C hW.1 hK fl_X3_9 0 rfl rfl dX3_endTurn_4 7 rfl ?_
      refine z_getN C hW.1 hK fl_X3_53 1 rfl rfl dX3_endTurn_7 10 rfl ?_
      refine z_icmp_ge C dX3_endTurn_10 42 13 (by decide) rfl (by omega) (fun c10 => ?_) (fun c10 => ?_)
      · skip
        rw [show i = v 127 by omega] at hW
        refine z_al_n C hl dX3_endTurn_42 1 rfl 43 rfl ?_
        refine z_get C hW.1 hK fl_X3_9 0 rfl rfl dX3_endTurn_43 46 rfl ?_
        refine z_dup C dX3_endTurn_46 rfl 47 rfl ?_
        refine z_getN C hW.1 hK fl_X3_22 1 rfl rfl dX3_endTurn_47 50 rfl ?_
        refine z_top (b := .int (iI (v 126))) (congrArg (fun z => Value.int (iI z)) (pasP_o (by omega))) ?_
        refine z_iconst C dX3_endTurn_50 51 rfl ?_
        refine z_iadd C dX3_endTurn_51 52 rfl (1 + v 126) (by omega) ?_
        refine z_putcN C hW hK fl_X3_22 fc_X4_9 1 rfl rfl rfl (Nat.le_of_ble_eq_true rfl) dX3_endTurn_52 55 rfl (rs' := [[(r, .inr (3, [.ref (q 0)]))], stW G q (updZ (pasP v (v 127)) 126 (1 + v 126))]) (⟨ceq.rf, stw_f9⟩) (fun H locs hW => ?_)
        exact z_wv C hW dX3_endTurn_55 rfl
      · skip
        have hk := w.b i (by omega)
        refine z_al_n C hl dX3_endTurn_13 1 rfl 14 rfl ?_
        refine z_get C hW.1 hK fl_X3_9 0 rfl rfl dX3_endTurn_14 17 rfl ?_
        refine z_il_n C hl dX3_endTurn_17 0 rfl 18 rfl ?_
        refine z_VR (r := .int (iI (bZ (hitB (pasP v i) i)))) (rest := []) C (m_isWreckedAhead l G q (pasP v i) i wi (by omega)) kV_X3_141 ⟨Nat.le_of_ble_eq_true rfl, Nat.le_of_ble_eq_true rfl⟩ (gP_rg hW.1 [1] rfl) hK 0 rfl rfl rfl hl.1 rfl (Nat.le_of_ble_eq_true rfl) dX3_endTurn_18 ⟨Nat.le_of_ble_eq_true rfl, Nat.le_of_ble_eq_true rfl⟩ 21 rfl ?_
        refine z_ifb_eq C dX3_endTurn_21 36 24 (by decide) rfl (fun c21 => ?_) (fun c21 => ?_)
        · skip
          rw [hitB_pasP (by omega) (by omega) (by omega)] at c21
          rw [← pasP_f h1.1 c21] at hW
          skip
          refine z_iinc C hl dX3_endTurn_36 39 rfl 0 rfl (z := 1 + i) (by omega) (by decide) (lv' := [(1, .int (iI (1 + i))), (0, .ref (r))]) rfl (fun ls hl => ?_)
          refine z_goto C dX3_endTurn_39 2 (by decide) ?_
          exact ih2 (1 + i) (by omega) _ _ hW (by omega) ls (lv_sub hl [0, 1] rfl)
        · skip
          rw [hitB_pasP (by omega) (by omega) (by omega)] at c21
          refine z_al_n C hl dX3_endTurn_24 1 rfl 25 rfl ?_
          refine z_get C hW.1 hK fl_X3_9 0 rfl rfl dX3_endTurn_25 28 rfl ?_
          refine z_getN C hW.1 hK fl_X3_62 1 rfl rfl dX3_endTurn_28 31 rfl ?_
          refine z_il_n C hl dX3_endTurn_31 0 rfl 32 rfl ?_
          refine z_iconst C dX3_endTurn_32 33 rfl ?_
          refine z_NWc C (x := arI G (q 5) 10 (fun k => (pasP v i) (74 + 5 * k))) (x' := arI G (q 5) 10 (updZ (fun k => (pasP v i) (74 + 5 * k)) i 2)) (rest := []) (m_wr l G (q 5) 10 (fun k => (pasP v i) (74 + 5 * k)) (i) (2) (by decide) (by omega) gD_1) kN_X3_39 ⟨Nat.le_of_ble_eq_true rfl, Nat.le_of_ble_eq_true rfl⟩ hW hK 6 rfl rfl rfl hl.1 rfl (Nat.le_of_ble_eq_true rfl) dX3_endTurn_33 ⟨Nat.le_of_ble_eq_true rfl, Nat.le_of_ble_eq_true rfl⟩ 36 rfl (rs' := [[(r, .inr (3, [.ref (q 0)]))], stW G q (updZ (pasP v i) (74 + 5 * i) 2)]) (⟨ceq.rf, stw_a5 (by omega)⟩) (fun H locs hW => ?_)
          rw [← pasP_s h1.1 c21] at hW
          refine z_iinc C hl dX3_endTurn_36 39 rfl 0 rfl (z := 1 + i) (by omega) (by decide) (lv' := [(1, .int (iI (1 + i))), (0, .ref (r))]) rfl (fun ls hl => ?_)
          refine z_goto C dX3_endTurn_39 2 (by decide) ?_
          exact ih2 (1 + i) (by omega) _ _ hW (by omega) ls (lv_sub hl [0, 1] rfl)
  exact L2 (Int.toNat (v 127 - 0) + 1) 0 (by omega) _ _ hW (by omega) ls (lv_sub hl [0, 1] rfl)

set_option maxHeartbeats 4000000 in
set_option maxRecDepth 100000 in
theorem m_waitATurn (l : Launch) (G : gT) (r : Nat) (q : Nat → Nat) (v : Int → Int) (w : Wf v) (hD : gD ([[(r, .inr (3, [.ref (q 0)]))], stW G q v] : List va_W).flatten) : MW l G yX3_waitATurn cX3_waitATurn 1 (some .int) 4 [.ref (r)] [[(r, .inr (3, [.ref (q 0)]))], stW G q v] [[(r, .inr (3, [.ref (q 0)]))], stW G q (waiV v)] ZT (some (.int (iI (waiR v)))) := by
  refine enterW (own := RX3) (by decide +kernel) rfl (Nat.le_of_ble_eq_true rfl) hD ?_
  intro p e s m below meth c C hW hK hZ ls hl
  have hl : lv_has ls 1 [(0, .ref (r))] := hl
  have ht := w.t
  have hs := w.s
  refine z_al_n C hl dX3_waitATurn_0 0 rfl 1 rfl ?_
  refine z_get C hW.1 hK fl_X3_9 0 rfl rfl dX3_waitATurn_1 4 rfl ?_
  refine z_VR (r := .int (iI (bZ (overB v)))) (rest := []) C (m_isOver l G q v  w ) kV_X3_104 ⟨Nat.le_of_ble_eq_true rfl, Nat.le_of_ble_eq_true rfl⟩ (gP_rg hW.1 [1] rfl) hK 0 rfl rfl rfl hl.1 rfl (Nat.le_of_ble_eq_true rfl) dX3_waitATurn_4 ⟨Nat.le_of_ble_eq_true rfl, Nat.le_of_ble_eq_true rfl⟩ 7 rfl ?_
  refine z_ifb_eq C dX3_waitATurn_7 13 10 (by decide) rfl (fun c7 => ?_) (fun c7 => ?_)
  · skip
    have ho := over0 c7
    have wp := w.pas (by omega)
    have hp6 : pasV v 126 = 1 + v 126 := updZ_s
    refine z_al_n C hl dX3_waitATurn_13 0 rfl 14 rfl ?_
    refine z_VWv (rest := []) C (m_endTurn l G r q v w (gD_rg hW.2.1 [0, 1] (by decide) rfl)) kV_X3_101 ⟨Nat.le_of_ble_eq_true rfl, Nat.le_of_ble_eq_true rfl⟩ hW hK [0, 1] rfl (sameA_of rfl) 0 rfl rfl rfl hl.1 rfl (Nat.le_of_ble_eq_true rfl) dX3_waitATurn_14 ⟨Nat.le_of_ble_eq_true rfl, Nat.le_of_ble_eq_true rfl⟩ 17 rfl (rs' := [[(r, .inr (3, [.ref (q 0)]))], stW G q (pasV v)]) rfl (fun H locs hW hkeep => ?_)
    refine z_al_n C hl dX3_waitATurn_17 0 rfl 18 rfl ?_
    refine z_get C hW.1 hK fl_X3_9 0 rfl rfl dX3_waitATurn_18 21 rfl ?_
    refine z_al_n C hl dX3_waitATurn_21 0 rfl 22 rfl ?_
    refine z_get C hW.1 hK fl_X3_9 0 rfl rfl dX3_waitATurn_22 25 rfl ?_
    refine z_getN C hW.1 hK fl_X3_22 1 rfl rfl dX3_waitATurn_25 28 rfl ?_
    refine z_VR (r := .int (iI (tideZ (pasV v) ((pasV v) 126)))) (rest := []) C (m_tideIn l G q (pasV v) ((pasV v) 126) wp (by omega)) kV_X3_108 ⟨Nat.le_of_ble_eq_true rfl, Nat.le_of_ble_eq_true rfl⟩ (gP_rg hW.1 [1] rfl) hK 0 rfl rfl rfl hl.1 rfl (Nat.le_of_ble_eq_true rfl) dX3_waitATurn_28 ⟨Nat.le_of_ble_eq_true rfl, Nat.le_of_ble_eq_true rfl⟩ 31 rfl ?_
    have r28 := tideZ_rng wp ((pasV v) 126)
    have hr : waiR v = tideZ (pasV v) ((pasV v) 126) := by unfold waiR; rw [if_neg (by rw [c7]; decide)]
    have hv : waiV v = (pasV v) := by unfold waiV; rw [if_neg (by rw [c7]; decide)]
    rw [hr, hv]
    exact z_wi C hW dX3_waitATurn_31 rfl rfl
  · skip
    refine z_bipush C dX3_waitATurn_10 (by decide) 12 rfl ?_
    have hr : waiR v = -4 := by unfold waiR; rw [if_pos c7]
    have hv : waiV v = v := by unfold waiV; rw [if_pos c7]
    rw [hr, hv]
    exact z_wi C hW dX3_waitATurn_12 rfl rfl

set_option maxHeartbeats 4000000 in
set_option maxRecDepth 100000 in
theorem m_sail (l : Launch) (G : gT) (r : Nat) (q : Nat → Nat) (v : Int → Int) (b d n : Int) (w : Wf v) (hb : -2147483648 ≤ b ∧ b < 2147483648) (hd : -2147483648 ≤ d ∧ d < 2147483648) (hn : -2147483648 ≤ n ∧ n < 2147483648) (hD : gD ([[(r, .inr (3, [.ref (q 0)]))], stW G q v] : List va_W).flatten) : MW l G yX3_sail cX3_sail 8 (some .int) 4 [.ref (r), .int (iI (b)), .int (iI (d)), .int (iI (n))] [[(r, .inr (3, [.ref (q 0)]))], stW G q v] [[(r, .inr (3, [.ref (q 0)]))], stW G q (saiV v b d n)] ZT (some (.int (iI (saiR v b d n)))) := by
  refine enterW (own := RX3) (by decide +kernel) rfl (Nat.le_of_ble_eq_true rfl) hD ?_
  intro p e s m below meth c C hW hK hZ ls hl
  have hl : lv_has ls 8 [(0, .ref (r)), (1, .int (iI (b))), (2, .int (iI (d))), (3, .int (iI (n)))] := hl
  have ht := w.t
  have hs := w.s
  have h127 := w.n
  refine z_al_n C hl dX3_sail_0 0 rfl 1 rfl ?_
  refine z_il_n C hl dX3_sail_1 1 rfl 2 rfl ?_
  refine z_il_n C hl dX3_sail_2 2 rfl 3 rfl ?_
  refine z_il_n C hl dX3_sail_3 3 rfl 4 rfl ?_
  refine z_VR (r := .int (iI (errZ v b d n))) (rest := []) C (m_errorOfMove l G r q v b d n w (by omega) (by omega) (by omega)) kV_X3_84 ⟨Nat.le_of_ble_eq_true rfl, Nat.le_of_ble_eq_true rfl⟩ hW.1 hK 0 rfl rfl rfl hl.1 rfl (Nat.le_of_ble_eq_true rfl) dX3_sail_4 ⟨Nat.le_of_ble_eq_true rfl, Nat.le_of_ble_eq_true rfl⟩ 7 rfl ?_
  refine z_is C hl dX3_sail_7 9 rfl (by decide) (lv' := [(4, .int (iI (errZ v b d n))), (0, .ref (r)), (1, .int (iI (b))), (2, .int (iI (d))), (3, .int (iI (n)))]) rfl (fun ls hl => ?_)
  refine z_il C hl dX3_sail_9 0 rfl 11 rfl ?_
  refine z_if_eq C dX3_sail_11 17 14 (by decide) rfl (by unfold errZ; (repeat' split) <;> omega) (fun c11 => ?_) (fun c11 => ?_)
  · skip
    obtain ⟨hb, hd, hn⟩ := err0 c11
    have hw := w.b b (by omega)
    have hpp := harZ_c (p := v (72 + 5 * b)) (by omega)
    refine z_al_n C hl dX3_sail_17 1 rfl 18 rfl ?_
    refine z_il_n C hl dX3_sail_18 2 rfl 19 rfl ?_
    refine z_il_n C hl dX3_sail_19 3 rfl 20 rfl ?_
    refine z_il_n C hl dX3_sail_20 4 rfl 21 rfl ?_
    refine z_iconst C dX3_sail_21 22 rfl ?_
    refine z_VR (r := .int (iI (reaZ v b d n false))) (rest := []) C (m_reasonAgainst l G r q v b d n false w (by omega) (by omega) (by omega)) kV_X3_88 ⟨Nat.le_of_ble_eq_true rfl, Nat.le_of_ble_eq_true rfl⟩ hW.1 hK 0 rfl rfl rfl hl.1 rfl (Nat.le_of_ble_eq_true rfl) dX3_sail_22 ⟨Nat.le_of_ble_eq_true rfl, Nat.le_of_ble_eq_true rfl⟩ 25 rfl ?_
    have r22 := reaZ_rng v b d n false
    refine z_is C hl dX3_sail_25 27 rfl (by decide) (lv' := [(5, .int (iI (reaZ v b d n false))), (4, .int (iI (errZ v b d n))), (0, .ref (r)), (1, .int (iI (b))), (2, .int (iI (d))), (3, .int (iI (n)))]) rfl (fun ls hl => ?_)
    refine z_il C hl dX3_sail_27 0 rfl 29 rfl ?_
    refine z_if_eq C dX3_sail_29 38 32 (by decide) rfl (by omega) (fun c29 => ?_) (fun c29 => ?_)
    · skip
      obtain ⟨q1, q2, q3, q4, q5, q6⟩ := rea0 c29
      obtain ⟨g1, g2, g3⟩ := gol_rng w hb c29
      have hon : v (74 + 5 * b) = 0 := of_decide_eq_true q2
      have wm := w.mv hb c29
      refine z_al_n C hl dX3_sail_38 2 rfl 39 rfl ?_
      refine z_get C hW.1 hK fl_X3_9 0 rfl rfl dX3_sail_39 42 rfl ?_
      refine z_getN C hW.1 hK fl_X3_65 1 rfl rfl dX3_sail_42 45 rfl ?_
      refine z_il_n C hl dX3_sail_45 3 rfl 46 rfl ?_
      refine z_NR (r := .int (iI (v (75 + 5 * b)))) (rest := []) C (m_rd l G (q 6) 10 (fun k => v (75 + 5 * k)) (b) (v (75 + 5 * b)) (by decide) (by omega) (congrArg v (by omega))) kN_X3_32 ⟨Nat.le_of_ble_eq_true rfl, Nat.le_of_ble_eq_true rfl⟩ (gP_c hW.1 7 rfl) hK rfl hl.1 rfl (Nat.le_of_ble_eq_true rfl) dX3_sail_46 ⟨Nat.le_of_ble_eq_true rfl, Nat.le_of_ble_eq_true rfl⟩ 49 rfl ?_
      refine z_il_n C hl dX3_sail_49 4 rfl 50 rfl ?_
      refine z_il_n C hl dX3_sail_50 5 rfl 51 rfl ?_
      refine z_NR (r := .int (iI (froZ d (Int.toNat n) (v (75 + 5 * b))))) (rest := []) C (m_cellFrom l G (v (75 + 5 * b)) (d) (n) (by omega) (by omega) (by omega)) kN_X3_92 ⟨Nat.le_of_ble_eq_true rfl, Nat.le_of_ble_eq_true rfl⟩ (gP_nil) hK rfl hl.1 rfl (Nat.le_of_ble_eq_true rfl) dX3_sail_51 ⟨Nat.le_of_ble_eq_true rfl, Nat.le_of_ble_eq_true rfl⟩ 54 rfl ?_
      refine z_top (b := .int (iI (golZ v b d n))) rfl ?_
      refine z_is C hl dX3_sail_54 56 rfl (by decide) (lv' := [(6, .int (iI (golZ v b d n))), (5, .int (iI (reaZ v b d n false))), (4, .int (iI (errZ v b d n))), (0, .ref (r)), (1, .int (iI (b))), (2, .int (iI (d))), (3, .int (iI (n)))]) rfl (fun ls hl => ?_)
      refine z_al_n C hl dX3_sail_56 3 rfl 57 rfl ?_
      refine z_al_n C hl dX3_sail_57 3 rfl 58 rfl ?_
      refine z_get C hW.1 hK fl_X3_9 0 rfl rfl dX3_sail_58 61 rfl ?_
      refine z_il C hl dX3_sail_61 0 rfl 63 rfl ?_
      refine z_VR (r := .int (iI (batZ v (golZ v b d n)))) (rest := [.ref (r)]) C (m_boatAt l G q v (golZ v b d n) w (by omega)) kV_X3_49 ⟨Nat.le_of_ble_eq_true rfl, Nat.le_of_ble_eq_true rfl⟩ (gP_rg hW.1 [1] rfl) hK 0 rfl rfl rfl hl.1 rfl (Nat.le_of_ble_eq_true rfl) dX3_sail_63 ⟨Nat.le_of_ble_eq_true rfl, Nat.le_of_ble_eq_true rfl⟩ 66 rfl ?_
      have r63 := batZ_rng w (golZ v b d n)
      refine z_VWi (r := .int (iI (ramR v (batZ v (golZ v b d n))))) (rest := []) C (m_ram l G r q v (batZ v (golZ v b d n)) w (by omega) (gD_rg hW.2.1 [0, 1] (by decide) rfl)) kV_X3_95 ⟨Nat.le_of_ble_eq_true rfl, Nat.le_of_ble_eq_true rfl⟩ hW hK [0, 1] rfl (sameA_of rfl) 0 rfl rfl rfl hl.1 rfl (Nat.le_of_ble_eq_true rfl) dX3_sail_66 ⟨Nat.le_of_ble_eq_true rfl, Nat.le_of_ble_eq_true rfl⟩ 69 rfl (rs' := [[(r, .inr (3, [.ref (q 0)]))], stW G q (ramV v (batZ v (golZ v b d n)))]) rfl (fun H locs hW hkeep => ?_)
      obtain ⟨u, hu⟩ : ∃ u, u = ramV v (batZ v (golZ v b d n)) := ⟨_, rfl⟩
      rw [← hu] at hW
      have wu : Wf u := by rw [hu]; exact w.ram _ (by omega)
      have eu : ∀ j : Int, j ≠ 128 → j ≠ 74 + 5 * batZ v (golZ v b d n) → u j = v j := fun j h1 h2 => by rw [hu]; exact ramV_o h1 h2
      have ob : batZ v (golZ v b d n) ≠ b := by rintro e9; have h8 := r63.resolve_left (by omega); have h7 := gol_ne hd hn c29; rw [e9] at h8; omega
      refine z_is C hl dX3_sail_69 71 rfl (by decide) (lv' := [(7, .int (iI (ramR v (batZ v (golZ v b d n))))), (6, .int (iI (golZ v b d n))), (5, .int (iI (reaZ v b d n false))), (4, .int (iI (errZ v b d n))), (0, .ref (r)), (1, .int (iI (b))), (2, .int (iI (d))), (3, .int (iI (n)))]) rfl (fun ls hl => ?_)
      refine z_al_n C hl dX3_sail_71 4 rfl 72 rfl ?_
      refine z_get C hW.1 hK fl_X3_9 0 rfl rfl dX3_sail_72 75 rfl ?_
      refine z_getN C hW.1 hK fl_X3_68 1 rfl rfl dX3_sail_75 78 rfl ?_
      refine z_il_n C hl dX3_sail_78 5 rfl 79 rfl ?_
      refine z_al_n C hl dX3_sail_79 4 rfl 80 rfl ?_
      refine z_get C hW.1 hK fl_X3_9 0 rfl rfl dX3_sail_80 83 rfl ?_
      refine z_getN C hW.1 hK fl_X3_68 1 rfl rfl dX3_sail_83 86 rfl ?_
      refine z_il_n C hl dX3_sail_86 5 rfl 87 rfl ?_
      refine z_NR (r := .int (iI (v (76 + 5 * b)))) (rest := [.int (iI (b)), .ref (q 7)]) C (m_rd l G (q 7) 10 (fun k => u (76 + 5 * k)) (b) (v (76 + 5 * b)) (by decide) (by omega) (eu _ (by omega) (by omega))) kN_X3_32 ⟨Nat.le_of_ble_eq_true rfl, Nat.le_of_ble_eq_true rfl⟩ (gP_c hW.1 8 rfl) hK rfl hl.1 rfl (Nat.le_of_ble_eq_true rfl) dX3_sail_87 ⟨Nat.le_of_ble_eq_true rfl, Nat.le_of_ble_eq_true rfl⟩ 90 rfl ?_
      refine z_il_n C hl dX3_sail_90 7 rfl 91 rfl ?_
      refine z_iadd C dX3_sail_91 92 rfl (n + v (76 + 5 * b)) (by omega) ?_
      refine z_NWc C (x := arI G (q 7) 10 (fun k => u (76 + 5 * k))) (x' := arI G (q 7) 10 (updZ (fun k => u (76 + 5 * k)) b (n + v (76 + 5 * b)))) (rest := []) (m_wr l G (q 7) 10 (fun k => u (76 + 5 * k)) (b) (n + v (76 + 5 * b)) (by decide) (by omega) gD_1) kN_X3_39 ⟨Nat.le_of_ble_eq_true rfl, Nat.le_of_ble_eq_true rfl⟩ hW hK 8 rfl rfl rfl hl.1 rfl (Nat.le_of_ble_eq_true rfl) dX3_sail_92 ⟨Nat.le_of_ble_eq_true rfl, Nat.le_of_ble_eq_true rfl⟩ 95 rfl (rs' := [[(r, .inr (3, [.ref (q 0)]))], stW G q (updZ u (76 + 5 * b) (n + v (76 + 5 * b)))]) (⟨ceq.rf, stw_a7 (by omega)⟩) (fun H locs hW => ?_)
      refine z_al_n C hl dX3_sail_95 4 rfl 96 rfl ?_
      refine z_get C hW.1 hK fl_X3_9 0 rfl rfl dX3_sail_96 99 rfl ?_
      refine z_getN C hW.1 hK fl_X3_65 1 rfl rfl dX3_sail_99 102 rfl ?_
      refine z_il_n C hl dX3_sail_102 5 rfl 103 rfl ?_
      refine z_il C hl dX3_sail_103 1 rfl 105 rfl ?_
      refine z_NWc C (x := arI G (q 6) 10 (fun k => updZ u (76 + 5 * b) (n + v (76 + 5 * b)) (75 + 5 * k))) (x' := arI G (q 6) 10 (updZ (fun k => updZ u (76 + 5 * b) (n + v (76 + 5 * b)) (75 + 5 * k)) b (golZ v b d n))) (rest := []) (m_wr l G (q 6) 10 (fun k => updZ u (76 + 5 * b) (n + v (76 + 5 * b)) (75 + 5 * k)) (b) (golZ v b d n) (by decide) (by omega) gD_1) kN_X3_39 ⟨Nat.le_of_ble_eq_true rfl, Nat.le_of_ble_eq_true rfl⟩ hW hK 7 rfl rfl rfl hl.1 rfl (Nat.le_of_ble_eq_true rfl) dX3_sail_105 ⟨Nat.le_of_ble_eq_true rfl, Nat.le_of_ble_eq_true rfl⟩ 108 rfl (rs' := [[(r, .inr (3, [.ref (q 0)]))], stW G q (updZ (updZ u (76 + 5 * b) (n + v (76 + 5 * b))) (75 + 5 * b) (golZ v b d n))]) (⟨ceq.rf, stw_a6 (by omega)⟩) (fun H locs hW => ?_)
      refine z_il C hl dX3_sail_108 1 rfl 110 rfl ?_
      refine z_al_n C hl dX3_sail_110 4 rfl 111 rfl ?_
      refine z_get C hW.1 hK fl_X3_9 0 rfl rfl dX3_sail_111 114 rfl ?_
      refine z_getN C hW.1 hK fl_X3_56 1 rfl rfl dX3_sail_114 117 rfl ?_
      refine z_il_n C hl dX3_sail_117 5 rfl 118 rfl ?_
      refine z_NR (r := .int (iI (v (72 + 5 * b)))) (rest := [.int (iI (golZ v b d n))]) C (m_rd l G (q 3) 10 (fun k => updZ (updZ u (76 + 5 * b) (n + v (76 + 5 * b))) (75 + 5 * b) (golZ v b d n) (72 + 5 * k)) (b) (v (72 + 5 * b)) (by decide) (by omega) (by rw [updZ_n (by omega), updZ_n (by omega)]; exact eu _ (by omega) (by omega))) kN_X3_32 ⟨Nat.le_of_ble_eq_true rfl, Nat.le_of_ble_eq_true rfl⟩ (gP_c hW.1 4 rfl) hK rfl hl.1 rfl (Nat.le_of_ble_eq_true rfl) dX3_sail_118 ⟨Nat.le_of_ble_eq_true rfl, Nat.le_of_ble_eq_true rfl⟩ 121 rfl ?_
      refine z_NR (r := .int (iI (harZ (v (72 + 5 * b))))) (rest := [.int (iI (golZ v b d n))]) C (m_harbourOf l G (v (72 + 5 * b)) (by omega)) kN_X3_98 ⟨Nat.le_of_ble_eq_true rfl, Nat.le_of_ble_eq_true rfl⟩ (gP_nil) hK rfl hl.1 rfl (Nat.le_of_ble_eq_true rfl) dX3_sail_121 ⟨Nat.le_of_ble_eq_true rfl, Nat.le_of_ble_eq_true rfl⟩ 124 rfl ?_
      have hh121 := harZ_rng (v (72 + 5 * b))
      refine z_icmp_ne C dX3_sail_124 139 127 (by decide) rfl (by omega) (fun c124 => ?_) (fun c124 => ?_)
      · skip
        have e74 : u (74 + 5 * b) = v (74 + 5 * b) := eu _ (by omega) (by omega)
        rw [show updZ (updZ u (76 + 5 * b) (n + v (76 + 5 * b))) (75 + 5 * b) (golZ v b d n) = mvV v b d n by unfold mvV; rw [if_neg c124, ← hu, updZ_id (k := 74 + 5 * b) (by rw [updZ_n (by omega), updZ_n (by omega)]; omega)]] at hW
        refine z_al_n C hl dX3_sail_139 4 rfl 140 rfl ?_
        refine z_VWv (rest := []) C (m_endTurn l G r q (mvV v b d n) wm (gD_rg hW.2.1 [0, 1] (by decide) rfl)) kV_X3_101 ⟨Nat.le_of_ble_eq_true rfl, Nat.le_of_ble_eq_true rfl⟩ hW hK [0, 1] rfl (sameA_of rfl) 0 rfl rfl rfl hl.1 rfl (Nat.le_of_ble_eq_true rfl) dX3_sail_140 ⟨Nat.le_of_ble_eq_true rfl, Nat.le_of_ble_eq_true rfl⟩ 143 rfl (rs' := [[(r, .inr (3, [.ref (q 0)]))], stW G q (pasV (mvV v b d n))]) rfl (fun H locs hW hkeep => ?_)
        refine z_il C hl dX3_sail_143 0 rfl 145 rfl ?_
        have hr := saiR_k c11 c29
        have hr2 := ramR_rng w (batZ v (golZ v b d n)) (by omega)
        have hv : saiV v b d n = pasV (mvV v b d n) := by unfold saiV; exact if_pos (by rw [hr]; omega)
        rw [hr, hv]
        exact z_wi C hW dX3_sail_145 rfl rfl
      · skip
        refine z_al_n C hl dX3_sail_127 4 rfl 128 rfl ?_
        refine z_get C hW.1 hK fl_X3_9 0 rfl rfl dX3_sail_128 131 rfl ?_
        refine z_getN C hW.1 hK fl_X3_62 1 rfl rfl dX3_sail_131 134 rfl ?_
        refine z_il_n C hl dX3_sail_134 5 rfl 135 rfl ?_
        refine z_iconst C dX3_sail_135 136 rfl ?_
        refine z_NWc C (x := arI G (q 5) 10 (fun k => updZ (updZ u (76 + 5 * b) (n + v (76 + 5 * b))) (75 + 5 * b) (golZ v b d n) (74 + 5 * k))) (x' := arI G (q 5) 10 (updZ (fun k => updZ (updZ u (76 + 5 * b) (n + v (76 + 5 * b))) (75 + 5 * b) (golZ v b d n) (74 + 5 * k)) b 1)) (rest := []) (m_wr l G (q 5) 10 (fun k => updZ (updZ u (76 + 5 * b) (n + v (76 + 5 * b))) (75 + 5 * b) (golZ v b d n) (74 + 5 * k)) (b) (1) (by decide) (by omega) gD_1) kN_X3_39 ⟨Nat.le_of_ble_eq_true rfl, Nat.le_of_ble_eq_true rfl⟩ hW hK 6 rfl rfl rfl hl.1 rfl (Nat.le_of_ble_eq_true rfl) dX3_sail_136 ⟨Nat.le_of_ble_eq_true rfl, Nat.le_of_ble_eq_true rfl⟩ 139 rfl (rs' := [[(r, .inr (3, [.ref (q 0)]))], stW G q (updZ (updZ (updZ u (76 + 5 * b) (n + v (76 + 5 * b))) (75 + 5 * b) (golZ v b d n)) (74 + 5 * b) 1)]) (⟨ceq.rf, stw_a5 (by omega)⟩) (fun H locs hW => ?_)
        rw [show updZ (updZ (updZ u (76 + 5 * b) (n + v (76 + 5 * b))) (75 + 5 * b) (golZ v b d n)) (74 + 5 * b) 1 = mvV v b d n by unfold mvV; rw [if_pos c124, ← hu]] at hW
        refine z_al_n C hl dX3_sail_139 4 rfl 140 rfl ?_
        refine z_VWv (rest := []) C (m_endTurn l G r q (mvV v b d n) wm (gD_rg hW.2.1 [0, 1] (by decide) rfl)) kV_X3_101 ⟨Nat.le_of_ble_eq_true rfl, Nat.le_of_ble_eq_true rfl⟩ hW hK [0, 1] rfl (sameA_of rfl) 0 rfl rfl rfl hl.1 rfl (Nat.le_of_ble_eq_true rfl) dX3_sail_140 ⟨Nat.le_of_ble_eq_true rfl, Nat.le_of_ble_eq_true rfl⟩ 143 rfl (rs' := [[(r, .inr (3, [.ref (q 0)]))], stW G q (pasV (mvV v b d n))]) rfl (fun H locs hW hkeep => ?_)
        refine z_il C hl dX3_sail_143 0 rfl 145 rfl ?_
        have hr := saiR_k c11 c29
        have hr2 := ramR_rng w (batZ v (golZ v b d n)) (by omega)
        have hv : saiV v b d n = pasV (mvV v b d n) := by unfold saiV; exact if_pos (by rw [hr]; omega)
        rw [hr, hv]
        exact z_wi C hW dX3_sail_145 rfl rfl
    · skip
      refine z_bipush C dX3_sail_32 (by decide) 34 rfl ?_
      refine z_il C hl dX3_sail_34 0 rfl 36 rfl ?_
      refine z_isub C dX3_sail_36 37 rfl (-10 - reaZ v b d n false) (by omega) ?_
      have hr := saiR_r c11 c29
      have hr2 := reaZ_rng v b d n false
      have hv : saiV v b d n = v := by unfold saiV; exact if_neg (by rw [hr]; omega)
      rw [hr, hv]
      exact z_wi C hW dX3_sail_37 rfl rfl
  · skip
    refine z_il C hl dX3_sail_14 0 rfl 16 rfl ?_
    have hr := (saiR_e c11).1
    have hr2 := (saiR_e c11).2
    have hv : saiV v b d n = v := by unfold saiV; exact if_neg (by rw [hr]; omega)
    rw [hr, hv]
    exact z_wi C hW dX3_sail_16 rfl rfl
