set_option maxHeartbeats 4000000 in
set_option maxRecDepth 100000 in
theorem m_rdL (l : Launch) (G : gT) (E : eT) (i : Int) (hi : 0 ≤ i ∧ i < 4) : MR l G yX5_read cX5_read 2 (some .int) 0 [.ref (E.2.2.1), .int (iI (i))] [] (ZR E) (.int (iI (lstZ i))) := by
  refine enterR (own := RX5) (by decide +kernel) rfl (Nat.le_of_ble_eq_true rfl) ?_
  intro p e s m below meth c C hP hK hZ ls hl
  have hl : lv_has ls 2 [(0, .ref (E.2.2.1)), (1, .int (iI (i)))] := hl
  refine z_il_n C hl dX5_read_0 1 rfl 1 rfl ?_
  refine z_if_lt C dX5_read_1 16 4 (by decide) rfl (by omega) (fun c1 => ?_) (fun c1 => ?_)
  · exfalso; omega
  · skip
    refine z_il_n C hl dX5_read_4 1 rfl 5 rfl ?_
    refine z_al_n C hl dX5_read_5 0 rfl 6 rfl ?_
    refine z_tlen C hZ.2.2.2.2.1.2 va_S.rf dX5_read_6 7 rfl ?_
    refine z_icmp_ge C dX5_read_7 16 10 (by decide) rfl (by omega) (fun c7 => ?_) (fun c7 => ?_)
    · exfalso; omega
    · skip
      refine z_al_n C hl dX5_read_10 0 rfl 11 rfl ?_
      refine z_il_n C hl dX5_read_11 1 rfl 12 rfl ?_
      refine z_tint (f := lstZ) C hZ.2.2.2.2.1.2 va_S.rf (by omega) dX5_read_12 13 rfl ?_
      refine z_goto C dX5_read_13 17 (by decide) ?_
      exact z_ri C dX5_read_17 (rfl)

set_option maxHeartbeats 4000000 in
set_option maxRecDepth 100000 in
theorem m_rdM (l : Launch) (G : gT) (E : eT) (i : Int) (hi : 0 ≤ i ∧ i < 4) : MR l G yX5_read cX5_read 2 (some .int) 0 [.ref (E.2.2.2), .int (iI (i))] [] (ZR E) (.int (iI (mstZ i))) := by
  refine enterR (own := RX5) (by decide +kernel) rfl (Nat.le_of_ble_eq_true rfl) ?_
  intro p e s m below meth c C hP hK hZ ls hl
  have hl : lv_has ls 2 [(0, .ref (E.2.2.2)), (1, .int (iI (i)))] := hl
  refine z_il_n C hl dX5_read_0 1 rfl 1 rfl ?_
  refine z_if_lt C dX5_read_1 16 4 (by decide) rfl (by omega) (fun c1 => ?_) (fun c1 => ?_)
  · exfalso; omega
  · skip
    refine z_il_n C hl dX5_read_4 1 rfl 5 rfl ?_
    refine z_al_n C hl dX5_read_5 0 rfl 6 rfl ?_
    refine z_tlen C hZ.2.2.2.2.2.2 va_S.rf dX5_read_6 7 rfl ?_
    refine z_icmp_ge C dX5_read_7 16 10 (by decide) rfl (by omega) (fun c7 => ?_) (fun c7 => ?_)
    · exfalso; omega
    · skip
      refine z_al_n C hl dX5_read_10 0 rfl 11 rfl ?_
      refine z_il_n C hl dX5_read_11 1 rfl 12 rfl ?_
      refine z_tint (f := mstZ) C hZ.2.2.2.2.2.2 va_S.rf (by omega) dX5_read_12 13 rfl ?_
      refine z_goto C dX5_read_13 17 (by decide) ?_
      exact z_ri C dX5_read_17 (rfl)

set_option maxHeartbeats 4000000 in
set_option maxRecDepth 100000 in
theorem m_changeSetting (l : Launch) (G : gT) (E : eT) (r : Nat) (q : Nat → Nat) (v : Int → Int) (k x : Int) (w : Wf v) (hk : -2147483648 ≤ k ∧ k < 2147483648) (hx : -2147483648 ≤ x ∧ x < 2147483648) (hD : gD ([[(r, .inr (3, [.ref (q 0)]))], stW G q v] : List va_W).flatten) : MW l G yX3_changeSetting cX3_changeSetting 4 (some .int) 1 [.ref (r), .int (iI (k)), .int (iI (x))] [[(r, .inr (3, [.ref (q 0)]))], stW G q v] [[(r, .inr (3, [.ref (q 0)]))], stW G q (chsV v k x)] (ZW E [[(r, .inr (3, [.ref (q 0)]))], stW G q v]) (some (.int (iI (chsR v k x)))) := by
  refine enterW (own := RX3) (by decide +kernel) rfl (Nat.le_of_ble_eq_true rfl) hD ?_
  intro p e s m below meth c C hW hK hZ ls hl
  have hl : lv_has ls 4 [(0, .ref (r)), (1, .int (iI (k))), (2, .int (iI (x)))] := hl
  have ht := w.t
  have hs := w.s
  refine z_il_n C hl dX3_changeSetting_0 1 rfl 1 rfl ?_
  refine z_if_lt C dX3_changeSetting_1 9 4 (by decide) rfl (by omega) (fun c1 => ?_) (fun c1 => ?_)
  · skip
    refine z_bipush C dX3_changeSetting_9 (by decide) 11 rfl ?_
    have hr : chsR v k x = -2 := by unfold chsR; (repeat' split) <;> first | rfl | omega | (exfalso; omega)
    have hv : chsV v k x = v := by unfold chsV; exact if_neg (by rw [hr]; omega)
    rw [hr, hv]
    exact z_wi C hW dX3_changeSetting_11 rfl rfl
  · skip
    refine z_il_n C hl dX3_changeSetting_4 1 rfl 5 rfl ?_
    refine z_iconst C dX3_changeSetting_5 6 rfl ?_
    refine z_icmp_lt C dX3_changeSetting_6 12 9 (by decide) rfl (by omega) (fun c6 => ?_) (fun c6 => ?_)
    · skip
      refine z_il_n C hl dX3_changeSetting_12 2 rfl 13 rfl ?_
      refine z_gsL C hK hZ hW.2.2.2 qn271 dX3_changeSetting_13 16 rfl ?_
      refine z_il_n C hl dX3_changeSetting_16 1 rfl 17 rfl ?_
      refine z_NRz (r := .int (iI (lstZ k))) (rest := [.int (iI (x))]) C (m_rdL l G E k (by omega)) kN_X3_32 ⟨Nat.le_of_ble_eq_true rfl, Nat.le_of_ble_eq_true rfl⟩ (gP_nil) hK zr_blind (zr_of hZ hW.2.2.2) rfl hl.1 rfl (Nat.le_of_ble_eq_true rfl) dX3_changeSetting_17 ⟨Nat.le_of_ble_eq_true rfl, Nat.le_of_ble_eq_true rfl⟩ 20 rfl ?_
      have t17 := lst_rng k
      refine z_icmp_lt C dX3_changeSetting_20 34 23 (by decide) rfl (by omega) (fun c20 => ?_) (fun c20 => ?_)
      · skip
        refine z_bipush C dX3_changeSetting_34 (by decide) 36 rfl ?_
        have hr : chsR v k x = -2 := by unfold chsR; (repeat' split) <;> first | rfl | omega | (exfalso; omega)
        have hv : chsV v k x = v := by unfold chsV; exact if_neg (by rw [hr]; omega)
        rw [hr, hv]
        exact z_wi C hW dX3_changeSetting_36 rfl rfl
      · skip
        refine z_il_n C hl dX3_changeSetting_23 2 rfl 24 rfl ?_
        refine z_gsM C hK hZ hW.2.2.2 qn273 dX3_changeSetting_24 27 rfl ?_
        refine z_il_n C hl dX3_changeSetting_27 1 rfl 28 rfl ?_
        refine z_NRz (r := .int (iI (mstZ k))) (rest := [.int (iI (x))]) C (m_rdM l G E k (by omega)) kN_X3_32 ⟨Nat.le_of_ble_eq_true rfl, Nat.le_of_ble_eq_true rfl⟩ (gP_nil) hK zr_blind (zr_of hZ hW.2.2.2) rfl hl.1 rfl (Nat.le_of_ble_eq_true rfl) dX3_changeSetting_28 ⟨Nat.le_of_ble_eq_true rfl, Nat.le_of_ble_eq_true rfl⟩ 31 rfl ?_
        have t28 := mst_rng k
        refine z_icmp_le C dX3_changeSetting_31 37 34 (by decide) rfl (by omega) (fun c31 => ?_) (fun c31 => ?_)
        · skip
          refine z_al_n C hl dX3_changeSetting_37 0 rfl 38 rfl ?_
          refine z_get C hW.1 hK fl_X3_9 0 rfl rfl dX3_changeSetting_38 41 rfl ?_
          refine z_getN C hW.1 hK fl_X3_22 1 rfl rfl dX3_changeSetting_41 44 rfl ?_
          refine z_if_eq C dX3_changeSetting_44 50 47 (by decide) rfl (by omega) (fun c44 => ?_) (fun c44 => ?_)
          · skip
            refine z_al_n C hl dX3_changeSetting_50 0 rfl 51 rfl ?_
            refine z_get C hW.1 hK fl_X3_9 0 rfl rfl dX3_changeSetting_51 54 rfl ?_
            refine z_il_n C hl dX3_changeSetting_54 1 rfl 55 rfl ?_
            refine z_VR (r := .int (iI (setZ v k))) (rest := []) C (m_settingOf l G q v k w (by omega)) kV_X3_77 ⟨Nat.le_of_ble_eq_true rfl, Nat.le_of_ble_eq_true rfl⟩ (gP_rg hW.1 [1] rfl) hK 0 rfl rfl rfl hl.1 rfl (Nat.le_of_ble_eq_true rfl) dX3_changeSetting_55 ⟨Nat.le_of_ble_eq_true rfl, Nat.le_of_ble_eq_true rfl⟩ 58 rfl ?_
            refine z_is_n C hl dX3_changeSetting_58 59 rfl (by decide) (lv' := [(3, .int (iI (setZ v k))), (0, .ref (r)), (1, .int (iI (k))), (2, .int (iI (x)))]) rfl (fun ls hl => ?_)
            refine z_il_n C hl dX3_changeSetting_59 0 rfl 60 rfl ?_
            refine z_il_n C hl dX3_changeSetting_60 3 rfl 61 rfl ?_
            refine z_icmp_ne C dX3_changeSetting_61 67 64 (by decide) rfl (by unfold setZ; (repeat' split) <;> omega) (fun c61 => ?_) (fun c61 => ?_)
            · skip
              refine z_al_n C hl dX3_changeSetting_67 1 rfl 68 rfl ?_
              refine z_get C hW.1 hK fl_X3_9 0 rfl rfl dX3_changeSetting_68 71 rfl ?_
              refine z_il_n C hl dX3_changeSetting_71 2 rfl 72 rfl ?_
              refine z_il_n C hl dX3_changeSetting_72 3 rfl 73 rfl ?_
              refine z_VWv (rest := []) C (m_changeSettingS l G q v k x w (by omega) (gD_rg hW.2.1 [1] (by decide) rfl)) kV_X3_80 ⟨Nat.le_of_ble_eq_true rfl, Nat.le_of_ble_eq_true rfl⟩ hW hK [1] rfl (sameA_of rfl) 0 rfl rfl rfl hl.1 rfl (Nat.le_of_ble_eq_true rfl) dX3_changeSetting_73 ⟨Nat.le_of_ble_eq_true rfl, Nat.le_of_ble_eq_true rfl⟩ 76 rfl (rs' := [[(r, .inr (3, [.ref (q 0)]))], stW G q (updZ v (122 + k) x)]) rfl (fun H locs hW hkeep => ?_)
              refine z_il_n C hl dX3_changeSetting_76 0 rfl 77 rfl ?_
              have hr : chsR v k x = setZ v k := by unfold chsR; (repeat' split) <;> first | rfl | omega | (exfalso; omega)
              have hv : chsV v k x = (updZ v (122 + k) x) := by unfold chsV; rw [if_pos (by rw [hr]; unfold setZ; (repeat' split) <;> omega)]
              rw [hr, hv]
              exact z_wi C hW dX3_changeSetting_77 rfl rfl
            · skip
              refine z_bipush C dX3_changeSetting_64 (by decide) 66 rfl ?_
              have hr : chsR v k x = -5 := by unfold chsR; (repeat' split) <;> first | rfl | omega | (exfalso; omega)
              have hv : chsV v k x = v := by unfold chsV; exact if_neg (by rw [hr]; omega)
              rw [hr, hv]
              exact z_wi C hW dX3_changeSetting_66 rfl rfl
          · skip
            refine z_bipush C dX3_changeSetting_47 (by decide) 49 rfl ?_
            have hr : chsR v k x = -4 := by unfold chsR; (repeat' split) <;> first | rfl | omega | (exfalso; omega)
            have hv : chsV v k x = v := by unfold chsV; exact if_neg (by rw [hr]; omega)
            rw [hr, hv]
            exact z_wi C hW dX3_changeSetting_49 rfl rfl
        · skip
          refine z_bipush C dX3_changeSetting_34 (by decide) 36 rfl ?_
          have hr : chsR v k x = -2 := by unfold chsR; (repeat' split) <;> first | rfl | omega | (exfalso; omega)
          have hv : chsV v k x = v := by unfold chsV; exact if_neg (by rw [hr]; omega)
          rw [hr, hv]
          exact z_wi C hW dX3_changeSetting_36 rfl rfl
    · skip
      refine z_bipush C dX3_changeSetting_9 (by decide) 11 rfl ?_
      have hr : chsR v k x = -2 := by unfold chsR; (repeat' split) <;> first | rfl | omega | (exfalso; omega)
      have hv : chsV v k x = v := by unfold chsV; exact if_neg (by rw [hr]; omega)
      rw [hr, hv]
      exact z_wi C hW dX3_changeSetting_11 rfl rfl
