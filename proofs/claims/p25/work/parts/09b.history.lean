set_option maxHeartbeats 4000000 in
set_option maxRecDepth 100000 in
theorem m_copyFrom (l : Launch) (G : gT) (qa qb : Nat → Nat) (va vb : Int → Int)  (hD : gD ([stW G qa va, stW G qb vb] : List va_W).flatten) : MW l G yX4_copyFrom cX4_copyFrom 2 (none) 1 [.ref (qa 0), .ref (qb 0)] [stW G qa va, stW G qb vb] [stW G qa vb, stW G qb vb] ZT none := by
  refine enterW (own := RX4) (by decide +kernel) rfl (Nat.le_of_ble_eq_true rfl) hD ?_
  intro p e s m below meth c C hW hK hZ ls hl
  have hl : lv_has ls 2 [(0, .ref (qa 0)), (1, .ref (qb 0))] := hl
  have hW := hW.re (rs' := [[(qa 0, .inr (4, [.ref (qa 1), .ref (qa 2), .ref (qa 3), .ref (qa 4), .ref (qa 5), .ref (qa 6), .ref (qa 7), .int (iI (va 127)), .int (iI (va 128)), .int (iI (va 126)), .int (iI (va 122)), .int (iI (va 123)), .int (iI (va 124)), .int (iI (va 125))]))], [arI G (qa 1) 36 (fun k => va k)], [arI G (qa 2) 36 (fun k => va (36 + k))], [arI G (qa 3) 10 (fun k => va (72 + 5 * k))], [arI G (qa 4) 10 (fun k => va (73 + 5 * k))], [arI G (qa 5) 10 (fun k => va (74 + 5 * k))], [arI G (qa 6) 10 (fun k => va (75 + 5 * k))], [arI G (qa 7) 10 (fun k => va (76 + 5 * k))], [(qb 0, .inr (4, [.ref (qb 1), .ref (qb 2), .ref (qb 3), .ref (qb 4), .ref (qb 5), .ref (qb 6), .ref (qb 7), .int (iI (vb 127)), .int (iI (vb 128)), .int (iI (vb 126)), .int (iI (vb 122)), .int (iI (vb 123)), .int (iI (vb 124)), .int (iI (vb 125))]))], [arI G (qb 1) 36 (fun k => vb k)], [arI G (qb 2) 36 (fun k => vb (36 + k))], [arI G (qb 3) 10 (fun k => vb (72 + 5 * k))], [arI G (qb 4) 10 (fun k => vb (73 + 5 * k))], [arI G (qb 5) 10 (fun k => vb (74 + 5 * k))], [arI G (qb 6) 10 (fun k => vb (75 + 5 * k))], [arI G (qb 7) 10 (fun k => vb (76 + 5 * k))]]) rfl
  refine z_al_n C hl dX4_copyFrom_0 1 rfl 1 rfl ?_
  refine z_get C hW.1 hK fl_X4_9 8 rfl rfl dX4_copyFrom_1 4 rfl ?_
  refine z_al_n C hl dX4_copyFrom_4 0 rfl 5 rfl ?_
  refine z_get C hW.1 hK fl_X4_9 0 rfl rfl dX4_copyFrom_5 8 rfl ?_
  refine z_NWv (rest := []) C (m_cp l G (qb 1) (qa 1) 36 (fun k => vb k) (fun k => va k) (by decide) (gD_rg hW.2.1 [9, 1] (by decide) rfl)) kN_X4_54 ⟨Nat.le_of_ble_eq_true rfl, Nat.le_of_ble_eq_true rfl⟩ hW hK [9, 1] rfl (sameA_of rfl) rfl hl.1 rfl (Nat.le_of_ble_eq_true rfl) dX4_copyFrom_8 ⟨Nat.le_of_ble_eq_true rfl, Nat.le_of_ble_eq_true rfl⟩ 11 rfl (rs' := [[(qa 0, .inr (4, [.ref (qa 1), .ref (qa 2), .ref (qa 3), .ref (qa 4), .ref (qa 5), .ref (qa 6), .ref (qa 7), .int (iI (va 127)), .int (iI (va 128)), .int (iI (va 126)), .int (iI (va 122)), .int (iI (va 123)), .int (iI (va 124)), .int (iI (va 125))]))], [arI G (qa 1) 36 (fun k => vb k)], [arI G (qa 2) 36 (fun k => va (36 + k))], [arI G (qa 3) 10 (fun k => va (72 + 5 * k))], [arI G (qa 4) 10 (fun k => va (73 + 5 * k))], [arI G (qa 5) 10 (fun k => va (74 + 5 * k))], [arI G (qa 6) 10 (fun k => va (75 + 5 * k))], [arI G (qa 7) 10 (fun k => va (76 + 5 * k))], [(qb 0, .inr (4, [.ref (qb 1), .ref (qb 2), .ref (qb 3), .ref (qb 4), .ref (qb 5), .ref (qb 6), .ref (qb 7), .int (iI (vb 127)), .int (iI (vb 128)), .int (iI (vb 126)), .int (iI (vb 122)), .int (iI (vb 123)), .int (iI (vb 124)), .int (iI (vb 125))]))], [arI G (qb 1) 36 (fun k => vb k)], [arI G (qb 2) 36 (fun k => vb (36 + k))], [arI G (qb 3) 10 (fun k => vb (72 + 5 * k))], [arI G (qb 4) 10 (fun k => vb (73 + 5 * k))], [arI G (qb 5) 10 (fun k => vb (74 + 5 * k))], [arI G (qb 6) 10 (fun k => vb (75 + 5 * k))], [arI G (qb 7) 10 (fun k => vb (76 + 5 * k))]]) rfl (fun H locs hW hkeep => ?_)
  refine z_al_n C hl dX4_copyFrom_11 1 rfl 12 rfl ?_
  refine z_get C hW.1 hK fl_X4_15 8 rfl rfl dX4_copyFrom_12 15 rfl ?_
  refine z_al_n C hl dX4_copyFrom_15 0 rfl 16 rfl ?_
  refine z_get C hW.1 hK fl_X4_15 0 rfl rfl dX4_copyFrom_16 19 rfl ?_
  refine z_NWv (rest := []) C (m_cp l G (qb 2) (qa 2) 36 (fun k => vb (36 + k)) (fun k => va (36 + k)) (by decide) (gD_rg hW.2.1 [10, 2] (by decide) rfl)) kN_X4_54 ⟨Nat.le_of_ble_eq_true rfl, Nat.le_of_ble_eq_true rfl⟩ hW hK [10, 2] rfl (sameA_of rfl) rfl hl.1 rfl (Nat.le_of_ble_eq_true rfl) dX4_copyFrom_19 ⟨Nat.le_of_ble_eq_true rfl, Nat.le_of_ble_eq_true rfl⟩ 22 rfl (rs' := [[(qa 0, .inr (4, [.ref (qa 1), .ref (qa 2), .ref (qa 3), .ref (qa 4), .ref (qa 5), .ref (qa 6), .ref (qa 7), .int (iI (va 127)), .int (iI (va 128)), .int (iI (va 126)), .int (iI (va 122)), .int (iI (va 123)), .int (iI (va 124)), .int (iI (va 125))]))], [arI G (qa 1) 36 (fun k => vb k)], [arI G (qa 2) 36 (fun k => vb (36 + k))], [arI G (qa 3) 10 (fun k => va (72 + 5 * k))], [arI G (qa 4) 10 (fun k => va (73 + 5 * k))], [arI G (qa 5) 10 (fun k => va (74 + 5 * k))], [arI G (qa 6) 10 (fun k => va (75 + 5 * k))], [arI G (qa 7) 10 (fun k => va (76 + 5 * k))], [(qb 0, .inr (4, [.ref (qb 1), .ref (qb 2), .ref (qb 3), .ref (qb 4), .ref (qb 5), .ref (qb 6), .ref (qb 7), .int (iI (vb 127)), .int (iI (vb 128)), .int (iI (vb 126)), .int (iI (vb 122)), .int (iI (vb 123)), .int (iI (vb 124)), .int (iI (vb 125))]))], [arI G (qb 1) 36 (fun k => vb k)], [arI G (qb 2) 36 (fun k => vb (36 + k))], [arI G (qb 3) 10 (fun k => vb (72 + 5 * k))], [arI G (qb 4) 10 (fun k => vb (73 + 5 * k))], [arI G (qb 5) 10 (fun k => vb (74 + 5 * k))], [arI G (qb 6) 10 (fun k => vb (75 + 5 * k))], [arI G (qb 7) 10 (fun k => vb (76 + 5 * k))]]) rfl (fun H locs hW hkeep => ?_)
  refine z_al_n C hl dX4_copyFrom_22 1 rfl 23 rfl ?_
  refine z_get C hW.1 hK fl_X4_18 8 rfl rfl dX4_copyFrom_23 26 rfl ?_
  refine z_al_n C hl dX4_copyFrom_26 0 rfl 27 rfl ?_
  refine z_get C hW.1 hK fl_X4_18 0 rfl rfl dX4_copyFrom_27 30 rfl ?_
  refine z_NWv (rest := []) C (m_cp l G (qb 3) (qa 3) 10 (fun k => vb (72 + 5 * k)) (fun k => va (72 + 5 * k)) (by decide) (gD_rg hW.2.1 [11, 3] (by decide) rfl)) kN_X4_54 ⟨Nat.le_of_ble_eq_true rfl, Nat.le_of_ble_eq_true rfl⟩ hW hK [11, 3] rfl (sameA_of rfl) rfl hl.1 rfl (Nat.le_of_ble_eq_true rfl) dX4_copyFrom_30 ⟨Nat.le_of_ble_eq_true rfl, Nat.le_of_ble_eq_true rfl⟩ 33 rfl (rs' := [[(qa 0, .inr (4, [.ref (qa 1), .ref (qa 2), .ref (qa 3), .ref (qa 4), .ref (qa 5), .ref (qa 6), .ref (qa 7), .int (iI (va 127)), .int (iI (va 128)), .int (iI (va 126)), .int (iI (va 122)), .int (iI (va 123)), .int (iI (va 124)), .int (iI (va 125))]))], [arI G (qa 1) 36 (fun k => vb k)], [arI G (qa 2) 36 (fun k => vb (36 + k))], [arI G (qa 3) 10 (fun k => vb (72 + 5 * k))], [arI G (qa 4) 10 (fun k => va (73 + 5 * k))], [arI G (qa 5) 10 (fun k => va (74 + 5 * k))], [arI G (qa 6) 10 (fun k => va (75 + 5 * k))], [arI G (qa 7) 10 (fun k => va (76 + 5 * k))], [(qb 0, .inr (4, [.ref (qb 1), .ref (qb 2), .ref (qb 3), .ref (qb 4), .ref (qb 5), .ref (qb 6), .ref (qb 7), .int (iI (vb 127)), .int (iI (vb 128)), .int (iI (vb 126)), .int (iI (vb 122)), .int (iI (vb 123)), .int (iI (vb 124)), .int (iI (vb 125))]))], [arI G (qb 1) 36 (fun k => vb k)], [arI G (qb 2) 36 (fun k => vb (36 + k))], [arI G (qb 3) 10 (fun k => vb (72 + 5 * k))], [arI G (qb 4) 10 (fun k => vb (73 + 5 * k))], [arI G (qb 5) 10 (fun k => vb (74 + 5 * k))], [arI G (qb 6) 10 (fun k => vb (75 + 5 * k))], [arI G (qb 7) 10 (fun k => vb (76 + 5 * k))]]) rfl (fun H locs hW hkeep => ?_)
  refine z_al_n C hl dX4_copyFrom_33 1 rfl 34 rfl ?_
  refine z_get C hW.1 hK fl_X4_21 8 rfl rfl dX4_copyFrom_34 37 rfl ?_
  refine z_al_n C hl dX4_copyFrom_37 0 rfl 38 rfl ?_
  refine z_get C hW.1 hK fl_X4_21 0 rfl rfl dX4_copyFrom_38 41 rfl ?_
  refine z_NWv (rest := []) C (m_cp l G (qb 4) (qa 4) 10 (fun k => vb (73 + 5 * k)) (fun k => va (73 + 5 * k)) (by decide) (gD_rg hW.2.1 [12, 4] (by decide) rfl)) kN_X4_54 ⟨Nat.le_of_ble_eq_true rfl, Nat.le_of_ble_eq_true rfl⟩ hW hK [12, 4] rfl (sameA_of rfl) rfl hl.1 rfl (Nat.le_of_ble_eq_true rfl) dX4_copyFrom_41 ⟨Nat.le_of_ble_eq_true rfl, Nat.le_of_ble_eq_true rfl⟩ 44 rfl (rs' := [[(qa 0, .inr (4, [.ref (qa 1), .ref (qa 2), .ref (qa 3), .ref (qa 4), .ref (qa 5), .ref (qa 6), .ref (qa 7), .int (iI (va 127)), .int (iI (va 128)), .int (iI (va 126)), .int (iI (va 122)), .int (iI (va 123)), .int (iI (va 124)), .int (iI (va 125))]))], [arI G (qa 1) 36 (fun k => vb k)], [arI G (qa 2) 36 (fun k => vb (36 + k))], [arI G (qa 3) 10 (fun k => vb (72 + 5 * k))], [arI G (qa 4) 10 (fun k => vb (73 + 5 * k))], [arI G (qa 5) 10 (fun k => va (74 + 5 * k))], [arI G (qa 6) 10 (fun k => va (75 + 5 * k))], [arI G (qa 7) 10 (fun k => va (76 + 5 * k))], [(qb 0, .inr (4, [.ref (qb 1), .ref (qb 2), .ref (qb 3), .ref (qb 4), .ref (qb 5), .ref (qb 6), .ref (qb 7), .int (iI (vb 127)), .int (iI (vb 128)), .int (iI (vb 126)), .int (iI (vb 122)), .int (iI (vb 123)), .int (iI (vb 124)), .int (iI (vb 125))]))], [arI G (qb 1) 36 (fun k => vb k)], [arI G (qb 2) 36 (fun k => vb (36 + k))], [arI G (qb 3) 10 (fun k => vb (72 + 5 * k))], [arI G (qb 4) 10 (fun k => vb (73 + 5 * k))], [arI G (qb 5) 10 (fun k => vb (74 + 5 * k))], [arI G (qb 6) 10 (fun k => vb (75 + 5 * k))], [arI G (qb 7) 10 (fun k => vb (76 + 5 * k))]]) rfl (fun H locs hW hkeep => ?_)
  refine z_al_n C hl dX4_copyFrom_44 1 rfl 45 rfl ?_
  refine z_get C hW.1 hK fl_X4_24 8 rfl rfl dX4_copyFrom_45 48 rfl ?_
  refine z_al_n C hl dX4_copyFrom_48 0 rfl 49 rfl ?_
  refine z_get C hW.1 hK fl_X4_24 0 rfl rfl dX4_copyFrom_49 52 rfl ?_
  refine z_NWv (rest := []) C (m_cp l G (qb 5) (qa 5) 10 (fun k => vb (74 + 5 * k)) (fun k => va (74 + 5 * k)) (by decide) (gD_rg hW.2.1 [13, 5] (by decide) rfl)) kN_X4_54 ⟨Nat.le_of_ble_eq_true rfl, Nat.le_of_ble_eq_true rfl⟩ hW hK [13, 5] rfl (sameA_of rfl) rfl hl.1 rfl (Nat.le_of_ble_eq_true rfl) dX4_copyFrom_52 ⟨Nat.le_of_ble_eq_true rfl, Nat.le_of_ble_eq_true rfl⟩ 55 rfl (rs' := [[(qa 0, .inr (4, [.ref (qa 1), .ref (qa 2), .ref (qa 3), .ref (qa 4), .ref (qa 5), .ref (qa 6), .ref (qa 7), .int (iI (va 127)), .int (iI (va 128)), .int (iI (va 126)), .int (iI (va 122)), .int (iI (va 123)), .int (iI (va 124)), .int (iI (va 125))]))], [arI G (qa 1) 36 (fun k => vb k)], [arI G (qa 2) 36 (fun k => vb (36 + k))], [arI G (qa 3) 10 (fun k => vb (72 + 5 * k))], [arI G (qa 4) 10 (fun k => vb (73 + 5 * k))], [arI G (qa 5) 10 (fun k => vb (74 + 5 * k))], [arI G (qa 6) 10 (fun k => va (75 + 5 * k))], [arI G (qa 7) 10 (fun k => va (76 + 5 * k))], [(qb 0, .inr (4, [.ref (qb 1), .ref (qb 2), .ref (qb 3), .ref (qb 4), .ref (qb 5), .ref (qb 6), .ref (qb 7), .int (iI (vb 127)), .int (iI (vb 128)), .int (iI (vb 126)), .int (iI (vb 122)), .int (iI (vb 123)), .int (iI (vb 124)), .int (iI (vb 125))]))], [arI G (qb 1) 36 (fun k => vb k)], [arI G (qb 2) 36 (fun k => vb (36 + k))], [arI G (qb 3) 10 (fun k => vb (72 + 5 * k))], [arI G (qb 4) 10 (fun k => vb (73 + 5 * k))], [arI G (qb 5) 10 (fun k => vb (74 + 5 * k))], [arI G (qb 6) 10 (fun k => vb (75 + 5 * k))], [arI G (qb 7) 10 (fun k => vb (76 + 5 * k))]]) rfl (fun H locs hW hkeep => ?_)
  refine z_al_n C hl dX4_copyFrom_55 1 rfl 56 rfl ?_
  refine z_get C hW.1 hK fl_X4_27 8 rfl rfl dX4_copyFrom_56 59 rfl ?_
  refine z_al_n C hl dX4_copyFrom_59 0 rfl 60 rfl ?_
  refine z_get C hW.1 hK fl_X4_27 0 rfl rfl dX4_copyFrom_60 63 rfl ?_
  refine z_NWv (rest := []) C (m_cp l G (qb 6) (qa 6) 10 (fun k => vb (75 + 5 * k)) (fun k => va (75 + 5 * k)) (by decide) (gD_rg hW.2.1 [14, 6] (by decide) rfl)) kN_X4_54 ⟨Nat.le_of_ble_eq_true rfl, Nat.le_of_ble_eq_true rfl⟩ hW hK [14, 6] rfl (sameA_of rfl) rfl hl.1 rfl (Nat.le_of_ble_eq_true rfl) dX4_copyFrom_63 ⟨Nat.le_of_ble_eq_true rfl, Nat.le_of_ble_eq_true rfl⟩ 66 rfl (rs' := [[(qa 0, .inr (4, [.ref (qa 1), .ref (qa 2), .ref (qa 3), .ref (qa 4), .ref (qa 5), .ref (qa 6), .ref (qa 7), .int (iI (va 127)), .int (iI (va 128)), .int (iI (va 126)), .int (iI (va 122)), .int (iI (va 123)), .int (iI (va 124)), .int (iI (va 125))]))], [arI G (qa 1) 36 (fun k => vb k)], [arI G (qa 2) 36 (fun k => vb (36 + k))], [arI G (qa 3) 10 (fun k => vb (72 + 5 * k))], [arI G (qa 4) 10 (fun k => vb (73 + 5 * k))], [arI G (qa 5) 10 (fun k => vb (74 + 5 * k))], [arI G (qa 6) 10 (fun k => vb (75 + 5 * k))], [arI G (qa 7) 10 (fun k => va (76 + 5 * k))], [(qb 0, .inr (4, [.ref (qb 1), .ref (qb 2), .ref (qb 3), .ref (qb 4), .ref (qb 5), .ref (qb 6), .ref (qb 7), .int (iI (vb 127)), .int (iI (vb 128)), .int (iI (vb 126)), .int (iI (vb 122)), .int (iI (vb 123)), .int (iI (vb 124)), .int (iI (vb 125))]))], [arI G (qb 1) 36 (fun k => vb k)], [arI G (qb 2) 36 (fun k => vb (36 + k))], [arI G (qb 3) 10 (fun k => vb (72 + 5 * k))], [arI G (qb 4) 10 (fun k => vb (73 + 5 * k))], [arI G (qb 5) 10 (fun k => vb (74 + 5 * k))], [arI G (qb 6) 10 (fun k => vb (75 + 5 * k))], [arI G (qb 7) 10 (fun k => vb (76 + 5 * k))]]) rfl (fun H locs hW hkeep => ?_)
  refine z_al_n C hl dX4_copyFrom_66 1 rfl 67 rfl ?_
  refine z_get C hW.1 hK fl_X4_30 8 rfl rfl dX4_copyFrom_67 70 rfl ?_
  refine z_al_n C hl dX4_copyFrom_70 0 rfl 71 rfl ?_
  refine z_get C hW.1 hK fl_X4_30 0 rfl rfl dX4_copyFrom_71 74 rfl ?_
  refine z_NWv (rest := []) C (m_cp l G (qb 7) (qa 7) 10 (fun k => vb (76 + 5 * k)) (fun k => va (76 + 5 * k)) (by decide) (gD_rg hW.2.1 [15, 7] (by decide) rfl)) kN_X4_54 ⟨Nat.le_of_ble_eq_true rfl, Nat.le_of_ble_eq_true rfl⟩ hW hK [15, 7] rfl (sameA_of rfl) rfl hl.1 rfl (Nat.le_of_ble_eq_true rfl) dX4_copyFrom_74 ⟨Nat.le_of_ble_eq_true rfl, Nat.le_of_ble_eq_true rfl⟩ 77 rfl (rs' := [[(qa 0, .inr (4, [.ref (qa 1), .ref (qa 2), .ref (qa 3), .ref (qa 4), .ref (qa 5), .ref (qa 6), .ref (qa 7), .int (iI (va 127)), .int (iI (va 128)), .int (iI (va 126)), .int (iI (va 122)), .int (iI (va 123)), .int (iI (va 124)), .int (iI (va 125))]))], [arI G (qa 1) 36 (fun k => vb k)], [arI G (qa 2) 36 (fun k => vb (36 + k))], [arI G (qa 3) 10 (fun k => vb (72 + 5 * k))], [arI G (qa 4) 10 (fun k => vb (73 + 5 * k))], [arI G (qa 5) 10 (fun k => vb (74 + 5 * k))], [arI G (qa 6) 10 (fun k => vb (75 + 5 * k))], [arI G (qa 7) 10 (fun k => vb (76 + 5 * k))], [(qb 0, .inr (4, [.ref (qb 1), .ref (qb 2), .ref (qb 3), .ref (qb 4), .ref (qb 5), .ref (qb 6), .ref (qb 7), .int (iI (vb 127)), .int (iI (vb 128)), .int (iI (vb 126)), .int (iI (vb 122)), .int (iI (vb 123)), .int (iI (vb 124)), .int (iI (vb 125))]))], [arI G (qb 1) 36 (fun k => vb k)], [arI G (qb 2) 36 (fun k => vb (36 + k))], [arI G (qb 3) 10 (fun k => vb (72 + 5 * k))], [arI G (qb 4) 10 (fun k => vb (73 + 5 * k))], [arI G (qb 5) 10 (fun k => vb (74 + 5 * k))], [arI G (qb 6) 10 (fun k => vb (75 + 5 * k))], [arI G (qb 7) 10 (fun k => vb (76 + 5 * k))]]) rfl (fun H locs hW hkeep => ?_)
  refine z_al_n C hl dX4_copyFrom_77 0 rfl 78 rfl ?_
  refine z_al_n C hl dX4_copyFrom_78 1 rfl 79 rfl ?_
  refine z_get C hW.1 hK fl_X4_58 8 rfl rfl dX4_copyFrom_79 82 rfl ?_
  refine z_put C hW hK fl_X4_58 fc_X4_7 0 rfl (rfl) (rfl) (Nat.le_of_ble_eq_true rfl) dX4_copyFrom_82 85 rfl (rs' := [[(qa 0, .inr (4, [.ref (qa 1), .ref (qa 2), .ref (qa 3), .ref (qa 4), .ref (qa 5), .ref (qa 6), .ref (qa 7), .int (iI (vb 127)), .int (iI (va 128)), .int (iI (va 126)), .int (iI (va 122)), .int (iI (va 123)), .int (iI (va 124)), .int (iI (va 125))]))], [arI G (qa 1) 36 (fun k => vb k)], [arI G (qa 2) 36 (fun k => vb (36 + k))], [arI G (qa 3) 10 (fun k => vb (72 + 5 * k))], [arI G (qa 4) 10 (fun k => vb (73 + 5 * k))], [arI G (qa 5) 10 (fun k => vb (74 + 5 * k))], [arI G (qa 6) 10 (fun k => vb (75 + 5 * k))], [arI G (qa 7) 10 (fun k => vb (76 + 5 * k))], [(qb 0, .inr (4, [.ref (qb 1), .ref (qb 2), .ref (qb 3), .ref (qb 4), .ref (qb 5), .ref (qb 6), .ref (qb 7), .int (iI (vb 127)), .int (iI (vb 128)), .int (iI (vb 126)), .int (iI (vb 122)), .int (iI (vb 123)), .int (iI (vb 124)), .int (iI (vb 125))]))], [arI G (qb 1) 36 (fun k => vb k)], [arI G (qb 2) 36 (fun k => vb (36 + k))], [arI G (qb 3) 10 (fun k => vb (72 + 5 * k))], [arI G (qb 4) 10 (fun k => vb (73 + 5 * k))], [arI G (qb 5) 10 (fun k => vb (74 + 5 * k))], [arI G (qb 6) 10 (fun k => vb (75 + 5 * k))], [arI G (qb 7) 10 (fun k => vb (76 + 5 * k))]]) rfl (fun H locs hW => ?_)
  refine z_al_n C hl dX4_copyFrom_85 0 rfl 86 rfl ?_
  refine z_al_n C hl dX4_copyFrom_86 1 rfl 87 rfl ?_
  refine z_get C hW.1 hK fl_X4_61 8 rfl rfl dX4_copyFrom_87 90 rfl ?_
  refine z_put C hW hK fl_X4_61 fc_X4_8 0 rfl (rfl) (rfl) (Nat.le_of_ble_eq_true rfl) dX4_copyFrom_90 93 rfl (rs' := [[(qa 0, .inr (4, [.ref (qa 1), .ref (qa 2), .ref (qa 3), .ref (qa 4), .ref (qa 5), .ref (qa 6), .ref (qa 7), .int (iI (vb 127)), .int (iI (vb 128)), .int (iI (va 126)), .int (iI (va 122)), .int (iI (va 123)), .int (iI (va 124)), .int (iI (va 125))]))], [arI G (qa 1) 36 (fun k => vb k)], [arI G (qa 2) 36 (fun k => vb (36 + k))], [arI G (qa 3) 10 (fun k => vb (72 + 5 * k))], [arI G (qa 4) 10 (fun k => vb (73 + 5 * k))], [arI G (qa 5) 10 (fun k => vb (74 + 5 * k))], [arI G (qa 6) 10 (fun k => vb (75 + 5 * k))], [arI G (qa 7) 10 (fun k => vb (76 + 5 * k))], [(qb 0, .inr (4, [.ref (qb 1), .ref (qb 2), .ref (qb 3), .ref (qb 4), .ref (qb 5), .ref (qb 6), .ref (qb 7), .int (iI (vb 127)), .int (iI (vb 128)), .int (iI (vb 126)), .int (iI (vb 122)), .int (iI (vb 123)), .int (iI (vb 124)), .int (iI (vb 125))]))], [arI G (qb 1) 36 (fun k => vb k)], [arI G (qb 2) 36 (fun k => vb (36 + k))], [arI G (qb 3) 10 (fun k => vb (72 + 5 * k))], [arI G (qb 4) 10 (fun k => vb (73 + 5 * k))], [arI G (qb 5) 10 (fun k => vb (74 + 5 * k))], [arI G (qb 6) 10 (fun k => vb (75 + 5 * k))], [arI G (qb 7) 10 (fun k => vb (76 + 5 * k))]]) rfl (fun H locs hW => ?_)
  refine z_al_n C hl dX4_copyFrom_93 0 rfl 94 rfl ?_
  refine z_al_n C hl dX4_copyFrom_94 1 rfl 95 rfl ?_
  refine z_get C hW.1 hK fl_X4_64 8 rfl rfl dX4_copyFrom_95 98 rfl ?_
  refine z_put C hW hK fl_X4_64 fc_X4_9 0 rfl (rfl) (rfl) (Nat.le_of_ble_eq_true rfl) dX4_copyFrom_98 101 rfl (rs' := [[(qa 0, .inr (4, [.ref (qa 1), .ref (qa 2), .ref (qa 3), .ref (qa 4), .ref (qa 5), .ref (qa 6), .ref (qa 7), .int (iI (vb 127)), .int (iI (vb 128)), .int (iI (vb 126)), .int (iI (va 122)), .int (iI (va 123)), .int (iI (va 124)), .int (iI (va 125))]))], [arI G (qa 1) 36 (fun k => vb k)], [arI G (qa 2) 36 (fun k => vb (36 + k))], [arI G (qa 3) 10 (fun k => vb (72 + 5 * k))], [arI G (qa 4) 10 (fun k => vb (73 + 5 * k))], [arI G (qa 5) 10 (fun k => vb (74 + 5 * k))], [arI G (qa 6) 10 (fun k => vb (75 + 5 * k))], [arI G (qa 7) 10 (fun k => vb (76 + 5 * k))], [(qb 0, .inr (4, [.ref (qb 1), .ref (qb 2), .ref (qb 3), .ref (qb 4), .ref (qb 5), .ref (qb 6), .ref (qb 7), .int (iI (vb 127)), .int (iI (vb 128)), .int (iI (vb 126)), .int (iI (vb 122)), .int (iI (vb 123)), .int (iI (vb 124)), .int (iI (vb 125))]))], [arI G (qb 1) 36 (fun k => vb k)], [arI G (qb 2) 36 (fun k => vb (36 + k))], [arI G (qb 3) 10 (fun k => vb (72 + 5 * k))], [arI G (qb 4) 10 (fun k => vb (73 + 5 * k))], [arI G (qb 5) 10 (fun k => vb (74 + 5 * k))], [arI G (qb 6) 10 (fun k => vb (75 + 5 * k))], [arI G (qb 7) 10 (fun k => vb (76 + 5 * k))]]) rfl (fun H locs hW => ?_)
  refine z_al_n C hl dX4_copyFrom_101 0 rfl 102 rfl ?_
  refine z_al_n C hl dX4_copyFrom_102 1 rfl 103 rfl ?_
  refine z_get C hW.1 hK fl_X4_33 8 rfl rfl dX4_copyFrom_103 106 rfl ?_
  refine z_put C hW hK fl_X4_33 fc_X4_10 0 rfl (rfl) (rfl) (Nat.le_of_ble_eq_true rfl) dX4_copyFrom_106 109 rfl (rs' := [[(qa 0, .inr (4, [.ref (qa 1), .ref (qa 2), .ref (qa 3), .ref (qa 4), .ref (qa 5), .ref (qa 6), .ref (qa 7), .int (iI (vb 127)), .int (iI (vb 128)), .int (iI (vb 126)), .int (iI (vb 122)), .int (iI (va 123)), .int (iI (va 124)), .int (iI (va 125))]))], [arI G (qa 1) 36 (fun k => vb k)], [arI G (qa 2) 36 (fun k => vb (36 + k))], [arI G (qa 3) 10 (fun k => vb (72 + 5 * k))], [arI G (qa 4) 10 (fun k => vb (73 + 5 * k))], [arI G (qa 5) 10 (fun k => vb (74 + 5 * k))], [arI G (qa 6) 10 (fun k => vb (75 + 5 * k))], [arI G (qa 7) 10 (fun k => vb (76 + 5 * k))], [(qb 0, .inr (4, [.ref (qb 1), .ref (qb 2), .ref (qb 3), .ref (qb 4), .ref (qb 5), .ref (qb 6), .ref (qb 7), .int (iI (vb 127)), .int (iI (vb 128)), .int (iI (vb 126)), .int (iI (vb 122)), .int (iI (vb 123)), .int (iI (vb 124)), .int (iI (vb 125))]))], [arI G (qb 1) 36 (fun k => vb k)], [arI G (qb 2) 36 (fun k => vb (36 + k))], [arI G (qb 3) 10 (fun k => vb (72 + 5 * k))], [arI G (qb 4) 10 (fun k => vb (73 + 5 * k))], [arI G (qb 5) 10 (fun k => vb (74 + 5 * k))], [arI G (qb 6) 10 (fun k => vb (75 + 5 * k))], [arI G (qb 7) 10 (fun k => vb (76 + 5 * k))]]) rfl (fun H locs hW => ?_)
  refine z_al_n C hl dX4_copyFrom_109 0 rfl 110 rfl ?_
  refine z_al_n C hl dX4_copyFrom_110 1 rfl 111 rfl ?_
  refine z_get C hW.1 hK fl_X4_37 8 rfl rfl dX4_copyFrom_111 114 rfl ?_
  refine z_put C hW hK fl_X4_37 fc_X4_11 0 rfl (rfl) (rfl) (Nat.le_of_ble_eq_true rfl) dX4_copyFrom_114 117 rfl (rs' := [[(qa 0, .inr (4, [.ref (qa 1), .ref (qa 2), .ref (qa 3), .ref (qa 4), .ref (qa 5), .ref (qa 6), .ref (qa 7), .int (iI (vb 127)), .int (iI (vb 128)), .int (iI (vb 126)), .int (iI (vb 122)), .int (iI (vb 123)), .int (iI (va 124)), .int (iI (va 125))]))], [arI G (qa 1) 36 (fun k => vb k)], [arI G (qa 2) 36 (fun k => vb (36 + k))], [arI G (qa 3) 10 (fun k => vb (72 + 5 * k))], [arI G (qa 4) 10 (fun k => vb (73 + 5 * k))], [arI G (qa 5) 10 (fun k => vb (74 + 5 * k))], [arI G (qa 6) 10 (fun k => vb (75 + 5 * k))], [arI G (qa 7) 10 (fun k => vb (76 + 5 * k))], [(qb 0, .inr (4, [.ref (qb 1), .ref (qb 2), .ref (qb 3), .ref (qb 4), .ref (qb 5), .ref (qb 6), .ref (qb 7), .int (iI (vb 127)), .int (iI (vb 128)), .int (iI (vb 126)), .int (iI (vb 122)), .int (iI (vb 123)), .int (iI (vb 124)), .int (iI (vb 125))]))], [arI G (qb 1) 36 (fun k => vb k)], [arI G (qb 2) 36 (fun k => vb (36 + k))], [arI G (qb 3) 10 (fun k => vb (72 + 5 * k))], [arI G (qb 4) 10 (fun k => vb (73 + 5 * k))], [arI G (qb 5) 10 (fun k => vb (74 + 5 * k))], [arI G (qb 6) 10 (fun k => vb (75 + 5 * k))], [arI G (qb 7) 10 (fun k => vb (76 + 5 * k))]]) rfl (fun H locs hW => ?_)
  refine z_al_n C hl dX4_copyFrom_117 0 rfl 118 rfl ?_
  refine z_al_n C hl dX4_copyFrom_118 1 rfl 119 rfl ?_
  refine z_get C hW.1 hK fl_X4_40 8 rfl rfl dX4_copyFrom_119 122 rfl ?_
  refine z_put C hW hK fl_X4_40 fc_X4_12 0 rfl (rfl) (rfl) (Nat.le_of_ble_eq_true rfl) dX4_copyFrom_122 125 rfl (rs' := [[(qa 0, .inr (4, [.ref (qa 1), .ref (qa 2), .ref (qa 3), .ref (qa 4), .ref (qa 5), .ref (qa 6), .ref (qa 7), .int (iI (vb 127)), .int (iI (vb 128)), .int (iI (vb 126)), .int (iI (vb 122)), .int (iI (vb 123)), .int (iI (vb 124)), .int (iI (va 125))]))], [arI G (qa 1) 36 (fun k => vb k)], [arI G (qa 2) 36 (fun k => vb (36 + k))], [arI G (qa 3) 10 (fun k => vb (72 + 5 * k))], [arI G (qa 4) 10 (fun k => vb (73 + 5 * k))], [arI G (qa 5) 10 (fun k => vb (74 + 5 * k))], [arI G (qa 6) 10 (fun k => vb (75 + 5 * k))], [arI G (qa 7) 10 (fun k => vb (76 + 5 * k))], [(qb 0, .inr (4, [.ref (qb 1), .ref (qb 2), .ref (qb 3), .ref (qb 4), .ref (qb 5), .ref (qb 6), .ref (qb 7), .int (iI (vb 127)), .int (iI (vb 128)), .int (iI (vb 126)), .int (iI (vb 122)), .int (iI (vb 123)), .int (iI (vb 124)), .int (iI (vb 125))]))], [arI G (qb 1) 36 (fun k => vb k)], [arI G (qb 2) 36 (fun k => vb (36 + k))], [arI G (qb 3) 10 (fun k => vb (72 + 5 * k))], [arI G (qb 4) 10 (fun k => vb (73 + 5 * k))], [arI G (qb 5) 10 (fun k => vb (74 + 5 * k))], [arI G (qb 6) 10 (fun k => vb (75 + 5 * k))], [arI G (qb 7) 10 (fun k => vb (76 + 5 * k))]]) rfl (fun H locs hW => ?_)
  refine z_al_n C hl dX4_copyFrom_125 0 rfl 126 rfl ?_
  refine z_al_n C hl dX4_copyFrom_126 1 rfl 127 rfl ?_
  refine z_get C hW.1 hK fl_X4_43 8 rfl rfl dX4_copyFrom_127 130 rfl ?_
  refine z_put C hW hK fl_X4_43 fc_X4_13 0 rfl (rfl) (rfl) (Nat.le_of_ble_eq_true rfl) dX4_copyFrom_130 133 rfl (rs' := [[(qa 0, .inr (4, [.ref (qa 1), .ref (qa 2), .ref (qa 3), .ref (qa 4), .ref (qa 5), .ref (qa 6), .ref (qa 7), .int (iI (vb 127)), .int (iI (vb 128)), .int (iI (vb 126)), .int (iI (vb 122)), .int (iI (vb 123)), .int (iI (vb 124)), .int (iI (vb 125))]))], [arI G (qa 1) 36 (fun k => vb k)], [arI G (qa 2) 36 (fun k => vb (36 + k))], [arI G (qa 3) 10 (fun k => vb (72 + 5 * k))], [arI G (qa 4) 10 (fun k => vb (73 + 5 * k))], [arI G (qa 5) 10 (fun k => vb (74 + 5 * k))], [arI G (qa 6) 10 (fun k => vb (75 + 5 * k))], [arI G (qa 7) 10 (fun k => vb (76 + 5 * k))], [(qb 0, .inr (4, [.ref (qb 1), .ref (qb 2), .ref (qb 3), .ref (qb 4), .ref (qb 5), .ref (qb 6), .ref (qb 7), .int (iI (vb 127)), .int (iI (vb 128)), .int (iI (vb 126)), .int (iI (vb 122)), .int (iI (vb 123)), .int (iI (vb 124)), .int (iI (vb 125))]))], [arI G (qb 1) 36 (fun k => vb k)], [arI G (qb 2) 36 (fun k => vb (36 + k))], [arI G (qb 3) 10 (fun k => vb (72 + 5 * k))], [arI G (qb 4) 10 (fun k => vb (73 + 5 * k))], [arI G (qb 5) 10 (fun k => vb (74 + 5 * k))], [arI G (qb 6) 10 (fun k => vb (75 + 5 * k))], [arI G (qb 7) 10 (fun k => vb (76 + 5 * k))]]) rfl (fun H locs hW => ?_)
  exact z_wv C hW dX4_copyFrom_133 rfl

set_option maxHeartbeats 4000000 in
set_option maxRecDepth 100000 in
theorem m_slotAt (l : Launch) (G : gT) (h pa : Nat) (sn : Nat → Nat) (S : Nat → Nat → Nat) (n i : Int) (has : Bool) (hi : 0 ≤ i ∧ i < 4) : MR l G yX0_slotAt cX0_slotAt 2 (some (.object "TideBoats$State")) 0 [.ref (h), .int (iI (i))] [[hiO G h pa sn n has], [arQ G pa 4 (slF S)]] ZT (.ref (S (Int.toNat i) 0)) := by
  refine enterR (own := RX0) (by decide +kernel) rfl (Nat.le_of_ble_eq_true rfl) ?_
  intro p e s m below meth c C hP hK hZ ls hl
  have hl : lv_has ls 2 [(0, .ref (h)), (1, .int (iI (i)))] := hl
  refine z_il_n C hl dX0_slotAt_0 1 rfl 1 rfl ?_
  refine z_if_lt C dX0_slotAt_1 22 4 (by decide) rfl (by omega) (fun c1 => ?_) (fun c1 => ?_)
  · exfalso; omega
  · skip
    refine z_il_n C hl dX0_slotAt_4 1 rfl 5 rfl ?_
    refine z_al_n C hl dX0_slotAt_5 0 rfl 6 rfl ?_
    refine z_get C hP hK fl_X0_11 0 rfl rfl dX0_slotAt_6 9 rfl ?_
    refine z_alen C hP hK 1 4 rfl rfl (4) rfl dX0_slotAt_9 10 rfl ?_
    refine z_icmp_ge C dX0_slotAt_10 22 13 (by decide) rfl (by omega) (fun c10 => ?_) (fun c10 => ?_)
    · exfalso; omega
    · skip
      refine z_al_n C hl dX0_slotAt_13 0 rfl 14 rfl ?_
      refine z_get C hP hK fl_X0_11 0 rfl rfl dX0_slotAt_14 17 rfl ?_
      refine z_il_n C hl dX0_slotAt_17 1 rfl 18 rfl ?_
      refine z_qald C hP hK 1 rfl (by omega) (by decide) (S (Int.toNat i) 0) (rfl) dX0_slotAt_18 19 rfl ?_
      refine z_goto C dX0_slotAt_19 23 (by decide) ?_
      exact z_ra C dX0_slotAt_23 (Or.inl ⟨_, rfl⟩) (Or.inr ⟨_, rfl⟩) (rfl)

set_option maxHeartbeats 4000000 in
set_option maxRecDepth 100000 in
theorem m_slotN (l : Launch) (G : gT) (h pa : Nat) (sn : Nat → Nat) (S : Nat → Nat → Nat) (n i : Int) (has : Bool) (hr : -2147483648 ≤ i ∧ i < 2147483648) (hi : i < 0 ∨ 4 ≤ i) : MR l G yX0_slotAt cX0_slotAt 2 (some (.object "TideBoats$State")) 0 [.ref (h), .int (iI (i))] [[hiO G h pa sn n has], [arQ G pa 4 (slF S)]] ZT (.null) := by
  refine enterR (own := RX0) (by decide +kernel) rfl (Nat.le_of_ble_eq_true rfl) ?_
  intro p e s m below meth c C hP hK hZ ls hl
  have hl : lv_has ls 2 [(0, .ref (h)), (1, .int (iI (i)))] := hl
  refine z_il_n C hl dX0_slotAt_0 1 rfl 1 rfl ?_
  refine z_if_lt C dX0_slotAt_1 22 4 (by decide) rfl (by omega) (fun c1 => ?_) (fun c1 => ?_)
  · skip
    refine z_null C dX0_slotAt_22 23 rfl ?_
    exact z_ra C dX0_slotAt_23 (Or.inl ⟨_, rfl⟩) (Or.inl rfl) (rfl)
  · skip
    refine z_il_n C hl dX0_slotAt_4 1 rfl 5 rfl ?_
    refine z_al_n C hl dX0_slotAt_5 0 rfl 6 rfl ?_
    refine z_get C hP hK fl_X0_11 0 rfl rfl dX0_slotAt_6 9 rfl ?_
    refine z_alen C hP hK 1 4 rfl rfl (4) rfl dX0_slotAt_9 10 rfl ?_
    refine z_icmp_ge C dX0_slotAt_10 22 13 (by decide) rfl (by omega) (fun c10 => ?_) (fun c10 => ?_)
    · skip
      refine z_null C dX0_slotAt_22 23 rfl ?_
      exact z_ra C dX0_slotAt_23 (Or.inl ⟨_, rfl⟩) (Or.inl rfl) (rfl)
    · exfalso; omega

set_option maxHeartbeats 4000000 in
set_option maxRecDepth 100000 in
theorem m_dropOldest (l : Launch) (G : gT) (h pa : Nat) (sn : Nat → Nat) (S : Nat → Nat → Nat) (g : Nat → Int → Int) (has : Bool)  (hD : gD ([[hiO G h pa sn 4 has], [arQ G pa 4 (slF S)], stW G (S 0) (g 0), stW G (S 1) (g 1), stW G (S 2) (g 2), stW G (S 3) (g 3)] : List va_W).flatten) : MW l G yX0_dropOldest cX0_dropOldest 3 (none) 1 [.ref (h)] [[hiO G h pa sn 4 has], [arQ G pa 4 (slF S)], stW G (S 0) (g 0), stW G (S 1) (g 1), stW G (S 2) (g 2), stW G (S 3) (g 3)] [[hiO G h pa sn 3 has], [arQ G pa 4 (slF (rotS S))], stW G (S 0) (g 0), stW G (S 1) (g 1), stW G (S 2) (g 2), stW G (S 3) (g 3)] ZT none := by
  refine enterW (own := RX0) (by decide +kernel) rfl (Nat.le_of_ble_eq_true rfl) hD ?_
  intro p e s m below meth c C hW hK hZ ls hl
  have hl : lv_has ls 3 [(0, .ref (h))] := hl
  refine z_al_n C hl dX0_dropOldest_0 0 rfl 1 rfl ?_
  refine z_iconst C dX0_dropOldest_1 2 rfl ?_
  refine z_VR (r := .ref (S (Int.toNat 0) 0)) (rest := []) C (m_slotAt l G h pa sn S 4 0 has (by decide)) kV_X0_29 ⟨Nat.le_of_ble_eq_true rfl, Nat.le_of_ble_eq_true rfl⟩ (gP_rg hW.1 [0, 1] rfl) hK 0 rfl rfl rfl hl.1 rfl (Nat.le_of_ble_eq_true rfl) dX0_dropOldest_2 ⟨Nat.le_of_ble_eq_true rfl, Nat.le_of_ble_eq_true rfl⟩ 5 rfl ?_
  refine z_top (b := .ref (S 0 0)) rfl ?_
  refine z_as_n C hl dX0_dropOldest_5 6 rfl (by decide) (lv' := [(1, .ref (S 0 0)), (0, .ref (h))]) rfl (fun ls hl => ?_)
  refine z_iconst C dX0_dropOldest_6 7 rfl ?_
  refine z_is_n C hl dX0_dropOldest_7 8 rfl (by decide) (lv' := [(2, .int (iI (1))), (1, .ref (S 0 0)), (0, .ref (h))]) rfl (fun ls hl => ?_)
  refine z_il_n C hl dX0_dropOldest_8 0 rfl 9 rfl ?_
  refine z_al_n C hl dX0_dropOldest_9 2 rfl 10 rfl ?_
  refine z_get C hW.1 hK fl_X0_11 0 rfl rfl dX0_dropOldest_10 13 rfl ?_
  refine z_alen C hW.1 hK 1 4 rfl rfl (4) rfl dX0_dropOldest_13 14 rfl ?_
  refine z_icmp_ge C dX0_dropOldest_14 37 17 (by decide) rfl (by omega) (fun c14 => ?_) (fun c14 => ?_)
  · exfalso; omega
  · skip
    refine z_al_n C hl dX0_dropOldest_17 2 rfl 18 rfl ?_
    refine z_get C hW.1 hK fl_X0_11 0 rfl rfl dX0_dropOldest_18 21 rfl ?_
    refine z_il_n C hl dX0_dropOldest_21 0 rfl 22 rfl ?_
    refine z_iconst C dX0_dropOldest_22 23 rfl ?_
    refine z_isub C dX0_dropOldest_23 24 rfl (0) (by omega) ?_
    refine z_al_n C hl dX0_dropOldest_24 2 rfl 25 rfl ?_
    refine z_get C hW.1 hK fl_X0_11 0 rfl rfl dX0_dropOldest_25 28 rfl ?_
    refine z_il_n C hl dX0_dropOldest_28 0 rfl 29 rfl ?_
    refine z_qald C hW.1 hK 1 rfl (by omega) (by decide) (S 1 0) (rfl) dX0_dropOldest_29 30 rfl ?_
    refine z_qast C hW hK 1 10 rfl rfl (by decide) (by decide) _ rfl dX0_dropOldest_30 31 rfl (rs' := [[hiO G h pa sn 4 has], [arQ G pa 4 (va_up (slF S) 0 (some (S 1 0)))], stW G (S 0) (g 0), stW G (S 1) (g 1), stW G (S 2) (g 2), stW G (S 3) (g 3)]) rfl (fun H locs hW => ?_)
    refine z_iinc C hl dX0_dropOldest_31 34 rfl 0 rfl (z := 2) (by omega) (by decide) (lv' := [(2, .int (iI (2))), (1, .ref (S 0 0)), (0, .ref (h))]) rfl (fun ls hl => ?_)
    refine z_goto C dX0_dropOldest_34 8 (by decide) ?_
    refine z_il_n C hl dX0_dropOldest_8 0 rfl 9 rfl ?_
    refine z_al_n C hl dX0_dropOldest_9 2 rfl 10 rfl ?_
    refine z_get C hW.1 hK fl_X0_11 0 rfl rfl dX0_dropOldest_10 13 rfl ?_
    refine z_alen C hW.1 hK 1 4 rfl rfl (4) rfl dX0_dropOldest_13 14 rfl ?_
    refine z_icmp_ge C dX0_dropOldest_14 37 17 (by decide) rfl (by omega) (fun c14 => ?_) (fun c14 => ?_)
    · exfalso; omega
    · skip
      refine z_al_n C hl dX0_dropOldest_17 2 rfl 18 rfl ?_
      refine z_get C hW.1 hK fl_X0_11 0 rfl rfl dX0_dropOldest_18 21 rfl ?_
      refine z_il_n C hl dX0_dropOldest_21 0 rfl 22 rfl ?_
      refine z_iconst C dX0_dropOldest_22 23 rfl ?_
      refine z_isub C dX0_dropOldest_23 24 rfl (1) (by omega) ?_
      refine z_al_n C hl dX0_dropOldest_24 2 rfl 25 rfl ?_
      refine z_get C hW.1 hK fl_X0_11 0 rfl rfl dX0_dropOldest_25 28 rfl ?_
      refine z_il_n C hl dX0_dropOldest_28 0 rfl 29 rfl ?_
      refine z_qald C hW.1 hK 1 rfl (by omega) (by decide) (S 2 0) (rfl) dX0_dropOldest_29 30 rfl ?_
      refine z_qast C hW hK 1 18 rfl rfl (by decide) (by decide) _ rfl dX0_dropOldest_30 31 rfl (rs' := [[hiO G h pa sn 4 has], [arQ G pa 4 (va_up (va_up (slF S) 0 (some (S 1 0))) 1 (some (S 2 0)))], stW G (S 0) (g 0), stW G (S 1) (g 1), stW G (S 2) (g 2), stW G (S 3) (g 3)]) rfl (fun H locs hW => ?_)
      refine z_iinc C hl dX0_dropOldest_31 34 rfl 0 rfl (z := 3) (by omega) (by decide) (lv' := [(2, .int (iI (3))), (1, .ref (S 0 0)), (0, .ref (h))]) rfl (fun ls hl => ?_)
      refine z_goto C dX0_dropOldest_34 8 (by decide) ?_
      refine z_il_n C hl dX0_dropOldest_8 0 rfl 9 rfl ?_
      refine z_al_n C hl dX0_dropOldest_9 2 rfl 10 rfl ?_
      refine z_get C hW.1 hK fl_X0_11 0 rfl rfl dX0_dropOldest_10 13 rfl ?_
      refine z_alen C hW.1 hK 1 4 rfl rfl (4) rfl dX0_dropOldest_13 14 rfl ?_
      refine z_icmp_ge C dX0_dropOldest_14 37 17 (by decide) rfl (by omega) (fun c14 => ?_) (fun c14 => ?_)
      · exfalso; omega
      · skip
        refine z_al_n C hl dX0_dropOldest_17 2 rfl 18 rfl ?_
        refine z_get C hW.1 hK fl_X0_11 0 rfl rfl dX0_dropOldest_18 21 rfl ?_
        refine z_il_n C hl dX0_dropOldest_21 0 rfl 22 rfl ?_
        refine z_iconst C dX0_dropOldest_22 23 rfl ?_
        refine z_isub C dX0_dropOldest_23 24 rfl (2) (by omega) ?_
        refine z_al_n C hl dX0_dropOldest_24 2 rfl 25 rfl ?_
        refine z_get C hW.1 hK fl_X0_11 0 rfl rfl dX0_dropOldest_25 28 rfl ?_
        refine z_il_n C hl dX0_dropOldest_28 0 rfl 29 rfl ?_
        refine z_qald C hW.1 hK 1 rfl (by omega) (by decide) (S 3 0) (rfl) dX0_dropOldest_29 30 rfl ?_
        refine z_qast C hW hK 1 26 rfl rfl (by decide) (by decide) _ rfl dX0_dropOldest_30 31 rfl (rs' := [[hiO G h pa sn 4 has], [arQ G pa 4 (va_up (va_up (va_up (slF S) 0 (some (S 1 0))) 1 (some (S 2 0))) 2 (some (S 3 0)))], stW G (S 0) (g 0), stW G (S 1) (g 1), stW G (S 2) (g 2), stW G (S 3) (g 3)]) rfl (fun H locs hW => ?_)
        refine z_iinc C hl dX0_dropOldest_31 34 rfl 0 rfl (z := 4) (by omega) (by decide) (lv' := [(2, .int (iI (4))), (1, .ref (S 0 0)), (0, .ref (h))]) rfl (fun ls hl => ?_)
        refine z_goto C dX0_dropOldest_34 8 (by decide) ?_
        refine z_il_n C hl dX0_dropOldest_8 0 rfl 9 rfl ?_
        refine z_al_n C hl dX0_dropOldest_9 2 rfl 10 rfl ?_
        refine z_get C hW.1 hK fl_X0_11 0 rfl rfl dX0_dropOldest_10 13 rfl ?_
        refine z_alen C hW.1 hK 1 4 rfl rfl (4) rfl dX0_dropOldest_13 14 rfl ?_
        refine z_icmp_ge C dX0_dropOldest_14 37 17 (by decide) rfl (by omega) (fun c14 => ?_) (fun c14 => ?_)
        · skip
          refine z_al_n C hl dX0_dropOldest_37 2 rfl 38 rfl ?_
          refine z_get C hW.1 hK fl_X0_11 0 rfl rfl dX0_dropOldest_38 41 rfl ?_
          refine z_iconst C dX0_dropOldest_41 42 rfl ?_
          refine z_al_n C hl dX0_dropOldest_42 1 rfl 43 rfl ?_
          refine z_qast C hW hK 1 2 rfl rfl (by decide) (by decide) _ rfl dX0_dropOldest_43 44 rfl (rs' := [[hiO G h pa sn 4 has], [arQ G pa 4 (va_up (va_up (va_up (va_up (slF S) 0 (some (S 1 0))) 1 (some (S 2 0))) 2 (some (S 3 0))) 3 (some (S 0 0)))], stW G (S 0) (g 0), stW G (S 1) (g 1), stW G (S 2) (g 2), stW G (S 3) (g 3)]) rfl (fun H locs hW => ?_)
          have hW := Wd.ceq (rs' := [[hiO G h pa sn 4 has], [arQ G pa 4 (slF (rotS S))], stW G (S 0) (g 0), stW G (S 1) (g 1), stW G (S 2) (g 2), stW G (S 3) (g 3)]) hW ⟨ceq.rf, ⟨ceq.Q (fun k hk => by rcases (show k = 0 ∨ k = 1 ∨ k = 2 ∨ k = 3 by omega) with rfl | rfl | rfl | rfl <;> rfl), ceqs.rf⟩⟩
          refine z_al_n C hl dX0_dropOldest_44 2 rfl 45 rfl ?_
          refine z_dup C dX0_dropOldest_45 rfl 46 rfl ?_
          refine z_get C hW.1 hK fl_X0_22 0 rfl rfl dX0_dropOldest_46 49 rfl ?_
          refine z_iconst C dX0_dropOldest_49 50 rfl ?_
          refine z_isub C dX0_dropOldest_50 51 rfl (3) (by omega) ?_
          refine z_put C hW hK fl_X0_22 fc_X0_2 0 rfl (rfl) (rfl) (Nat.le_of_ble_eq_true rfl) dX0_dropOldest_51 54 rfl (rs' := [[(h, .inr (0, [.ref (pa), .ref (sn 0), .int (iI (3)), .int (iI (bZ (has)))]))], [arQ G pa 4 (slF (rotS S))], stW G (S 0) (g 0), stW G (S 1) (g 1), stW G (S 2) (g 2), stW G (S 3) (g 3)]) rfl (fun H locs hW => ?_)
          exact z_wv C hW dX0_dropOldest_54 rfl
        · exfalso; omega

set_option maxHeartbeats 4000000 in
set_option maxRecDepth 100000 in
theorem m_record (l : Launch) (G : gT) (h pa : Nat) (sn : Nat → Nat) (S : Nat → Nat → Nat) (g : Nat → Int → Int) (has : Bool) (n : Int) (qb : Nat → Nat) (vb : Int → Int) (hn : 0 ≤ n ∧ n ≤ 4) (hD : gD ([hiW G h pa sn n S g has, stW G qb vb] : List va_W).flatten) : MW l G yX0_record cX0_record 3 (none) 2 [.ref (h), .ref (qb 0)] [hiW G h pa sn n S g has, stW G qb vb] [hiW G h pa sn (recN n) (recS n S) (recG n g vb) has, stW G qb vb] ZT none := by
  refine enterW (own := RX0) (by decide +kernel) rfl (Nat.le_of_ble_eq_true rfl) hD ?_
  intro p e s m below meth c C hW hK hZ ls hl
  have hl : lv_has ls 3 [(0, .ref (h)), (1, .ref (qb 0))] := hl
  rcases (show n = 0 ∨ n = 1 ∨ n = 2 ∨ n = 3 ∨ n = 4 by omega) with rfl | rfl | rfl | rfl | rfl
  · skip
    have hW := hW.re (rs' := [[hiO G h pa sn 0 has], [arQ G pa 4 (slF S)], stW G (S 0) (g 0), stW G (S 1) (g 1), stW G (S 2) (g 2), stW G (S 3) (g 3), stW G qb vb]) rfl
    refine z_al_n C hl dX0_record_0 0 rfl 1 rfl ?_
    refine z_get C hW.1 hK fl_X0_22 0 rfl rfl dX0_record_1 4 rfl ?_
    refine z_iconst C dX0_record_4 5 rfl ?_
    refine z_icmp_lt C dX0_record_5 12 8 (by decide) rfl (by omega) (fun c5 => ?_) (fun c5 => ?_)
    · skip
      refine z_al_n C hl dX0_record_12 0 rfl 13 rfl ?_
      refine z_al_n C hl dX0_record_13 0 rfl 14 rfl ?_
      refine z_get C hW.1 hK fl_X0_22 0 rfl rfl dX0_record_14 17 rfl ?_
      refine z_VR (r := .ref (S (Int.toNat 0) 0)) (rest := []) C (m_slotAt l G h pa sn S 0 0 has (by decide)) kV_X0_29 ⟨Nat.le_of_ble_eq_true rfl, Nat.le_of_ble_eq_true rfl⟩ (gP_rg hW.1 [0, 1] rfl) hK 0 rfl rfl rfl hl.1 rfl (Nat.le_of_ble_eq_true rfl) dX0_record_17 ⟨Nat.le_of_ble_eq_true rfl, Nat.le_of_ble_eq_true rfl⟩ 20 rfl ?_
      refine z_top (b := .ref (S 0 0)) rfl ?_
      refine z_as_n C hl dX0_record_20 21 rfl (by decide) (lv' := [(2, .ref (S 0 0)), (0, .ref (h)), (1, .ref (qb 0))]) rfl (fun ls hl => ?_)
      refine z_al_n C hl dX0_record_21 0 rfl 22 rfl ?_
      refine z_ifnull C dX0_record_22 25 rfl ?_
      refine z_al_n C hl dX0_record_25 0 rfl 26 rfl ?_
      refine z_al_n C hl dX0_record_26 2 rfl 27 rfl ?_
      refine z_VWv (rest := []) C (m_copyFrom l G (S 0) qb (g 0) vb (gD_rg hW.2.1 [2, 6] (by decide) rfl)) kV_X0_33 ⟨Nat.le_of_ble_eq_true rfl, Nat.le_of_ble_eq_true rfl⟩ hW hK [2, 6] rfl (sameA_of rfl) 0 rfl rfl rfl hl.1 rfl (Nat.le_of_ble_eq_true rfl) dX0_record_27 ⟨Nat.le_of_ble_eq_true rfl, Nat.le_of_ble_eq_true rfl⟩ 30 rfl (rs' := [[hiO G h pa sn 0 has], [arQ G pa 4 (slF S)], stW G (S 0) vb, stW G (S 1) (g 1), stW G (S 2) (g 2), stW G (S 3) (g 3), stW G qb vb]) rfl (fun H locs hW hkeep => ?_)
      refine z_al_n C hl dX0_record_30 1 rfl 31 rfl ?_
      refine z_dup C dX0_record_31 rfl 32 rfl ?_
      refine z_get C hW.1 hK fl_X0_22 0 rfl rfl dX0_record_32 35 rfl ?_
      refine z_iconst C dX0_record_35 36 rfl ?_
      refine z_iadd C dX0_record_36 37 rfl (1) (by omega) ?_
      refine z_put C hW hK fl_X0_22 fc_X0_2 0 rfl (rfl) (rfl) (Nat.le_of_ble_eq_true rfl) dX0_record_37 40 rfl (rs' := [[(h, .inr (0, [.ref (pa), .ref (sn 0), .int (iI (1)), .int (iI (bZ (has)))]))], [arQ G pa 4 (slF S)], stW G (S 0) vb, stW G (S 1) (g 1), stW G (S 2) (g 2), stW G (S 3) (g 3), stW G qb vb]) rfl (fun H locs hW => ?_)
      exact z_wv C hW dX0_record_40 rfl
    · exfalso; omega
  · skip
    have hW := hW.re (rs' := [[hiO G h pa sn 1 has], [arQ G pa 4 (slF S)], stW G (S 0) (g 0), stW G (S 1) (g 1), stW G (S 2) (g 2), stW G (S 3) (g 3), stW G qb vb]) rfl
    refine z_al_n C hl dX0_record_0 0 rfl 1 rfl ?_
    refine z_get C hW.1 hK fl_X0_22 0 rfl rfl dX0_record_1 4 rfl ?_
    refine z_iconst C dX0_record_4 5 rfl ?_
    refine z_icmp_lt C dX0_record_5 12 8 (by decide) rfl (by omega) (fun c5 => ?_) (fun c5 => ?_)
    · skip
      refine z_al_n C hl dX0_record_12 0 rfl 13 rfl ?_
      refine z_al_n C hl dX0_record_13 0 rfl 14 rfl ?_
      refine z_get C hW.1 hK fl_X0_22 0 rfl rfl dX0_record_14 17 rfl ?_
      refine z_VR (r := .ref (S (Int.toNat 1) 0)) (rest := []) C (m_slotAt l G h pa sn S 1 1 has (by decide)) kV_X0_29 ⟨Nat.le_of_ble_eq_true rfl, Nat.le_of_ble_eq_true rfl⟩ (gP_rg hW.1 [0, 1] rfl) hK 0 rfl rfl rfl hl.1 rfl (Nat.le_of_ble_eq_true rfl) dX0_record_17 ⟨Nat.le_of_ble_eq_true rfl, Nat.le_of_ble_eq_true rfl⟩ 20 rfl ?_
      refine z_top (b := .ref (S 1 0)) rfl ?_
      refine z_as_n C hl dX0_record_20 21 rfl (by decide) (lv' := [(2, .ref (S 1 0)), (0, .ref (h)), (1, .ref (qb 0))]) rfl (fun ls hl => ?_)
      refine z_al_n C hl dX0_record_21 0 rfl 22 rfl ?_
      refine z_ifnull C dX0_record_22 25 rfl ?_
      refine z_al_n C hl dX0_record_25 0 rfl 26 rfl ?_
      refine z_al_n C hl dX0_record_26 2 rfl 27 rfl ?_
      refine z_VWv (rest := []) C (m_copyFrom l G (S 1) qb (g 1) vb (gD_rg hW.2.1 [3, 6] (by decide) rfl)) kV_X0_33 ⟨Nat.le_of_ble_eq_true rfl, Nat.le_of_ble_eq_true rfl⟩ hW hK [3, 6] rfl (sameA_of rfl) 0 rfl rfl rfl hl.1 rfl (Nat.le_of_ble_eq_true rfl) dX0_record_27 ⟨Nat.le_of_ble_eq_true rfl, Nat.le_of_ble_eq_true rfl⟩ 30 rfl (rs' := [[hiO G h pa sn 1 has], [arQ G pa 4 (slF S)], stW G (S 0) (g 0), stW G (S 1) vb, stW G (S 2) (g 2), stW G (S 3) (g 3), stW G qb vb]) rfl (fun H locs hW hkeep => ?_)
      refine z_al_n C hl dX0_record_30 1 rfl 31 rfl ?_
      refine z_dup C dX0_record_31 rfl 32 rfl ?_
      refine z_get C hW.1 hK fl_X0_22 0 rfl rfl dX0_record_32 35 rfl ?_
      refine z_iconst C dX0_record_35 36 rfl ?_
      refine z_iadd C dX0_record_36 37 rfl (2) (by omega) ?_
      refine z_put C hW hK fl_X0_22 fc_X0_2 0 rfl (rfl) (rfl) (Nat.le_of_ble_eq_true rfl) dX0_record_37 40 rfl (rs' := [[(h, .inr (0, [.ref (pa), .ref (sn 0), .int (iI (2)), .int (iI (bZ (has)))]))], [arQ G pa 4 (slF S)], stW G (S 0) (g 0), stW G (S 1) vb, stW G (S 2) (g 2), stW G (S 3) (g 3), stW G qb vb]) rfl (fun H locs hW => ?_)
      exact z_wv C hW dX0_record_40 rfl
    · exfalso; omega
  · skip
    have hW := hW.re (rs' := [[hiO G h pa sn 2 has], [arQ G pa 4 (slF S)], stW G (S 0) (g 0), stW G (S 1) (g 1), stW G (S 2) (g 2), stW G (S 3) (g 3), stW G qb vb]) rfl
    refine z_al_n C hl dX0_record_0 0 rfl 1 rfl ?_
    refine z_get C hW.1 hK fl_X0_22 0 rfl rfl dX0_record_1 4 rfl ?_
    refine z_iconst C dX0_record_4 5 rfl ?_
    refine z_icmp_lt C dX0_record_5 12 8 (by decide) rfl (by omega) (fun c5 => ?_) (fun c5 => ?_)
    · skip
      refine z_al_n C hl dX0_record_12 0 rfl 13 rfl ?_
      refine z_al_n C hl dX0_record_13 0 rfl 14 rfl ?_
      refine z_get C hW.1 hK fl_X0_22 0 rfl rfl dX0_record_14 17 rfl ?_
      refine z_VR (r := .ref (S (Int.toNat 2) 0)) (rest := []) C (m_slotAt l G h pa sn S 2 2 has (by decide)) kV_X0_29 ⟨Nat.le_of_ble_eq_true rfl, Nat.le_of_ble_eq_true rfl⟩ (gP_rg hW.1 [0, 1] rfl) hK 0 rfl rfl rfl hl.1 rfl (Nat.le_of_ble_eq_true rfl) dX0_record_17 ⟨Nat.le_of_ble_eq_true rfl, Nat.le_of_ble_eq_true rfl⟩ 20 rfl ?_
      refine z_top (b := .ref (S 2 0)) rfl ?_
      refine z_as_n C hl dX0_record_20 21 rfl (by decide) (lv' := [(2, .ref (S 2 0)), (0, .ref (h)), (1, .ref (qb 0))]) rfl (fun ls hl => ?_)
      refine z_al_n C hl dX0_record_21 0 rfl 22 rfl ?_
      refine z_ifnull C dX0_record_22 25 rfl ?_
      refine z_al_n C hl dX0_record_25 0 rfl 26 rfl ?_
      refine z_al_n C hl dX0_record_26 2 rfl 27 rfl ?_
      refine z_VWv (rest := []) C (m_copyFrom l G (S 2) qb (g 2) vb (gD_rg hW.2.1 [4, 6] (by decide) rfl)) kV_X0_33 ⟨Nat.le_of_ble_eq_true rfl, Nat.le_of_ble_eq_true rfl⟩ hW hK [4, 6] rfl (sameA_of rfl) 0 rfl rfl rfl hl.1 rfl (Nat.le_of_ble_eq_true rfl) dX0_record_27 ⟨Nat.le_of_ble_eq_true rfl, Nat.le_of_ble_eq_true rfl⟩ 30 rfl (rs' := [[hiO G h pa sn 2 has], [arQ G pa 4 (slF S)], stW G (S 0) (g 0), stW G (S 1) (g 1), stW G (S 2) vb, stW G (S 3) (g 3), stW G qb vb]) rfl (fun H locs hW hkeep => ?_)
      refine z_al_n C hl dX0_record_30 1 rfl 31 rfl ?_
      refine z_dup C dX0_record_31 rfl 32 rfl ?_
      refine z_get C hW.1 hK fl_X0_22 0 rfl rfl dX0_record_32 35 rfl ?_
      refine z_iconst C dX0_record_35 36 rfl ?_
      refine z_iadd C dX0_record_36 37 rfl (3) (by omega) ?_
      refine z_put C hW hK fl_X0_22 fc_X0_2 0 rfl (rfl) (rfl) (Nat.le_of_ble_eq_true rfl) dX0_record_37 40 rfl (rs' := [[(h, .inr (0, [.ref (pa), .ref (sn 0), .int (iI (3)), .int (iI (bZ (has)))]))], [arQ G pa 4 (slF S)], stW G (S 0) (g 0), stW G (S 1) (g 1), stW G (S 2) vb, stW G (S 3) (g 3), stW G qb vb]) rfl (fun H locs hW => ?_)
      exact z_wv C hW dX0_record_40 rfl
    · exfalso; omega
  · skip
    have hW := hW.re (rs' := [[hiO G h pa sn 3 has], [arQ G pa 4 (slF S)], stW G (S 0) (g 0), stW G (S 1) (g 1), stW G (S 2) (g 2), stW G (S 3) (g 3), stW G qb vb]) rfl
    refine z_al_n C hl dX0_record_0 0 rfl 1 rfl ?_
    refine z_get C hW.1 hK fl_X0_22 0 rfl rfl dX0_record_1 4 rfl ?_
    refine z_iconst C dX0_record_4 5 rfl ?_
    refine z_icmp_lt C dX0_record_5 12 8 (by decide) rfl (by omega) (fun c5 => ?_) (fun c5 => ?_)
    · skip
      refine z_al_n C hl dX0_record_12 0 rfl 13 rfl ?_
      refine z_al_n C hl dX0_record_13 0 rfl 14 rfl ?_
      refine z_get C hW.1 hK fl_X0_22 0 rfl rfl dX0_record_14 17 rfl ?_
      refine z_VR (r := .ref (S (Int.toNat 3) 0)) (rest := []) C (m_slotAt l G h pa sn S 3 3 has (by decide)) kV_X0_29 ⟨Nat.le_of_ble_eq_true rfl, Nat.le_of_ble_eq_true rfl⟩ (gP_rg hW.1 [0, 1] rfl) hK 0 rfl rfl rfl hl.1 rfl (Nat.le_of_ble_eq_true rfl) dX0_record_17 ⟨Nat.le_of_ble_eq_true rfl, Nat.le_of_ble_eq_true rfl⟩ 20 rfl ?_
      refine z_top (b := .ref (S 3 0)) rfl ?_
      refine z_as_n C hl dX0_record_20 21 rfl (by decide) (lv' := [(2, .ref (S 3 0)), (0, .ref (h)), (1, .ref (qb 0))]) rfl (fun ls hl => ?_)
      refine z_al_n C hl dX0_record_21 0 rfl 22 rfl ?_
      refine z_ifnull C dX0_record_22 25 rfl ?_
      refine z_al_n C hl dX0_record_25 0 rfl 26 rfl ?_
      refine z_al_n C hl dX0_record_26 2 rfl 27 rfl ?_
      refine z_VWv (rest := []) C (m_copyFrom l G (S 3) qb (g 3) vb (gD_rg hW.2.1 [5, 6] (by decide) rfl)) kV_X0_33 ⟨Nat.le_of_ble_eq_true rfl, Nat.le_of_ble_eq_true rfl⟩ hW hK [5, 6] rfl (sameA_of rfl) 0 rfl rfl rfl hl.1 rfl (Nat.le_of_ble_eq_true rfl) dX0_record_27 ⟨Nat.le_of_ble_eq_true rfl, Nat.le_of_ble_eq_true rfl⟩ 30 rfl (rs' := [[hiO G h pa sn 3 has], [arQ G pa 4 (slF S)], stW G (S 0) (g 0), stW G (S 1) (g 1), stW G (S 2) (g 2), stW G (S 3) vb, stW G qb vb]) rfl (fun H locs hW hkeep => ?_)
      refine z_al_n C hl dX0_record_30 1 rfl 31 rfl ?_
      refine z_dup C dX0_record_31 rfl 32 rfl ?_
      refine z_get C hW.1 hK fl_X0_22 0 rfl rfl dX0_record_32 35 rfl ?_
      refine z_iconst C dX0_record_35 36 rfl ?_
      refine z_iadd C dX0_record_36 37 rfl (4) (by omega) ?_
      refine z_put C hW hK fl_X0_22 fc_X0_2 0 rfl (rfl) (rfl) (Nat.le_of_ble_eq_true rfl) dX0_record_37 40 rfl (rs' := [[(h, .inr (0, [.ref (pa), .ref (sn 0), .int (iI (4)), .int (iI (bZ (has)))]))], [arQ G pa 4 (slF S)], stW G (S 0) (g 0), stW G (S 1) (g 1), stW G (S 2) (g 2), stW G (S 3) vb, stW G qb vb]) rfl (fun H locs hW => ?_)
      exact z_wv C hW dX0_record_40 rfl
    · exfalso; omega
  · skip
    have hW := hW.re (rs' := [[hiO G h pa sn 4 has], [arQ G pa 4 (slF S)], stW G (S 0) (g 0), stW G (S 1) (g 1), stW G (S 2) (g 2), stW G (S 3) (g 3), stW G qb vb]) rfl
    refine z_al_n C hl dX0_record_0 0 rfl 1 rfl ?_
    refine z_get C hW.1 hK fl_X0_22 0 rfl rfl dX0_record_1 4 rfl ?_
    refine z_iconst C dX0_record_4 5 rfl ?_
    refine z_icmp_lt C dX0_record_5 12 8 (by decide) rfl (by omega) (fun c5 => ?_) (fun c5 => ?_)
    · exfalso; omega
    · skip
      refine z_al_n C hl dX0_record_8 0 rfl 9 rfl ?_
      refine z_VWv (rest := []) C (m_dropOldest l G h pa sn S g has (gD_rg hW.2.1 [0, 1, 2, 3, 4, 5] (by decide) rfl)) kV_X0_26 ⟨Nat.le_of_ble_eq_true rfl, Nat.le_of_ble_eq_true rfl⟩ hW hK [0, 1, 2, 3, 4, 5] rfl (sameA_of rfl) 0 rfl rfl rfl hl.1 rfl (Nat.le_of_ble_eq_true rfl) dX0_record_9 ⟨Nat.le_of_ble_eq_true rfl, Nat.le_of_ble_eq_true rfl⟩ 12 rfl (rs' := [[hiO G h pa sn 3 has], [arQ G pa 4 (slF (rotS S))], stW G (S 0) (g 0), stW G (S 1) (g 1), stW G (S 2) (g 2), stW G (S 3) (g 3), stW G qb vb]) rfl (fun H locs hW hkeep => ?_)
      refine z_al_n C hl dX0_record_12 0 rfl 13 rfl ?_
      refine z_al_n C hl dX0_record_13 0 rfl 14 rfl ?_
      refine z_get C hW.1 hK fl_X0_22 0 rfl rfl dX0_record_14 17 rfl ?_
      refine z_VR (r := .ref ((rotS S) (Int.toNat 3) 0)) (rest := []) C (m_slotAt l G h pa sn (rotS S) 3 3 has (by decide)) kV_X0_29 ⟨Nat.le_of_ble_eq_true rfl, Nat.le_of_ble_eq_true rfl⟩ (gP_rg hW.1 [0, 1] rfl) hK 0 rfl rfl rfl hl.1 rfl (Nat.le_of_ble_eq_true rfl) dX0_record_17 ⟨Nat.le_of_ble_eq_true rfl, Nat.le_of_ble_eq_true rfl⟩ 20 rfl ?_
      refine z_top (b := .ref (S 0 0)) rfl ?_
      refine z_as_n C hl dX0_record_20 21 rfl (by decide) (lv' := [(2, .ref (S 0 0)), (0, .ref (h)), (1, .ref (qb 0))]) rfl (fun ls hl => ?_)
      refine z_al_n C hl dX0_record_21 0 rfl 22 rfl ?_
      refine z_ifnull C dX0_record_22 25 rfl ?_
      refine z_al_n C hl dX0_record_25 0 rfl 26 rfl ?_
      refine z_al_n C hl dX0_record_26 2 rfl 27 rfl ?_
      refine z_VWv (rest := []) C (m_copyFrom l G (S 0) qb (g 0) vb (gD_rg hW.2.1 [2, 6] (by decide) rfl)) kV_X0_33 ⟨Nat.le_of_ble_eq_true rfl, Nat.le_of_ble_eq_true rfl⟩ hW hK [2, 6] rfl (sameA_of rfl) 0 rfl rfl rfl hl.1 rfl (Nat.le_of_ble_eq_true rfl) dX0_record_27 ⟨Nat.le_of_ble_eq_true rfl, Nat.le_of_ble_eq_true rfl⟩ 30 rfl (rs' := [[hiO G h pa sn 3 has], [arQ G pa 4 (slF (rotS S))], stW G (S 0) vb, stW G (S 1) (g 1), stW G (S 2) (g 2), stW G (S 3) (g 3), stW G qb vb]) rfl (fun H locs hW hkeep => ?_)
      refine z_al_n C hl dX0_record_30 1 rfl 31 rfl ?_
      refine z_dup C dX0_record_31 rfl 32 rfl ?_
      refine z_get C hW.1 hK fl_X0_22 0 rfl rfl dX0_record_32 35 rfl ?_
      refine z_iconst C dX0_record_35 36 rfl ?_
      refine z_iadd C dX0_record_36 37 rfl (4) (by omega) ?_
      refine z_put C hW hK fl_X0_22 fc_X0_2 0 rfl (rfl) (rfl) (Nat.le_of_ble_eq_true rfl) dX0_record_37 40 rfl (rs' := [[(h, .inr (0, [.ref (pa), .ref (sn 0), .int (iI (4)), .int (iI (bZ (has)))]))], [arQ G pa 4 (slF (rotS S))], stW G (S 0) vb, stW G (S 1) (g 1), stW G (S 2) (g 2), stW G (S 3) (g 3), stW G qb vb]) rfl (fun H locs hW => ?_)
      have hW := hW.perm (rs' := [[hiO G h pa sn 4 has], [arQ G pa 4 (slF (rotS S))], stW G (S 1) (g 1), stW G (S 2) (g 2), stW G (S 3) (g 3), stW G (S 0) vb, stW G qb vb]) (perm_rot)
      exact z_wv C hW dX0_record_40 rfl

set_option maxHeartbeats 4000000 in
set_option maxRecDepth 100000 in
theorem m_takeLatest (l : Launch) (G : gT) (h pa : Nat) (sn : Nat → Nat) (S : Nat → Nat → Nat) (g : Nat → Int → Int) (has : Bool) (n : Int) (qt : Nat → Nat) (v : Int → Int) (hn : 0 ≤ n ∧ n ≤ 4) (hD : gD ([hiW G h pa sn n S g has, stW G qt v] : List va_W).flatten) : MW l G yX0_takeLatest cX0_takeLatest 3 (some .int) 2 [.ref (h), .ref (qt 0)] [hiW G h pa sn n S g has, stW G qt v] [hiW G h pa sn (undN n) S g has, stW G qt (undV n g v)] ZT (some (.int (iI (undR n)))) := by
  refine enterW (own := RX0) (by decide +kernel) rfl (Nat.le_of_ble_eq_true rfl) hD ?_
  intro p e s m below meth c C hW hK hZ ls hl
  have hl : lv_has ls 3 [(0, .ref (h)), (1, .ref (qt 0))] := hl
  rcases (show n = 0 ∨ n = 1 ∨ n = 2 ∨ n = 3 ∨ n = 4 by omega) with rfl | rfl | rfl | rfl | rfl
  · skip
    have hW := hW.re (rs' := [[hiO G h pa sn 0 has], [arQ G pa 4 (slF S)], stW G (S 0) (g 0), stW G (S 1) (g 1), stW G (S 2) (g 2), stW G (S 3) (g 3), stW G qt v]) rfl
    refine z_al_n C hl dX0_takeLatest_0 0 rfl 1 rfl ?_
    refine z_al_n C hl dX0_takeLatest_1 0 rfl 2 rfl ?_
    refine z_get C hW.1 hK fl_X0_22 0 rfl rfl dX0_takeLatest_2 5 rfl ?_
    refine z_iconst C dX0_takeLatest_5 6 rfl ?_
    refine z_isub C dX0_takeLatest_6 7 rfl (-1) (by omega) ?_
    refine z_VR (r := .null) (rest := []) C (m_slotN l G h pa sn S 0 (-1) has (by decide) (by decide)) kV_X0_29 ⟨Nat.le_of_ble_eq_true rfl, Nat.le_of_ble_eq_true rfl⟩ (gP_rg hW.1 [0, 1] rfl) hK 0 rfl rfl rfl hl.1 rfl (Nat.le_of_ble_eq_true rfl) dX0_takeLatest_7 ⟨Nat.le_of_ble_eq_true rfl, Nat.le_of_ble_eq_true rfl⟩ 10 rfl ?_
    refine z_as_nN C hl dX0_takeLatest_10 11 rfl (by decide) (lv' := [(2, .null), (0, .ref (h)), (1, .ref (qt 0))]) rfl (fun ls hl => ?_)
    refine z_al_nN C hl dX0_takeLatest_11 0 rfl 12 rfl ?_
    refine z_ifnonnullN C dX0_takeLatest_12 15 rfl ?_
    refine z_bipush C dX0_takeLatest_15 (by decide) 17 rfl ?_
    exact z_wi C hW dX0_takeLatest_17 (by rfl) rfl
  · skip
    have hW := hW.re (rs' := [[hiO G h pa sn 1 has], [arQ G pa 4 (slF S)], stW G (S 0) (g 0), stW G (S 1) (g 1), stW G (S 2) (g 2), stW G (S 3) (g 3), stW G qt v]) rfl
    refine z_al_n C hl dX0_takeLatest_0 0 rfl 1 rfl ?_
    refine z_al_n C hl dX0_takeLatest_1 0 rfl 2 rfl ?_
    refine z_get C hW.1 hK fl_X0_22 0 rfl rfl dX0_takeLatest_2 5 rfl ?_
    refine z_iconst C dX0_takeLatest_5 6 rfl ?_
    refine z_isub C dX0_takeLatest_6 7 rfl (0) (by omega) ?_
    refine z_VR (r := .ref (S (Int.toNat 0) 0)) (rest := []) C (m_slotAt l G h pa sn S 1 0 has (by decide)) kV_X0_29 ⟨Nat.le_of_ble_eq_true rfl, Nat.le_of_ble_eq_true rfl⟩ (gP_rg hW.1 [0, 1] rfl) hK 0 rfl rfl rfl hl.1 rfl (Nat.le_of_ble_eq_true rfl) dX0_takeLatest_7 ⟨Nat.le_of_ble_eq_true rfl, Nat.le_of_ble_eq_true rfl⟩ 10 rfl ?_
    refine z_top (b := .ref (S 0 0)) rfl ?_
    refine z_as_n C hl dX0_takeLatest_10 11 rfl (by decide) (lv' := [(2, .ref (S 0 0)), (0, .ref (h)), (1, .ref (qt 0))]) rfl (fun ls hl => ?_)
    refine z_al_n C hl dX0_takeLatest_11 0 rfl 12 rfl ?_
    refine z_ifnonnull C dX0_takeLatest_12 18 (by decide) ?_
    refine z_al_n C hl dX0_takeLatest_18 2 rfl 19 rfl ?_
    refine z_al_n C hl dX0_takeLatest_19 0 rfl 20 rfl ?_
    refine z_VWv (rest := []) C (m_copyFrom l G qt (S 0) v (g 0) (gD_rg hW.2.1 [6, 2] (by decide) rfl)) kV_X0_33 ⟨Nat.le_of_ble_eq_true rfl, Nat.le_of_ble_eq_true rfl⟩ hW hK [6, 2] rfl (sameA_of rfl) 0 rfl rfl rfl hl.1 rfl (Nat.le_of_ble_eq_true rfl) dX0_takeLatest_20 ⟨Nat.le_of_ble_eq_true rfl, Nat.le_of_ble_eq_true rfl⟩ 23 rfl (rs' := [[hiO G h pa sn 1 has], [arQ G pa 4 (slF S)], stW G (S 0) (g 0), stW G (S 1) (g 1), stW G (S 2) (g 2), stW G (S 3) (g 3), stW G qt (g 0)]) rfl (fun H locs hW hkeep => ?_)
    refine z_al_n C hl dX0_takeLatest_23 1 rfl 24 rfl ?_
    refine z_dup C dX0_takeLatest_24 rfl 25 rfl ?_
    refine z_get C hW.1 hK fl_X0_22 0 rfl rfl dX0_takeLatest_25 28 rfl ?_
    refine z_iconst C dX0_takeLatest_28 29 rfl ?_
    refine z_isub C dX0_takeLatest_29 30 rfl (0) (by omega) ?_
    refine z_put C hW hK fl_X0_22 fc_X0_2 0 rfl (rfl) (rfl) (Nat.le_of_ble_eq_true rfl) dX0_takeLatest_30 33 rfl (rs' := [[(h, .inr (0, [.ref (pa), .ref (sn 0), .int (iI (0)), .int (iI (bZ (has)))]))], [arQ G pa 4 (slF S)], stW G (S 0) (g 0), stW G (S 1) (g 1), stW G (S 2) (g 2), stW G (S 3) (g 3), stW G qt (g 0)]) rfl (fun H locs hW => ?_)
    refine z_al_n C hl dX0_takeLatest_33 1 rfl 34 rfl ?_
    refine z_get C hW.1 hK fl_X0_22 0 rfl rfl dX0_takeLatest_34 37 rfl ?_
    exact z_wi C hW dX0_takeLatest_37 (by rfl) rfl
  · skip
    have hW := hW.re (rs' := [[hiO G h pa sn 2 has], [arQ G pa 4 (slF S)], stW G (S 0) (g 0), stW G (S 1) (g 1), stW G (S 2) (g 2), stW G (S 3) (g 3), stW G qt v]) rfl
    refine z_al_n C hl dX0_takeLatest_0 0 rfl 1 rfl ?_
    refine z_al_n C hl dX0_takeLatest_1 0 rfl 2 rfl ?_
    refine z_get C hW.1 hK fl_X0_22 0 rfl rfl dX0_takeLatest_2 5 rfl ?_
    refine z_iconst C dX0_takeLatest_5 6 rfl ?_
    refine z_isub C dX0_takeLatest_6 7 rfl (1) (by omega) ?_
    refine z_VR (r := .ref (S (Int.toNat 1) 0)) (rest := []) C (m_slotAt l G h pa sn S 2 1 has (by decide)) kV_X0_29 ⟨Nat.le_of_ble_eq_true rfl, Nat.le_of_ble_eq_true rfl⟩ (gP_rg hW.1 [0, 1] rfl) hK 0 rfl rfl rfl hl.1 rfl (Nat.le_of_ble_eq_true rfl) dX0_takeLatest_7 ⟨Nat.le_of_ble_eq_true rfl, Nat.le_of_ble_eq_true rfl⟩ 10 rfl ?_
    refine z_top (b := .ref (S 1 0)) rfl ?_
    refine z_as_n C hl dX0_takeLatest_10 11 rfl (by decide) (lv' := [(2, .ref (S 1 0)), (0, .ref (h)), (1, .ref (qt 0))]) rfl (fun ls hl => ?_)
    refine z_al_n C hl dX0_takeLatest_11 0 rfl 12 rfl ?_
    refine z_ifnonnull C dX0_takeLatest_12 18 (by decide) ?_
    refine z_al_n C hl dX0_takeLatest_18 2 rfl 19 rfl ?_
    refine z_al_n C hl dX0_takeLatest_19 0 rfl 20 rfl ?_
    refine z_VWv (rest := []) C (m_copyFrom l G qt (S 1) v (g 1) (gD_rg hW.2.1 [6, 3] (by decide) rfl)) kV_X0_33 ⟨Nat.le_of_ble_eq_true rfl, Nat.le_of_ble_eq_true rfl⟩ hW hK [6, 3] rfl (sameA_of rfl) 0 rfl rfl rfl hl.1 rfl (Nat.le_of_ble_eq_true rfl) dX0_takeLatest_20 ⟨Nat.le_of_ble_eq_true rfl, Nat.le_of_ble_eq_true rfl⟩ 23 rfl (rs' := [[hiO G h pa sn 2 has], [arQ G pa 4 (slF S)], stW G (S 0) (g 0), stW G (S 1) (g 1), stW G (S 2) (g 2), stW G (S 3) (g 3), stW G qt (g 1)]) rfl (fun H locs hW hkeep => ?_)
    refine z_al_n C hl dX0_takeLatest_23 1 rfl 24 rfl ?_
    refine z_dup C dX0_takeLatest_24 rfl 25 rfl ?_
    refine z_get C hW.1 hK fl_X0_22 0 rfl rfl dX0_takeLatest_25 28 rfl ?_
    refine z_iconst C dX0_takeLatest_28 29 rfl ?_
    refine z_isub C dX0_takeLatest_29 30 rfl (1) (by omega) ?_
    refine z_put C hW hK fl_X0_22 fc_X0_2 0 rfl (rfl) (rfl) (Nat.le_of_ble_eq_true rfl) dX0_takeLatest_30 33 rfl (rs' := [[(h, .inr (0, [.ref (pa), .ref (sn 0), .int (iI (1)), .int (iI (bZ (has)))]))], [arQ G pa 4 (slF S)], stW G (S 0) (g 0), stW G (S 1) (g 1), stW G (S 2) (g 2), stW G (S 3) (g 3), stW G qt (g 1)]) rfl (fun H locs hW => ?_)
    refine z_al_n C hl dX0_takeLatest_33 1 rfl 34 rfl ?_
    refine z_get C hW.1 hK fl_X0_22 0 rfl rfl dX0_takeLatest_34 37 rfl ?_
    exact z_wi C hW dX0_takeLatest_37 (by rfl) rfl
  · skip
    have hW := hW.re (rs' := [[hiO G h pa sn 3 has], [arQ G pa 4 (slF S)], stW G (S 0) (g 0), stW G (S 1) (g 1), stW G (S 2) (g 2), stW G (S 3) (g 3), stW G qt v]) rfl
    refine z_al_n C hl dX0_takeLatest_0 0 rfl 1 rfl ?_
    refine z_al_n C hl dX0_takeLatest_1 0 rfl 2 rfl ?_
    refine z_get C hW.1 hK fl_X0_22 0 rfl rfl dX0_takeLatest_2 5 rfl ?_
    refine z_iconst C dX0_takeLatest_5 6 rfl ?_
    refine z_isub C dX0_takeLatest_6 7 rfl (2) (by omega) ?_
    refine z_VR (r := .ref (S (Int.toNat 2) 0)) (rest := []) C (m_slotAt l G h pa sn S 3 2 has (by decide)) kV_X0_29 ⟨Nat.le_of_ble_eq_true rfl, Nat.le_of_ble_eq_true rfl⟩ (gP_rg hW.1 [0, 1] rfl) hK 0 rfl rfl rfl hl.1 rfl (Nat.le_of_ble_eq_true rfl) dX0_takeLatest_7 ⟨Nat.le_of_ble_eq_true rfl, Nat.le_of_ble_eq_true rfl⟩ 10 rfl ?_
    refine z_top (b := .ref (S 2 0)) rfl ?_
    refine z_as_n C hl dX0_takeLatest_10 11 rfl (by decide) (lv' := [(2, .ref (S 2 0)), (0, .ref (h)), (1, .ref (qt 0))]) rfl (fun ls hl => ?_)
    refine z_al_n C hl dX0_takeLatest_11 0 rfl 12 rfl ?_
    refine z_ifnonnull C dX0_takeLatest_12 18 (by decide) ?_
    refine z_al_n C hl dX0_takeLatest_18 2 rfl 19 rfl ?_
    refine z_al_n C hl dX0_takeLatest_19 0 rfl 20 rfl ?_
    refine z_VWv (rest := []) C (m_copyFrom l G qt (S 2) v (g 2) (gD_rg hW.2.1 [6, 4] (by decide) rfl)) kV_X0_33 ⟨Nat.le_of_ble_eq_true rfl, Nat.le_of_ble_eq_true rfl⟩ hW hK [6, 4] rfl (sameA_of rfl) 0 rfl rfl rfl hl.1 rfl (Nat.le_of_ble_eq_true rfl) dX0_takeLatest_20 ⟨Nat.le_of_ble_eq_true rfl, Nat.le_of_ble_eq_true rfl⟩ 23 rfl (rs' := [[hiO G h pa sn 3 has], [arQ G pa 4 (slF S)], stW G (S 0) (g 0), stW G (S 1) (g 1), stW G (S 2) (g 2), stW G (S 3) (g 3), stW G qt (g 2)]) rfl (fun H locs hW hkeep => ?_)
    refine z_al_n C hl dX0_takeLatest_23 1 rfl 24 rfl ?_
    refine z_dup C dX0_takeLatest_24 rfl 25 rfl ?_
    refine z_get C hW.1 hK fl_X0_22 0 rfl rfl dX0_takeLatest_25 28 rfl ?_
    refine z_iconst C dX0_takeLatest_28 29 rfl ?_
    refine z_isub C dX0_takeLatest_29 30 rfl (2) (by omega) ?_
    refine z_put C hW hK fl_X0_22 fc_X0_2 0 rfl (rfl) (rfl) (Nat.le_of_ble_eq_true rfl) dX0_takeLatest_30 33 rfl (rs' := [[(h, .inr (0, [.ref (pa), .ref (sn 0), .int (iI (2)), .int (iI (bZ (has)))]))], [arQ G pa 4 (slF S)], stW G (S 0) (g 0), stW G (S 1) (g 1), stW G (S 2) (g 2), stW G (S 3) (g 3), stW G qt (g 2)]) rfl (fun H locs hW => ?_)
    refine z_al_n C hl dX0_takeLatest_33 1 rfl 34 rfl ?_
    refine z_get C hW.1 hK fl_X0_22 0 rfl rfl dX0_takeLatest_34 37 rfl ?_
    exact z_wi C hW dX0_takeLatest_37 (by rfl) rfl
  · skip
    have hW := hW.re (rs' := [[hiO G h pa sn 4 has], [arQ G pa 4 (slF S)], stW G (S 0) (g 0), stW G (S 1) (g 1), stW G (S 2) (g 2), stW G (S 3) (g 3), stW G qt v]) rfl
    refine z_al_n C hl dX0_takeLatest_0 0 rfl 1 rfl ?_
    refine z_al_n C hl dX0_takeLatest_1 0 rfl 2 rfl ?_
    refine z_get C hW.1 hK fl_X0_22 0 rfl rfl dX0_takeLatest_2 5 rfl ?_
    refine z_iconst C dX0_takeLatest_5 6 rfl ?_
    refine z_isub C dX0_takeLatest_6 7 rfl (3) (by omega) ?_
    refine z_VR (r := .ref (S (Int.toNat 3) 0)) (rest := []) C (m_slotAt l G h pa sn S 4 3 has (by decide)) kV_X0_29 ⟨Nat.le_of_ble_eq_true rfl, Nat.le_of_ble_eq_true rfl⟩ (gP_rg hW.1 [0, 1] rfl) hK 0 rfl rfl rfl hl.1 rfl (Nat.le_of_ble_eq_true rfl) dX0_takeLatest_7 ⟨Nat.le_of_ble_eq_true rfl, Nat.le_of_ble_eq_true rfl⟩ 10 rfl ?_
    refine z_top (b := .ref (S 3 0)) rfl ?_
    refine z_as_n C hl dX0_takeLatest_10 11 rfl (by decide) (lv' := [(2, .ref (S 3 0)), (0, .ref (h)), (1, .ref (qt 0))]) rfl (fun ls hl => ?_)
    refine z_al_n C hl dX0_takeLatest_11 0 rfl 12 rfl ?_
    refine z_ifnonnull C dX0_takeLatest_12 18 (by decide) ?_
    refine z_al_n C hl dX0_takeLatest_18 2 rfl 19 rfl ?_
    refine z_al_n C hl dX0_takeLatest_19 0 rfl 20 rfl ?_
    refine z_VWv (rest := []) C (m_copyFrom l G qt (S 3) v (g 3) (gD_rg hW.2.1 [6, 5] (by decide) rfl)) kV_X0_33 ⟨Nat.le_of_ble_eq_true rfl, Nat.le_of_ble_eq_true rfl⟩ hW hK [6, 5] rfl (sameA_of rfl) 0 rfl rfl rfl hl.1 rfl (Nat.le_of_ble_eq_true rfl) dX0_takeLatest_20 ⟨Nat.le_of_ble_eq_true rfl, Nat.le_of_ble_eq_true rfl⟩ 23 rfl (rs' := [[hiO G h pa sn 4 has], [arQ G pa 4 (slF S)], stW G (S 0) (g 0), stW G (S 1) (g 1), stW G (S 2) (g 2), stW G (S 3) (g 3), stW G qt (g 3)]) rfl (fun H locs hW hkeep => ?_)
    refine z_al_n C hl dX0_takeLatest_23 1 rfl 24 rfl ?_
    refine z_dup C dX0_takeLatest_24 rfl 25 rfl ?_
    refine z_get C hW.1 hK fl_X0_22 0 rfl rfl dX0_takeLatest_25 28 rfl ?_
    refine z_iconst C dX0_takeLatest_28 29 rfl ?_
    refine z_isub C dX0_takeLatest_29 30 rfl (3) (by omega) ?_
    refine z_put C hW hK fl_X0_22 fc_X0_2 0 rfl (rfl) (rfl) (Nat.le_of_ble_eq_true rfl) dX0_takeLatest_30 33 rfl (rs' := [[(h, .inr (0, [.ref (pa), .ref (sn 0), .int (iI (3)), .int (iI (bZ (has)))]))], [arQ G pa 4 (slF S)], stW G (S 0) (g 0), stW G (S 1) (g 1), stW G (S 2) (g 2), stW G (S 3) (g 3), stW G qt (g 3)]) rfl (fun H locs hW => ?_)
    refine z_al_n C hl dX0_takeLatest_33 1 rfl 34 rfl ?_
    refine z_get C hW.1 hK fl_X0_22 0 rfl rfl dX0_takeLatest_34 37 rfl ?_
    exact z_wi C hW dX0_takeLatest_37 (by rfl) rfl

set_option maxHeartbeats 4000000 in
set_option maxRecDepth 100000 in
theorem m_giveSnapshot (l : Launch) (G : gT) (h pa : Nat) (sn : Nat → Nat) (S : Nat → Nat → Nat) (g : Nat → Int → Int) (has : Bool) (n : Int) (sv : Int → Int) (q : Nat → Nat) (v : Int → Int)  (hD : gD ([hiW G h pa sn n S g has, stW G sn sv, stW G q v] : List va_W).flatten) : MW l G yX0_giveSnapshot cX0_giveSnapshot 2 (some .int) 2 [.ref (h), .ref (q 0)] [hiW G h pa sn n S g has, stW G sn sv, stW G q v] [hiW G h pa sn n S g has, stW G sn sv, stW G q (rstV has sv v)] ZT (some (.int (iI (rstR has sv)))) := by
  refine enterW (own := RX0) (by decide +kernel) rfl (Nat.le_of_ble_eq_true rfl) hD ?_
  intro p e s m below meth c C hW hK hZ ls hl
  have hl : lv_has ls 2 [(0, .ref (h)), (1, .ref (q 0))] := hl
  have hW := hW.re (rs' := [[hiO G h pa sn n has], [arQ G pa 4 (slF S)], stW G (S 0) (g 0), stW G (S 1) (g 1), stW G (S 2) (g 2), stW G (S 3) (g 3), stW G sn sv, stW G q v]) rfl
  refine z_al_n C hl dX0_giveSnapshot_0 0 rfl 1 rfl ?_
  refine z_get C hW.1 hK fl_X0_37 0 rfl rfl dX0_giveSnapshot_1 4 rfl ?_
  refine z_ifb_ne C dX0_giveSnapshot_4 10 7 (by decide) rfl (fun c4 => ?_) (fun c4 => ?_)
  · skip
    refine z_al_n C hl dX0_giveSnapshot_10 1 rfl 11 rfl ?_
    refine z_al_n C hl dX0_giveSnapshot_11 0 rfl 12 rfl ?_
    refine z_get C hW.1 hK fl_X0_18 0 rfl rfl dX0_giveSnapshot_12 15 rfl ?_
    refine z_VWv (rest := []) C (m_copyFrom l G q sn v sv (gD_rg hW.2.1 [7, 6] (by decide) rfl)) kV_X0_33 ⟨Nat.le_of_ble_eq_true rfl, Nat.le_of_ble_eq_true rfl⟩ hW hK [7, 6] rfl (sameA_of rfl) 0 rfl rfl rfl hl.1 rfl (Nat.le_of_ble_eq_true rfl) dX0_giveSnapshot_15 ⟨Nat.le_of_ble_eq_true rfl, Nat.le_of_ble_eq_true rfl⟩ 18 rfl (rs' := [[hiO G h pa sn n has], [arQ G pa 4 (slF S)], stW G (S 0) (g 0), stW G (S 1) (g 1), stW G (S 2) (g 2), stW G (S 3) (g 3), stW G sn sv, stW G q sv]) rfl (fun H locs hW hkeep => ?_)
    refine z_al_n C hl dX0_giveSnapshot_18 1 rfl 19 rfl ?_
    refine z_getN C hW.1 hK fl_X0_41 42 rfl rfl dX0_giveSnapshot_19 22 rfl ?_
    subst c4
    exact z_wi C hW dX0_giveSnapshot_22 rfl rfl
  · skip
    refine z_bipush C dX0_giveSnapshot_7 (by decide) 9 rfl ?_
    subst c4
    exact z_wi C hW dX0_giveSnapshot_9 rfl rfl
