set_option maxHeartbeats 4000000 in
set_option maxRecDepth 100000 in
theorem m_recorded (l : Launch) (G : gT) (tb r x cu h pa o sg : Nat) (qn qb sn : Nat → Nat) (S : Nat → Nat → Nat) (g : Nat → Int → Int) (n : Int) (has : Bool) (u : Int → Int) (y : Int) (hn : 0 ≤ n ∧ n ≤ 4) (hy : -2147483648 ≤ y ∧ y < 2147483648) (hD : gD ([[tbO tb qn qb r x h o], stW G qb u, hiW G h pa sn n S g has] : List va_W).flatten) : MW l G yX5_recorded cX5_recorded 2 (some .int) 3 [.ref (tb), .int (iI (y))] [[tbO tb qn qb r x h o], stW G qb u, hiW G h pa sn n S g has] [[tbO tb qn qb r x h o], stW G qb u, hiW G h pa sn (actN y n) (actS y n S) (actG y n g u) has] ZT (some (.int (iI (y)))) := by
  refine enterW (own := RX5) (by decide +kernel) rfl (Nat.le_of_ble_eq_true rfl) hD ?_
  intro p e s m below meth c C hW hK hZ ls hl
  have hl : lv_has ls 2 [(0, .ref (tb)), (1, .int (iI (y)))] := hl
  refine z_il_n C hl dX5_recorded_0 1 rfl 1 rfl ?_
  refine z_if_lt C dX5_recorded_1 15 4 (by decide) rfl (by omega) (fun c1 => ?_) (fun c1 => ?_)
  · skip
    refine z_il_n C hl dX5_recorded_15 1 rfl 16 rfl ?_
    have e1 : actN y n = n := by unfold actN; exact if_neg (by omega)
    have e2 : actS y n S = S := by unfold actS; exact if_neg (by omega)
    have e3 : actG y n g u = g := by unfold actG; exact if_neg (by omega)
    rw [e1, e2, e3]
    exact z_wi C hW dX5_recorded_16 rfl rfl
  · skip
    skip
    refine z_al_n C hl dX5_recorded_4 0 rfl 5 rfl ?_
    refine z_get C hW.1 hK fl_X5_38 0 rfl rfl dX5_recorded_5 8 rfl ?_
    refine z_al_n C hl dX5_recorded_8 0 rfl 9 rfl ?_
    refine z_get C hW.1 hK fl_X5_16 0 rfl rfl dX5_recorded_9 12 rfl ?_
    refine z_VWv (rest := []) C (m_record l G h pa sn S g has n qb u (by omega) (gD_rg hW.2.1 [2, 1] (by decide) rfl)) kV_X5_236 ⟨Nat.le_of_ble_eq_true rfl, Nat.le_of_ble_eq_true rfl⟩ hW hK [2, 1] rfl ((sameA_cons (hi_perm _) (sameA_eq rfl sameA_nil))) 0 rfl rfl rfl hl.1 rfl (Nat.le_of_ble_eq_true rfl) dX5_recorded_12 ⟨Nat.le_of_ble_eq_true rfl, Nat.le_of_ble_eq_true rfl⟩ 15 rfl (rs' := [[tbO tb qn qb r x h o], stW G qb u, hiW G h pa sn (recN n) (recS n S) (recG n g u) has]) rfl (fun H locs hW hkeep => ?_)
    refine z_il_n C hl dX5_recorded_15 1 rfl 16 rfl ?_
    have e1 : actN y n = recN n := by unfold actN; exact if_pos (by omega)
    have e2 : actS y n S = recS n S := by unfold actS; exact if_pos (by omega)
    have e3 : actG y n g u = recG n g u := by unfold actG; exact if_pos (by omega)
    rw [e1, e2, e3]
    exact z_wi C hW dX5_recorded_16 rfl rfl

set_option maxHeartbeats 4000000 in
set_option maxRecDepth 100000 in
theorem m_sand (l : Launch) (G : gT) (tb r x cu h pa o sg : Nat) (qn qb sn : Nat → Nat) (S : Nat → Nat → Nat) (g : Nat → Int → Int) (n : Int) (has : Bool) (u v : Int → Int) (a b : Int) (k : Bool) (hn : 0 ≤ n ∧ n ≤ 4) (w : Wf v) (ha : -2147483648 ≤ a ∧ a < 2147483648) (hb : -2147483648 ≤ b ∧ b < 2147483648) (hD : gD ([[tbO tb qn qb r x h o], [(r, .inr (3, [.ref (qn 0)]))], stW G qn v, stW G qb u, hiW G h pa sn n S g has] : List va_W).flatten) : MW l G yX5_sand cX5_sand 4 (some .int) 4 [.ref (tb), .int (iI (a)), .int (iI (b)), .int (iI (bZ (k)))] [[tbO tb qn qb r x h o], [(r, .inr (3, [.ref (qn 0)]))], stW G qn v, stW G qb u, hiW G h pa sn n S g has] [[tbO tb qn qb r x h o], [(r, .inr (3, [.ref (qn 0)]))], stW G qn (layV v a b (bZ k)), stW G qb v, hiW G h pa sn (actN (layR v a b (bZ k)) n) (actS (layR v a b (bZ k)) n S) (actG (layR v a b (bZ k)) n g v) has] ZT (some (.int (iI (layR v a b (bZ k))))) := by
  refine enterW (own := RX5) (by decide +kernel) rfl (Nat.le_of_ble_eq_true rfl) hD ?_
  intro p e s m below meth c C hW hK hZ ls hl
  have hl : lv_has ls 4 [(0, .ref (tb)), (1, .int (iI (a))), (2, .int (iI (b))), (3, .int (iI (bZ (k))))] := hl
  refine z_al_n C hl dX5_sand_0 0 rfl 1 rfl ?_
  refine z_get C hW.1 hK fl_X5_16 0 rfl rfl dX5_sand_1 4 rfl ?_
  refine z_al_n C hl dX5_sand_4 0 rfl 5 rfl ?_
  refine z_get C hW.1 hK fl_X5_10 0 rfl rfl dX5_sand_5 8 rfl ?_
  refine z_VWv (rest := []) C (m_copyFrom l G qb qn u v (gD_rg hW.2.1 [3, 2] (by decide) rfl)) kV_X5_49 ⟨Nat.le_of_ble_eq_true rfl, Nat.le_of_ble_eq_true rfl⟩ hW hK [3, 2] rfl (sameA_of rfl) 0 rfl rfl rfl hl.1 rfl (Nat.le_of_ble_eq_true rfl) dX5_sand_8 ⟨Nat.le_of_ble_eq_true rfl, Nat.le_of_ble_eq_true rfl⟩ 11 rfl (rs' := [[tbO tb qn qb r x h o], [(r, .inr (3, [.ref (qn 0)]))], stW G qn v, stW G qb v, hiW G h pa sn n S g has]) rfl (fun H locs hW hkeep => ?_)
  refine z_al_n C hl dX5_sand_11 0 rfl 12 rfl ?_
  refine z_al_n C hl dX5_sand_12 0 rfl 13 rfl ?_
  refine z_get C hW.1 hK fl_X5_24 0 rfl rfl dX5_sand_13 16 rfl ?_
  refine z_il_n C hl dX5_sand_16 1 rfl 17 rfl ?_
  refine z_il_n C hl dX5_sand_17 2 rfl 18 rfl ?_
  refine z_il_n C hl dX5_sand_18 3 rfl 19 rfl ?_
  refine z_VWi (r := .int (iI (layR v a b (bZ k)))) (rest := [.ref (tb)]) C (m_laySand l G r qn v a b k w (by omega) (by omega) (gD_rg hW.2.1 [1, 2] (by decide) rfl)) kV_X5_52 ⟨Nat.le_of_ble_eq_true rfl, Nat.le_of_ble_eq_true rfl⟩ hW hK [1, 2] rfl (sameA_of rfl) 0 rfl rfl rfl hl.1 rfl (Nat.le_of_ble_eq_true rfl) dX5_sand_19 ⟨Nat.le_of_ble_eq_true rfl, Nat.le_of_ble_eq_true rfl⟩ 22 rfl (rs' := [[tbO tb qn qb r x h o], [(r, .inr (3, [.ref (qn 0)]))], stW G qn (layV v a b (bZ k)), stW G qb v, hiW G h pa sn n S g has]) rfl (fun H locs hW hkeep => ?_)
  have y19 := layR_rng w a b (bZ k)
  refine z_VWi (r := .int (iI (layR v a b (bZ k)))) (rest := []) C (m_recorded l G tb r x cu h pa o sg qn qb sn S g n has v (layR v a b (bZ k)) (by omega) (by omega) (gD_rg hW.2.1 [0, 3, 4] (by decide) rfl)) kV_X5_56 ⟨Nat.le_of_ble_eq_true rfl, Nat.le_of_ble_eq_true rfl⟩ hW hK [0, 3, 4] rfl ((sameA_eq rfl (sameA_eq rfl (sameA_cons (hi_permA _ _) sameA_nil)))) 0 rfl rfl rfl hl.1 rfl (Nat.le_of_ble_eq_true rfl) dX5_sand_22 ⟨Nat.le_of_ble_eq_true rfl, Nat.le_of_ble_eq_true rfl⟩ 25 rfl (rs' := [[tbO tb qn qb r x h o], [(r, .inr (3, [.ref (qn 0)]))], stW G qn (layV v a b (bZ k)), stW G qb v, hiW G h pa sn (actN (layR v a b (bZ k)) n) (actS (layR v a b (bZ k)) n S) (actG (layR v a b (bZ k)) n g v) has]) rfl (fun H locs hW hkeep => ?_)
  exact z_wi C hW dX5_sand_25 (rfl) rfl

set_option maxHeartbeats 4000000 in
set_option maxRecDepth 100000 in
theorem m_boat (l : Launch) (G : gT) (tb r x cu h pa o sg : Nat) (qn qb sn : Nat → Nat) (S : Nat → Nat → Nat) (g : Nat → Int → Int) (n : Int) (has : Bool) (u v : Int → Int) (a b d : Int) (hn : 0 ≤ n ∧ n ≤ 4) (w : Wf v) (ha : -2147483648 ≤ a ∧ a < 2147483648) (hb : -2147483648 ≤ b ∧ b < 2147483648) (hd : -2147483648 ≤ d ∧ d < 2147483648) (hD : gD ([[tbO tb qn qb r x h o], [(r, .inr (3, [.ref (qn 0)]))], stW G qn v, stW G qb u, hiW G h pa sn n S g has] : List va_W).flatten) : MW l G yX5_boat cX5_boat 4 (some .int) 4 [.ref (tb), .int (iI (a)), .int (iI (b)), .int (iI (d))] [[tbO tb qn qb r x h o], [(r, .inr (3, [.ref (qn 0)]))], stW G qn v, stW G qb u, hiW G h pa sn n S g has] [[tbO tb qn qb r x h o], [(r, .inr (3, [.ref (qn 0)]))], stW G qn (addV v a b d), stW G qb v, hiW G h pa sn (actN (addR v a b d) n) (actS (addR v a b d) n S) (actG (addR v a b d) n g v) has] ZT (some (.int (iI (addR v a b d)))) := by
  refine enterW (own := RX5) (by decide +kernel) rfl (Nat.le_of_ble_eq_true rfl) hD ?_
  intro p e s m below meth c C hW hK hZ ls hl
  have hl : lv_has ls 4 [(0, .ref (tb)), (1, .int (iI (a))), (2, .int (iI (b))), (3, .int (iI (d)))] := hl
  refine z_al_n C hl dX5_boat_0 0 rfl 1 rfl ?_
  refine z_get C hW.1 hK fl_X5_16 0 rfl rfl dX5_boat_1 4 rfl ?_
  refine z_al_n C hl dX5_boat_4 0 rfl 5 rfl ?_
  refine z_get C hW.1 hK fl_X5_10 0 rfl rfl dX5_boat_5 8 rfl ?_
  refine z_VWv (rest := []) C (m_copyFrom l G qb qn u v (gD_rg hW.2.1 [3, 2] (by decide) rfl)) kV_X5_49 ⟨Nat.le_of_ble_eq_true rfl, Nat.le_of_ble_eq_true rfl⟩ hW hK [3, 2] rfl (sameA_of rfl) 0 rfl rfl rfl hl.1 rfl (Nat.le_of_ble_eq_true rfl) dX5_boat_8 ⟨Nat.le_of_ble_eq_true rfl, Nat.le_of_ble_eq_true rfl⟩ 11 rfl (rs' := [[tbO tb qn qb r x h o], [(r, .inr (3, [.ref (qn 0)]))], stW G qn v, stW G qb v, hiW G h pa sn n S g has]) rfl (fun H locs hW hkeep => ?_)
  refine z_al_n C hl dX5_boat_11 0 rfl 12 rfl ?_
  refine z_al_n C hl dX5_boat_12 0 rfl 13 rfl ?_
  refine z_get C hW.1 hK fl_X5_24 0 rfl rfl dX5_boat_13 16 rfl ?_
  refine z_il_n C hl dX5_boat_16 1 rfl 17 rfl ?_
  refine z_il_n C hl dX5_boat_17 2 rfl 18 rfl ?_
  refine z_il_n C hl dX5_boat_18 3 rfl 19 rfl ?_
  refine z_VWi (r := .int (iI (addR v a b d))) (rest := [.ref (tb)]) C (m_addBoat l G r qn v a b d w (by omega) (by omega) (by omega) (gD_rg hW.2.1 [1, 2] (by decide) rfl)) kV_X5_60 ⟨Nat.le_of_ble_eq_true rfl, Nat.le_of_ble_eq_true rfl⟩ hW hK [1, 2] rfl (sameA_of rfl) 0 rfl rfl rfl hl.1 rfl (Nat.le_of_ble_eq_true rfl) dX5_boat_19 ⟨Nat.le_of_ble_eq_true rfl, Nat.le_of_ble_eq_true rfl⟩ 22 rfl (rs' := [[tbO tb qn qb r x h o], [(r, .inr (3, [.ref (qn 0)]))], stW G qn (addV v a b d), stW G qb v, hiW G h pa sn n S g has]) rfl (fun H locs hW hkeep => ?_)
  have y19 := addR_rng w a b d
  refine z_VWi (r := .int (iI (addR v a b d))) (rest := []) C (m_recorded l G tb r x cu h pa o sg qn qb sn S g n has v (addR v a b d) (by omega) (by omega) (gD_rg hW.2.1 [0, 3, 4] (by decide) rfl)) kV_X5_56 ⟨Nat.le_of_ble_eq_true rfl, Nat.le_of_ble_eq_true rfl⟩ hW hK [0, 3, 4] rfl ((sameA_eq rfl (sameA_eq rfl (sameA_cons (hi_permA _ _) sameA_nil)))) 0 rfl rfl rfl hl.1 rfl (Nat.le_of_ble_eq_true rfl) dX5_boat_22 ⟨Nat.le_of_ble_eq_true rfl, Nat.le_of_ble_eq_true rfl⟩ 25 rfl (rs' := [[tbO tb qn qb r x h o], [(r, .inr (3, [.ref (qn 0)]))], stW G qn (addV v a b d), stW G qb v, hiW G h pa sn (actN (addR v a b d) n) (actS (addR v a b d) n S) (actG (addR v a b d) n g v) has]) rfl (fun H locs hW hkeep => ?_)
  exact z_wi C hW dX5_boat_25 (rfl) rfl

set_option maxHeartbeats 4000000 in
set_option maxRecDepth 100000 in
theorem m_set (l : Launch) (G : gT) (tb r x cu h pa o sg : Nat) (qn qb sn : Nat → Nat) (S : Nat → Nat → Nat) (g : Nat → Int → Int) (n : Int) (has : Bool) (u v : Int → Int) (E : eT) (a b : Int) (hn : 0 ≤ n ∧ n ≤ 4) (w : Wf v) (ha : -2147483648 ≤ a ∧ a < 2147483648) (hb : -2147483648 ≤ b ∧ b < 2147483648) (hD : gD ([[tbO tb qn qb r x h o], [(r, .inr (3, [.ref (qn 0)]))], stW G qn v, stW G qb u, hiW G h pa sn n S g has] : List va_W).flatten) : MW l G yX5_set cX5_set 3 (some .int) 4 [.ref (tb), .int (iI (a)), .int (iI (b))] [[tbO tb qn qb r x h o], [(r, .inr (3, [.ref (qn 0)]))], stW G qn v, stW G qb u, hiW G h pa sn n S g has] [[tbO tb qn qb r x h o], [(r, .inr (3, [.ref (qn 0)]))], stW G qn (chsV v a b), stW G qb v, hiW G h pa sn (actN (chsR v a b) n) (actS (chsR v a b) n S) (actG (chsR v a b) n g v) has] (ZW E [[tbO tb qn qb r x h o], [(r, .inr (3, [.ref (qn 0)]))], stW G qn v, stW G qb u, hiW G h pa sn n S g has]) (some (.int (iI (chsR v a b)))) := by
  refine enterW (own := RX5) (by decide +kernel) rfl (Nat.le_of_ble_eq_true rfl) hD ?_
  intro p e s m below meth c C hW hK hZ ls hl
  have hl : lv_has ls 3 [(0, .ref (tb)), (1, .int (iI (a))), (2, .int (iI (b)))] := hl
  refine z_al_n C hl dX5_set_0 0 rfl 1 rfl ?_
  refine z_get C hW.1 hK fl_X5_16 0 rfl rfl dX5_set_1 4 rfl ?_
  refine z_al_n C hl dX5_set_4 0 rfl 5 rfl ?_
  refine z_get C hW.1 hK fl_X5_10 0 rfl rfl dX5_set_5 8 rfl ?_
  refine z_VWv (rest := []) C (m_copyFrom l G qb qn u v (gD_rg hW.2.1 [3, 2] (by decide) rfl)) kV_X5_49 ⟨Nat.le_of_ble_eq_true rfl, Nat.le_of_ble_eq_true rfl⟩ hW hK [3, 2] rfl (sameA_of rfl) 0 rfl rfl rfl hl.1 rfl (Nat.le_of_ble_eq_true rfl) dX5_set_8 ⟨Nat.le_of_ble_eq_true rfl, Nat.le_of_ble_eq_true rfl⟩ 11 rfl (rs' := [[tbO tb qn qb r x h o], [(r, .inr (3, [.ref (qn 0)]))], stW G qn v, stW G qb v, hiW G h pa sn n S g has]) rfl (fun H locs hW hkeep => ?_)
  refine z_al_n C hl dX5_set_11 0 rfl 12 rfl ?_
  refine z_al_n C hl dX5_set_12 0 rfl 13 rfl ?_
  refine z_get C hW.1 hK fl_X5_24 0 rfl rfl dX5_set_13 16 rfl ?_
  refine z_il_n C hl dX5_set_16 1 rfl 17 rfl ?_
  refine z_il_n C hl dX5_set_17 2 rfl 18 rfl ?_
  refine z_VWzi (r := .int (iI (chsR v a b))) (rest := [.ref (tb)]) C (m_changeSetting l G E r qn v a b w (by omega) (by omega) (gD_rg hW.2.1 [1, 2] (by decide) rfl)) kV_X5_64 ⟨Nat.le_of_ble_eq_true rfl, Nat.le_of_ble_eq_true rfl⟩ hW hK [1, 2] rfl (sameA_of rfl) zw_blind (zw_of hZ hW.2.2.2 (hW.in [1, 2] rfl)) 0 rfl rfl rfl hl.1 rfl (Nat.le_of_ble_eq_true rfl) dX5_set_18 ⟨Nat.le_of_ble_eq_true rfl, Nat.le_of_ble_eq_true rfl⟩ 21 rfl (rs' := [[tbO tb qn qb r x h o], [(r, .inr (3, [.ref (qn 0)]))], stW G qn (chsV v a b), stW G qb v, hiW G h pa sn n S g has]) rfl (fun H locs hW hkeep => ?_)
  have y18 := chsR_rng w a b
  refine z_VWi (r := .int (iI (chsR v a b))) (rest := []) C (m_recorded l G tb r x cu h pa o sg qn qb sn S g n has v (chsR v a b) (by omega) (by omega) (gD_rg hW.2.1 [0, 3, 4] (by decide) rfl)) kV_X5_56 ⟨Nat.le_of_ble_eq_true rfl, Nat.le_of_ble_eq_true rfl⟩ hW hK [0, 3, 4] rfl ((sameA_eq rfl (sameA_eq rfl (sameA_cons (hi_permA _ _) sameA_nil)))) 0 rfl rfl rfl hl.1 rfl (Nat.le_of_ble_eq_true rfl) dX5_set_21 ⟨Nat.le_of_ble_eq_true rfl, Nat.le_of_ble_eq_true rfl⟩ 24 rfl (rs' := [[tbO tb qn qb r x h o], [(r, .inr (3, [.ref (qn 0)]))], stW G qn (chsV v a b), stW G qb v, hiW G h pa sn (actN (chsR v a b) n) (actS (chsR v a b) n S) (actG (chsR v a b) n g v) has]) rfl (fun H locs hW hkeep => ?_)
  exact z_wi C hW dX5_set_24 (rfl) rfl

set_option maxHeartbeats 4000000 in
set_option maxRecDepth 100000 in
theorem m_move (l : Launch) (G : gT) (tb r x cu h pa o sg : Nat) (qn qb sn : Nat → Nat) (S : Nat → Nat → Nat) (g : Nat → Int → Int) (n : Int) (has : Bool) (u v : Int → Int) (a b d : Int) (hn : 0 ≤ n ∧ n ≤ 4) (w : Wf v) (ha : -2147483648 ≤ a ∧ a < 2147483648) (hb : -2147483648 ≤ b ∧ b < 2147483648) (hd : -2147483648 ≤ d ∧ d < 2147483648) (hD : gD ([[tbO tb qn qb r x h o], [(r, .inr (3, [.ref (qn 0)]))], stW G qn v, stW G qb u, hiW G h pa sn n S g has] : List va_W).flatten) : MW l G yX5_move cX5_move 4 (some .int) 5 [.ref (tb), .int (iI (a)), .int (iI (b)), .int (iI (d))] [[tbO tb qn qb r x h o], [(r, .inr (3, [.ref (qn 0)]))], stW G qn v, stW G qb u, hiW G h pa sn n S g has] [[tbO tb qn qb r x h o], [(r, .inr (3, [.ref (qn 0)]))], stW G qn (saiV v a b d), stW G qb v, hiW G h pa sn (actN (saiR v a b d) n) (actS (saiR v a b d) n S) (actG (saiR v a b d) n g v) has] ZT (some (.int (iI (saiR v a b d)))) := by
  refine enterW (own := RX5) (by decide +kernel) rfl (Nat.le_of_ble_eq_true rfl) hD ?_
  intro p e s m below meth c C hW hK hZ ls hl
  have hl : lv_has ls 4 [(0, .ref (tb)), (1, .int (iI (a))), (2, .int (iI (b))), (3, .int (iI (d)))] := hl
  refine z_al_n C hl dX5_move_0 0 rfl 1 rfl ?_
  refine z_get C hW.1 hK fl_X5_16 0 rfl rfl dX5_move_1 4 rfl ?_
  refine z_al_n C hl dX5_move_4 0 rfl 5 rfl ?_
  refine z_get C hW.1 hK fl_X5_10 0 rfl rfl dX5_move_5 8 rfl ?_
  refine z_VWv (rest := []) C (m_copyFrom l G qb qn u v (gD_rg hW.2.1 [3, 2] (by decide) rfl)) kV_X5_49 ⟨Nat.le_of_ble_eq_true rfl, Nat.le_of_ble_eq_true rfl⟩ hW hK [3, 2] rfl (sameA_of rfl) 0 rfl rfl rfl hl.1 rfl (Nat.le_of_ble_eq_true rfl) dX5_move_8 ⟨Nat.le_of_ble_eq_true rfl, Nat.le_of_ble_eq_true rfl⟩ 11 rfl (rs' := [[tbO tb qn qb r x h o], [(r, .inr (3, [.ref (qn 0)]))], stW G qn v, stW G qb v, hiW G h pa sn n S g has]) rfl (fun H locs hW hkeep => ?_)
  refine z_al_n C hl dX5_move_11 0 rfl 12 rfl ?_
  refine z_al_n C hl dX5_move_12 0 rfl 13 rfl ?_
  refine z_get C hW.1 hK fl_X5_24 0 rfl rfl dX5_move_13 16 rfl ?_
  refine z_il_n C hl dX5_move_16 1 rfl 17 rfl ?_
  refine z_il_n C hl dX5_move_17 2 rfl 18 rfl ?_
  refine z_il_n C hl dX5_move_18 3 rfl 19 rfl ?_
  refine z_VWi (r := .int (iI (saiR v a b d))) (rest := [.ref (tb)]) C (m_sail l G r qn v a b d w (by omega) (by omega) (by omega) (gD_rg hW.2.1 [1, 2] (by decide) rfl)) kV_X5_68 ⟨Nat.le_of_ble_eq_true rfl, Nat.le_of_ble_eq_true rfl⟩ hW hK [1, 2] rfl (sameA_of rfl) 0 rfl rfl rfl hl.1 rfl (Nat.le_of_ble_eq_true rfl) dX5_move_19 ⟨Nat.le_of_ble_eq_true rfl, Nat.le_of_ble_eq_true rfl⟩ 22 rfl (rs' := [[tbO tb qn qb r x h o], [(r, .inr (3, [.ref (qn 0)]))], stW G qn (saiV v a b d), stW G qb v, hiW G h pa sn n S g has]) rfl (fun H locs hW hkeep => ?_)
  have y19 := saiR_rng w a b d
  refine z_VWi (r := .int (iI (saiR v a b d))) (rest := []) C (m_recorded l G tb r x cu h pa o sg qn qb sn S g n has v (saiR v a b d) (by omega) (by omega) (gD_rg hW.2.1 [0, 3, 4] (by decide) rfl)) kV_X5_56 ⟨Nat.le_of_ble_eq_true rfl, Nat.le_of_ble_eq_true rfl⟩ hW hK [0, 3, 4] rfl ((sameA_eq rfl (sameA_eq rfl (sameA_cons (hi_permA _ _) sameA_nil)))) 0 rfl rfl rfl hl.1 rfl (Nat.le_of_ble_eq_true rfl) dX5_move_22 ⟨Nat.le_of_ble_eq_true rfl, Nat.le_of_ble_eq_true rfl⟩ 25 rfl (rs' := [[tbO tb qn qb r x h o], [(r, .inr (3, [.ref (qn 0)]))], stW G qn (saiV v a b d), stW G qb v, hiW G h pa sn (actN (saiR v a b d) n) (actS (saiR v a b d) n S) (actG (saiR v a b d) n g v) has]) rfl (fun H locs hW hkeep => ?_)
  exact z_wi C hW dX5_move_25 (rfl) rfl

set_option maxHeartbeats 4000000 in
set_option maxRecDepth 100000 in
theorem m_pause (l : Launch) (G : gT) (tb r x cu h pa o sg : Nat) (qn qb sn : Nat → Nat) (S : Nat → Nat → Nat) (g : Nat → Int → Int) (n : Int) (has : Bool) (u v : Int → Int) (hn : 0 ≤ n ∧ n ≤ 4) (w : Wf v) (hD : gD ([[tbO tb qn qb r x h o], [(r, .inr (3, [.ref (qn 0)]))], stW G qn v, stW G qb u, hiW G h pa sn n S g has] : List va_W).flatten) : MW l G yX5_pause cX5_pause 1 (some .int) 5 [.ref (tb)] [[tbO tb qn qb r x h o], [(r, .inr (3, [.ref (qn 0)]))], stW G qn v, stW G qb u, hiW G h pa sn n S g has] [[tbO tb qn qb r x h o], [(r, .inr (3, [.ref (qn 0)]))], stW G qn (waiV v), stW G qb v, hiW G h pa sn (actN (waiR v) n) (actS (waiR v) n S) (actG (waiR v) n g v) has] ZT (some (.int (iI (waiR v)))) := by
  refine enterW (own := RX5) (by decide +kernel) rfl (Nat.le_of_ble_eq_true rfl) hD ?_
  intro p e s m below meth c C hW hK hZ ls hl
  have hl : lv_has ls 1 [(0, .ref (tb))] := hl
  refine z_al_n C hl dX5_pause_0 0 rfl 1 rfl ?_
  refine z_get C hW.1 hK fl_X5_16 0 rfl rfl dX5_pause_1 4 rfl ?_
  refine z_al_n C hl dX5_pause_4 0 rfl 5 rfl ?_
  refine z_get C hW.1 hK fl_X5_10 0 rfl rfl dX5_pause_5 8 rfl ?_
  refine z_VWv (rest := []) C (m_copyFrom l G qb qn u v (gD_rg hW.2.1 [3, 2] (by decide) rfl)) kV_X5_49 ⟨Nat.le_of_ble_eq_true rfl, Nat.le_of_ble_eq_true rfl⟩ hW hK [3, 2] rfl (sameA_of rfl) 0 rfl rfl rfl hl.1 rfl (Nat.le_of_ble_eq_true rfl) dX5_pause_8 ⟨Nat.le_of_ble_eq_true rfl, Nat.le_of_ble_eq_true rfl⟩ 11 rfl (rs' := [[tbO tb qn qb r x h o], [(r, .inr (3, [.ref (qn 0)]))], stW G qn v, stW G qb v, hiW G h pa sn n S g has]) rfl (fun H locs hW hkeep => ?_)
  refine z_al_n C hl dX5_pause_11 0 rfl 12 rfl ?_
  refine z_al_n C hl dX5_pause_12 0 rfl 13 rfl ?_
  refine z_get C hW.1 hK fl_X5_24 0 rfl rfl dX5_pause_13 16 rfl ?_
  refine z_VWi (r := .int (iI (waiR v))) (rest := [.ref (tb)]) C (m_waitATurn l G r qn v  w  (gD_rg hW.2.1 [1, 2] (by decide) rfl)) kV_X5_71 ⟨Nat.le_of_ble_eq_true rfl, Nat.le_of_ble_eq_true rfl⟩ hW hK [1, 2] rfl (sameA_of rfl) 0 rfl rfl rfl hl.1 rfl (Nat.le_of_ble_eq_true rfl) dX5_pause_16 ⟨Nat.le_of_ble_eq_true rfl, Nat.le_of_ble_eq_true rfl⟩ 19 rfl (rs' := [[tbO tb qn qb r x h o], [(r, .inr (3, [.ref (qn 0)]))], stW G qn (waiV v), stW G qb v, hiW G h pa sn n S g has]) rfl (fun H locs hW hkeep => ?_)
  have y16 := waiR_rng w
  refine z_VWi (r := .int (iI (waiR v))) (rest := []) C (m_recorded l G tb r x cu h pa o sg qn qb sn S g n has v (waiR v) (by omega) (by omega) (gD_rg hW.2.1 [0, 3, 4] (by decide) rfl)) kV_X5_56 ⟨Nat.le_of_ble_eq_true rfl, Nat.le_of_ble_eq_true rfl⟩ hW hK [0, 3, 4] rfl ((sameA_eq rfl (sameA_eq rfl (sameA_cons (hi_permA _ _) sameA_nil)))) 0 rfl rfl rfl hl.1 rfl (Nat.le_of_ble_eq_true rfl) dX5_pause_19 ⟨Nat.le_of_ble_eq_true rfl, Nat.le_of_ble_eq_true rfl⟩ 22 rfl (rs' := [[tbO tb qn qb r x h o], [(r, .inr (3, [.ref (qn 0)]))], stW G qn (waiV v), stW G qb v, hiW G h pa sn (actN (waiR v) n) (actS (waiR v) n S) (actG (waiR v) n g v) has]) rfl (fun H locs hW hkeep => ?_)
  exact z_wi C hW dX5_pause_22 (rfl) rfl

set_option maxHeartbeats 4000000 in
set_option maxRecDepth 100000 in
theorem m_undo (l : Launch) (G : gT) (tb r x cu h pa o sg : Nat) (qn qb sn : Nat → Nat) (S : Nat → Nat → Nat) (g : Nat → Int → Int) (n : Int) (has : Bool) (v : Int → Int) (hn : 0 ≤ n ∧ n ≤ 4) (hD : gD ([[tbO tb qn qb r x h o], hiW G h pa sn n S g has, stW G qn v] : List va_W).flatten) : MW l G yX5_undo cX5_undo 1 (some .int) 3 [.ref (tb)] [[tbO tb qn qb r x h o], hiW G h pa sn n S g has, stW G qn v] [[tbO tb qn qb r x h o], hiW G h pa sn (undN n) S g has, stW G qn (undV n g v)] ZT (some (.int (iI (undR n)))) := by
  refine enterW (own := RX5) (by decide +kernel) rfl (Nat.le_of_ble_eq_true rfl) hD ?_
  intro p e s m below meth c C hW hK hZ ls hl
  have hl : lv_has ls 1 [(0, .ref (tb))] := hl
  refine z_al_n C hl dX5_undo_0 0 rfl 1 rfl ?_
  refine z_get C hW.1 hK fl_X5_38 0 rfl rfl dX5_undo_1 4 rfl ?_
  refine z_al_n C hl dX5_undo_4 0 rfl 5 rfl ?_
  refine z_get C hW.1 hK fl_X5_10 0 rfl rfl dX5_undo_5 8 rfl ?_
  refine z_VWi (r := .int (iI (undR n))) (rest := []) C (m_takeLatest l G h pa sn S g has n qn v (by omega) (gD_rg hW.2.1 [1, 2] (by decide) rfl)) kV_X5_95 ⟨Nat.le_of_ble_eq_true rfl, Nat.le_of_ble_eq_true rfl⟩ hW hK [1, 2] rfl (sameA_of rfl) 0 rfl rfl rfl hl.1 rfl (Nat.le_of_ble_eq_true rfl) dX5_undo_8 ⟨Nat.le_of_ble_eq_true rfl, Nat.le_of_ble_eq_true rfl⟩ 11 rfl (rs' := [[tbO tb qn qb r x h o], hiW G h pa sn (undN n) S g has, stW G qn (undV n g v)]) rfl (fun H locs hW hkeep => ?_)
  exact z_wi C hW dX5_undo_11 (rfl) rfl

set_option maxHeartbeats 4000000 in
set_option maxRecDepth 100000 in
theorem m_restore (l : Launch) (G : gT) (tb r x cu h pa o sg : Nat) (qn qb sn : Nat → Nat) (S : Nat → Nat → Nat) (g : Nat → Int → Int) (n : Int) (has : Bool) (sv u v : Int → Int) (hn : 0 ≤ n ∧ n ≤ 4) (ws : Wf sv) (hD : gD ([[tbO tb qn qb r x h o], hiW G h pa sn n S g has, stW G sn sv, stW G qn v, stW G qb u] : List va_W).flatten) : MW l G yX5_restore cX5_restore 1 (some .int) 4 [.ref (tb)] [[tbO tb qn qb r x h o], hiW G h pa sn n S g has, stW G sn sv, stW G qn v, stW G qb u] [[tbO tb qn qb r x h o], hiW G h pa sn (actN (rstR has sv) n) (actS (rstR has sv) n S) (actG (rstR has sv) n g v) has, stW G sn sv, stW G qn (rstV has sv v), stW G qb v] ZT (some (.int (iI (rstR has sv)))) := by
  refine enterW (own := RX5) (by decide +kernel) rfl (Nat.le_of_ble_eq_true rfl) hD ?_
  intro p e s m below meth c C hW hK hZ ls hl
  have hl : lv_has ls 1 [(0, .ref (tb))] := hl
  refine z_al_n C hl dX5_restore_0 0 rfl 1 rfl ?_
  refine z_get C hW.1 hK fl_X5_16 0 rfl rfl dX5_restore_1 4 rfl ?_
  refine z_al_n C hl dX5_restore_4 0 rfl 5 rfl ?_
  refine z_get C hW.1 hK fl_X5_10 0 rfl rfl dX5_restore_5 8 rfl ?_
  refine z_VWv (rest := []) C (m_copyFrom l G qb qn u v (gD_rg hW.2.1 [4, 3] (by decide) rfl)) kV_X5_49 ⟨Nat.le_of_ble_eq_true rfl, Nat.le_of_ble_eq_true rfl⟩ hW hK [4, 3] rfl (sameA_of rfl) 0 rfl rfl rfl hl.1 rfl (Nat.le_of_ble_eq_true rfl) dX5_restore_8 ⟨Nat.le_of_ble_eq_true rfl, Nat.le_of_ble_eq_true rfl⟩ 11 rfl (rs' := [[tbO tb qn qb r x h o], hiW G h pa sn n S g has, stW G sn sv, stW G qn v, stW G qb v]) rfl (fun H locs hW hkeep => ?_)
  refine z_al_n C hl dX5_restore_11 0 rfl 12 rfl ?_
  refine z_al_n C hl dX5_restore_12 0 rfl 13 rfl ?_
  refine z_get C hW.1 hK fl_X5_38 0 rfl rfl dX5_restore_13 16 rfl ?_
  refine z_al_n C hl dX5_restore_16 0 rfl 17 rfl ?_
  refine z_get C hW.1 hK fl_X5_10 0 rfl rfl dX5_restore_17 20 rfl ?_
  refine z_VWi (r := .int (iI (rstR has sv))) (rest := [.ref (tb)]) C (m_giveSnapshot l G h pa sn S g has n sv qn v (gD_rg hW.2.1 [1, 2, 3] (by decide) rfl)) kV_X5_105 ⟨Nat.le_of_ble_eq_true rfl, Nat.le_of_ble_eq_true rfl⟩ hW hK [1, 2, 3] rfl (sameA_of rfl) 0 rfl rfl rfl hl.1 rfl (Nat.le_of_ble_eq_true rfl) dX5_restore_20 ⟨Nat.le_of_ble_eq_true rfl, Nat.le_of_ble_eq_true rfl⟩ 23 rfl (rs' := [[tbO tb qn qb r x h o], hiW G h pa sn n S g has, stW G sn sv, stW G qn (rstV has sv v), stW G qb v]) rfl (fun H locs hW hkeep => ?_)
  have hs := ws.t
  have y20 : -5 ≤ rstR has sv ∧ rstR has sv ≤ 100 := by unfold rstR; split <;> omega
  refine z_VWi (r := .int (iI (rstR has sv))) (rest := []) C (m_recorded l G tb r x cu h pa o sg qn qb sn S g n has v (rstR has sv) (by omega) (by omega) (gD_rg hW.2.1 [0, 4, 1] (by decide) rfl)) kV_X5_56 ⟨Nat.le_of_ble_eq_true rfl, Nat.le_of_ble_eq_true rfl⟩ hW hK [0, 4, 1] rfl ((sameA_eq rfl (sameA_eq rfl (sameA_cons (hi_permA _ _) sameA_nil)))) 0 rfl rfl rfl hl.1 rfl (Nat.le_of_ble_eq_true rfl) dX5_restore_23 ⟨Nat.le_of_ble_eq_true rfl, Nat.le_of_ble_eq_true rfl⟩ 26 rfl (rs' := [[tbO tb qn qb r x h o], hiW G h pa sn (actN (rstR has sv) n) (actS (rstR has sv) n S) (actG (rstR has sv) n g v) has, stW G sn sv, stW G qn (rstV has sv v), stW G qb v]) rfl (fun H locs hW hkeep => ?_)
  exact z_wi C hW dX5_restore_26 (rfl) rfl
