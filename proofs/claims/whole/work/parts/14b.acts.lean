set_option maxHeartbeats 4000000 in
set_option maxRecDepth 100000 in
theorem m_recorded (l : Launch) (G : gT) (tb r x cu h pa o sg : Nat) (qn qb sn : Nat → Nat) (S : Nat → Nat → Nat) (g : Nat → Int → Int) (n : Int) (has : Bool) (u : Int → Int) (y : Int) (hn : 0 ≤ n ∧ n ≤ 4) (hy : -2147483648 ≤ y ∧ y < 2147483648) (hD : gD ([[tbO tb qn qb r x h o], stW G qb u, hiW G h pa sn n S g has] : List va_W).flatten) : MW l G yX5_recorded cX5_recorded 2 (some .int) 3 [.ref (tb), .int (iI (y))] [[tbO tb qn qb r x h o], stW G qb u, hiW G h pa sn n S g has] [[tbO tb qn qb r x h o], stW G qb u, hiW G h pa sn (actN y n) (actS y n S) (actG y n g u) has] ZT (some (.int (iI (y)))) := by
  refine enterW (own := RX5) (by decide +kernel) rfl (Nat.le_of_ble_eq_true rfl) hD ?_
  intro p e s m below meth c C hW hK hZ ls hl
  have hl : lv_has ls 2 [(0, .ref (tb)), (1, .int (iI (y)))] := hl
  refine z_il_n C hl dX5_recorded_0 1 rfl 1 rfl ?_
  refine z_if_lt C dX5_recorded_1 15 4 (by decide) rfl (by omega) (fun c1 => ?_) (fun c1 => ?_)
  · skip
    refine z_il_n C hl dX5_recorded_15 1 rfl 16 rfl ?_
    have e1 : actN y n = n := by unfold actN; exact if_neg (by omega)
    have e2 : actS y n S = S := by unfold actS; exact if_neg (by omega)
    have e3 : actG y n g u = g := by unfold actG; exact if_neg (by omega)
    rw [e1, e2, e3]
    exact z_wi C hW dX5_recorded_16 rfl rfl
  · skip
    skip
    refine z_al_n C hl dX5_recorded_4 0 rfl 5 rfl ?_
    refine z_get C hW.1 hK fl_X5_38 0 rfl rfl dX5_recorded_5 8 rfl ?_
    refine z_al_n C hl dX5_recorded_8 0 rfl 9 rfl ?_
    refine z_get C hW.1 hK fl_X5_16 0 rfl rfl dX5_recorded_9 12 rfl ?_
    refine z_VWv (rest := []) C (m_record l G h pa sn S g has n qb u (by omega) (gD_rg hW.2.1 [2, 1] (by decide) rfl)) kV_X5_236 ⟨Nat.le_of_ble_eq_true rfl, Nat.le_of_ble_eq_true rfl⟩ hW hK [2, 1] rfl ((sameA_cons (hi_perm _) (sameA_eq rfl sameA_nil))) 0 rfl rfl rfl hl.1 rfl (Nat.le_of_ble_eq_true rfl) dX5_recorded_12 ⟨Nat.le_of_ble_eq_true rfl, Nat.le_of_ble_eq_true rfl⟩ 15 rfl (rs' := [[tbO tb qn qb r x h o], stW G qb u, hiW G h pa sn (recN n) (recS n S) (recG n g u) has]) rfl (fun H locs hW hkeep => ?_)
    refine z_il_n C hl dX5_recorded_15 1 rfl 16 rfl ?_
    have e1 : actN y n = recN n := by unfold actN; exact if_pos (by omega)
    have e2 : actS y n S = recS n S := by unfold actS; exact if_pos (by omega)
    have e3 : actG y n g u = recG n g u := by unfold actG; exact if_pos (by omega)
    rw [e1, e2, e3]
    exact z_wi C hW dX5_recorded_16 rfl rfl

set_option maxHeartbeats 4000000 in
set_option maxRecDepth 100000 in
theorem m_sand (l : Launch) (G : gT) (tb r x cu h pa o sg : Nat) (qn qb sn : Nat → Nat) (S : Nat → Nat → Nat) (g : Nat → Int → Int) (n : Int) (has : Bool) (u v : Int → Int) (a b : Int) (k : Bool) (hn : 0 ≤ n ∧ n ≤ 4) (w : Wf v) (ha : -2147483648 ≤ a ∧ a < 2147483648) (hb : -2147483648 ≤ b ∧ b < 2147483648) (hD : gD ([[tbO tb qn qb r x h o], [(r, .inr (3, [.ref (qn 0)]))], stW G qn v, stW G qb u, hiW G h pa sn n S g has] : List va_W).flatten) : MW l G yX5_sand cX5_sand 4 (some .int) 4 [.ref (tb), .int (iI (a)), .int (iI (b)), .int (iI (bZ (k)))] [[tbO tb qn qb r x h o], [(r, .inr (3, [.ref (qn 0)]))], stW G qn v, stW G qb u, hiW G h pa sn n S g has] [[tbO tb qn qb r x h o], [(r, .inr (3, [.ref (qn 0)]))], stW G qn (layV v a b (bZ k)), stW G qb v, hiW G h pa sn (actN (layR v a b (bZ k)) n) (actS (layR v a b (bZ k)) n S) (actG (layR v a b (bZ k)) n g v) has] ZT (some (.int (iI (layR v a b (bZ k))))) := by
  refine enterW (own := RX5) (by decide +kernel) rfl (Nat.le_of_ble_eq_true rfl) hD ?_
  intro p e s m below meth c C hW hK hZ ls hl
  have hl : lv_has ls 4 [(0, .ref (tb)), (1, .int (iI (a))), (2, .int (iI (b))), (3, .int (iI (bZ (k))))] := hl
  refine z_al_n C hl dX5_sand_0 0 rfl 1 rfl ?_
  refine z_get C hW.1 hK fl_X5_16 0 rfl rfl dX5_sand_1 4 rfl ?_
  refine z_al_n C hl dX5_sand_4 0 rfl 5 rfl ?_
  refine z_get C hW.1 hK fl_X5_10 0 rfl rfl dX5_sand_5 8 rfl ?_
  refine z_VWv (rest := []) C (m_copyFrom l G qb qn u v (gD_rg hW.2.1 [3, 2] (by decide) rfl)) kV_X5_49 ⟨Nat.le_of_ble_eq_true rfl, Nat.le_of_ble_eq_true rfl⟩ hW hK [3, 2] rfl (sameA_of rfl) 0 rfl rfl rfl hl.1 rfl (Nat.le_of_ble_eq_true rfl) dX5_sand_8 ⟨Nat.le_of_ble_eq_true rfl, Nat.le_of_ble_eq_true rfl⟩ 11 rfl (rs' := [[tbO tb qn qb r x h o], [(r, .inr (3, [.ref (qn 0)]))], stW G qn v, stW G qb v, hiW G h pa sn n S g has]) rfl (fun H locs hW hkeep => ?_)
  refine z_al_n C hl dX5_sand_11 0 rfl 12 rfl ?_
  refine z_al_n C hl dX5_sand_12 0 rfl 13 rfl ?_
  refine z_get C hW.1 hK fl_X5_24 0 rfl rfl dX5_sand_13 16 rfl ?_
  refine z_il_n C hl dX5_sand_16 1 rfl 17 rfl ?_
  refine z_il_n C hl dX5_sand_17 2 rfl 18 rfl ?_
  refine z_il_n C hl dX5_sand_18 3 rfl 19 rfl ?_
  refine z_VWi (r := .int (iI (layR v a b (bZ k)))) (rest := [.ref (tb)]) C (m_laySand l G r qn v a b k w (by omega) (by omega) (gD_rg hW.2.1 [1, 2] (by decide) rfl)) kV_X5_52 ⟨Nat.le_of_ble_eq_true rfl, Nat.le_of_ble_eq_true rfl⟩ hW hK [1, 2] rfl (sameA_of rfl) 0 rfl rfl rfl hl.1 rfl (Nat.le_of_ble_eq_true rfl) dX5_sand_19 ⟨Nat.le_of_ble_eq_true rfl, Nat.le_of_ble_eq_true rfl⟩ 22 rfl (rs' := [[tbO tb qn qb r x h o], [(r, .inr (3, [.ref (qn 0)]))], stW G qn (layV v a b (bZ k)), stW G qb v, hiW G h pa sn n S g has]) rfl (fun H locs hW hkeep => ?_)
  have y19 := layR_rng w a b (bZ k)
  refine z_VWi (r := .int (iI (layR v a b (bZ k)))) (rest := []) C (m_recorded l G tb r x cu h pa o sg qn qb sn S g n has v (layR v a b (bZ k)) (by omega) (by omega) (gD_rg hW.2.1 [0, 3, 4] (by decide) rfl)) kV_X5_56 ⟨Nat.le_of_ble_eq_true rfl, Nat.le_of_ble_eq_true rfl⟩ hW hK [0, 3, 4] rfl ((sameA_eq rfl (sameA_eq rfl (sameA_cons (hi_permA _ _) sameA_nil)))) 0 rfl rfl rfl hl.1 rfl (Nat.le_of_ble_eq_true rfl) dX5_sand_22 ⟨Nat.le_of_ble_eq_true rfl, Nat.le_of_ble_eq_true rfl⟩ 25 rfl (rs' := [[tbO tb qn qb r x h o], [(r, .inr (3, [.ref (qn 0)]))], stW G qn (layV v a b (bZ k)), stW G qb v, hiW G h pa sn (actN (layR v a b (bZ k)) n) (actS (layR v a b (bZ k)) n S) (actG (layR v a b (bZ k)) n g v) has]) rfl (fun H locs hW hkeep => ?_)
  exact z_wi C hW dX5_sand_25 (rfl) rfl

set_option maxHeartbeats 4000000 in
set_option maxRecDepth 100000 in
theorem m_boat (l : Launch) (G : gT) (tb r x cu h pa o sg : Nat) (qn qb sn : Nat → Nat) (S : Nat → Nat → Nat) (g : Nat → Int → Int) (n : Int) (has : Bool) (u v : Int → Int) (a b d : Int) (hn : 0 ≤ n ∧ n ≤ 4) (w : Wf v) (ha : -2147483648 ≤ a ∧ a < 2147483648) (hb : -2147483648 ≤ b ∧ b < 2147483648) (hd : -2147483648 ≤ d ∧ d < 2147483648) (hD : gD ([[tbO tb qn qb r x h o], [(r, .inr (3, [.ref (qn 0)]))], stW G qn v, stW G qb u, hiW G h pa sn n S g has] : List va_W).flatten) : MW l G yX5_boat cX5_boat 4 (some .int) 4 [.ref (tb), .int (iI (a)), .int (iI (b)), .int (iI (d))] [[tbO tb qn qb r x h o], [(r, .inr (3, [.ref (qn 0)]))], stW G qn v, stW G qb u, hiW G h pa sn n S g has] [[tbO tb qn qb r x h o], [(r, .inr (3, [.ref (qn 0)]))], stW G qn (addV v a b d), stW G qb v, hiW G h pa sn (actN (addR v a b d) n) (actS (addR v a b d) n S) (actG (addR v a b d) n g v) has] ZT (some (.int (iI (addR v a b d)))) := by
  refine enterW (own := RX5) (by decide +kernel) rfl (Nat.le_of_ble_eq_true rfl) hD ?_
  intro p e s m below meth c C hW hK hZ ls hl
  have hl : lv_has ls 4 [(0, .ref (tb)), (1, .int (iI (a))), (2, .int (iI (b))), (3, .int (iI (d)))] := hl
  refine z_al_n C hl dX5_boat_0 0 rfl 1 rfl ?_
  refine z_get C hW.1 hK fl_X5_16 0 rfl rfl dX5_boat_1 4 rfl ?_
  refine z_al_n C hl dX5_boat_4 0 rfl 5 rfl ?_
  refine z_get C hW.1 hK fl_X5_10 0 rfl rfl dX5_boat_5 8 rfl ?_
  refine z_VWv (rest := []) C (m_copyFrom l G qb qn u v (gD_rg hW.2.1 [3, 2] (by decide) rfl)) kV_X5_49 ⟨Nat.le_of_ble_eq_true rfl, Nat.le_of_ble_eq_true rfl⟩ hW hK [3, 2] rfl (sameA_of rfl) 0 rfl rfl rfl hl.1 rfl (Nat.le_of_ble_eq_true rfl) dX5_boat_8 ⟨Nat.le_of_ble_eq_true rfl, Nat.le_of_ble_eq_true rfl⟩ 11 rfl (rs' := [[tbO tb qn qb r x h o], [(r, .inr (3, [.ref (qn 0)]))], stW G qn v, stW G qb v, hiW G h pa sn n S g has]) rfl (fun H locs hW hkeep => ?_)
  refine z_al_n C hl dX5_boat_11 0 rfl 12 rfl ?_
  refine z_al_n C hl dX5_boat_12 0 rfl 13 rfl ?_
  refine z_get C hW.1 hK fl_X5_24 0 rfl rfl dX5_boat_13 16 rfl ?_
  refine z_il_n C hl dX5_boat_16 1 rfl 17 rfl ?_
  refine z_il_n C hl dX5_boat_17 2 rfl 18 rfl ?_
  refine z_il_n C hl dX5_boat_18 3 rfl 19 rfl ?_
  refine z_VWi (r := .int (iI (addR v a b d))) (rest := [.ref (tb)]) C (m_addBoat l G r qn v a b d w (by omega) (by omega) (by omega) (gD_rg hW.2.1 [1, 2] (by decide) rfl)) kV_X5_60 ⟨Nat.le_of_ble_eq_true rfl, Nat.le_of_ble_eq_true rfl⟩ hW hK [1, 2] rfl (sameA_of rfl) 0 rfl rfl rfl hl.1 rfl (Nat.le_of_ble_eq_true rfl) dX5_boat_19 ⟨Nat.le_of_ble_eq_true rfl, Nat.le_of_ble_eq_true rfl⟩ 22 rfl (rs' := [[tbO tb qn qb r x h o], [(r, .inr (3, [.ref (qn 0)]))], stW G qn (addV v a b d), stW G qb v, hiW G h pa sn n S g has]) rfl (fun H locs hW hkeep => ?_)
  have y19 := addR_rng w a b d
  refine z_VWi (r := .int (iI (addR v a b d))) (rest := []) C (m_recorded l G tb r x cu h pa o sg qn qb sn S g n has v (addR v a b d) (by omega) (by omega) (gD_rg hW.2.1 [0, 3, 4] (by decide) rfl)) kV_X5_56 ⟨Nat.le_of_ble_eq_true rfl, Nat.le_of_ble_eq_true rfl⟩ hW hK [0, 3, 4] rfl ((sameA_eq rfl (sameA_eq rfl (sameA_cons (hi_permA _ _) sameA_nil)))) 0 rfl rfl rfl hl.1 rfl (Nat.le_of_ble_eq_true rfl) dX5_boat_22 ⟨Nat.le_of_ble_eq_true rfl, Nat.le_of_ble_eq_true rfl⟩ 25 rfl (rs' := [[tbO tb qn qb r x h o], [(r, .inr (3, [.ref (qn 0)]))], stW G qn (addV v a b d), stW G qb v, hiW G h pa sn (actN (addR v a b d) n) (actS (addR v a b d) n S) (actG (addR v a b d) n g v) has]) rfl (fun H locs hW hkeep => ?_)
  exact z_wi C hW dX5_boat_25 (rfl) rfl

set_option maxHeartbeats 4000000 in
set_option maxRecDepth 100000 in
theorem m_set (l : Launch) (G : gT) (tb r x cu h pa o sg : Nat) (qn qb sn : Nat → Nat) (S : Nat → Nat → Nat) (g : Nat → Int → Int) (n : Int) (has : Bool) (u v : Int → Int) (E : eT) (a b : Int) (hn : 0 ≤ n ∧ n ≤ 4) (w : Wf v) (ha : -2147483648 ≤ a ∧ a < 2147483648) (hb : -2147483648 ≤ b ∧ b < 2147483648) (hD : gD ([[tbO tb qn qb r x h o], [(r, .inr (3, [.ref (qn 0)]))], stW G qn v, stW G qb u, hiW G h pa sn n S g has] : List va_W).flatten) : MW l G yX5_set cX5_set 3 (some .int) 4 [.ref (tb), .int (iI (a)), .int (iI (b))] [[tbO tb qn qb r x h o], [(r, .inr (3, [.ref (qn 0)]))], stW G qn v, stW G qb u, hiW G h pa sn n S g has] [[tbO tb qn qb r x h o], [(r, .inr (3, [.ref (qn 0)]))], stW G qn (chsV v a b), stW G qb v, hiW G h pa sn (actN (chsR v a b) n) (actS (chsR v a b) n S) (actG (chsR v a b) n g v) has] (ZW E [[tbO tb qn qb r x h o], [(r, .inr (3, [.ref (qn 0)]))], stW G qn v, stW G qb u, hiW G h pa sn n S g has]) (some (.int (iI (chsR v a b)))) := by
  refine enterW (own := RX5) (by decide +kernel) rfl (Nat.le_of_ble_eq_true rfl) hD ?_
  intro p e s m below meth c C hW hK hZ ls hl
  have hl : lv_has ls 3 [(0, .ref (tb)), (1, .int (iI (a))), (2, .int (iI (b)))] := hl
  refine z_al_n C hl dX5_set_0 0 rfl 1 rfl ?_
  refine z_get C hW.1 hK fl_X5_16 0 rfl rfl dX5_set_1 4 rfl ?_
  refine z_al_n C hl dX5_set_4 0 rfl 5 rfl ?_
  refine z_get C hW.1 hK fl_X5_10 0 rfl rfl dX5_set_5 8 rfl ?_
  refine z_VWv (rest := []) C (m_copyFrom l G qb qn u v (gD_rg hW.2.1 [3, 2] (by decide) rfl)) kV_X5_49 ⟨Nat.le_of_ble_eq_true rfl, Nat.le_of_ble_eq_true rfl⟩ hW hK [3, 2] rfl (sameA_of rfl) 0 rfl rfl rfl hl.1 rfl (Nat.le_of_ble_eq_true rfl) dX5_set_8 ⟨Nat.le_of_ble_eq_true rfl, Nat.le_of_ble_eq_true rfl⟩ 11 rfl (rs' := [[tbO tb qn qb r x h o], [(r, .inr (3, [.ref (qn 0)]))], stW G qn v, stW G qb v, hiW G h pa sn n S g has]) rfl (fun H locs hW hkeep => ?_)
  refine z_al_n C hl dX5_set_11 0 rfl 12 rfl ?_
  refine z_al_n C hl dX5_set_12 0 rfl 13 rfl ?_
  refine z_get C hW.1 hK fl_X5_24 0 rfl rfl dX5_set_13 16 rfl ?_
  refine z_il_n C hl dX5_set_16 1 rfl 17 rfl ?_
  refine z_il_n C hl dX5_set_17 2 rfl 18 rfl ?_
  refine z_VWzi (r := .int (iI (chsR v a b))) (rest := [.ref (tb)]) C (m_changeSetting l G E r qn v a b w (by omega) (by omega) (gD_rg hW.2.1 [1, 2] (by decide) rfl)) kV_X5_64 ⟨Nat.le_of_ble_eq_true rfl, Nat.le_of_ble_eq_true rfl⟩ hW hK [1, 2] rfl (sameA_of rfl) zw_blind (zw_of hZ hW.2.2.2 (hW.in [1, 2] rfl)) 0 rfl rfl rfl hl.1 rfl (Nat.le_of_ble_eq_true rfl) dX5_set_18 ⟨Nat.le_of_ble_eq_true rfl, Nat.le_of_ble_eq_true rfl⟩ 21 rfl (rs' := [[tbO tb qn qb r x h o], [(r, .inr (3, [.ref (qn 0)]))], stW G qn (chsV v a b), stW G qb v, hiW G h pa sn n S g has]) rfl (fun H locs hW hkeep => ?_)
  have y18 := chsR_rng w a b
  refine z_VWi (r := .int (iI (chsR v a b))) (rest := []) C (m_recorded l G tb r x cu h pa o sg qn qb sn S g n has v (chsR v a b) (by omega) (by omega) (gD_rg hW.2.1 [0, 3, 4] (by decide) rfl)) kV_X5_56 ⟨Nat.le_of_ble_eq_true rfl, Nat.le_of_ble_eq_true rfl⟩ hW hK [0, 3, 4] rfl ((sameA_eq rfl (sameA_eq rfl (sameA_cons (hi_permA _ _) sameA_nil)))) 0 rfl rfl rfl hl.1 rfl (Nat.le_of_ble_eq_true rfl) dX5_set_21 ⟨Nat.le_of_ble_eq_true rfl, Nat.le_of_ble_eq_true rfl⟩ 24 rfl (rs' := [[tbO tb qn qb r x h o], [(r, .inr (3, [.ref (qn 0)]))], stW G qn (chsV v a b), stW G qb v, hiW G h pa sn (actN (chsR v a b) n) (actS (chsR v a b) n S) (actG (chsR v a b) n g v) has]) rfl (fun H locs hW hkeep => ?_)
  exact z_wi C hW dX5_set_24 (rfl) rfl

set_option maxHeartbeats 4000000 in
set_option maxRecDepth 100000 in
theorem m_move (l : Launch) (G : gT) (tb r x cu h pa o sg : Nat) (qn qb sn : Nat → Nat) (S : Nat → Nat → Nat) (g : Nat → Int → Int) (n : Int) (has : Bool) (u v : Int → Int) (a b d : Int) (hn : 0 ≤ n ∧ n ≤ 4) (w : Wf v) (ha : -2147483648 ≤ a ∧ a < 2147483648) (hb : -2147483648 ≤ b ∧ b < 2147483648) (hd : -2147483648 ≤ d ∧ d < 2147483648) (hD : gD ([[tbO tb qn qb r x h o], [(r, .inr (3, [.ref (qn 0)]))], stW G qn v, stW G qb u, hiW G h pa sn n S g has] : List va_W).flatten) : MW l G yX5_move cX5_move 4 (some .int) 5 [.ref (tb), .int (iI (a)), .int (iI (b)), .int (iI (d))] [[tbO tb qn qb r x h o], [(r, .inr (3, [.ref (qn 0)]))], stW G qn v, stW G qb u, hiW G h pa sn n S g has] [[tbO tb qn qb r x h o], [(r, .inr (3, [.ref (qn 0)]))], stW G qn (saiV v a b d), stW G qb v, hiW G h pa sn (actN (saiR v a b d) n) (actS (saiR v a b d) n S) (actG (saiR v a b d) n g v) has] ZT (some (.int (iI (saiR v a b d)))) := by
  refine enterW (own := RX5) (by decide +kernel) rfl (Nat.le_of_ble_eq_true rfl) hD ?_
  intro p e s m below meth c C hW hK hZ ls hl
  have hl : lv_has ls 4 [(0, .ref (tb)), (1, .int (iI (a))), (2, .int (iI (b))), (3, .int (iI (d)))] := hl
  refine z_al_n C hl dX5_move_0 0 rfl 1 rfl ?_
  refine z_get C hW.1 hK fl_X5_16 0 rfl rfl dX5_move_1 4 rfl ?_
  refine z_al_n C hl dX5_move_4 0 rfl 5 rfl ?_
  refine z_get C hW.1 hK fl_X5_10 0 rfl rfl dX5_move_5 8 rfl ?_
  refine z_VWv (rest := []) C (m_copyFrom l G qb qn u v (gD_rg hW.2.1 [3, 2] (by decide) rfl)) kV_X5_49 ⟨Nat.le_of_ble_eq_true rfl, Nat.le_of_ble_eq_true rfl⟩ hW hK [3, 2] rfl (sameA_of rfl) 0 rfl rfl rfl hl.1 rfl (Nat.le_of_ble_eq_true rfl) dX5_move_8 ⟨Nat.le_of_ble_eq_true rfl, Nat.le_of_ble_eq_true rfl⟩ 11 rfl (rs' := [[tbO tb qn qb r x h o], [(r, .inr (3, [.ref (qn 0)]))], stW G qn v, stW G qb v, hiW G h pa sn n S g has]) rfl (fun H locs hW hkeep => ?_)
  refine z_al_n C hl dX5_move_11 0 rfl 12 rfl ?_
  refine z_al_n C hl dX5_move_12 0 rfl 13 rfl ?_
  refine z_get C hW.1 hK fl_X5_24 0 rfl rfl dX5_move_13 16 rfl ?_
  refine z_il_n C hl dX5_move_16 1 rfl 17 rfl ?_
  refine z_il_n C hl dX5_move_17 2 rfl 18 rfl ?_
  refine z_il_n C hl dX5_move_18 3 rfl 19 rfl ?_
  refine z_VWi (r := .int (iI (saiR v a b d))) (rest := [.ref (tb)]) C (m_sail l G r qn v a b d w (by omega) (by omega) (by omega) (gD_rg hW.2.1 [1, 2] (by decide) rfl)) kV_X5_68 ⟨Nat.le_of_ble_eq_true rfl, Nat.le_of_ble_eq_true rfl⟩ hW hK [1, 2] rfl (sameA_of rfl) 0 rfl rfl rfl hl.1 rfl (Nat.le_of_ble_eq_true rfl) dX5_move_19 ⟨Nat.le_of_ble_eq_true rfl, Nat.le_of_ble_eq_true rfl⟩ 22 rfl (rs' := [[tbO tb qn qb r x h o], [(r, .inr (3, [.ref (qn 0)]))], stW G qn (saiV v a b d), stW G qb v, hiW G h pa sn n S g has]) rfl (fun H locs hW hkeep => ?_)
  have y19 := saiR_rng w a b d
  refine z_VWi (r := .int (iI (saiR v a b d))) (rest := []) C (m_recorded l G tb r x cu h pa o sg qn qb sn S g n has v (saiR v a b d) (by omega) (by omega) (gD_rg hW.2.1 [0, 3, 4] (by decide) rfl)) kV_X5_56 ⟨Nat.le_of_ble_eq_true rfl, Nat.le_of_ble_eq_true rfl⟩ hW hK [0, 3, 4] rfl ((sameA_eq rfl (sameA_eq rfl (sameA_cons (hi_permA _ _) sameA_nil)))) 0 rfl rfl rfl hl.1 rfl (Nat.le_of_ble_eq_true rfl) dX5_move_22 ⟨Nat.le_of_ble_eq_true rfl, Nat.le_of_ble_eq_true rfl⟩ 25 rfl (rs' := [[tbO tb qn qb r x h o], [(r, .inr (3, [.ref (qn 0)]))], stW G qn (saiV v a b d), stW G qb v, hiW G h pa sn (actN (saiR v a b d) n) (actS (saiR v a b d) n S) (actG (saiR v a b d) n g v) has]) rfl (fun H locs hW hkeep => ?_)
  exact z_wi C hW dX5_move_25 (rfl) rfl

set_option maxHeartbeats 4000000 in
set_option maxRecDepth 100000 in
theorem m_pause (l : Launch) (G : gT) (tb r x cu h pa o sg : Nat) (qn qb sn : Nat → Nat) (S : Nat → Nat → Nat) (g : Nat → Int → Int) (n : Int) (has : Bool) (u v : Int → Int) (hn : 0 ≤ n ∧ n ≤ 4) (w : Wf v) (hD : gD ([[tbO tb qn qb r x h o], [(r, .inr (3, [.ref (qn 0)]))], stW G qn v, stW G qb u, hiW G h pa sn n S g has] : List va_W).flatten) : MW l G yX5_pause cX5_pause 1 (some .int) 5 [.ref (tb)] [[tbO tb qn qb r x h o], [(r, .inr (3, [.ref (qn 0)]))], stW G qn v, stW G qb u, hiW G h pa sn n S g has] [[tbO tb qn qb r x h o], [(r, .inr (3, [.ref (qn 0)]))], stW G qn (waiV v), stW G qb v, hiW G h pa sn (actN (waiR v) n) (actS (waiR v) n S) (actG (waiR v) n g v) has] ZT (some (.int (iI (waiR v)))) := by
  refine enterW (own := RX5) (by decide +kernel) rfl (Nat.le_of_ble_eq_true rfl) hD ?_
  intro p e s m below meth c C hW hK hZ ls hl
  have hl : lv_has ls 1 [(0, .ref (tb))] := hl
  refine z_al_n C hl dX5_pause_0 0 rfl 1 rfl ?_
  refine z_get C hW.1 hK fl_X5_16 0 rfl rfl dX5_pause_1 4 rfl ?_
  refine z_al_n C hl dX5_pause_4 0 rfl 5 rfl ?_
  refine z_get C hW.1 hK fl_X5_10 0 rfl rfl dX5_pause_5 8 rfl ?_
  refine z_VWv (rest := []) C (m_copyFrom l G qb qn u v (gD_rg hW.2.1 [3, 2] (by decide) rfl)) kV_X5_49 ⟨Nat.le_of_ble_eq_true rfl, Nat.le_of_ble_eq_true rfl⟩ hW hK [3, 2] rfl (sameA_of rfl) 0 rfl rfl rfl hl.1 rfl (Nat.le_of_ble_eq_true rfl) dX5_pause_8 ⟨Nat.le_of_ble_eq_true rfl, Nat.le_of_ble_eq_true rfl⟩ 11 rfl (rs' := [[tbO tb qn qb r x h o], [(r, .inr (3, [.ref (qn 0)]))], stW G qn v, stW G qb v, hiW G h pa sn n S g has]) rfl (fun H locs hW hkeep => ?_)
  refine z_al_n C hl dX5_pause_11 0 rfl 12 rfl ?_
  refine z_al_n C hl dX5_pause_12 0 rfl 13 rfl ?_
  refine z_get C hW.1 hK fl_X5_24 0 rfl rfl dX5_pause_13 16 rfl ?_
  refine z_VWi (r := .int (iI (waiR v))) (rest := [.ref (tb)]) C (m_waitATurn l G r qn v  w  (gD_rg hW.2.1 [1, 2] (by decide) rfl)) kV_X5_71 ⟨Nat.le_of_ble_eq_true rfl, Nat.le_of_ble_eq_true rfl⟩ hW hK [1, 2] rfl (sameA_of rfl) 0 rfl rfl rfl hl.1 rfl (Nat.le_of_ble_eq_true rfl) dX5_pause_16 ⟨Nat.le_of_ble_eq_true rfl, Nat.le_of_ble_eq_true rfl⟩ 19 rfl (rs' := [[tbO tb qn qb r x h o], [(r, .inr (3, [.ref (qn 0)]))], stW G qn (waiV v), stW G qb v, hiW G h pa sn n S g has]) rfl (fun H locs hW hkeep => ?_)
  have y16 := waiR_rng w
  refine z_VWi (r := .int (iI (waiR v))) (rest := []) C (m_recorded l G tb r x cu h pa o sg qn qb sn S g n has v (waiR v) (by omega) (by omega) (gD_rg hW.2.1 [0, 3, 4] (by decide) rfl)) kV_X5_56 ⟨Nat.le_of_ble_eq_true rfl, Nat.le_of_ble_eq_true rfl⟩ hW hK [0, 3, 4] rfl ((sameA_eq rfl (sameA_eq rfl (sameA_cons (hi_permA _ _) sameA_nil)))) 0 rfl rfl rfl hl.1 rfl (Nat.le_of_ble_eq_true rfl) dX5_pause_19 ⟨Nat.le_of_ble_eq_true rfl, Nat.le_of_ble_eq_true rfl⟩ 22 rfl (rs' := [[tbO tb qn qb r x h o], [(r, .inr (3, [.ref (qn 0)]))], stW G qn (waiV v), stW G qb v, hiW G h pa sn (actN (waiR v) n) (actS (waiR v) n S) (actG (waiR v) n g v) has]) rfl (fun H locs hW hkeep => ?_)
  exact z_wi C hW dX5_pause_22 (rfl) rfl

set_option maxHeartbeats 4000000 in
set_option maxRecDepth 100000 in
theorem m_type (l : Launch) (G : gT) (tb r x cu h pa o sg : Nat) (qn qb sn : Nat → Nat) (ln : Int) (tx : Int → Int) (y : Int) (wt : Ot ln tx) (hy : 0 ≤ y ∧ y < 65536) (hD : gD ([[tbO tb qn qb r x h o], [orO G o sg ln], [arC G sg 60 tx]] : List va_W).flatten) : MW l G yX5_type cX5_type 2 (some .int) 1 [.ref (tb), .int (iI (y))] [[tbO tb qn qb r x h o], [orO G o sg ln], [arC G sg 60 tx]] [[tbO tb qn qb r x h o], [orO G o sg (apN ln)], [arC G sg 60 (apT ln tx y)]] ZT (some (.int (iI (apR ln)))) := by
  refine enterW (own := RX5) (by decide +kernel) rfl (Nat.le_of_ble_eq_true rfl) hD ?_
  intro p e s m below meth c C hW hK hZ ls hl
  have hl : lv_has ls 2 [(0, .ref (tb)), (1, .int (iI (y)))] := hl
  refine z_al_n C hl dX5_type_0 0 rfl 1 rfl ?_
  refine z_get C hW.1 hK fl_X5_45 0 rfl rfl dX5_type_1 4 rfl ?_
  refine z_il_n C hl dX5_type_4 1 rfl 5 rfl ?_
  refine z_VWi (r := .int (iI (apR ln))) (rest := []) C (m_append l G o sg ln tx y wt (by omega) (gD_rg hW.2.1 [1, 2] (by decide) rfl)) kV_X5_75 ⟨Nat.le_of_ble_eq_true rfl, Nat.le_of_ble_eq_true rfl⟩ hW hK [1, 2] rfl (sameA_of rfl) 0 rfl rfl rfl hl.1 rfl (Nat.le_of_ble_eq_true rfl) dX5_type_5 ⟨Nat.le_of_ble_eq_true rfl, Nat.le_of_ble_eq_true rfl⟩ 8 rfl (rs' := [[tbO tb qn qb r x h o], [orO G o sg (apN ln)], [arC G sg 60 (apT ln tx y)]]) rfl (fun H locs hW hkeep => ?_)
  exact z_wi C hW dX5_type_8 (rfl) rfl

set_option maxHeartbeats 4000000 in
set_option maxRecDepth 100000 in
theorem m_clearText (l : Launch) (G : gT) (tb r x cu h pa o sg : Nat) (qn qb sn : Nat → Nat) (ln : Int) (tx : Int → Int) (wt : Ot ln tx) (hD : gD ([[tbO tb qn qb r x h o], [orO G o sg ln], [arC G sg 60 tx]] : List va_W).flatten) : MW l G yX5_clearText cX5_clearText 1 (some .int) 1 [.ref (tb)] [[tbO tb qn qb r x h o], [orO G o sg ln], [arC G sg 60 tx]] [[tbO tb qn qb r x h o], [orO G o sg 0], [arC G sg 60 tx]] ZT (some (.int (iI (ln)))) := by
  refine enterW (own := RX5) (by decide +kernel) rfl (Nat.le_of_ble_eq_true rfl) hD ?_
  intro p e s m below meth c C hW hK hZ ls hl
  have hl : lv_has ls 1 [(0, .ref (tb))] := hl
  refine z_al_n C hl dX5_clearText_0 0 rfl 1 rfl ?_
  refine z_get C hW.1 hK fl_X5_45 0 rfl rfl dX5_clearText_1 4 rfl ?_
  refine z_VWi (r := .int (iI (ln))) (rest := []) C (m_removeAll l G o sg ln tx wt (gD_rg hW.2.1 [1, 2] (by decide) rfl)) kV_X5_79 ⟨Nat.le_of_ble_eq_true rfl, Nat.le_of_ble_eq_true rfl⟩ hW hK [1, 2] rfl (sameA_of rfl) 0 rfl rfl rfl hl.1 rfl (Nat.le_of_ble_eq_true rfl) dX5_clearText_4 ⟨Nat.le_of_ble_eq_true rfl, Nat.le_of_ble_eq_true rfl⟩ 7 rfl (rs' := [[tbO tb qn qb r x h o], [orO G o sg 0], [arC G sg 60 tx]]) rfl (fun H locs hW hkeep => ?_)
  exact z_wi C hW dX5_clearText_7 (rfl) rfl

set_option maxHeartbeats 4000000 in
set_option maxRecDepth 100000 in
theorem m_fault (l : Launch) (G : gT) (E : eT) (tb r x cu h pa o sg : Nat) (qn qb sn : Nat → Nat) (ln : Int) (tx : Int → Int) (wt : Ot ln tx) : MR l G yX5_fault cX5_fault 1 (some .int) 8 [.ref (tb)] [[tbO tb qn qb r x h o], [orO G o sg ln], [arC G sg 60 tx]] (ZR E) (.int (iI (fltZ ln (sgC ln tx)))) := by
  refine enterR (own := RX5) (by decide +kernel) rfl (Nat.le_of_ble_eq_true rfl) ?_
  intro p e s m below meth c C hP hK hZ ls hl
  have hl : lv_has ls 1 [(0, .ref (tb))] := hl
  refine z_al_n C hl dX5_fault_0 0 rfl 1 rfl ?_
  refine z_get C hP hK fl_X5_45 0 rfl rfl dX5_fault_1 4 rfl ?_
  refine z_VRz (r := .int (iI (fltZ ln (sgC ln tx)))) (rest := []) C (m_findFault l G E o sg ln tx wt) kV_X5_82 ⟨Nat.le_of_ble_eq_true rfl, Nat.le_of_ble_eq_true rfl⟩ (gP_rg hP [1, 2] rfl) hK zr_blind (zr_of hZ va_S.rf) 0 rfl rfl rfl hl.1 rfl (Nat.le_of_ble_eq_true rfl) dX5_fault_4 ⟨Nat.le_of_ble_eq_true rfl, Nat.le_of_ble_eq_true rfl⟩ 7 rfl ?_
  exact z_ri C dX5_fault_7 (rfl)

set_option maxHeartbeats 4000000 in
set_option maxRecDepth 100000 in
theorem m_doOrder (l : Launch) (G : gT) (E : eT) (tb r x cu h pa o sg : Nat) (qn qb sn : Nat → Nat) (S : Nat → Nat → Nat) (v : Int → Int) (ln : Int) (tx : Int → Int) (pl : Int) (w : Wf v) (wt : Ot ln tx) (hp : 0 ≤ pl ∧ pl < 1000) (hD : gD ([[tbO tb qn qb r x h o], [(r, .inr (3, [.ref (qn 0)]))], stW G qn v, [orO G o sg ln], [arC G sg 60 tx]] : List va_W).flatten) : MW l G yX5_doOrder cX5_doOrder 3 (some .int) 5 [.ref (tb), .int (iI (pl))] [[tbO tb qn qb r x h o], [(r, .inr (3, [.ref (qn 0)]))], stW G qn v, [orO G o sg ln], [arC G sg 60 tx]] [[tbO tb qn qb r x h o], [(r, .inr (3, [.ref (qn 0)]))], stW G qn (ordV v (sgC ln tx) pl), [orO G o sg ln], [arC G sg 60 tx]] (ZW E [[tbO tb qn qb r x h o], [(r, .inr (3, [.ref (qn 0)]))], stW G qn v, [orO G o sg ln], [arC G sg 60 tx]]) (some (.int (iI (ordR v (sgC ln tx) pl)))) := by
  refine enterW (own := RX5) (by decide +kernel) rfl (Nat.le_of_ble_eq_true rfl) hD ?_
  intro p e s m below meth c C hW hK hZ ls hl
  have hl : lv_has ls 3 [(0, .ref (tb)), (1, .int (iI (pl)))] := hl
  refine z_al_n C hl dX5_doOrder_0 0 rfl 1 rfl ?_
  refine z_get C hW.1 hK fl_X5_45 0 rfl rfl dX5_doOrder_1 4 rfl ?_
  refine z_il_n C hl dX5_doOrder_4 1 rfl 5 rfl ?_
  refine z_VR (r := .int (iI (sgC ln tx pl))) (rest := []) C (m_signAt l G o sg ln tx pl wt (by omega)) kV_X5_239 ⟨Nat.le_of_ble_eq_true rfl, Nat.le_of_ble_eq_true rfl⟩ (gP_rg hW.1 [3, 4] rfl) hK 0 rfl rfl rfl hl.1 rfl (Nat.le_of_ble_eq_true rfl) dX5_doOrder_5 ⟨Nat.le_of_ble_eq_true rfl, Nat.le_of_ble_eq_true rfl⟩ 8 rfl ?_
  have r5 := sgC_rng wt pl
  refine z_is_n C hl dX5_doOrder_8 9 rfl (by decide) (lv' := [(2, .int (iI (sgC ln tx pl))), (0, .ref (tb)), (1, .int (iI (pl)))]) rfl (fun ls hl => ?_)
  refine z_il_n C hl dX5_doOrder_9 0 rfl 10 rfl ?_
  refine z_SRz (r := .int (iI (bZ (decide (97 ≤ (sgC ln tx pl) ∧ (sgC ln tx pl) ≤ 102))))) (rest := []) C (m_isColumn l G E (sgC ln tx pl) (by omega)) kS_X5_243 ⟨Nat.le_of_ble_eq_true rfl, Nat.le_of_ble_eq_true rfl⟩ (gP_nil) hK zr_blind (zr_of hZ hW.2.2.2) rfl hl.1 rfl (Nat.le_of_ble_eq_true rfl) dX5_doOrder_10 ⟨Nat.le_of_ble_eq_true rfl, Nat.le_of_ble_eq_true rfl⟩ 13 rfl ?_
  refine z_ifb_eq C dX5_doOrder_13 52 16 (by decide) rfl (fun c13 => ?_) (fun c13 => ?_)
  · skip
    simp only [decide_eq_true_eq, decide_eq_false_iff_not] at c13
    refine z_il_n C hl dX5_doOrder_52 0 rfl 53 rfl ?_
    refine z_bipush C dX5_doOrder_53 (by decide) 55 rfl ?_
    refine z_icmp_ne C dX5_doOrder_55 96 58 (by decide) rfl (by omega) (fun c55 => ?_) (fun c55 => ?_)
    · skip
      refine z_il_n C hl dX5_doOrder_96 0 rfl 97 rfl ?_
      refine z_bipush C dX5_doOrder_97 (by decide) 99 rfl ?_
      refine z_icmp_ne C dX5_doOrder_99 110 102 (by decide) rfl (by omega) (fun c99 => ?_) (fun c99 => ?_)
      · skip
        refine z_al_n C hl dX5_doOrder_110 1 rfl 111 rfl ?_
        refine z_get C hW.1 hK fl_X5_24 0 rfl rfl dX5_doOrder_111 114 rfl ?_
        refine z_al_n C hl dX5_doOrder_114 1 rfl 115 rfl ?_
        refine z_get C hW.1 hK fl_X5_45 0 rfl rfl dX5_doOrder_115 118 rfl ?_
        refine z_il_n C hl dX5_doOrder_118 2 rfl 119 rfl ?_
        refine z_VRz (r := .int (iI (ranZ 48 57 (sgC ln tx pl)))) (rest := [.ref (r)]) C (m_oboatAt l G E o sg ln tx pl wt (by omega)) kV_X5_262 ⟨Nat.le_of_ble_eq_true rfl, Nat.le_of_ble_eq_true rfl⟩ (gP_rg hW.1 [3, 4] rfl) hK zr_blind (zr_of hZ hW.2.2.2) 0 rfl rfl rfl hl.1 rfl (Nat.le_of_ble_eq_true rfl) dX5_doOrder_119 ⟨Nat.le_of_ble_eq_true rfl, Nat.le_of_ble_eq_true rfl⟩ 122 rfl ?_
        have o119 := ranZ_rng (lo := 48) (hi := 57) (sgC ln tx pl) (by omega)
        refine z_al_n C hl dX5_doOrder_122 1 rfl 123 rfl ?_
        refine z_get C hW.1 hK fl_X5_45 0 rfl rfl dX5_doOrder_123 126 rfl ?_
        refine z_il_n C hl dX5_doOrder_126 2 rfl 127 rfl ?_
        refine z_iconst C dX5_doOrder_127 128 rfl ?_
        refine z_iadd C dX5_doOrder_128 129 rfl (1 + pl) (by omega) ?_
        refine z_VRz (r := .int (iI (dirZ (sgC ln tx (1 + pl))))) (rest := [.int (iI (ranZ 48 57 (sgC ln tx pl))), .ref (r)]) C (m_odirectionAt l G E o sg ln tx (1 + pl) wt (by omega)) kV_X5_263 ⟨Nat.le_of_ble_eq_true rfl, Nat.le_of_ble_eq_true rfl⟩ (gP_rg hW.1 [3, 4] rfl) hK zr_blind (zr_of hZ hW.2.2.2) 0 rfl rfl rfl hl.1 rfl (Nat.le_of_ble_eq_true rfl) dX5_doOrder_129 ⟨Nat.le_of_ble_eq_true rfl, Nat.le_of_ble_eq_true rfl⟩ 132 rfl ?_
        have o129 := dirZ_rng (sgC ln tx (1 + pl))
        refine z_al_n C hl dX5_doOrder_132 1 rfl 133 rfl ?_
        refine z_get C hW.1 hK fl_X5_45 0 rfl rfl dX5_doOrder_133 136 rfl ?_
        refine z_il_n C hl dX5_doOrder_136 2 rfl 137 rfl ?_
        refine z_iconst C dX5_doOrder_137 138 rfl ?_
        refine z_iadd C dX5_doOrder_138 139 rfl (2 + pl) (by omega) ?_
        refine z_VRz (r := .int (iI (1 + ranZ 49 51 (sgC ln tx (2 + pl))))) (rest := [.int (iI (dirZ (sgC ln tx (1 + pl)))), .int (iI (ranZ 48 57 (sgC ln tx pl))), .ref (r)]) C (m_ostepsAt l G E o sg ln tx (2 + pl) wt (by omega)) kV_X5_266 ⟨Nat.le_of_ble_eq_true rfl, Nat.le_of_ble_eq_true rfl⟩ (gP_rg hW.1 [3, 4] rfl) hK zr_blind (zr_of hZ hW.2.2.2) 0 rfl rfl rfl hl.1 rfl (Nat.le_of_ble_eq_true rfl) dX5_doOrder_139 ⟨Nat.le_of_ble_eq_true rfl, Nat.le_of_ble_eq_true rfl⟩ 142 rfl ?_
        have o139 := ranZ_rng (lo := 49) (hi := 51) (sgC ln tx (2 + pl)) (by omega)
        refine z_VWi (r := .int (iI (saiR v (ranZ 48 57 (sgC ln tx pl)) (dirZ (sgC ln tx (1 + pl))) (1 + ranZ 49 51 (sgC ln tx (2 + pl)))))) (rest := []) C (m_sail l G r qn v (ranZ 48 57 (sgC ln tx pl)) (dirZ (sgC ln tx (1 + pl))) (1 + ranZ 49 51 (sgC ln tx (2 + pl))) w (by omega) (by omega) (by omega) (gD_rg hW.2.1 [1, 2] (by decide) rfl)) kV_X5_68 ⟨Nat.le_of_ble_eq_true rfl, Nat.le_of_ble_eq_true rfl⟩ hW hK [1, 2] rfl (sameA_of rfl) 0 rfl rfl rfl hl.1 rfl (Nat.le_of_ble_eq_true rfl) dX5_doOrder_142 ⟨Nat.le_of_ble_eq_true rfl, Nat.le_of_ble_eq_true rfl⟩ 145 rfl (rs' := [[tbO tb qn qb r x h o], [(r, .inr (3, [.ref (qn 0)]))], stW G qn (saiV v (ranZ 48 57 (sgC ln tx pl)) (dirZ (sgC ln tx (1 + pl))) (1 + ranZ 49 51 (sgC ln tx (2 + pl)))), [orO G o sg ln], [arC G sg 60 tx]]) rfl (fun H locs hW hkeep => ?_)
        have y142 := saiR_rng w (ranZ 48 57 (sgC ln tx pl)) (dirZ (sgC ln tx (1 + pl))) (1 + ranZ 49 51 (sgC ln tx (2 + pl)))
        have hr : ordR v (sgC ln tx) pl = saiR v (ranZ 48 57 (sgC ln tx pl)) (dirZ (sgC ln tx (1 + pl))) (1 + ranZ 49 51 (sgC ln tx (2 + pl))) := by unfold ordR; rw [if_neg c13, if_neg c55, if_neg c99]
        have hv : ordV v (sgC ln tx) pl = (saiV v (ranZ 48 57 (sgC ln tx pl)) (dirZ (sgC ln tx (1 + pl))) (1 + ranZ 49 51 (sgC ln tx (2 + pl)))) := by unfold ordV; rw [if_neg c13, if_neg c55, if_neg c99]
        rw [hr, hv]
        exact z_wi C hW dX5_doOrder_145 rfl rfl
      · skip
        refine z_al_n C hl dX5_doOrder_102 1 rfl 103 rfl ?_
        refine z_get C hW.1 hK fl_X5_24 0 rfl rfl dX5_doOrder_103 106 rfl ?_
        refine z_VWi (r := .int (iI (waiR v))) (rest := []) C (m_waitATurn l G r qn v  w  (gD_rg hW.2.1 [1, 2] (by decide) rfl)) kV_X5_71 ⟨Nat.le_of_ble_eq_true rfl, Nat.le_of_ble_eq_true rfl⟩ hW hK [1, 2] rfl (sameA_of rfl) 0 rfl rfl rfl hl.1 rfl (Nat.le_of_ble_eq_true rfl) dX5_doOrder_106 ⟨Nat.le_of_ble_eq_true rfl, Nat.le_of_ble_eq_true rfl⟩ 109 rfl (rs' := [[tbO tb qn qb r x h o], [(r, .inr (3, [.ref (qn 0)]))], stW G qn (waiV v), [orO G o sg ln], [arC G sg 60 tx]]) rfl (fun H locs hW hkeep => ?_)
        have y106 := waiR_rng w
        have hr : ordR v (sgC ln tx) pl = waiR v := by unfold ordR; rw [if_neg c13, if_neg c55, if_pos c99]
        have hv : ordV v (sgC ln tx) pl = (waiV v) := by unfold ordV; rw [if_neg c13, if_neg c55, if_pos c99]
        rw [hr, hv]
        exact z_wi C hW dX5_doOrder_109 rfl rfl
    · skip
      refine z_al_n C hl dX5_doOrder_58 1 rfl 59 rfl ?_
      refine z_get C hW.1 hK fl_X5_24 0 rfl rfl dX5_doOrder_59 62 rfl ?_
      refine z_al_n C hl dX5_doOrder_62 1 rfl 63 rfl ?_
      refine z_get C hW.1 hK fl_X5_45 0 rfl rfl dX5_doOrder_63 66 rfl ?_
      refine z_il_n C hl dX5_doOrder_66 2 rfl 67 rfl ?_
      refine z_iconst C dX5_doOrder_67 68 rfl ?_
      refine z_iadd C dX5_doOrder_68 69 rfl (1 + pl) (by omega) ?_
      refine z_VRz (r := .int (iI (ranZ 48 49 (sgC ln tx (1 + pl))))) (rest := [.ref (r)]) C (m_oplayerAt l G E o sg ln tx (1 + pl) wt (by omega)) kV_X5_256 ⟨Nat.le_of_ble_eq_true rfl, Nat.le_of_ble_eq_true rfl⟩ (gP_rg hW.1 [3, 4] rfl) hK zr_blind (zr_of hZ hW.2.2.2) 0 rfl rfl rfl hl.1 rfl (Nat.le_of_ble_eq_true rfl) dX5_doOrder_69 ⟨Nat.le_of_ble_eq_true rfl, Nat.le_of_ble_eq_true rfl⟩ 72 rfl ?_
      have o69 := ranZ_rng (lo := 48) (hi := 49) (sgC ln tx (1 + pl)) (by omega)
      refine z_al_n C hl dX5_doOrder_72 1 rfl 73 rfl ?_
      refine z_get C hW.1 hK fl_X5_45 0 rfl rfl dX5_doOrder_73 76 rfl ?_
      refine z_il_n C hl dX5_doOrder_76 2 rfl 77 rfl ?_
      refine z_iconst C dX5_doOrder_77 78 rfl ?_
      refine z_iadd C dX5_doOrder_78 79 rfl (2 + pl) (by omega) ?_
      refine z_VRz (r := .int (iI (1 + ranZ 49 51 (sgC ln tx (2 + pl))))) (rest := [.int (iI (ranZ 48 49 (sgC ln tx (1 + pl)))), .ref (r)]) C (m_odraftAt l G E o sg ln tx (2 + pl) wt (by omega)) kV_X5_259 ⟨Nat.le_of_ble_eq_true rfl, Nat.le_of_ble_eq_true rfl⟩ (gP_rg hW.1 [3, 4] rfl) hK zr_blind (zr_of hZ hW.2.2.2) 0 rfl rfl rfl hl.1 rfl (Nat.le_of_ble_eq_true rfl) dX5_doOrder_79 ⟨Nat.le_of_ble_eq_true rfl, Nat.le_of_ble_eq_true rfl⟩ 82 rfl ?_
      have o79 := ranZ_rng (lo := 49) (hi := 51) (sgC ln tx (2 + pl)) (by omega)
      refine z_al_n C hl dX5_doOrder_82 1 rfl 83 rfl ?_
      refine z_get C hW.1 hK fl_X5_45 0 rfl rfl dX5_doOrder_83 86 rfl ?_
      refine z_il_n C hl dX5_doOrder_86 2 rfl 87 rfl ?_
      refine z_iconst C dX5_doOrder_87 88 rfl ?_
      refine z_iadd C dX5_doOrder_88 89 rfl (3 + pl) (by omega) ?_
      refine z_VRz (r := .int (iI (celZ (sgC ln tx) (3 + pl)))) (rest := [.int (iI (1 + ranZ 49 51 (sgC ln tx (2 + pl)))), .int (iI (ranZ 48 49 (sgC ln tx (1 + pl)))), .ref (r)]) C (m_cellAt l G E o sg ln tx (3 + pl) wt (by omega)) kV_X5_247 ⟨Nat.le_of_ble_eq_true rfl, Nat.le_of_ble_eq_true rfl⟩ (gP_rg hW.1 [3, 4] rfl) hK zr_blind (zr_of hZ hW.2.2.2) 0 rfl rfl rfl hl.1 rfl (Nat.le_of_ble_eq_true rfl) dX5_doOrder_89 ⟨Nat.le_of_ble_eq_true rfl, Nat.le_of_ble_eq_true rfl⟩ 92 rfl ?_
      have o89 := celZ_rng (sgC ln tx) (3 + pl)
      refine z_VWi (r := .int (iI (addR v (ranZ 48 49 (sgC ln tx (1 + pl))) (1 + ranZ 49 51 (sgC ln tx (2 + pl))) (celZ (sgC ln tx) (3 + pl))))) (rest := []) C (m_addBoat l G r qn v (ranZ 48 49 (sgC ln tx (1 + pl))) (1 + ranZ 49 51 (sgC ln tx (2 + pl))) (celZ (sgC ln tx) (3 + pl)) w (by omega) (by omega) (by omega) (gD_rg hW.2.1 [1, 2] (by decide) rfl)) kV_X5_60 ⟨Nat.le_of_ble_eq_true rfl, Nat.le_of_ble_eq_true rfl⟩ hW hK [1, 2] rfl (sameA_of rfl) 0 rfl rfl rfl hl.1 rfl (Nat.le_of_ble_eq_true rfl) dX5_doOrder_92 ⟨Nat.le_of_ble_eq_true rfl, Nat.le_of_ble_eq_true rfl⟩ 95 rfl (rs' := [[tbO tb qn qb r x h o], [(r, .inr (3, [.ref (qn 0)]))], stW G qn (addV v (ranZ 48 49 (sgC ln tx (1 + pl))) (1 + ranZ 49 51 (sgC ln tx (2 + pl))) (celZ (sgC ln tx) (3 + pl))), [orO G o sg ln], [arC G sg 60 tx]]) rfl (fun H locs hW hkeep => ?_)
      have y92 := addR_rng w (ranZ 48 49 (sgC ln tx (1 + pl))) (1 + ranZ 49 51 (sgC ln tx (2 + pl))) (celZ (sgC ln tx) (3 + pl))
      have hr : ordR v (sgC ln tx) pl = addR v (ranZ 48 49 (sgC ln tx (1 + pl))) (1 + ranZ 49 51 (sgC ln tx (2 + pl))) (celZ (sgC ln tx) (3 + pl)) := by unfold ordR; rw [if_neg c13, if_pos c55]
      have hv : ordV v (sgC ln tx) pl = (addV v (ranZ 48 49 (sgC ln tx (1 + pl))) (1 + ranZ 49 51 (sgC ln tx (2 + pl))) (celZ (sgC ln tx) (3 + pl))) := by unfold ordV; rw [if_neg c13, if_pos c55]
      rw [hr, hv]
      exact z_wi C hW dX5_doOrder_95 rfl rfl
  · skip
    simp only [decide_eq_true_eq, decide_eq_false_iff_not] at c13
    refine z_al_n C hl dX5_doOrder_16 1 rfl 17 rfl ?_
    refine z_get C hW.1 hK fl_X5_24 0 rfl rfl dX5_doOrder_17 20 rfl ?_
    refine z_al_n C hl dX5_doOrder_20 1 rfl 21 rfl ?_
    refine z_get C hW.1 hK fl_X5_45 0 rfl rfl dX5_doOrder_21 24 rfl ?_
    refine z_il_n C hl dX5_doOrder_24 2 rfl 25 rfl ?_
    refine z_VRz (r := .int (iI (celZ (sgC ln tx) pl))) (rest := [.ref (r)]) C (m_cellAt l G E o sg ln tx pl wt (by omega)) kV_X5_247 ⟨Nat.le_of_ble_eq_true rfl, Nat.le_of_ble_eq_true rfl⟩ (gP_rg hW.1 [3, 4] rfl) hK zr_blind (zr_of hZ hW.2.2.2) 0 rfl rfl rfl hl.1 rfl (Nat.le_of_ble_eq_true rfl) dX5_doOrder_25 ⟨Nat.le_of_ble_eq_true rfl, Nat.le_of_ble_eq_true rfl⟩ 28 rfl ?_
    have o25 := celZ_rng (sgC ln tx) pl
    refine z_al_n C hl dX5_doOrder_28 1 rfl 29 rfl ?_
    refine z_get C hW.1 hK fl_X5_45 0 rfl rfl dX5_doOrder_29 32 rfl ?_
    refine z_il_n C hl dX5_doOrder_32 2 rfl 33 rfl ?_
    refine z_iconst C dX5_doOrder_33 34 rfl ?_
    refine z_iadd C dX5_doOrder_34 35 rfl (3 + pl) (by omega) ?_
    refine z_VRz (r := .int (iI (ranZ 48 52 (sgC ln tx (3 + pl))))) (rest := [.int (iI (celZ (sgC ln tx) pl)), .ref (r)]) C (m_oheightAt l G E o sg ln tx (3 + pl) wt (by omega)) kV_X5_250 ⟨Nat.le_of_ble_eq_true rfl, Nat.le_of_ble_eq_true rfl⟩ (gP_rg hW.1 [3, 4] rfl) hK zr_blind (zr_of hZ hW.2.2.2) 0 rfl rfl rfl hl.1 rfl (Nat.le_of_ble_eq_true rfl) dX5_doOrder_35 ⟨Nat.le_of_ble_eq_true rfl, Nat.le_of_ble_eq_true rfl⟩ 38 rfl ?_
    have o35 := ranZ_rng (lo := 48) (hi := 52) (sgC ln tx (3 + pl)) (by omega)
    refine z_al_n C hl dX5_doOrder_38 1 rfl 39 rfl ?_
    refine z_get C hW.1 hK fl_X5_45 0 rfl rfl dX5_doOrder_39 42 rfl ?_
    refine z_il_n C hl dX5_doOrder_42 2 rfl 43 rfl ?_
    refine z_iconst C dX5_doOrder_43 44 rfl ?_
    refine z_iadd C dX5_doOrder_44 45 rfl (4 + pl) (by omega) ?_
    refine z_VR (r := .int (iI (bZ (decide (sgC ln tx (4 + pl) = 42))))) (rest := [.int (iI (ranZ 48 52 (sgC ln tx (3 + pl)))), .int (iI (celZ (sgC ln tx) pl)), .ref (r)]) C (m_isRockAt l G o sg ln tx (4 + pl) wt (by omega)) kV_X5_253 ⟨Nat.le_of_ble_eq_true rfl, Nat.le_of_ble_eq_true rfl⟩ (gP_rg hW.1 [3, 4] rfl) hK 0 rfl rfl rfl hl.1 rfl (Nat.le_of_ble_eq_true rfl) dX5_doOrder_45 ⟨Nat.le_of_ble_eq_true rfl, Nat.le_of_ble_eq_true rfl⟩ 48 rfl ?_
    refine z_VWi (r := .int (iI (layR v (celZ (sgC ln tx) pl) (ranZ 48 52 (sgC ln tx (3 + pl))) (bZ (decide (sgC ln tx (4 + pl) = 42)))))) (rest := []) C (m_laySand l G r qn v (celZ (sgC ln tx) pl) (ranZ 48 52 (sgC ln tx (3 + pl))) (decide (sgC ln tx (4 + pl) = 42)) w (by omega) (by omega) (gD_rg hW.2.1 [1, 2] (by decide) rfl)) kV_X5_52 ⟨Nat.le_of_ble_eq_true rfl, Nat.le_of_ble_eq_true rfl⟩ hW hK [1, 2] rfl (sameA_of rfl) 0 rfl rfl rfl hl.1 rfl (Nat.le_of_ble_eq_true rfl) dX5_doOrder_48 ⟨Nat.le_of_ble_eq_true rfl, Nat.le_of_ble_eq_true rfl⟩ 51 rfl (rs' := [[tbO tb qn qb r x h o], [(r, .inr (3, [.ref (qn 0)]))], stW G qn (layV v (celZ (sgC ln tx) pl) (ranZ 48 52 (sgC ln tx (3 + pl))) (bZ (decide (sgC ln tx (4 + pl) = 42)))), [orO G o sg ln], [arC G sg 60 tx]]) rfl (fun H locs hW hkeep => ?_)
    have y48 := layR_rng w (celZ (sgC ln tx) pl) (ranZ 48 52 (sgC ln tx (3 + pl))) (bZ (decide (sgC ln tx (4 + pl) = 42)))
    have hr : ordR v (sgC ln tx) pl = layR v (celZ (sgC ln tx) pl) (ranZ 48 52 (sgC ln tx (3 + pl))) (bZ (decide (sgC ln tx (4 + pl) = 42))) := by unfold ordR; rw [if_pos c13]
    have hv : ordV v (sgC ln tx) pl = (layV v (celZ (sgC ln tx) pl) (ranZ 48 52 (sgC ln tx (3 + pl))) (bZ (decide (sgC ln tx (4 + pl) = 42)))) := by unfold ordV; rw [if_pos c13]
    rw [hr, hv]
    exact z_wi C hW dX5_doOrder_51 rfl rfl

set_option maxHeartbeats 4000000 in
set_option maxRecDepth 100000 in
theorem m_doAll (l : Launch) (G : gT) (E : eT) (tb r x cu h pa o sg : Nat) (qn qb sn : Nat → Nat) (S : Nat → Nat → Nat) (g : Nat → Int → Int) (n : Int) (has : Bool) (u v : Int → Int) (ln : Int) (tx : Int → Int) (hn : 0 ≤ n ∧ n ≤ 4) (w : Wf v) (wt : Ot ln tx) (hD : gD ([[tbO tb qn qb r x h o], [(r, .inr (3, [.ref (qn 0)]))], stW G qn v, stW G qb u, hiW G h pa sn n S g has, [orO G o sg ln], [arC G sg 60 tx]] : List va_W).flatten) : MW l G yX5_doAll cX5_doAll 6 (some .int) 8 [.ref (tb)] [[tbO tb qn qb r x h o], [(r, .inr (3, [.ref (qn 0)]))], stW G qn v, stW G qb u, hiW G h pa sn n S g has, [orO G o sg ln], [arC G sg 60 tx]] [[tbO tb qn qb r x h o], [(r, .inr (3, [.ref (qn 0)]))], stW G qn (doaV v ln (sgC ln tx)), stW G qb (doaU u v ln (sgC ln tx)), hiW G h pa sn (actN (doaR v ln (sgC ln tx)) n) (actS (doaR v ln (sgC ln tx)) n S) (actG (doaR v ln (sgC ln tx)) n g v) has, [orO G o sg ln], [arC G sg 60 tx]] (ZW E [[tbO tb qn qb r x h o], [(r, .inr (3, [.ref (qn 0)]))], stW G qn v, stW G qb u, hiW G h pa sn n S g has, [orO G o sg ln], [arC G sg 60 tx]]) (some (.int (iI (doaR v ln (sgC ln tx))))) := by
  refine enterW (own := RX5) (by decide +kernel) rfl (Nat.le_of_ble_eq_true rfl) hD ?_
  intro p e s m below meth c C hW hK hZ ls hl
  have hl : lv_has ls 6 [(0, .ref (tb))] := hl
  have hm := wt.1
  have hfr : -5 ≤ fltZ ln (sgC ln tx) ∧ fltZ ln (sgC ln tx) ≤ 70 := by have := fltN_rng (g := (sgC ln tx)) hm.2 61 0 (by omega) hm.1; unfold fltZ; omega
  refine z_al_n C hl dX5_doAll_0 0 rfl 1 rfl ?_
  refine z_get C hW.1 hK fl_X5_45 0 rfl rfl dX5_doAll_1 4 rfl ?_
  refine z_VRz (r := .int (iI (fltZ ln (sgC ln tx)))) (rest := []) C (m_findFault l G E o sg ln tx wt) kV_X5_82 ⟨Nat.le_of_ble_eq_true rfl, Nat.le_of_ble_eq_true rfl⟩ (gP_rg hW.1 [5, 6] rfl) hK zr_blind (zr_of hZ hW.2.2.2) 0 rfl rfl rfl hl.1 rfl (Nat.le_of_ble_eq_true rfl) dX5_doAll_4 ⟨Nat.le_of_ble_eq_true rfl, Nat.le_of_ble_eq_true rfl⟩ 7 rfl ?_
  refine z_is_n C hl dX5_doAll_7 8 rfl (by decide) (lv' := [(1, .int (iI (fltZ ln (sgC ln tx)))), (0, .ref (tb))]) rfl (fun ls hl => ?_)
  refine z_il_n C hl dX5_doAll_8 0 rfl 9 rfl ?_
  refine z_bipush C dX5_doAll_9 (by decide) 11 rfl ?_
  refine z_icmp_eq C dX5_doAll_11 19 14 (by decide) rfl (by omega) (fun c11 => ?_) (fun c11 => ?_)
  · skip
    refine z_al_n C hl dX5_doAll_19 1 rfl 20 rfl ?_
    refine z_get C hW.1 hK fl_X5_16 0 rfl rfl dX5_doAll_20 23 rfl ?_
    refine z_al_n C hl dX5_doAll_23 1 rfl 24 rfl ?_
    refine z_get C hW.1 hK fl_X5_10 0 rfl rfl dX5_doAll_24 27 rfl ?_
    refine z_VWv (rest := []) C (m_copyFrom l G qb qn u v (gD_rg hW.2.1 [3, 2] (by decide) rfl)) kV_X5_49 ⟨Nat.le_of_ble_eq_true rfl, Nat.le_of_ble_eq_true rfl⟩ hW hK [3, 2] rfl (sameA_of rfl) 0 rfl rfl rfl hl.1 rfl (Nat.le_of_ble_eq_true rfl) dX5_doAll_27 ⟨Nat.le_of_ble_eq_true rfl, Nat.le_of_ble_eq_true rfl⟩ 30 rfl (rs' := [[tbO tb qn qb r x h o], [(r, .inr (3, [.ref (qn 0)]))], stW G qn v, stW G qb v, hiW G h pa sn n S g has, [orO G o sg ln], [arC G sg 60 tx]]) rfl (fun H locs hW hkeep => ?_)
    refine z_iconst C dX5_doAll_30 31 rfl ?_
    refine z_is_n C hl dX5_doAll_31 32 rfl (by decide) (lv' := [(2, .int (iI (0))), (1, .int (iI (fltZ ln (sgC ln tx)))), (0, .ref (tb))]) rfl (fun ls hl => ?_)
    refine z_iconst C dX5_doAll_32 33 rfl ?_
    refine z_is_n C hl dX5_doAll_33 34 rfl (by decide) (lv' := [(3, .int (iI (0))), (2, .int (iI (0))), (1, .int (iI (fltZ ln (sgC ln tx)))), (0, .ref (tb))]) rfl (fun ls hl => ?_)
    refine z_iconst C dX5_doAll_34 35 rfl ?_
    refine z_is C hl dX5_doAll_35 37 rfl (by decide) (lv' := [(4, .int (iI (0))), (3, .int (iI (0))), (2, .int (iI (0))), (1, .int (iI (fltZ ln (sgC ln tx)))), (0, .ref (tb))]) rfl (fun ls hl => ?_)
    have L37 : ∀ (fu : Nat) (y : Int → Int) (k : Int) (pl : Int) (t : Int) (wy : Wf y) (h1 : 0 ≤ t ∧ 2 * t ≤ pl ∧ pl ≤ ln + 1 ∧ 0 ≤ k ∧ k ≤ t) (h4 : ln ≤ pl ∨ fltN ln (sgC ln tx) (61 - t).toNat pl = -5) (h2 : runN v ln (sgC ln tx) (60 - t).toNat k y pl = runN v ln (sgC ln tx) 60 0 v 0) (H : Heap) (locs : List Loc) (hW : Wd G (adr ([[tbO tb qn qb r x h o], [(r, .inr (3, [.ref (qn 0)]))], stW G qn v, stW G qb u, hiW G h pa sn n S g has, [orO G o sg ln], [arC G sg 60 tx]] : List va_W).flatten) [[tbO tb qn qb r x h o], [(r, .inr (3, [.ref (qn 0)]))], stW G qn y, stW G qb v, hiW G h pa sn n S g has, [orO G o sg ln], [arC G sg 60 tx]] s.heap H locs) (hm : 60 - t < (fu : Int)) (ls : Array Slot) (hl : lv_has ls 6 [(4, .int (iI (t))), (3, .int (iI (pl))), (2, .int (iI (k))), (1, .int (iI (fltZ ln (sgC ln tx)))), (0, .ref (tb))]), W p l e (rmN 8) s m [.ref (tb)].toArray below meth c H locs 0 0 (MQ below (QW G [[tbO tb qn qb r x h o], [(r, .inr (3, [.ref (qn 0)]))], stW G qn v, stW G qb u, hiW G h pa sn n S g has, [orO G o sg ln], [arC G sg 60 tx]] [[tbO tb qn qb r x h o], [(r, .inr (3, [.ref (qn 0)]))], stW G qn (doaV v ln (sgC ln tx)), stW G qb (doaU u v ln (sgC ln tx)), hiW G h pa sn (actN (doaR v ln (sgC ln tx)) n) (actS (doaR v ln (sgC ln tx)) n S) (actG (doaR v ln (sgC ln tx)) n g v) has, [orO G o sg ln], [arC G sg 60 tx]] (some (.int (iI (doaR v ln (sgC ln tx)))))) [.ref (tb)].toArray s 0 0 (adr ([[tbO tb qn qb r x h o], [(r, .inr (3, [.ref (qn 0)]))], stW G qn v, stW G qb u, hiW G h pa sn n S g has, [orO G o sg ln], [arC G sg 60 tx]] : List va_W).flatten)) (F0 m 37 ls []) := by
      intro fu
      induction fu with
      | zero => intro y k pl t wy h1 h4 h2 H locs hW hm ls hl; exfalso; omega
      | succ fu ih =>
        intro y k pl t wy h1 h4 h2 H locs hW hm ls hl
        have ih37 := ih
        refine z_il C hl dX5_doAll_37 0 rfl 39 rfl ?_
        refine z_bipush C dX5_doAll_39 (by decide) 41 rfl ?_
        refine z_icmp_ge C dX5_doAll_41 108 44 (by decide) rfl (by omega) (fun c41 => ?_) (fun c41 => ?_)
        · exfalso; omega
        · skip
          refine z_il_n C hl dX5_doAll_44 1 rfl 45 rfl ?_
          refine z_al_n C hl dX5_doAll_45 4 rfl 46 rfl ?_
          refine z_get C hW.1 hK fl_X5_45 0 rfl rfl dX5_doAll_46 49 rfl ?_
          refine z_getN C hW.1 hK fl_X5_85 52 rfl rfl dX5_doAll_49 52 rfl ?_
          refine z_icmp_ge C dX5_doAll_52 108 55 (by decide) rfl (by omega) (fun c52 => ?_) (fun c52 => ?_)
          · skip
            have h3 := h2
            rw [runN_0 (k := (60 - t).toNat) (by omega)] at h3
            have h3 := h3.symm
            skip
            refine z_al_n C hl dX5_doAll_108 4 rfl 109 rfl ?_
            refine z_il_n C hl dX5_doAll_109 2 rfl 110 rfl ?_
            refine z_VWi (r := .int (iI (k))) (rest := []) C (m_recorded l G tb r x cu h pa o sg qn qb sn S g n has v k (by omega) (by omega) (gD_rg hW.2.1 [0, 3, 4] (by decide) rfl)) kV_X5_56 ⟨Nat.le_of_ble_eq_true rfl, Nat.le_of_ble_eq_true rfl⟩ hW hK [0, 3, 4] rfl ((sameA_eq rfl (sameA_eq rfl (sameA_cons (hi_permA _ _) sameA_nil)))) 0 rfl rfl rfl hl.1 rfl (Nat.le_of_ble_eq_true rfl) dX5_doAll_110 ⟨Nat.le_of_ble_eq_true rfl, Nat.le_of_ble_eq_true rfl⟩ 113 rfl (rs' := [[tbO tb qn qb r x h o], [(r, .inr (3, [.ref (qn 0)]))], stW G qn y, stW G qb v, hiW G h pa sn (actN k n) (actS k n S) (actG k n g v) has, [orO G o sg ln], [arC G sg 60 tx]]) rfl (fun H locs hW hkeep => ?_)
            have hr : doaR v ln (sgC ln tx) = k := by unfold doaR; rw [if_pos c11, h3]
            have hv : doaV v ln (sgC ln tx) = y := by unfold doaV; rw [if_pos c11, h3]
            have hu : doaU u v ln (sgC ln tx) = v := by unfold doaU; rw [if_pos c11]
            rw [hr, hv, hu]
            exact z_wi C hW dX5_doAll_113 rfl rfl
          · skip
            have hnx := flt_next (by omega) (by omega) (h4.resolve_left (by omega))
            have hle := endZ_le (by omega) hnx.1
            refine z_al_n C hl dX5_doAll_55 4 rfl 56 rfl ?_
            refine z_il_n C hl dX5_doAll_56 1 rfl 57 rfl ?_
            refine z_VWzi (r := .int (iI (ordR y (sgC ln tx) pl))) (rest := []) C (m_doOrder l G E tb r x cu h pa o sg qn qb sn S y ln tx pl wy wt (by omega) (gD_rg hW.2.1 [0, 1, 2, 5, 6] (by decide) rfl)) kV_X5_89 ⟨Nat.le_of_ble_eq_true rfl, Nat.le_of_ble_eq_true rfl⟩ hW hK [0, 1, 2, 5, 6] rfl (sameA_of rfl) zw_blind (zw_of hZ hW.2.2.2 (hW.in [0, 1, 2, 5, 6] rfl)) 0 rfl rfl rfl hl.1 rfl (Nat.le_of_ble_eq_true rfl) dX5_doAll_57 ⟨Nat.le_of_ble_eq_true rfl, Nat.le_of_ble_eq_true rfl⟩ 60 rfl (rs' := [[tbO tb qn qb r x h o], [(r, .inr (3, [.ref (qn 0)]))], stW G qn (ordV y (sgC ln tx) pl), stW G qb v, hiW G h pa sn n S g has, [orO G o sg ln], [arC G sg 60 tx]]) rfl (fun H locs hW hkeep => ?_)
            have y57 := ordR_rng wy (sgC ln tx) pl
            refine z_is C hl dX5_doAll_60 62 rfl (by decide) (lv' := [(5, .int (iI (ordR y (sgC ln tx) pl))), (4, .int (iI (t))), (3, .int (iI (pl))), (2, .int (iI (k))), (1, .int (iI (fltZ ln (sgC ln tx)))), (0, .ref (tb))]) rfl (fun ls hl => ?_)
            refine z_il C hl dX5_doAll_62 0 rfl 64 rfl ?_
            refine z_if_ge C dX5_doAll_64 88 67 (by decide) rfl (by omega) (fun c64 => ?_) (fun c64 => ?_)
            · skip
              refine z_iinc C hl dX5_doAll_88 91 rfl 3 rfl (z := 1 + k) (by omega) (by decide) (lv' := [(2, .int (iI (1 + k))), (5, .int (iI (ordR y (sgC ln tx) pl))), (4, .int (iI (t))), (3, .int (iI (pl))), (1, .int (iI (fltZ ln (sgC ln tx)))), (0, .ref (tb))]) rfl (fun ls hl => ?_)
              refine z_al_n C hl dX5_doAll_91 5 rfl 92 rfl ?_
              refine z_get C hW.1 hK fl_X5_45 0 rfl rfl dX5_doAll_92 95 rfl ?_
              refine z_il_n C hl dX5_doAll_95 3 rfl 96 rfl ?_
              refine z_VRz (r := .int (iI (endZ (sgC ln tx) pl))) (rest := []) C (m_endOfOrder l G E o sg ln tx pl wt (by omega)) kV_X5_92 ⟨Nat.le_of_ble_eq_true rfl, Nat.le_of_ble_eq_true rfl⟩ (gP_rg hW.1 [5, 6] rfl) hK zr_blind (zr_of hZ hW.2.2.2) 0 rfl rfl rfl hl.1 rfl (Nat.le_of_ble_eq_true rfl) dX5_doAll_96 ⟨Nat.le_of_ble_eq_true rfl, Nat.le_of_ble_eq_true rfl⟩ 99 rfl ?_
              have e96 := endZ_rng (sgC ln tx) pl (by omega)
              refine z_iconst C dX5_doAll_99 100 rfl ?_
              refine z_iadd C dX5_doAll_100 101 rfl (1 + endZ (sgC ln tx) pl) (by omega) ?_
              refine z_is_n C hl dX5_doAll_101 102 rfl (by decide) (lv' := [(3, .int (iI (1 + endZ (sgC ln tx) pl))), (2, .int (iI (1 + k))), (5, .int (iI (ordR y (sgC ln tx) pl))), (4, .int (iI (t))), (1, .int (iI (fltZ ln (sgC ln tx)))), (0, .ref (tb))]) rfl (fun ls hl => ?_)
              refine z_iinc C hl dX5_doAll_102 105 rfl 3 rfl (z := 1 + t) (by omega) (by decide) (lv' := [(4, .int (iI (1 + t))), (3, .int (iI (1 + endZ (sgC ln tx) pl))), (2, .int (iI (1 + k))), (5, .int (iI (ordR y (sgC ln tx) pl))), (1, .int (iI (fltZ ln (sgC ln tx)))), (0, .ref (tb))]) rfl (fun ls hl => ?_)
              refine z_goto C dX5_doAll_105 37 (by decide) ?_
              exact ih37 (ordV y (sgC ln tx) pl) (1 + k) (1 + endZ (sgC ln tx) pl) (1 + t) (wy.ord _ _) (by omega) (by rw [show 61 - (1 + t) = 61 - t - 1 by omega]; exact hnx.2.imp (fun h => by omega) id) (by rw [← h2, runN_1 (k := 60 - t) (by omega) (by omega), if_neg (by omega), show 60 - t - 1 = 60 - (1 + t) by omega]) _ _ hW (by omega) ls (lv_sub hl [0, 1, 2, 4, 5] rfl)
            · skip
              refine z_il C hl dX5_doAll_67 0 rfl 69 rfl ?_
              refine z_bipush C dX5_doAll_69 (by decide) 71 rfl ?_
              refine z_icmp_eq C dX5_doAll_71 88 74 (by decide) rfl (by omega) (fun c71 => ?_) (fun c71 => ?_)
              · skip
                refine z_iinc C hl dX5_doAll_88 91 rfl 3 rfl (z := 1 + k) (by omega) (by decide) (lv' := [(2, .int (iI (1 + k))), (5, .int (iI (ordR y (sgC ln tx) pl))), (4, .int (iI (t))), (3, .int (iI (pl))), (1, .int (iI (fltZ ln (sgC ln tx)))), (0, .ref (tb))]) rfl (fun ls hl => ?_)
                refine z_al_n C hl dX5_doAll_91 5 rfl 92 rfl ?_
                refine z_get C hW.1 hK fl_X5_45 0 rfl rfl dX5_doAll_92 95 rfl ?_
                refine z_il_n C hl dX5_doAll_95 3 rfl 96 rfl ?_
                refine z_VRz (r := .int (iI (endZ (sgC ln tx) pl))) (rest := []) C (m_endOfOrder l G E o sg ln tx pl wt (by omega)) kV_X5_92 ⟨Nat.le_of_ble_eq_true rfl, Nat.le_of_ble_eq_true rfl⟩ (gP_rg hW.1 [5, 6] rfl) hK zr_blind (zr_of hZ hW.2.2.2) 0 rfl rfl rfl hl.1 rfl (Nat.le_of_ble_eq_true rfl) dX5_doAll_96 ⟨Nat.le_of_ble_eq_true rfl, Nat.le_of_ble_eq_true rfl⟩ 99 rfl ?_
                have e96 := endZ_rng (sgC ln tx) pl (by omega)
                refine z_iconst C dX5_doAll_99 100 rfl ?_
                refine z_iadd C dX5_doAll_100 101 rfl (1 + endZ (sgC ln tx) pl) (by omega) ?_
                refine z_is_n C hl dX5_doAll_101 102 rfl (by decide) (lv' := [(3, .int (iI (1 + endZ (sgC ln tx) pl))), (2, .int (iI (1 + k))), (5, .int (iI (ordR y (sgC ln tx) pl))), (4, .int (iI (t))), (1, .int (iI (fltZ ln (sgC ln tx)))), (0, .ref (tb))]) rfl (fun ls hl => ?_)
                refine z_iinc C hl dX5_doAll_102 105 rfl 3 rfl (z := 1 + t) (by omega) (by decide) (lv' := [(4, .int (iI (1 + t))), (3, .int (iI (1 + endZ (sgC ln tx) pl))), (2, .int (iI (1 + k))), (5, .int (iI (ordR y (sgC ln tx) pl))), (1, .int (iI (fltZ ln (sgC ln tx)))), (0, .ref (tb))]) rfl (fun ls hl => ?_)
                refine z_goto C dX5_doAll_105 37 (by decide) ?_
                exact ih37 (ordV y (sgC ln tx) pl) (1 + k) (1 + endZ (sgC ln tx) pl) (1 + t) (wy.ord _ _) (by omega) (by rw [show 61 - (1 + t) = 61 - t - 1 by omega]; exact hnx.2.imp (fun h => by omega) id) (by rw [← h2, runN_1 (k := 60 - t) (by omega) (by omega), if_neg (by omega), show 60 - t - 1 = 60 - (1 + t) by omega]) _ _ hW (by omega) ls (lv_sub hl [0, 1, 2, 4, 5] rfl)
              · skip
                have h3 := h2
                rw [runN_1 (k := 60 - t) (by omega) (by omega), if_pos ⟨by omega, c71⟩] at h3
                have h3 := h3.symm
                skip
                refine z_al_n C hl dX5_doAll_74 5 rfl 75 rfl ?_
                refine z_get C hW.1 hK fl_X5_10 0 rfl rfl dX5_doAll_75 78 rfl ?_
                refine z_al_n C hl dX5_doAll_78 5 rfl 79 rfl ?_
                refine z_get C hW.1 hK fl_X5_16 0 rfl rfl dX5_doAll_79 82 rfl ?_
                refine z_VWv (rest := []) C (m_copyFrom l G qn qb (ordV y (sgC ln tx) pl) v (gD_rg hW.2.1 [2, 3] (by decide) rfl)) kV_X5_49 ⟨Nat.le_of_ble_eq_true rfl, Nat.le_of_ble_eq_true rfl⟩ hW hK [2, 3] rfl (sameA_of rfl) 0 rfl rfl rfl hl.1 rfl (Nat.le_of_ble_eq_true rfl) dX5_doAll_82 ⟨Nat.le_of_ble_eq_true rfl, Nat.le_of_ble_eq_true rfl⟩ 85 rfl (rs' := [[tbO tb qn qb r x h o], [(r, .inr (3, [.ref (qn 0)]))], stW G qn v, stW G qb v, hiW G h pa sn n S g has, [orO G o sg ln], [arC G sg 60 tx]]) rfl (fun H locs hW hkeep => ?_)
                refine z_il C hl dX5_doAll_85 0 rfl 87 rfl ?_
                have hr : doaR v ln (sgC ln tx) = ordR y (sgC ln tx) pl := by unfold doaR; rw [if_pos c11, h3]
                have hv : doaV v ln (sgC ln tx) = v := by unfold doaV; rw [if_pos c11, h3]
                have hu : doaU u v ln (sgC ln tx) = v := by unfold doaU; rw [if_pos c11]
                have hx : ¬ 0 ≤ doaR v ln (sgC ln tx) := by rw [hr]; omega
                have e1 : actN (doaR v ln (sgC ln tx)) n = n := by unfold actN; exact if_neg hx
                have e2 : actS (doaR v ln (sgC ln tx)) n S = S := by unfold actS; exact if_neg hx
                have e3 : actG (doaR v ln (sgC ln tx)) n g v = g := by unfold actG; exact if_neg hx
                rw [e1, e2, e3, hr, hv, hu]
                exact z_wi C hW dX5_doAll_87 rfl rfl
    exact L37 (Int.toNat (60 - 0) + 1) v 0 0 0 (w) (by omega) (Or.inr c11) (rfl) _ _ hW (by omega) ls (lv_sub hl [0, 1, 2, 3, 4] rfl)
  · skip
    refine z_bipush C dX5_doAll_14 (by decide) 16 rfl ?_
    refine z_il_n C hl dX5_doAll_16 0 rfl 17 rfl ?_
    refine z_isub C dX5_doAll_17 18 rfl (-100 - fltZ ln (sgC ln tx)) (by omega) ?_
    have hr : doaR v ln (sgC ln tx) = -100 - fltZ ln (sgC ln tx) := by unfold doaR; rw [if_neg c11]
    have hv : doaV v ln (sgC ln tx) = v := by unfold doaV; rw [if_neg c11]
    have hu : doaU u v ln (sgC ln tx) = u := by unfold doaU; rw [if_neg c11]
    have hh := fltN_rng (g := (sgC ln tx)) hm.2 61 0 (by omega) hm.1
    have hx : ¬ 0 ≤ doaR v ln (sgC ln tx) := by (have h7 : 0 ≤ fltZ ln (sgC ln tx) := (by unfold fltZ at *; omega)); rw [hr]; omega
    have e1 : actN (doaR v ln (sgC ln tx)) n = n := by unfold actN; exact if_neg hx
    have e2 : actS (doaR v ln (sgC ln tx)) n S = S := by unfold actS; exact if_neg hx
    have e3 : actG (doaR v ln (sgC ln tx)) n g v = g := by unfold actG; exact if_neg hx
    rw [e1, e2, e3, hr, hv, hu]
    exact z_wi C hW dX5_doAll_18 rfl rfl

set_option maxHeartbeats 4000000 in
set_option maxRecDepth 100000 in
theorem m_undo (l : Launch) (G : gT) (tb r x cu h pa o sg : Nat) (qn qb sn : Nat → Nat) (S : Nat → Nat → Nat) (g : Nat → Int → Int) (n : Int) (has : Bool) (v : Int → Int) (hn : 0 ≤ n ∧ n ≤ 4) (hD : gD ([[tbO tb qn qb r x h o], hiW G h pa sn n S g has, stW G qn v] : List va_W).flatten) : MW l G yX5_undo cX5_undo 1 (some .int) 3 [.ref (tb)] [[tbO tb qn qb r x h o], hiW G h pa sn n S g has, stW G qn v] [[tbO tb qn qb r x h o], hiW G h pa sn (undN n) S g has, stW G qn (undV n g v)] ZT (some (.int (iI (undR n)))) := by
  refine enterW (own := RX5) (by decide +kernel) rfl (Nat.le_of_ble_eq_true rfl) hD ?_
  intro p e s m below meth c C hW hK hZ ls hl
  have hl : lv_has ls 1 [(0, .ref (tb))] := hl
  refine z_al_n C hl dX5_undo_0 0 rfl 1 rfl ?_
  refine z_get C hW.1 hK fl_X5_38 0 rfl rfl dX5_undo_1 4 rfl ?_
  refine z_al_n C hl dX5_undo_4 0 rfl 5 rfl ?_
  refine z_get C hW.1 hK fl_X5_10 0 rfl rfl dX5_undo_5 8 rfl ?_
  refine z_VWi (r := .int (iI (undR n))) (rest := []) C (m_takeLatest l G h pa sn S g has n qn v (by omega) (gD_rg hW.2.1 [1, 2] (by decide) rfl)) kV_X5_95 ⟨Nat.le_of_ble_eq_true rfl, Nat.le_of_ble_eq_true rfl⟩ hW hK [1, 2] rfl (sameA_of rfl) 0 rfl rfl rfl hl.1 rfl (Nat.le_of_ble_eq_true rfl) dX5_undo_8 ⟨Nat.le_of_ble_eq_true rfl, Nat.le_of_ble_eq_true rfl⟩ 11 rfl (rs' := [[tbO tb qn qb r x h o], hiW G h pa sn (undN n) S g has, stW G qn (undV n g v)]) rfl (fun H locs hW hkeep => ?_)
  exact z_wi C hW dX5_undo_11 (rfl) rfl

set_option maxHeartbeats 4000000 in
set_option maxRecDepth 100000 in
theorem m_keep (l : Launch) (G : gT) (tb r x cu h pa o sg : Nat) (qn qb sn : Nat → Nat) (S : Nat → Nat → Nat) (g : Nat → Int → Int) (n : Int) (has : Bool) (sv v : Int → Int)  (hD : gD ([[tbO tb qn qb r x h o], hiW G h pa sn n S g has, stW G sn sv, stW G qn v] : List va_W).flatten) : MW l G yX5_keep cX5_keep 1 (some .int) 3 [.ref (tb)] [[tbO tb qn qb r x h o], hiW G h pa sn n S g has, stW G sn sv, stW G qn v] [[tbO tb qn qb r x h o], hiW G h pa sn n S g true, stW G sn v, stW G qn v] ZT (some (.int (iI (v 126)))) := by
  refine enterW (own := RX5) (by decide +kernel) rfl (Nat.le_of_ble_eq_true rfl) hD ?_
  intro p e s m below meth c C hW hK hZ ls hl
  have hl : lv_has ls 1 [(0, .ref (tb))] := hl
  refine z_al_n C hl dX5_keep_0 0 rfl 1 rfl ?_
  refine z_get C hW.1 hK fl_X5_38 0 rfl rfl dX5_keep_1 4 rfl ?_
  refine z_al_n C hl dX5_keep_4 0 rfl 5 rfl ?_
  refine z_get C hW.1 hK fl_X5_10 0 rfl rfl dX5_keep_5 8 rfl ?_
  refine z_VWv (rest := []) C (m_takeSnapshot l G h pa sn S g has n sv qn v (gD_rg hW.2.1 [1, 2, 3] (by decide) rfl)) kV_X5_99 ⟨Nat.le_of_ble_eq_true rfl, Nat.le_of_ble_eq_true rfl⟩ hW hK [1, 2, 3] rfl (sameA_of rfl) 0 rfl rfl rfl hl.1 rfl (Nat.le_of_ble_eq_true rfl) dX5_keep_8 ⟨Nat.le_of_ble_eq_true rfl, Nat.le_of_ble_eq_true rfl⟩ 11 rfl (rs' := [[tbO tb qn qb r x h o], hiW G h pa sn n S g true, stW G sn v, stW G qn v]) rfl (fun H locs hW hkeep => ?_)
  refine z_al_n C hl dX5_keep_11 0 rfl 12 rfl ?_
  refine z_get C hW.1 hK fl_X5_10 0 rfl rfl dX5_keep_12 15 rfl ?_
  refine z_getN C hW.1 hK fl_X5_102 43 rfl rfl dX5_keep_15 18 rfl ?_
  exact z_wi C hW dX5_keep_18 (rfl) rfl

set_option maxHeartbeats 4000000 in
set_option maxRecDepth 100000 in
theorem m_restore (l : Launch) (G : gT) (tb r x cu h pa o sg : Nat) (qn qb sn : Nat → Nat) (S : Nat → Nat → Nat) (g : Nat → Int → Int) (n : Int) (has : Bool) (sv u v : Int → Int) (hn : 0 ≤ n ∧ n ≤ 4) (ws : Wf sv) (hD : gD ([[tbO tb qn qb r x h o], hiW G h pa sn n S g has, stW G sn sv, stW G qn v, stW G qb u] : List va_W).flatten) : MW l G yX5_restore cX5_restore 1 (some .int) 4 [.ref (tb)] [[tbO tb qn qb r x h o], hiW G h pa sn n S g has, stW G sn sv, stW G qn v, stW G qb u] [[tbO tb qn qb r x h o], hiW G h pa sn (actN (rstR has sv) n) (actS (rstR has sv) n S) (actG (rstR has sv) n g v) has, stW G sn sv, stW G qn (rstV has sv v), stW G qb v] ZT (some (.int (iI (rstR has sv)))) := by
  refine enterW (own := RX5) (by decide +kernel) rfl (Nat.le_of_ble_eq_true rfl) hD ?_
  intro p e s m below meth c C hW hK hZ ls hl
  have hl : lv_has ls 1 [(0, .ref (tb))] := hl
  refine z_al_n C hl dX5_restore_0 0 rfl 1 rfl ?_
  refine z_get C hW.1 hK fl_X5_16 0 rfl rfl dX5_restore_1 4 rfl ?_
  refine z_al_n C hl dX5_restore_4 0 rfl 5 rfl ?_
  refine z_get C hW.1 hK fl_X5_10 0 rfl rfl dX5_restore_5 8 rfl ?_
  refine z_VWv (rest := []) C (m_copyFrom l G qb qn u v (gD_rg hW.2.1 [4, 3] (by decide) rfl)) kV_X5_49 ⟨Nat.le_of_ble_eq_true rfl, Nat.le_of_ble_eq_true rfl⟩ hW hK [4, 3] rfl (sameA_of rfl) 0 rfl rfl rfl hl.1 rfl (Nat.le_of_ble_eq_true rfl) dX5_restore_8 ⟨Nat.le_of_ble_eq_true rfl, Nat.le_of_ble_eq_true rfl⟩ 11 rfl (rs' := [[tbO tb qn qb r x h o], hiW G h pa sn n S g has, stW G sn sv, stW G qn v, stW G qb v]) rfl (fun H locs hW hkeep => ?_)
  refine z_al_n C hl dX5_restore_11 0 rfl 12 rfl ?_
  refine z_al_n C hl dX5_restore_12 0 rfl 13 rfl ?_
  refine z_get C hW.1 hK fl_X5_38 0 rfl rfl dX5_restore_13 16 rfl ?_
  refine z_al_n C hl dX5_restore_16 0 rfl 17 rfl ?_
  refine z_get C hW.1 hK fl_X5_10 0 rfl rfl dX5_restore_17 20 rfl ?_
  refine z_VWi (r := .int (iI (rstR has sv))) (rest := [.ref (tb)]) C (m_giveSnapshot l G h pa sn S g has n sv qn v (gD_rg hW.2.1 [1, 2, 3] (by decide) rfl)) kV_X5_105 ⟨Nat.le_of_ble_eq_true rfl, Nat.le_of_ble_eq_true rfl⟩ hW hK [1, 2, 3] rfl (sameA_of rfl) 0 rfl rfl rfl hl.1 rfl (Nat.le_of_ble_eq_true rfl) dX5_restore_20 ⟨Nat.le_of_ble_eq_true rfl, Nat.le_of_ble_eq_true rfl⟩ 23 rfl (rs' := [[tbO tb qn qb r x h o], hiW G h pa sn n S g has, stW G sn sv, stW G qn (rstV has sv v), stW G qb v]) rfl (fun H locs hW hkeep => ?_)
  have hs := ws.t
  have y20 : -5 ≤ rstR has sv ∧ rstR has sv ≤ 100 := by unfold rstR; split <;> omega
  refine z_VWi (r := .int (iI (rstR has sv))) (rest := []) C (m_recorded l G tb r x cu h pa o sg qn qb sn S g n has v (rstR has sv) (by omega) (by omega) (gD_rg hW.2.1 [0, 4, 1] (by decide) rfl)) kV_X5_56 ⟨Nat.le_of_ble_eq_true rfl, Nat.le_of_ble_eq_true rfl⟩ hW hK [0, 4, 1] rfl ((sameA_eq rfl (sameA_eq rfl (sameA_cons (hi_permA _ _) sameA_nil)))) 0 rfl rfl rfl hl.1 rfl (Nat.le_of_ble_eq_true rfl) dX5_restore_23 ⟨Nat.le_of_ble_eq_true rfl, Nat.le_of_ble_eq_true rfl⟩ 26 rfl (rs' := [[tbO tb qn qb r x h o], hiW G h pa sn (actN (rstR has sv) n) (actS (rstR has sv) n S) (actG (rstR has sv) n g v) has, stW G sn sv, stW G qn (rstV has sv v), stW G qb v]) rfl (fun H locs hW hkeep => ?_)
  exact z_wi C hW dX5_restore_26 (rfl) rfl
