theorem m_xmovesw (l : Launch) (G : gT) (X : Nat → Nat) (kn ml : Int) (kp : Bool) (v y : Int → Int) (b d n wy : Int) (w : Wf y) (hb : -2147483648 ≤ b ∧ b < 2147483648) (hd : -2147483648 ≤ d ∧ d < 2147483648) (hn : -2147483648 ≤ n ∧ n < 2147483648) (hwy : wofZ d n = wy) (hD : gD ([[moO X kn kp ml], [arI G (X 1) 258 (s2Z v y)]] : List va_W).flatten) : MW l G yX6_moves cX6_moves 8 (some .int) 7 [.ref (X 0), .int (iI (129)), .int (iI (b)), .int (iI (wy))] [[moO X kn kp ml], [arI G (X 1) 258 (s2Z v y)]] [[moO X kn kp ml], [arI G (X 1) 258 (s2Z v (saiV y b d n))]] ZT (some (.int (iI (saiR y b d n)))) := by
  subst hwy
  exact m_xmoves l G X kn ml kp v y b d n w hb hd hn hD

set_option maxHeartbeats 4000000 in
set_option maxRecDepth 100000 in
theorem m_xhomeIn (l : Launch) (G : gT) (X : Nat → Nat) (kn ml : Int) (kp : Bool) (v y L A : Int → Int) (S T : Int → Bool) (b q : Int) (w : Wf v) (hb : -2147483648 ≤ b ∧ b < 2147483648) (hq : -2147483648 ≤ q ∧ q < 2147483648) (hD : gD ([[moO X kn kp ml], [arI G (X 1) 258 (s2Z v y)], [arB G (X 5) 36 S], [arB G (X 6) 36 T], [arI G (X 7) 36 L], [arI G (X 8) 36 A]] : List va_W).flatten) : MW l G yX6_homeIn cX6_homeIn 3 (some .int) 6 [.ref (X 0), .int (iI (b)), .int (iI (q))] [[moO X kn kp ml], [arI G (X 1) 258 (s2Z v y)], [arB G (X 5) 36 S], [arB G (X 6) 36 T], [arI G (X 7) 36 L], [arI G (X 8) 36 A]] [[moO X kn kp ml], [arI G (X 1) 258 (s2Z v y)], [arB G (X 5) 36 ((hoxS v b q (S, T)).1)], [arB G (X 6) 36 ((hoxS v b q (S, T)).2)], [arI G (X 7) 36 ((hoxL v b q (L, A)).1)], [arI G (X 8) 36 ((hoxL v b q (L, A)).2)]] ZT (some (.int (iI (hoxR v b q)))) := by
  refine enterW (own := RX6) (by decide +kernel) rfl (Nat.le_of_ble_eq_true rfl) hD ?_
  intro p e s m below meth c C hW hK hZ ls hl
  have hl : lv_has ls 3 [(0, .ref (X 0)), (1, .int (iI (b))), (2, .int (iI (q)))] := hl
  have hn := w.n
  have ht := w.t
  have hs := w.s
  refine z_al_n C hl dX6_homeIn_0 0 rfl 1 rfl ?_
  refine z_iconst C dX6_homeIn_1 2 rfl ?_
  refine z_il_n C hl dX6_homeIn_2 1 rfl 3 rfl ?_
  refine z_VR (r := .int (iI (bZ (decide (0 ≤ b ∧ b < v 127))))) (rest := []) C (m_xisBoat l G X kn ml kp (s2Z v y) 0 v b w (by omega) (s2_0 v y) (by omega)) kV_X6_104 ⟨Nat.le_of_ble_eq_true rfl, Nat.le_of_ble_eq_true rfl⟩ (gP_rg hW.1 [0, 1] rfl) hK 0 rfl rfl rfl hl.1 rfl (Nat.le_of_ble_eq_true rfl) dX6_homeIn_3 ⟨Nat.le_of_ble_eq_true rfl, Nat.le_of_ble_eq_true rfl⟩ 6 rfl ?_
  refine z_ifb_ne C dX6_homeIn_6 11 9 (by decide) rfl (fun c6 => ?_) (fun c6 => ?_)
  · skip
    simp only [decide_eq_true_eq, decide_eq_false_iff_not] at c6
    have hw := w.b b (by omega)
    have hbb := w.bb b (by omega)
    refine z_il_n C hl dX6_homeIn_11 2 rfl 12 rfl ?_
    refine z_iconst C dX6_homeIn_12 13 rfl ?_
    refine z_iconst C dX6_homeIn_13 14 rfl ?_
    refine z_SR (r := .int (iI (bZ (decide (0 ≤ q ∧ q ≤ 1))))) (rest := []) C (m_xin l G q 0 1 (by omega) (by omega) (by omega)) kS_X6_35 ⟨Nat.le_of_ble_eq_true rfl, Nat.le_of_ble_eq_true rfl⟩ (gP_nil) hK rfl hl.1 rfl (Nat.le_of_ble_eq_true rfl) dX6_homeIn_14 ⟨Nat.le_of_ble_eq_true rfl, Nat.le_of_ble_eq_true rfl⟩ 17 rfl ?_
    refine z_ifb_ne C dX6_homeIn_17 23 20 (by decide) rfl (fun c17 => ?_) (fun c17 => ?_)
    · skip
      simp only [decide_eq_true_eq, decide_eq_false_iff_not] at c17
      refine z_al_n C hl dX6_homeIn_23 0 rfl 24 rfl ?_
      refine z_iconst C dX6_homeIn_24 25 rfl ?_
      refine z_il_n C hl dX6_homeIn_25 1 rfl 26 rfl ?_
      refine z_iconst C dX6_homeIn_26 27 rfl ?_
      refine z_VR (r := .int (iI (v (74 + 5 * b)))) (rest := []) C (m_xits l G X kn ml kp (s2Z v y) 0 v b 2 (74 + 5 * b)  (by omega) (s2_0 v y) (by omega) (by omega)) kV_X6_68 ⟨Nat.le_of_ble_eq_true rfl, Nat.le_of_ble_eq_true rfl⟩ (gP_rg hW.1 [0, 1] rfl) hK 0 rfl rfl rfl hl.1 rfl (Nat.le_of_ble_eq_true rfl) dX6_homeIn_27 ⟨Nat.le_of_ble_eq_true rfl, Nat.le_of_ble_eq_true rfl⟩ 30 rfl ?_
      refine z_if_eq C dX6_homeIn_30 36 33 (by decide) rfl (by omega) (fun c30 => ?_) (fun c30 => ?_)
      · skip
        refine z_il_n C hl dX6_homeIn_36 2 rfl 37 rfl ?_
        refine z_if_ne C dX6_homeIn_37 49 40 (by decide) rfl (by omega) (fun c37 => ?_) (fun c37 => ?_)
        · skip
          refine z_al_n C hl dX6_homeIn_49 0 rfl 50 rfl ?_
          refine z_il_n C hl dX6_homeIn_50 1 rfl 51 rfl ?_
          refine z_VWi (r := .int (iI (baZ v (v (72 + 5 * b)) (v (73 + 5 * b)) (v (75 + 5 * b))))) (rest := []) C (m_xback l G X kn ml kp v y L A b w (by omega) (gD_rg hW.2.1 [0, 1, 4, 5] (by decide) rfl)) kV_X6_196 ⟨Nat.le_of_ble_eq_true rfl, Nat.le_of_ble_eq_true rfl⟩ hW hK [0, 1, 4, 5] rfl (sameA_of rfl) 0 rfl rfl rfl hl.1 rfl (Nat.le_of_ble_eq_true rfl) dX6_homeIn_51 ⟨Nat.le_of_ble_eq_true rfl, Nat.le_of_ble_eq_true rfl⟩ 54 rfl (rs' := [[moO X kn kp ml], [arI G (X 1) 258 (s2Z v y)], [arB G (X 5) 36 S], [arB G (X 6) 36 T], [arI G (X 7) 36 (lsA v (v (72 + 5 * b)) (v (73 + 5 * b)) L)], [arI G (X 8) 36 (dpN v (v (72 + 5 * b)) (v (73 + 5 * b)) (v 125 + 1 - v 126).toNat)]]) rfl (fun H locs hW hkeep => ?_)
          have hr : hoxR v b q = baZ v (v (72 + 5 * b)) (v (73 + 5 * b)) (v (75 + 5 * b)) := by unfold hoxR; rw [if_neg (by omega), if_neg (by omega), if_neg (by unfold onB; rw [decide_eq_true c30]; decide), if_neg (by omega)]
          have h8 : hoxS v b q (S, T) = (S, T) := by unfold hoxS; exact if_neg (fun z => by omega)
          have h9 : hoxL v b q (L, A) = (lsA v (v (72 + 5 * b)) (v (73 + 5 * b)) L, dpN v (v (72 + 5 * b)) (v (73 + 5 * b)) (v 125 + 1 - v 126).toNat) := by unfold hoxL; exact if_pos ⟨⟨by omega, by omega, by unfold onB; exact decide_eq_true c30⟩, by omega⟩
          rw [hr, h8, h9]
          exact z_wi C hW dX6_homeIn_54 rfl rfl
        · skip
          refine z_al_n C hl dX6_homeIn_40 0 rfl 41 rfl ?_
          refine z_iconst C dX6_homeIn_41 42 rfl ?_
          refine z_il_n C hl dX6_homeIn_42 1 rfl 43 rfl ?_
          refine z_VWi (r := .int (iI (fwZ v (v (72 + 5 * b)) (v (73 + 5 * b)) (v (75 + 5 * b)) (v 126)))) (rest := []) C (m_xforth l G X kn ml kp (s2Z v y) 0 v b S T w (by omega) (s2_0 v y) (by omega) (gD_rg hW.2.1 [0, 1, 2, 3] (by decide) rfl)) kV_X6_193 ⟨Nat.le_of_ble_eq_true rfl, Nat.le_of_ble_eq_true rfl⟩ hW hK [0, 1, 2, 3] rfl (sameA_of rfl) 0 rfl rfl rfl hl.1 rfl (Nat.le_of_ble_eq_true rfl) dX6_homeIn_43 ⟨Nat.le_of_ble_eq_true rfl, Nat.le_of_ble_eq_true rfl⟩ 46 rfl (rs' := [[moO X kn kp ml], [arI G (X 1) 258 (s2Z v y)], [arB G (X 5) 36 ((fwAZ v (v (72 + 5 * b)) (v (73 + 5 * b)) (v (75 + 5 * b)) (v 126) T).1)], [arB G (X 6) 36 ((fwAZ v (v (72 + 5 * b)) (v (73 + 5 * b)) (v (75 + 5 * b)) (v 126) T).2)], [arI G (X 7) 36 L], [arI G (X 8) 36 A]]) rfl (fun H locs hW hkeep => ?_)
          have q43 := fwZ_rng w (v (72 + 5 * b)) (v (73 + 5 * b)) (v (75 + 5 * b)) (v 126) (by omega)
          refine z_goto C dX6_homeIn_46 54 (by decide) ?_
          have hr : hoxR v b q = fwZ v (v (72 + 5 * b)) (v (73 + 5 * b)) (v (75 + 5 * b)) (v 126) := by unfold hoxR; rw [if_neg (by omega), if_neg (by omega), if_neg (by unfold onB; rw [decide_eq_true c30]; decide), if_pos (by omega)]
          have h8 : hoxS v b q (S, T) = fwAZ v (v (72 + 5 * b)) (v (73 + 5 * b)) (v (75 + 5 * b)) (v 126) T := by unfold hoxS; exact if_pos ⟨⟨by omega, by omega, by unfold onB; exact decide_eq_true c30⟩, by omega⟩
          have h9 : hoxL v b q (L, A) = (L, A) := by unfold hoxL; exact if_neg (fun z => by omega)
          rw [hr, h8, h9]
          exact z_wi C hW dX6_homeIn_54 rfl rfl
      · skip
        refine z_bipush C dX6_homeIn_33 (by decide) 35 rfl ?_
        have hr : hoxR v b q = -4 := by unfold hoxR; rw [if_neg (by omega), if_neg (by omega), if_pos (by unfold onB; exact decide_eq_false c30)]
        have h8 : hoxS v b q (S, T) = (S, T) := by unfold hoxS; exact if_neg (fun z => by have h9 := z.1.2.2; unfold onB at h9; rw [decide_eq_false c30] at h9; cases h9)
        have h9 : hoxL v b q (L, A) = (L, A) := by unfold hoxL; exact if_neg (fun z => by have h9 := z.1.2.2; unfold onB at h9; rw [decide_eq_false c30] at h9; cases h9)
        rw [hr, h8, h9]
        exact z_wi C hW dX6_homeIn_35 rfl rfl
    · skip
      simp only [decide_eq_true_eq, decide_eq_false_iff_not] at c17
      refine z_bipush C dX6_homeIn_20 (by decide) 22 rfl ?_
      have hr : hoxR v b q = -2 := by unfold hoxR; rw [if_neg (by omega), if_pos (by omega)]
      have h8 : hoxS v b q (S, T) = (S, T) := by unfold hoxS; exact if_neg (fun z => absurd z.1.2.1 (by omega))
      have h9 : hoxL v b q (L, A) = (L, A) := by unfold hoxL; exact if_neg (fun z => absurd z.1.2.1 (by omega))
      rw [hr, h8, h9]
      exact z_wi C hW dX6_homeIn_22 rfl rfl
  · skip
    simp only [decide_eq_true_eq, decide_eq_false_iff_not] at c6
    refine z_iconst C dX6_homeIn_9 10 rfl ?_
    have hr : hoxR v b q = -1 := by unfold hoxR; rw [if_pos (by omega)]
    have h8 : hoxS v b q (S, T) = (S, T) := by unfold hoxS; exact if_neg (fun z => absurd z.1.1 (by omega))
    have h9 : hoxL v b q (L, A) = (L, A) := by unfold hoxL; exact if_neg (fun z => absurd z.1.1 (by omega))
    rw [hr, h8, h9]
    exact z_wi C hW dX6_homeIn_10 rfl rfl

set_option maxHeartbeats 4000000 in
set_option maxRecDepth 100000 in
theorem m_xworth (l : Launch) (G : gT) (X : Nat → Nat) (kn ml : Int) (kp : Bool) (v y : Int → Int) (S T : Int → Bool) (b wy d n : Int) (w : Wf v) (hb : 0 ≤ b ∧ b < v 127) (hwy : wy = 10 * d + n) (hd : 0 ≤ d ∧ d < 4) (hn : 1 ≤ n ∧ n ≤ 3) (hre : reaZ v b d n false = 0) (hD : gD ([[moO X kn kp ml], [arI G (X 1) 258 (s2Z v y)], [arB G (X 5) 36 S], [arB G (X 6) 36 T]] : List va_W).flatten) : MW l G yX6_worth cX6_worth 5 (some .int) 8 [.ref (X 0), .int (iI (b)), .int (iI (wy))] [[moO X kn kp ml], [arI G (X 1) 258 (s2Z v y)], [arB G (X 5) 36 S], [arB G (X 6) 36 T]] [[moO X kn kp ml], [arI G (X 1) 258 (s2Z v (saiV v b d n))], [arB G (X 5) 36 ((worA v b d n (S, T)).1)], [arB G (X 6) 36 ((worA v b d n (S, T)).2)]] ZT (some (.int (iI (worM v b d n)))) := by
  refine enterW (own := RX6) (by decide +kernel) rfl (Nat.le_of_ble_eq_true rfl) hD ?_
  intro p e s m below meth c C hW hK hZ ls hl
  have hl : lv_has ls 5 [(0, .ref (X 0)), (1, .int (iI (b))), (2, .int (iI (wy)))] := hl
  have h127 := w.n
  have wu := w.sai b d n
  have herr : errZ v b d n = 0 := by unfold errZ; rw [if_neg (by omega), if_neg (by omega)]
  have e127 : saiV v b d n 127 = v 127 := by rw [sai_127 herr hre w]; have ho := batZ_rng w (golZ v b d n); have hm := mv_n (v := v) (b := b) (d := d) (n := n) (k := 127) (by omega) (by omega) (by omega); rw [pasV_n (by omega) (by omega) (by omega), hm]
  have hub := wu.b b (by omega)
  have hut := wu.t
  refine z_al_n C hl dX6_worth_0 0 rfl 1 rfl ?_
  refine z_VWv (rest := []) C (m_xcopies l G X kn ml kp v y (gD_rg hW.2.1 [0, 1] (by decide) rfl)) kV_X6_114 ⟨Nat.le_of_ble_eq_true rfl, Nat.le_of_ble_eq_true rfl⟩ hW hK [0, 1] rfl (sameA_of rfl) 0 rfl rfl rfl hl.1 rfl (Nat.le_of_ble_eq_true rfl) dX6_worth_1 ⟨Nat.le_of_ble_eq_true rfl, Nat.le_of_ble_eq_true rfl⟩ 4 rfl (rs' := [[moO X kn kp ml], [arI G (X 1) 258 (s2Z v v)], [arB G (X 5) 36 S], [arB G (X 6) 36 T]]) rfl (fun H locs hW hkeep => ?_)
  refine z_al_n C hl dX6_worth_4 0 rfl 5 rfl ?_
  refine z_sipush C dX6_worth_5 (by decide) 8 rfl ?_
  refine z_il_n C hl dX6_worth_8 1 rfl 9 rfl ?_
  refine z_il_n C hl dX6_worth_9 2 rfl 10 rfl ?_
  refine z_VWi (r := .int (iI (saiR v b d n))) (rest := []) C (m_xmovesw l G X kn ml kp v v b d n wy w (by omega) (by omega) (by omega) (by unfold wofZ; rw [if_pos (by omega)]; omega) (gD_rg hW.2.1 [0, 1] (by decide) rfl)) kV_X6_130 ⟨Nat.le_of_ble_eq_true rfl, Nat.le_of_ble_eq_true rfl⟩ hW hK [0, 1] rfl (sameA_of rfl) 0 rfl rfl rfl hl.1 rfl (Nat.le_of_ble_eq_true rfl) dX6_worth_10 ⟨Nat.le_of_ble_eq_true rfl, Nat.le_of_ble_eq_true rfl⟩ 13 rfl (rs' := [[moO X kn kp ml], [arI G (X 1) 258 (s2Z v (saiV v b d n))], [arB G (X 5) 36 S], [arB G (X 6) 36 T]]) rfl (fun H locs hW hkeep => ?_)
  have y10 := saiR_rng w b d n
  refine z_is_n C hl dX6_worth_13 14 rfl (by decide) (lv' := [(3, .int (iI (saiR v b d n))), (0, .ref (X 0)), (1, .int (iI (b))), (2, .int (iI (wy)))]) rfl (fun ls hl => ?_)
  refine z_al_n C hl dX6_worth_14 1 rfl 15 rfl ?_
  refine z_sipush C dX6_worth_15 (by decide) 18 rfl ?_
  refine z_il_n C hl dX6_worth_18 2 rfl 19 rfl ?_
  refine z_iconst C dX6_worth_19 20 rfl ?_
  refine z_VR (r := .int (iI (((saiV v b d n) (74 + 5 * b))))) (rest := []) C (m_xits l G X kn ml kp (s2Z v (saiV v b d n)) 129 (saiV v b d n) b 2 (74 + 5 * b)  (by omega) (s2_1 v (saiV v b d n)) (by omega) (by omega)) kV_X6_68 ⟨Nat.le_of_ble_eq_true rfl, Nat.le_of_ble_eq_true rfl⟩ (gP_rg hW.1 [0, 1] rfl) hK 0 rfl rfl rfl hl.1 rfl (Nat.le_of_ble_eq_true rfl) dX6_worth_20 ⟨Nat.le_of_ble_eq_true rfl, Nat.le_of_ble_eq_true rfl⟩ 23 rfl ?_
  refine z_iconst C dX6_worth_23 24 rfl ?_
  refine z_icmp_ne C dX6_worth_24 41 27 (by decide) rfl (by omega) (fun c24 => ?_) (fun c24 => ?_)
  · skip
    refine z_il_n C hl dX6_worth_41 0 rfl 42 rfl ?_
    refine z_if_le C dX6_worth_42 51 45 (by decide) rfl (by omega) (fun c42 => ?_) (fun c42 => ?_)
    · skip
      refine z_al_n C hl dX6_worth_51 1 rfl 52 rfl ?_
      refine z_sipush C dX6_worth_52 (by decide) 55 rfl ?_
      refine z_il_n C hl dX6_worth_55 2 rfl 56 rfl ?_
      refine z_iconst C dX6_worth_56 57 rfl ?_
      refine z_VR (r := .int (iI (((saiV v b d n) (74 + 5 * b))))) (rest := []) C (m_xits l G X kn ml kp (s2Z v (saiV v b d n)) 129 (saiV v b d n) b 2 (74 + 5 * b)  (by omega) (s2_1 v (saiV v b d n)) (by omega) (by omega)) kV_X6_68 ⟨Nat.le_of_ble_eq_true rfl, Nat.le_of_ble_eq_true rfl⟩ (gP_rg hW.1 [0, 1] rfl) hK 0 rfl rfl rfl hl.1 rfl (Nat.le_of_ble_eq_true rfl) dX6_worth_57 ⟨Nat.le_of_ble_eq_true rfl, Nat.le_of_ble_eq_true rfl⟩ 60 rfl ?_
      refine z_if_ne C dX6_worth_60 74 63 (by decide) rfl (by omega) (fun c60 => ?_) (fun c60 => ?_)
      · skip
        refine z_bipush C dX6_worth_74 (by decide) 76 rfl ?_
        refine z_is C hl dX6_worth_76 78 rfl (by decide) (lv' := [(4, .int (iI (-5))), (3, .int (iI (saiR v b d n))), (0, .ref (X 0)), (1, .int (iI (b))), (2, .int (iI (wy)))]) rfl (fun ls hl => ?_)
        refine z_il C hl dX6_worth_78 0 rfl 80 rfl ?_
        refine z_bipush C dX6_worth_80 (by decide) 82 rfl ?_
        refine z_icmp_ne C dX6_worth_82 89 85 (by decide) rfl (by omega) (fun c82 => ?_) (fun c82 => ?_)
        · exfalso; omega
        · skip
          refine z_iconst C dX6_worth_85 86 rfl ?_
          refine z_goto C dX6_worth_86 95 (by decide) ?_
          have hr : worM v b d n = 0 := by unfold worM; rw [if_neg c24, if_neg (by omega), if_neg c60]
          have ha : worA v b d n (S, T) = (S, T) := by unfold worA; exact if_pos (Or.inr (Or.inr c60))
          rw [hr, ha]
          exact z_wi C hW dX6_worth_95 rfl rfl
      · skip
        skip
        refine z_al_n C hl dX6_worth_63 1 rfl 64 rfl ?_
        refine z_sipush C dX6_worth_64 (by decide) 67 rfl ?_
        refine z_il_n C hl dX6_worth_67 2 rfl 68 rfl ?_
        refine z_VWi (r := .int (iI (fwZ (saiV v b d n) ((saiV v b d n) (72 + 5 * b)) ((saiV v b d n) (73 + 5 * b)) ((saiV v b d n) (75 + 5 * b)) ((saiV v b d n) 126)))) (rest := []) C (m_xforth l G X kn ml kp (s2Z v (saiV v b d n)) 129 (saiV v b d n) b S T wu (by omega) (s2_1 v (saiV v b d n)) (by omega) (gD_rg hW.2.1 [0, 1, 2, 3] (by decide) rfl)) kV_X6_193 ⟨Nat.le_of_ble_eq_true rfl, Nat.le_of_ble_eq_true rfl⟩ hW hK [0, 1, 2, 3] rfl (sameA_of rfl) 0 rfl rfl rfl hl.1 rfl (Nat.le_of_ble_eq_true rfl) dX6_worth_68 ⟨Nat.le_of_ble_eq_true rfl, Nat.le_of_ble_eq_true rfl⟩ 71 rfl (rs' := [[moO X kn kp ml], [arI G (X 1) 258 (s2Z v (saiV v b d n))], [arB G (X 5) 36 ((fwAZ (saiV v b d n) ((saiV v b d n) (72 + 5 * b)) ((saiV v b d n) (73 + 5 * b)) ((saiV v b d n) (75 + 5 * b)) ((saiV v b d n) 126) T).1)], [arB G (X 6) 36 ((fwAZ (saiV v b d n) ((saiV v b d n) (72 + 5 * b)) ((saiV v b d n) (73 + 5 * b)) ((saiV v b d n) (75 + 5 * b)) ((saiV v b d n) 126) T).2)]]) rfl (fun H locs hW hkeep => ?_)
        have q68 := fwZ_rng wu ((saiV v b d n) (72 + 5 * b)) ((saiV v b d n) (73 + 5 * b)) ((saiV v b d n) (75 + 5 * b)) ((saiV v b d n) 126) (by omega)
        refine z_goto C dX6_worth_71 76 (by decide) ?_
        refine z_is C hl dX6_worth_76 78 rfl (by decide) (lv' := [(4, .int (iI (fwZ (saiV v b d n) ((saiV v b d n) (72 + 5 * b)) ((saiV v b d n) (73 + 5 * b)) ((saiV v b d n) (75 + 5 * b)) ((saiV v b d n) 126)))), (3, .int (iI (saiR v b d n))), (0, .ref (X 0)), (1, .int (iI (b))), (2, .int (iI (wy)))]) rfl (fun ls hl => ?_)
        refine z_il C hl dX6_worth_78 0 rfl 80 rfl ?_
        refine z_bipush C dX6_worth_80 (by decide) 82 rfl ?_
        refine z_icmp_ne C dX6_worth_82 89 85 (by decide) rfl (by omega) (fun c82 => ?_) (fun c82 => ?_)
        · skip
          refine z_sipush C dX6_worth_89 (by decide) 92 rfl ?_
          refine z_il C hl dX6_worth_92 0 rfl 94 rfl ?_
          refine z_isub C dX6_worth_94 95 rfl (900 - fwZ (saiV v b d n) ((saiV v b d n) (72 + 5 * b)) ((saiV v b d n) (73 + 5 * b)) ((saiV v b d n) (75 + 5 * b)) ((saiV v b d n) 126)) (by omega) ?_
          have hr : worM v b d n = 900 - fwZ (saiV v b d n) ((saiV v b d n) (72 + 5 * b)) ((saiV v b d n) (73 + 5 * b)) ((saiV v b d n) (75 + 5 * b)) ((saiV v b d n) 126) := by unfold worM; rw [if_neg c24, if_neg (by omega), if_pos c60, if_neg c82]
          have ha : worA v b d n (S, T) = (fwAZ (saiV v b d n) ((saiV v b d n) (72 + 5 * b)) ((saiV v b d n) (73 + 5 * b)) ((saiV v b d n) (75 + 5 * b)) ((saiV v b d n) 126) T) := by unfold worA; exact if_neg (fun z => by rcases z with z | z | z; exact c24 z; omega; exact z c60)
          rw [hr, ha]
          exact z_wi C hW dX6_worth_95 rfl rfl
        · skip
          refine z_iconst C dX6_worth_85 86 rfl ?_
          refine z_goto C dX6_worth_86 95 (by decide) ?_
          have hr : worM v b d n = 0 := by unfold worM; rw [if_neg c24, if_neg (by omega), if_pos c60, if_pos c82]
          have ha : worA v b d n (S, T) = (fwAZ (saiV v b d n) ((saiV v b d n) (72 + 5 * b)) ((saiV v b d n) (73 + 5 * b)) ((saiV v b d n) (75 + 5 * b)) ((saiV v b d n) 126) T) := by unfold worA; exact if_neg (fun z => by rcases z with z | z | z; exact c24 z; omega; exact z c60)
          rw [hr, ha]
          exact z_wi C hW dX6_worth_95 rfl rfl
    · skip
      refine z_sipush C dX6_worth_45 (by decide) 48 rfl ?_
      refine z_il_n C hl dX6_worth_48 0 rfl 49 rfl ?_
      refine z_iadd C dX6_worth_49 50 rfl (1000 + saiR v b d n) (by omega) ?_
      have hr : worM v b d n = 1000 + saiR v b d n := by unfold worM; rw [if_neg c24, if_pos (by omega)]
      have ha : worA v b d n (S, T) = (S, T) := by unfold worA; exact if_pos (Or.inr (Or.inl (by omega)))
      rw [hr, ha]
      exact z_wi C hW dX6_worth_50 rfl rfl
  · skip
    refine z_sipush C dX6_worth_27 (by decide) 30 rfl ?_
    refine z_al_n C hl dX6_worth_30 1 rfl 31 rfl ?_
    refine z_sipush C dX6_worth_31 (by decide) 34 rfl ?_
    refine z_il_n C hl dX6_worth_34 2 rfl 35 rfl ?_
    refine z_iconst C dX6_worth_35 36 rfl ?_
    refine z_VR (r := .int (iI (((saiV v b d n) (73 + 5 * b))))) (rest := [.int (iI (2000))]) C (m_xits l G X kn ml kp (s2Z v (saiV v b d n)) 129 (saiV v b d n) b 1 (73 + 5 * b)  (by omega) (s2_1 v (saiV v b d n)) (by omega) (by omega)) kV_X6_68 ⟨Nat.le_of_ble_eq_true rfl, Nat.le_of_ble_eq_true rfl⟩ (gP_rg hW.1 [0, 1] rfl) hK 0 rfl rfl rfl hl.1 rfl (Nat.le_of_ble_eq_true rfl) dX6_worth_36 ⟨Nat.le_of_ble_eq_true rfl, Nat.le_of_ble_eq_true rfl⟩ 39 rfl ?_
    refine z_iadd C dX6_worth_39 40 rfl (2000 + ((saiV v b d n) (73 + 5 * b))) (rfl) ?_
    have hr : worM v b d n = 2000 + ((saiV v b d n) (73 + 5 * b)) := by unfold worM; rw [if_pos c24]
    have ha : worA v b d n (S, T) = (S, T) := by unfold worA; exact if_pos (Or.inl c24)
    rw [hr, ha]
    exact z_wi C hW dX6_worth_40 rfl rfl

set_option maxHeartbeats 4000000 in
set_option maxRecDepth 100000 in
theorem m_xbest (l : Launch) (G : gT) (X : Nat → Nat) (kn ml : Int) (kp : Bool) (v y : Int → Int) (S T : Int → Bool) (w : Wf v) (hD : gD ([[moO X kn kp ml], [arI G (X 1) 258 (s2Z v y)], [arB G (X 5) 36 S], [arB G (X 6) 36 T]] : List va_W).flatten) : MW l G yX6_best cX6_best 7 (some .int) 9 [.ref (X 0)] [[moO X kn kp ml], [arI G (X 1) 258 (s2Z v y)], [arB G (X 5) 36 S], [arB G (X 6) 36 T]] [[moO X kn kp ml], [arI G (X 1) 258 (s2Z v (beY v y))], [arB G (X 5) 36 ((beA v (S, T)).1)], [arB G (X 6) 36 ((beA v (S, T)).2)]] ZT (some (.int (iI (besM v)))) := by
  refine enterW (own := RX6) (by decide +kernel) rfl (Nat.le_of_ble_eq_true rfl) hD ?_
  intro p e s m below meth c C hW hK hZ ls hl
  have hl : lv_has ls 7 [(0, .ref (X 0))] := hl
  have h127 := w.n
  refine z_al_n C hl dX6_best_0 0 rfl 1 rfl ?_
  refine z_iconst C dX6_best_1 2 rfl ?_
  refine z_VR (r := .int (iI (bZ (overB v)))) (rest := []) C (m_xover l G X kn ml kp (s2Z v y) 0 v  w (by omega) (s2_0 v y) ) kV_X6_81 ⟨Nat.le_of_ble_eq_true rfl, Nat.le_of_ble_eq_true rfl⟩ (gP_rg hW.1 [0, 1] rfl) hK 0 rfl rfl rfl hl.1 rfl (Nat.le_of_ble_eq_true rfl) dX6_best_2 ⟨Nat.le_of_ble_eq_true rfl, Nat.le_of_ble_eq_true rfl⟩ 5 rfl ?_
  refine z_ifb_eq C dX6_best_5 11 8 (by decide) rfl (fun c5 => ?_) (fun c5 => ?_)
  · skip
    refine z_bipush C dX6_best_11 (by decide) 13 rfl ?_
    refine z_is_n C hl dX6_best_13 14 rfl (by decide) (lv' := [(1, .int (iI (-5))), (0, .ref (X 0))]) rfl (fun ls hl => ?_)
    refine z_iconst C dX6_best_14 15 rfl ?_
    refine z_is_n C hl dX6_best_15 16 rfl (by decide) (lv' := [(2, .int (iI (0))), (1, .int (iI (-5))), (0, .ref (X 0))]) rfl (fun ls hl => ?_)
    refine z_iconst C dX6_best_16 17 rfl ?_
    have hW := hW.re (rs' := [[moO X kn kp ml], [arI G (X 1) 258 (s2Z v (bmY v y (Int.toNat 0)))], [arB G (X 5) 36 ((bmA v (S, T) (Int.toNat 0)).1)], [arB G (X 6) 36 ((bmA v (S, T) (Int.toNat 0)).2)]]) rfl
    refine z_is_n C hl dX6_best_17 18 rfl (by decide) (lv' := [(3, .int (iI (0))), (2, .int (iI (0))), (1, .int (iI (-5))), (0, .ref (X 0))]) rfl (fun ls hl => ?_)
    have L18 : ∀ (fu : Nat) (z : Int) (x : Int) (k : Int) (h1 : 0 ≤ k ∧ k ≤ 12 * v 127) (hx : 0 ≤ x ∧ x ≤ 2003) (h2 : bmN v k.toNat = (x, z)) (H : Heap) (locs : List Loc) (hW : Wd G (adr ([[moO X kn kp ml], [arI G (X 1) 258 (s2Z v y)], [arB G (X 5) 36 S], [arB G (X 6) 36 T]] : List va_W).flatten) [[moO X kn kp ml], [arI G (X 1) 258 (s2Z v (bmY v y k.toNat))], [arB G (X 5) 36 ((bmA v (S, T) k.toNat).1)], [arB G (X 6) 36 ((bmA v (S, T) k.toNat).2)]] s.heap H locs) (hm : 12 * v 127 - k < (fu : Int)) (ls : Array Slot) (hl : lv_has ls 7 [(3, .int (iI (k))), (2, .int (iI (x))), (1, .int (iI (z))), (0, .ref (X 0))]), W p l e (rmN 9) s m [.ref (X 0)].toArray below meth c H locs 0 0 (MQ below (QW G [[moO X kn kp ml], [arI G (X 1) 258 (s2Z v y)], [arB G (X 5) 36 S], [arB G (X 6) 36 T]] [[moO X kn kp ml], [arI G (X 1) 258 (s2Z v (beY v y))], [arB G (X 5) 36 ((beA v (S, T)).1)], [arB G (X 6) 36 ((beA v (S, T)).2)]] (some (.int (iI (besM v))))) [.ref (X 0)].toArray s 0 0 (adr ([[moO X kn kp ml], [arI G (X 1) 258 (s2Z v y)], [arB G (X 5) 36 S], [arB G (X 6) 36 T]] : List va_W).flatten)) (F0 m 18 ls []) := by
      intro fu
      induction fu with
      | zero => intro z x k h1 hx h2 H locs hW hm ls hl; exfalso; omega
      | succ fu ih =>
        intro z x k h1 hx h2 H locs hW hm ls hl
        have ih18 := ih
        refine z_il_n C hl dX6_best_18 0 rfl 19 rfl ?_
        refine z_bipush C dX6_best_19 (by decide) 21 rfl ?_
        refine z_al_n C hl dX6_best_21 3 rfl 22 rfl ?_
        refine z_get C hW.1 hK fl_X6_7 0 rfl rfl dX6_best_22 25 rfl ?_
        refine z_bipush C dX6_best_25 (by decide) 27 rfl ?_
        refine z_iaZ C (s2Z v (bmY v y k.toNat)) hW.1 hK 1 rfl (by omega) (by decide) (v 127) (s2_lo (by omega)) dX6_best_27 28 rfl ?_
        refine z_imul C dX6_best_28 29 rfl (12 * v 127) (by omega) ?_
        refine z_icmp_ge C dX6_best_29 118 32 (by decide) rfl (by omega) (fun c29 => ?_) (fun c29 => ?_)
        · skip
          refine z_il_n C hl dX6_best_118 2 rfl 119 rfl ?_
          have hke : k = 12 * v 127 := by omega
          have hbes : besM v = z := by unfold besM; rw [if_neg (by rw [c5]; decide), ← hke, h2]
          have hbeY : beY v y = bmY v y k.toNat := by unfold beY; rw [if_neg (by rw [c5]; decide), ← hke]
          have hbeA : beA v (S, T) = bmA v (S, T) k.toNat := by unfold beA; rw [if_neg (by rw [c5]; decide), ← hke]
          rw [hbes, hbeY, hbeA]
          exact z_wi C hW dX6_best_119 rfl rfl
        · skip
          refine z_il_n C hl dX6_best_32 0 rfl 33 rfl ?_
          refine z_bipush C dX6_best_33 (by decide) 35 rfl ?_
          refine z_idiv C dX6_best_35 36 rfl (by omega) ((k / 12)) (rfl) ?_
          refine z_is C hl dX6_best_36 38 rfl (by decide) (lv' := [(4, .int (iI ((k / 12)))), (3, .int (iI (k))), (2, .int (iI (x))), (1, .int (iI (z))), (0, .ref (X 0))]) rfl (fun ls hl => ?_)
          refine z_bipush C dX6_best_38 (by decide) 40 rfl ?_
          refine z_il_n C hl dX6_best_40 1 rfl 41 rfl ?_
          refine z_iconst C dX6_best_41 42 rfl ?_
          refine z_idiv C dX6_best_42 43 rfl (by omega) ((k / 3)) (rfl) ?_
          refine z_iconst C dX6_best_43 44 rfl ?_
          refine z_irem C dX6_best_44 45 rfl (by omega) (((k / 3) % 4)) (rfl) ?_
          refine z_imul C dX6_best_45 46 rfl (10 * ((k / 3) % 4)) (rfl) ?_
          refine z_il_n C hl dX6_best_46 1 rfl 47 rfl ?_
          refine z_iconst C dX6_best_47 48 rfl ?_
          refine z_irem C dX6_best_48 49 rfl (by omega) ((k % 3)) (rfl) ?_
          refine z_iadd C dX6_best_49 50 rfl (10 * ((k / 3) % 4) + (k % 3)) (by omega) ?_
          refine z_iconst C dX6_best_50 51 rfl ?_
          refine z_iadd C dX6_best_51 52 rfl (1 + 10 * ((k / 3) % 4) + (k % 3)) (by omega) ?_
          refine z_is C hl dX6_best_52 54 rfl (by decide) (lv' := [(5, .int (iI (1 + 10 * ((k / 3) % 4) + (k % 3)))), (4, .int (iI ((k / 12)))), (3, .int (iI (k))), (2, .int (iI (x))), (1, .int (iI (z))), (0, .ref (X 0))]) rfl (fun ls hl => ?_)
          refine z_al_n C hl dX6_best_54 5 rfl 55 rfl ?_
          refine z_iconst C dX6_best_55 56 rfl ?_
          refine z_il C hl dX6_best_56 1 rfl 58 rfl ?_
          refine z_il C hl dX6_best_58 0 rfl 60 rfl ?_
          refine z_VR (r := .int (iI (reaZ v (k / 12) (k / 3 % 4) (k % 3 + 1) false))) (rest := []) C (m_xwhy l G X kn ml kp (s2Z v (bmY v y k.toNat)) 0 v (k / 12) (1 + 10 * ((k / 3) % 4) + (k % 3)) (k / 3 % 4) (k % 3 + 1) w (by omega) (s2_0 v (bmY v y k.toNat)) (by omega) (by omega) (by omega) (by omega)) kV_X6_107 ⟨Nat.le_of_ble_eq_true rfl, Nat.le_of_ble_eq_true rfl⟩ (gP_rg hW.1 [0, 1] rfl) hK 0 rfl rfl rfl hl.1 rfl (Nat.le_of_ble_eq_true rfl) dX6_best_60 ⟨Nat.le_of_ble_eq_true rfl, Nat.le_of_ble_eq_true rfl⟩ 63 rfl ?_
          have r60 := reaZ_rng v (k / 12) (k / 3 % 4) (k % 3 + 1) false
          refine z_if_ne C dX6_best_63 77 66 (by decide) rfl (by omega) (fun c63 => ?_) (fun c63 => ?_)
          · skip
            refine z_iconst C dX6_best_77 78 rfl ?_
            refine z_top (b := .int (iI (wmZ v k))) (congrArg (fun z => Value.int (iI z)) (show _ = (if reaZ v (k / 12) (k / 3 % 4) (k % 3 + 1) false = 0 then worM v (k / 12) (k / 3 % 4) (k % 3 + 1) else 0) by rw [if_neg c63])) ?_
            have hwm : 0 ≤ wmZ v k ∧ wmZ v k ≤ 2003 := by unfold wmZ; rw [if_neg c63]; omega
            rw [show bmY v y k.toNat = bmY v y (1 + k).toNat by rw [bmY_s h1.1, if_neg c63], show bmA v (S, T) k.toNat = bmA v (S, T) (1 + k).toNat by rw [bmA_s h1.1, if_neg c63]] at hW
            refine z_is C hl dX6_best_78 80 rfl (by decide) (lv' := [(6, .int (iI (wmZ v k))), (5, .int (iI (1 + 10 * ((k / 3) % 4) + (k % 3)))), (4, .int (iI ((k / 12)))), (3, .int (iI (k))), (2, .int (iI (x))), (1, .int (iI (z))), (0, .ref (X 0))]) rfl (fun ls hl => ?_)
            refine z_il C hl dX6_best_80 0 rfl 82 rfl ?_
            refine z_il_n C hl dX6_best_82 4 rfl 83 rfl ?_
            refine z_icmp_le C dX6_best_83 97 86 (by decide) rfl (by omega) (fun c83 => ?_) (fun c83 => ?_)
            · skip
              skip
              refine z_il_n C hl dX6_best_97 5 rfl 98 rfl ?_
              refine z_is_n C hl dX6_best_98 99 rfl (by decide) (lv' := [(1, .int (iI (z))), (6, .int (iI (wmZ v k))), (5, .int (iI (1 + 10 * ((k / 3) % 4) + (k % 3)))), (4, .int (iI ((k / 12)))), (3, .int (iI (k))), (2, .int (iI (x))), (0, .ref (X 0))]) rfl (fun ls hl => ?_)
              refine z_il C hl dX6_best_99 1 rfl 101 rfl ?_
              refine z_il_n C hl dX6_best_101 5 rfl 102 rfl ?_
              refine z_icmp_le C dX6_best_102 110 105 (by decide) rfl (by omega) (fun c102 => ?_) (fun c102 => ?_)
              · skip
                refine z_il_n C hl dX6_best_110 5 rfl 111 rfl ?_
                refine z_is_n C hl dX6_best_111 112 rfl (by decide) (lv' := [(2, .int (iI (x))), (1, .int (iI (z))), (6, .int (iI (wmZ v k))), (5, .int (iI (1 + 10 * ((k / 3) % 4) + (k % 3)))), (4, .int (iI ((k / 12)))), (3, .int (iI (k))), (0, .ref (X 0))]) rfl (fun ls hl => ?_)
                refine z_iinc C hl dX6_best_112 115 rfl 5 rfl (z := 1 + k) (by omega) (by decide) (lv' := [(3, .int (iI (1 + k))), (2, .int (iI (x))), (1, .int (iI (z))), (6, .int (iI (wmZ v k))), (5, .int (iI (1 + 10 * ((k / 3) % 4) + (k % 3)))), (4, .int (iI ((k / 12)))), (0, .ref (X 0))]) rfl (fun ls hl => ?_)
                refine z_goto C dX6_best_115 18 (by decide) ?_
                exact ih18 z x (1 + k) (by omega) (by omega) (by rw [bmN_s h1.1, h2, if_neg (by show ¬ x < _; omega)]) _ _ hW (by omega) ls (lv_sub hl [0, 1, 2, 6] rfl)
              · exfalso; omega
            · skip
              skip
              refine z_bipush C dX6_best_86 (by decide) 88 rfl ?_
              refine z_il C hl dX6_best_88 2 rfl 90 rfl ?_
              refine z_imul C dX6_best_90 91 rfl (100 * (k / 12)) (rfl) ?_
              refine z_il C hl dX6_best_91 1 rfl 93 rfl ?_
              refine z_iadd C dX6_best_93 94 rfl (1 + 10 * ((k / 3) % 4) + (k % 3) + 100 * (k / 12)) (by omega) ?_
              refine z_goto C dX6_best_94 98 (by decide) ?_
              refine z_is_n C hl dX6_best_98 99 rfl (by decide) (lv' := [(1, .int (iI (1 + 10 * ((k / 3) % 4) + (k % 3) + 100 * (k / 12)))), (6, .int (iI (wmZ v k))), (5, .int (iI (1 + 10 * ((k / 3) % 4) + (k % 3)))), (4, .int (iI ((k / 12)))), (3, .int (iI (k))), (2, .int (iI (x))), (0, .ref (X 0))]) rfl (fun ls hl => ?_)
              refine z_il C hl dX6_best_99 1 rfl 101 rfl ?_
              refine z_il_n C hl dX6_best_101 5 rfl 102 rfl ?_
              refine z_icmp_le C dX6_best_102 110 105 (by decide) rfl (by omega) (fun c102 => ?_) (fun c102 => ?_)
              · exfalso; omega
              · skip
                refine z_il C hl dX6_best_105 1 rfl 107 rfl ?_
                refine z_goto C dX6_best_107 111 (by decide) ?_
                refine z_is_n C hl dX6_best_111 112 rfl (by decide) (lv' := [(2, .int (iI (wmZ v k))), (1, .int (iI (1 + 10 * ((k / 3) % 4) + (k % 3) + 100 * (k / 12)))), (6, .int (iI (wmZ v k))), (5, .int (iI (1 + 10 * ((k / 3) % 4) + (k % 3)))), (4, .int (iI ((k / 12)))), (3, .int (iI (k))), (0, .ref (X 0))]) rfl (fun ls hl => ?_)
                refine z_iinc C hl dX6_best_112 115 rfl 5 rfl (z := 1 + k) (by omega) (by decide) (lv' := [(3, .int (iI (1 + k))), (2, .int (iI (wmZ v k))), (1, .int (iI (1 + 10 * ((k / 3) % 4) + (k % 3) + 100 * (k / 12)))), (6, .int (iI (wmZ v k))), (5, .int (iI (1 + 10 * ((k / 3) % 4) + (k % 3)))), (4, .int (iI ((k / 12)))), (0, .ref (X 0))]) rfl (fun ls hl => ?_)
                refine z_goto C dX6_best_115 18 (by decide) ?_
                exact ih18 (1 + 10 * ((k / 3) % 4) + (k % 3) + 100 * (k / 12)) (wmZ v k) (1 + k) (by omega) (by omega) (by rw [bmN_s h1.1, h2, if_pos (by show x < _; omega)]) _ _ hW (by omega) ls (lv_sub hl [0, 1, 2, 6] rfl)
          · skip
            refine z_al_n C hl dX6_best_66 5 rfl 67 rfl ?_
            refine z_il C hl dX6_best_67 1 rfl 69 rfl ?_
            refine z_il C hl dX6_best_69 0 rfl 71 rfl ?_
            refine z_VWi (r := .int (iI (worM v (k / 12) (k / 3 % 4) (k % 3 + 1)))) (rest := []) C (m_xworth l G X kn ml kp v (bmY v y k.toNat) ((bmA v (S, T) k.toNat).1) ((bmA v (S, T) k.toNat).2) (k / 12) (1 + 10 * ((k / 3) % 4) + (k % 3)) (k / 3 % 4) (k % 3 + 1) w (by omega) (by omega) (by omega) (by omega) c63 (gD_rg hW.2.1 [0, 1, 2, 3] (by decide) rfl)) kV_X6_199 ⟨Nat.le_of_ble_eq_true rfl, Nat.le_of_ble_eq_true rfl⟩ hW hK [0, 1, 2, 3] rfl (sameA_of rfl) 0 rfl rfl rfl hl.1 rfl (Nat.le_of_ble_eq_true rfl) dX6_best_71 ⟨Nat.le_of_ble_eq_true rfl, Nat.le_of_ble_eq_true rfl⟩ 74 rfl (rs' := [[moO X kn kp ml], [arI G (X 1) 258 (s2Z v (saiV v (k / 12) (k / 3 % 4) (k % 3 + 1)))], [arB G (X 5) 36 ((worA v (k / 12) (k / 3 % 4) (k % 3 + 1) ((bmA v (S, T) k.toNat).1, (bmA v (S, T) k.toNat).2)).1)], [arB G (X 6) 36 ((worA v (k / 12) (k / 3 % 4) (k % 3 + 1) ((bmA v (S, T) k.toNat).1, (bmA v (S, T) k.toNat).2)).2)]]) rfl (fun H locs hW hkeep => ?_)
            have q71 := worM_rng w (b := (k / 12)) (k / 3 % 4) (k % 3 + 1) (by omega)
            refine z_goto C dX6_best_74 78 (by decide) ?_
            refine z_top (b := .int (iI (wmZ v k))) (congrArg (fun z => Value.int (iI z)) (show _ = (if reaZ v (k / 12) (k / 3 % 4) (k % 3 + 1) false = 0 then worM v (k / 12) (k / 3 % 4) (k % 3 + 1) else 0) by rw [if_pos c63])) ?_
            have hwm : 0 ≤ wmZ v k ∧ wmZ v k ≤ 2003 := by unfold wmZ; rw [if_pos c63]; exact q71
            rw [show saiV v (k / 12) (k / 3 % 4) (k % 3 + 1) = bmY v y (1 + k).toNat by rw [bmY_s h1.1, if_pos c63], show worA v (k / 12) (k / 3 % 4) (k % 3 + 1) ((bmA v (S, T) k.toNat).1, (bmA v (S, T) k.toNat).2) = bmA v (S, T) (1 + k).toNat by rw [bmA_s h1.1, if_pos c63]] at hW
            refine z_is C hl dX6_best_78 80 rfl (by decide) (lv' := [(6, .int (iI (wmZ v k))), (5, .int (iI (1 + 10 * ((k / 3) % 4) + (k % 3)))), (4, .int (iI ((k / 12)))), (3, .int (iI (k))), (2, .int (iI (x))), (1, .int (iI (z))), (0, .ref (X 0))]) rfl (fun ls hl => ?_)
            refine z_il C hl dX6_best_80 0 rfl 82 rfl ?_
            refine z_il_n C hl dX6_best_82 4 rfl 83 rfl ?_
            refine z_icmp_le C dX6_best_83 97 86 (by decide) rfl (by omega) (fun c83 => ?_) (fun c83 => ?_)
            · skip
              skip
              refine z_il_n C hl dX6_best_97 5 rfl 98 rfl ?_
              refine z_is_n C hl dX6_best_98 99 rfl (by decide) (lv' := [(1, .int (iI (z))), (6, .int (iI (wmZ v k))), (5, .int (iI (1 + 10 * ((k / 3) % 4) + (k % 3)))), (4, .int (iI ((k / 12)))), (3, .int (iI (k))), (2, .int (iI (x))), (0, .ref (X 0))]) rfl (fun ls hl => ?_)
              refine z_il C hl dX6_best_99 1 rfl 101 rfl ?_
              refine z_il_n C hl dX6_best_101 5 rfl 102 rfl ?_
              refine z_icmp_le C dX6_best_102 110 105 (by decide) rfl (by omega) (fun c102 => ?_) (fun c102 => ?_)
              · skip
                refine z_il_n C hl dX6_best_110 5 rfl 111 rfl ?_
                refine z_is_n C hl dX6_best_111 112 rfl (by decide) (lv' := [(2, .int (iI (x))), (1, .int (iI (z))), (6, .int (iI (wmZ v k))), (5, .int (iI (1 + 10 * ((k / 3) % 4) + (k % 3)))), (4, .int (iI ((k / 12)))), (3, .int (iI (k))), (0, .ref (X 0))]) rfl (fun ls hl => ?_)
                refine z_iinc C hl dX6_best_112 115 rfl 5 rfl (z := 1 + k) (by omega) (by decide) (lv' := [(3, .int (iI (1 + k))), (2, .int (iI (x))), (1, .int (iI (z))), (6, .int (iI (wmZ v k))), (5, .int (iI (1 + 10 * ((k / 3) % 4) + (k % 3)))), (4, .int (iI ((k / 12)))), (0, .ref (X 0))]) rfl (fun ls hl => ?_)
                refine z_goto C dX6_best_115 18 (by decide) ?_
                exact ih18 z x (1 + k) (by omega) (by omega) (by rw [bmN_s h1.1, h2, if_neg (by show ¬ x < _; omega)]) _ _ hW (by omega) ls (lv_sub hl [0, 1, 2, 6] rfl)
              · exfalso; omega
            · skip
              skip
              refine z_bipush C dX6_best_86 (by decide) 88 rfl ?_
              refine z_il C hl dX6_best_88 2 rfl 90 rfl ?_
              refine z_imul C dX6_best_90 91 rfl (100 * (k / 12)) (rfl) ?_
              refine z_il C hl dX6_best_91 1 rfl 93 rfl ?_
              refine z_iadd C dX6_best_93 94 rfl (1 + 10 * ((k / 3) % 4) + (k % 3) + 100 * (k / 12)) (by omega) ?_
              refine z_goto C dX6_best_94 98 (by decide) ?_
              refine z_is_n C hl dX6_best_98 99 rfl (by decide) (lv' := [(1, .int (iI (1 + 10 * ((k / 3) % 4) + (k % 3) + 100 * (k / 12)))), (6, .int (iI (wmZ v k))), (5, .int (iI (1 + 10 * ((k / 3) % 4) + (k % 3)))), (4, .int (iI ((k / 12)))), (3, .int (iI (k))), (2, .int (iI (x))), (0, .ref (X 0))]) rfl (fun ls hl => ?_)
              refine z_il C hl dX6_best_99 1 rfl 101 rfl ?_
              refine z_il_n C hl dX6_best_101 5 rfl 102 rfl ?_
              refine z_icmp_le C dX6_best_102 110 105 (by decide) rfl (by omega) (fun c102 => ?_) (fun c102 => ?_)
              · exfalso; omega
              · skip
                refine z_il C hl dX6_best_105 1 rfl 107 rfl ?_
                refine z_goto C dX6_best_107 111 (by decide) ?_
                refine z_is_n C hl dX6_best_111 112 rfl (by decide) (lv' := [(2, .int (iI (wmZ v k))), (1, .int (iI (1 + 10 * ((k / 3) % 4) + (k % 3) + 100 * (k / 12)))), (6, .int (iI (wmZ v k))), (5, .int (iI (1 + 10 * ((k / 3) % 4) + (k % 3)))), (4, .int (iI ((k / 12)))), (3, .int (iI (k))), (0, .ref (X 0))]) rfl (fun ls hl => ?_)
                refine z_iinc C hl dX6_best_112 115 rfl 5 rfl (z := 1 + k) (by omega) (by decide) (lv' := [(3, .int (iI (1 + k))), (2, .int (iI (wmZ v k))), (1, .int (iI (1 + 10 * ((k / 3) % 4) + (k % 3) + 100 * (k / 12)))), (6, .int (iI (wmZ v k))), (5, .int (iI (1 + 10 * ((k / 3) % 4) + (k % 3)))), (4, .int (iI ((k / 12)))), (0, .ref (X 0))]) rfl (fun ls hl => ?_)
                refine z_goto C dX6_best_115 18 (by decide) ?_
                exact ih18 (1 + 10 * ((k / 3) % 4) + (k % 3) + 100 * (k / 12)) (wmZ v k) (1 + k) (by omega) (by omega) (by rw [bmN_s h1.1, h2, if_pos (by show x < _; omega)]) _ _ hW (by omega) ls (lv_sub hl [0, 1, 2, 6] rfl)
    exact L18 (Int.toNat (12 * v 127 - 0) + 1) (-5) 0 0 (by omega) (by omega) (rfl) _ _ hW (by omega) ls (lv_sub hl [0, 1, 2, 3] rfl)
  · skip
    refine z_bipush C dX6_best_8 (by decide) 10 rfl ?_
    have hbes : besM v = -4 := by unfold besM; exact if_pos c5
    have hbeY : beY v y = y := by unfold beY; exact if_pos c5
    have hbeA : beA v (S, T) = (S, T) := by unfold beA; exact if_pos c5
    rw [hbes, hbeY, hbeA]
    exact z_wi C hW dX6_best_10 rfl rfl
