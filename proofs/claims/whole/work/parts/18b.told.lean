set_option maxHeartbeats 4000000 in
set_option maxRecDepth 100000 in
theorem m_xcellOf (l : Launch) (G : gT) (X : Nat → Nat) (kn ml : Int) (kp : Bool) (v y : Int → Int) (c0 k : Int) (w : Wf v) (hc0 : -2147483648 ≤ c0 ∧ c0 < 2147483648) (hk : -2147483648 ≤ k ∧ k < 2147483648) : MR l G yX6_cellOf cX6_cellOf 3 (some .int) 3 [.ref (X 0), .int (iI (c0)), .int (iI (k))] [[moO X kn kp ml], [arI G (X 1) 258 (s2Z v y)]] ZT (.int (iI (celR v c0 k))) := by
  refine enterR (own := RX6) (by decide +kernel) rfl (Nat.le_of_ble_eq_true rfl) ?_
  intro p e s m below meth c C hP hK hZ ls hl
  have hl : lv_has ls 3 [(0, .ref (X 0)), (1, .int (iI (c0))), (2, .int (iI (k)))] := hl
  have hn := w.n
  have ht := w.t
  refine z_il_n C hl dX6_cellOf_0 1 rfl 1 rfl ?_
  refine z_SR (r := .int (iI (bZ (decide (0 ≤ c0 ∧ c0 < 36))))) (rest := []) C (m_xisCell l G c0 (by omega)) kS_X6_98 ⟨Nat.le_of_ble_eq_true rfl, Nat.le_of_ble_eq_true rfl⟩ (gP_nil) hK rfl hl.1 rfl (Nat.le_of_ble_eq_true rfl) dX6_cellOf_1 ⟨Nat.le_of_ble_eq_true rfl, Nat.le_of_ble_eq_true rfl⟩ 4 rfl ?_
  refine z_ifb_ne C dX6_cellOf_4 9 7 (by decide) rfl (fun c4 => ?_) (fun c4 => ?_)
  · skip
    simp only [decide_eq_true_eq, decide_eq_false_iff_not] at c4
    refine z_il_n C hl dX6_cellOf_9 2 rfl 10 rfl ?_
    have hsw10 : (k) = 0 ∨ (k) = 1 ∨ (k) = 2 ∨ (k) = 3 ∨ ((k) < 0 ∨ 3 < (k)) := by omega
    rcases hsw10 with h10 | h10 | h10 | h10 | h10
    · skip
      refine z_swIn C dX6_cellOf_10 (by omega) (by omega) 30 40 (by rw [h10]; rfl) (by decide) ?_
      refine z_al_n C hl dX6_cellOf_40 0 rfl 41 rfl ?_
      refine z_get C hP hK fl_X6_7 0 rfl rfl dX6_cellOf_41 44 rfl ?_
      refine z_iconst C dX6_cellOf_44 45 rfl ?_
      refine z_il_n C hl dX6_cellOf_45 1 rfl 46 rfl ?_
      refine z_iadd C dX6_cellOf_46 47 rfl (c0) (by omega) ?_
      refine z_iaZ C (s2Z v y) hP hK 1 rfl (by omega) (by decide) (v c0) (s2_lo (by omega)) dX6_cellOf_47 48 rfl ?_
      exact z_ri C dX6_cellOf_48 (by unfold celR; rw [if_neg (by omega), if_pos (by omega)])
    · skip
      refine z_swIn C dX6_cellOf_10 (by omega) (by omega) 39 49 (by rw [h10]; rfl) (by decide) ?_
      refine z_al_n C hl dX6_cellOf_49 0 rfl 50 rfl ?_
      refine z_get C hP hK fl_X6_7 0 rfl rfl dX6_cellOf_50 53 rfl ?_
      refine z_bipush C dX6_cellOf_53 (by decide) 55 rfl ?_
      refine z_il_n C hl dX6_cellOf_55 1 rfl 56 rfl ?_
      refine z_iadd C dX6_cellOf_56 57 rfl (36 + c0) (rfl) ?_
      refine z_iaZ C (s2Z v y) hP hK 1 rfl (by omega) (by decide) (v (36 + c0)) (s2_lo (by omega)) dX6_cellOf_57 58 rfl ?_
      exact z_ri C dX6_cellOf_58 (by unfold celR; rw [if_neg (by omega), if_neg (by omega), if_pos (by omega)])
    · skip
      refine z_swIn C dX6_cellOf_10 (by omega) (by omega) 49 59 (by rw [h10]; rfl) (by decide) ?_
      refine z_al_n C hl dX6_cellOf_59 0 rfl 60 rfl ?_
      refine z_iconst C dX6_cellOf_60 61 rfl ?_
      refine z_il_n C hl dX6_cellOf_61 1 rfl 62 rfl ?_
      refine z_al_n C hl dX6_cellOf_62 0 rfl 63 rfl ?_
      refine z_get C hP hK fl_X6_7 0 rfl rfl dX6_cellOf_63 66 rfl ?_
      refine z_bipush C dX6_cellOf_66 (by decide) 68 rfl ?_
      refine z_iaZ C (s2Z v y) hP hK 1 rfl (by omega) (by decide) (v 126) (s2_lo (by omega)) dX6_cellOf_68 69 rfl ?_
      refine z_VR (r := .int (iI (maxZ 0 (tideZ v (v 126) - v c0)))) (rest := []) C (m_xwater l G X kn ml kp (s2Z v y) 0 v c0 (v 126) w (by omega) (s2_0 v y) (by omega) (by omega)) kV_X6_53 ⟨Nat.le_of_ble_eq_true rfl, Nat.le_of_ble_eq_true rfl⟩ hP hK 0 rfl rfl rfl hl.1 rfl (Nat.le_of_ble_eq_true rfl) dX6_cellOf_69 ⟨Nat.le_of_ble_eq_true rfl, Nat.le_of_ble_eq_true rfl⟩ 72 rfl ?_
      have hr69 := tideZ_rng w (v 126)
      have hh69 := w.h c0 (by omega)
      have hm69 : (maxZ 0 (tideZ v (v 126) - v c0) = tideZ v (v 126) - v c0 ∧ 0 ≤ tideZ v (v 126) - v c0) ∨ (maxZ 0 (tideZ v (v 126) - v c0) = 0 ∧ tideZ v (v 126) - v c0 ≤ 0) := by unfold maxZ; split <;> omega
      exact z_ri C dX6_cellOf_72 (by unfold celR; rw [if_neg (by omega), if_neg (by omega), if_neg (by omega), if_pos (by omega)]; rfl)
    · skip
      refine z_swIn C dX6_cellOf_10 (by omega) (by omega) 63 73 (by rw [h10]; rfl) (by decide) ?_
      refine z_al_n C hl dX6_cellOf_73 0 rfl 74 rfl ?_
      refine z_iconst C dX6_cellOf_74 75 rfl ?_
      refine z_il_n C hl dX6_cellOf_75 1 rfl 76 rfl ?_
      refine z_VR (r := .int (iI (batZ v c0))) (rest := []) C (m_xbat l G X kn ml kp (s2Z v y) 0 v c0 w (by omega) (s2_0 v y) (by omega)) kV_X6_71 ⟨Nat.le_of_ble_eq_true rfl, Nat.le_of_ble_eq_true rfl⟩ hP hK 0 rfl rfl rfl hl.1 rfl (Nat.le_of_ble_eq_true rfl) dX6_cellOf_76 ⟨Nat.le_of_ble_eq_true rfl, Nat.le_of_ble_eq_true rfl⟩ 79 rfl ?_
      have r76 := batZ_rng w c0
      exact z_ri C dX6_cellOf_79 (by unfold celR; rw [if_neg (by omega), if_neg (by omega), if_neg (by omega), if_neg (by omega), if_pos (by omega)])
    · skip
      refine z_swOut C dX6_cellOf_10 (by omega) h10 80 (by decide) ?_
      refine z_bipush C dX6_cellOf_80 (by decide) 82 rfl ?_
      exact z_ri C dX6_cellOf_82 (by unfold celR; rw [if_neg (by omega), if_neg (by omega), if_neg (by omega), if_neg (by omega), if_neg (by omega)])
  · skip
    simp only [decide_eq_true_eq, decide_eq_false_iff_not] at c4
    refine z_iconst C dX6_cellOf_7 8 rfl ?_
    exact z_ri C dX6_cellOf_8 (by unfold celR; rw [if_pos (by omega)])

set_option maxHeartbeats 4000000 in
set_option maxRecDepth 100000 in
theorem m_xmvs (l : Launch) (G : gT) (X : Nat → Nat) (kn ml : Int) (kp : Bool) (v y : Int → Int) (b : Int) (w : Wf v) (hb : 0 ≤ b ∧ b < v 127) : MR l G yX6_movesOf cX6_movesOf 4 (some .int) 6 [.ref (X 0), .int (iI (b))] [[moO X kn kp ml], [arI G (X 1) 258 (s2Z v y)]] ZT (.int (iI (mvsZ v b))) := by
  refine enterR (own := RX6) (by decide +kernel) rfl (Nat.le_of_ble_eq_true rfl) ?_
  intro p e s m below meth c C hP hK hZ ls hl
  have hl : lv_has ls 4 [(0, .ref (X 0)), (1, .int (iI (b)))] := hl
  have hn := w.n
  have ht := w.t
  refine z_iconst C dX6_movesOf_0 1 rfl ?_
  refine z_is_n C hl dX6_movesOf_1 2 rfl (by decide) (lv' := [(2, .int (iI (0))), (0, .ref (X 0)), (1, .int (iI (b)))]) rfl (fun ls hl => ?_)
  refine z_iconst C dX6_movesOf_2 3 rfl ?_
  refine z_is_n C hl dX6_movesOf_3 4 rfl (by decide) (lv' := [(3, .int (iI (0))), (2, .int (iI (0))), (0, .ref (X 0)), (1, .int (iI (b)))]) rfl (fun ls hl => ?_)
  have L4 : ∀ (fu : Nat) (g : Int) (k : Int) (h1 : 0 ≤ k ∧ k ≤ 12) (h2 : g = sumN (fun k => if reaZ v b (k / 3) (k % 3 + 1) true = 0 then 1 else 0) k.toNat) (hm : 12 - k < (fu : Int)) (ls : Array Slot) (hl : lv_has ls 4 [(3, .int (iI (k))), (2, .int (iI (g))), (1, .int (iI (b))), (0, .ref (X 0))]), W p l e (rmN 6) s m [.ref (X 0), .int (iI (b))].toArray below meth c s.heap [] 0 0 (MQ below (QR (.int (iI (mvsZ v b)))) [.ref (X 0), .int (iI (b))].toArray s 0 0 (fun _ => False)) (F0 m 4 ls []) := by
    intro fu
    induction fu with
    | zero => intro g k h1 h2 hm ls hl; exfalso; omega
    | succ fu ih =>
      intro g k h1 h2 hm ls hl
      have ih4 := ih
      refine z_il_n C hl dX6_movesOf_4 0 rfl 5 rfl ?_
      refine z_bipush C dX6_movesOf_5 (by decide) 7 rfl ?_
      refine z_icmp_ge C dX6_movesOf_7 45 10 (by decide) rfl (by omega) (fun c7 => ?_) (fun c7 => ?_)
      · skip
        refine z_il_n C hl dX6_movesOf_45 1 rfl 46 rfl ?_
        exact z_ri C dX6_movesOf_46 (by rw [h2, show k = 12 by omega]; rfl)
      · skip
        refine z_il_n C hl dX6_movesOf_10 1 rfl 11 rfl ?_
        refine z_al_n C hl dX6_movesOf_11 3 rfl 12 rfl ?_
        refine z_iconst C dX6_movesOf_12 13 rfl ?_
        refine z_il_n C hl dX6_movesOf_13 2 rfl 14 rfl ?_
        refine z_bipush C dX6_movesOf_14 (by decide) 16 rfl ?_
        refine z_il_n C hl dX6_movesOf_16 0 rfl 17 rfl ?_
        refine z_iconst C dX6_movesOf_17 18 rfl ?_
        refine z_idiv C dX6_movesOf_18 19 rfl (by omega) ((k / 3)) (rfl) ?_
        refine z_imul C dX6_movesOf_19 20 rfl (10 * (k / 3)) (rfl) ?_
        refine z_il_n C hl dX6_movesOf_20 0 rfl 21 rfl ?_
        refine z_iconst C dX6_movesOf_21 22 rfl ?_
        refine z_irem C dX6_movesOf_22 23 rfl (by omega) ((k % 3)) (rfl) ?_
        refine z_iadd C dX6_movesOf_23 24 rfl ((k % 3) + 10 * (k / 3)) (by omega) ?_
        refine z_iconst C dX6_movesOf_24 25 rfl ?_
        refine z_iadd C dX6_movesOf_25 26 rfl (1 + (k % 3) + 10 * (k / 3)) (by omega) ?_
        refine z_VR (r := .int (iI (reaZ v b (k / 3) (k % 3 + 1) true))) (rest := [.int (iI (g))]) C (m_xrea l G X kn ml kp (s2Z v y) 0 v b (1 + (k % 3) + 10 * (k / 3)) (k / 3) (k % 3 + 1) w (by omega) (s2_0 v y) (by omega) (by omega) (by omega) (by omega)) kV_X6_95 ⟨Nat.le_of_ble_eq_true rfl, Nat.le_of_ble_eq_true rfl⟩ hP hK 0 rfl rfl rfl hl.1 rfl (Nat.le_of_ble_eq_true rfl) dX6_movesOf_26 ⟨Nat.le_of_ble_eq_true rfl, Nat.le_of_ble_eq_true rfl⟩ 29 rfl ?_
        have r26 := reaZ_rng v b (k / 3) (k % 3 + 1) true
        refine z_if_ne C dX6_movesOf_29 36 32 (by decide) rfl (by omega) (fun c29 => ?_) (fun c29 => ?_)
        · skip
          refine z_iconst C dX6_movesOf_36 37 rfl ?_
          refine z_iadd C dX6_movesOf_37 38 rfl (g) (by omega) ?_
          refine z_is_n C hl dX6_movesOf_38 39 rfl (by decide) (lv' := [(2, .int (iI (g))), (3, .int (iI (k))), (1, .int (iI (b))), (0, .ref (X 0))]) rfl (fun ls hl => ?_)
          refine z_iinc C hl dX6_movesOf_39 42 rfl 1 rfl (z := 1 + k) (by omega) (by decide) (lv' := [(3, .int (iI (1 + k))), (2, .int (iI (g))), (1, .int (iI (b))), (0, .ref (X 0))]) rfl (fun ls hl => ?_)
          refine z_goto C dX6_movesOf_42 4 (by decide) ?_
          exact ih4 g (1 + k) (by omega) (by rw [sumN_s (by omega), ← h2]; (try dsimp only); rw [if_neg c29]; omega) (by omega) ls (lv_sub hl [0, 1, 2, 3] rfl)
        · skip
          refine z_iconst C dX6_movesOf_32 33 rfl ?_
          refine z_goto C dX6_movesOf_33 37 (by decide) ?_
          refine z_iadd C dX6_movesOf_37 38 rfl (1 + g) (by omega) ?_
          refine z_is_n C hl dX6_movesOf_38 39 rfl (by decide) (lv' := [(2, .int (iI (1 + g))), (3, .int (iI (k))), (1, .int (iI (b))), (0, .ref (X 0))]) rfl (fun ls hl => ?_)
          refine z_iinc C hl dX6_movesOf_39 42 rfl 1 rfl (z := 1 + k) (by omega) (by decide) (lv' := [(3, .int (iI (1 + k))), (2, .int (iI (1 + g))), (1, .int (iI (b))), (0, .ref (X 0))]) rfl (fun ls hl => ?_)
          refine z_goto C dX6_movesOf_42 4 (by decide) ?_
          exact ih4 (1 + g) (1 + k) (by omega) (by rw [sumN_s (by omega), ← h2]; (try dsimp only); rw [if_pos c29]; omega) (by omega) ls (lv_sub hl [0, 1, 2, 3] rfl)
  exact L4 (Int.toNat (12 - 0) + 1) 0 0 (by omega) (rfl) (by omega) ls (lv_sub hl [0, 1, 3, 2] rfl)

set_option maxHeartbeats 4000000 in
set_option maxRecDepth 100000 in
theorem m_xboatOf (l : Launch) (G : gT) (X : Nat → Nat) (kn ml : Int) (kp : Bool) (v y : Int → Int) (b k : Int) (w : Wf v) (hb : -2147483648 ≤ b ∧ b < 2147483648) (hk : -2147483648 ≤ k ∧ k < 2147483648) : MR l G yX6_boatOf cX6_boatOf 3 (some .int) 7 [.ref (X 0), .int (iI (b)), .int (iI (k))] [[moO X kn kp ml], [arI G (X 1) 258 (s2Z v y)]] ZT (.int (iI (boaR v b k))) := by
  refine enterR (own := RX6) (by decide +kernel) rfl (Nat.le_of_ble_eq_true rfl) ?_
  intro p e s m below meth c C hP hK hZ ls hl
  have hl : lv_has ls 3 [(0, .ref (X 0)), (1, .int (iI (b))), (2, .int (iI (k)))] := hl
  have hn := w.n
  have ht := w.t
  refine z_al_n C hl dX6_boatOf_0 0 rfl 1 rfl ?_
  refine z_iconst C dX6_boatOf_1 2 rfl ?_
  refine z_il_n C hl dX6_boatOf_2 1 rfl 3 rfl ?_
  refine z_VR (r := .int (iI (bZ (decide (0 ≤ b ∧ b < v 127))))) (rest := []) C (m_xisBoat l G X kn ml kp (s2Z v y) 0 v b w (by omega) (s2_0 v y) (by omega)) kV_X6_104 ⟨Nat.le_of_ble_eq_true rfl, Nat.le_of_ble_eq_true rfl⟩ hP hK 0 rfl rfl rfl hl.1 rfl (Nat.le_of_ble_eq_true rfl) dX6_boatOf_3 ⟨Nat.le_of_ble_eq_true rfl, Nat.le_of_ble_eq_true rfl⟩ 6 rfl ?_
  refine z_ifb_ne C dX6_boatOf_6 11 9 (by decide) rfl (fun c6 => ?_) (fun c6 => ?_)
  · skip
    simp only [decide_eq_true_eq, decide_eq_false_iff_not] at c6
    have hw := w.b b (by omega)
    refine z_il_n C hl dX6_boatOf_11 2 rfl 12 rfl ?_
    have hsw12 : (k) = 0 ∨ (k) = 1 ∨ (k) = 2 ∨ (k) = 3 ∨ (k) = 4 ∨ (k) = 5 ∨ (k) = 6 ∨ ((k) < 0 ∨ 6 < (k)) := by omega
    rcases hsw12 with h12 | h12 | h12 | h12 | h12 | h12 | h12 | h12
    · skip
      refine z_swIn C dX6_boatOf_12 (by omega) (by omega) 44 56 (by rw [h12]; rfl) (by decide) ?_
      refine z_al_n C hl dX6_boatOf_56 0 rfl 57 rfl ?_
      refine z_iconst C dX6_boatOf_57 58 rfl ?_
      refine z_il_n C hl dX6_boatOf_58 1 rfl 59 rfl ?_
      refine z_il_n C hl dX6_boatOf_59 2 rfl 60 rfl ?_
      refine z_VR (r := .int (iI (v (72 + 5 * b + k)))) (rest := []) C (m_xits l G X kn ml kp (s2Z v y) 0 v b k (72 + 5 * b + k)  (by omega) (s2_0 v y) (by omega) (by omega)) kV_X6_68 ⟨Nat.le_of_ble_eq_true rfl, Nat.le_of_ble_eq_true rfl⟩ hP hK 0 rfl rfl rfl hl.1 rfl (Nat.le_of_ble_eq_true rfl) dX6_boatOf_60 ⟨Nat.le_of_ble_eq_true rfl, Nat.le_of_ble_eq_true rfl⟩ 63 rfl ?_
      exact z_ri C dX6_boatOf_63 (by rw [show 72 + 5 * b + k = 72 + 5 * b by omega]; unfold boaR; rw [if_neg (by omega), if_pos (by omega)])
    · skip
      refine z_swIn C dX6_boatOf_12 (by omega) (by omega) 44 56 (by rw [h12]; rfl) (by decide) ?_
      refine z_al_n C hl dX6_boatOf_56 0 rfl 57 rfl ?_
      refine z_iconst C dX6_boatOf_57 58 rfl ?_
      refine z_il_n C hl dX6_boatOf_58 1 rfl 59 rfl ?_
      refine z_il_n C hl dX6_boatOf_59 2 rfl 60 rfl ?_
      refine z_VR (r := .int (iI (v (72 + 5 * b + k)))) (rest := []) C (m_xits l G X kn ml kp (s2Z v y) 0 v b k (72 + 5 * b + k)  (by omega) (s2_0 v y) (by omega) (by omega)) kV_X6_68 ⟨Nat.le_of_ble_eq_true rfl, Nat.le_of_ble_eq_true rfl⟩ hP hK 0 rfl rfl rfl hl.1 rfl (Nat.le_of_ble_eq_true rfl) dX6_boatOf_60 ⟨Nat.le_of_ble_eq_true rfl, Nat.le_of_ble_eq_true rfl⟩ 63 rfl ?_
      exact z_ri C dX6_boatOf_63 (by rw [show 72 + 5 * b + k = 73 + 5 * b by omega]; unfold boaR; rw [if_neg (by omega), if_neg (by omega), if_pos (by omega)])
    · skip
      refine z_swIn C dX6_boatOf_12 (by omega) (by omega) 44 56 (by rw [h12]; rfl) (by decide) ?_
      refine z_al_n C hl dX6_boatOf_56 0 rfl 57 rfl ?_
      refine z_iconst C dX6_boatOf_57 58 rfl ?_
      refine z_il_n C hl dX6_boatOf_58 1 rfl 59 rfl ?_
      refine z_il_n C hl dX6_boatOf_59 2 rfl 60 rfl ?_
      refine z_VR (r := .int (iI (v (72 + 5 * b + k)))) (rest := []) C (m_xits l G X kn ml kp (s2Z v y) 0 v b k (72 + 5 * b + k)  (by omega) (s2_0 v y) (by omega) (by omega)) kV_X6_68 ⟨Nat.le_of_ble_eq_true rfl, Nat.le_of_ble_eq_true rfl⟩ hP hK 0 rfl rfl rfl hl.1 rfl (Nat.le_of_ble_eq_true rfl) dX6_boatOf_60 ⟨Nat.le_of_ble_eq_true rfl, Nat.le_of_ble_eq_true rfl⟩ 63 rfl ?_
      exact z_ri C dX6_boatOf_63 (by rw [show 72 + 5 * b + k = 74 + 5 * b by omega]; unfold boaR; rw [if_neg (by omega), if_neg (by omega), if_neg (by omega), if_pos (by omega)])
    · skip
      refine z_swIn C dX6_boatOf_12 (by omega) (by omega) 52 64 (by rw [h12]; rfl) (by decide) ?_
      refine z_al_n C hl dX6_boatOf_64 0 rfl 65 rfl ?_
      refine z_iconst C dX6_boatOf_65 66 rfl ?_
      refine z_il_n C hl dX6_boatOf_66 1 rfl 67 rfl ?_
      refine z_iconst C dX6_boatOf_67 68 rfl ?_
      refine z_VR (r := .int (iI (v (74 + 5 * b)))) (rest := []) C (m_xits l G X kn ml kp (s2Z v y) 0 v b 2 (74 + 5 * b)  (by omega) (s2_0 v y) (by omega) (by omega)) kV_X6_68 ⟨Nat.le_of_ble_eq_true rfl, Nat.le_of_ble_eq_true rfl⟩ hP hK 0 rfl rfl rfl hl.1 rfl (Nat.le_of_ble_eq_true rfl) dX6_boatOf_68 ⟨Nat.le_of_ble_eq_true rfl, Nat.le_of_ble_eq_true rfl⟩ 71 rfl ?_
      refine z_if_ne C dX6_boatOf_71 84 74 (by decide) rfl (by omega) (fun c71 => ?_) (fun c71 => ?_)
      · skip
        refine z_bipush C dX6_boatOf_84 (by decide) 86 rfl ?_
        exact z_ri C dX6_boatOf_86 (by unfold boaR; rw [if_neg (by omega), if_neg (by omega), if_neg (by omega), if_neg (by omega), if_pos (by omega), if_neg (by unfold onB; rw [decide_eq_false c71]; decide)])
      · skip
        refine z_al_n C hl dX6_boatOf_74 0 rfl 75 rfl ?_
        refine z_iconst C dX6_boatOf_75 76 rfl ?_
        refine z_il_n C hl dX6_boatOf_76 1 rfl 77 rfl ?_
        refine z_iconst C dX6_boatOf_77 78 rfl ?_
        refine z_VR (r := .int (iI (v (75 + 5 * b)))) (rest := []) C (m_xits l G X kn ml kp (s2Z v y) 0 v b 3 (75 + 5 * b)  (by omega) (s2_0 v y) (by omega) (by omega)) kV_X6_68 ⟨Nat.le_of_ble_eq_true rfl, Nat.le_of_ble_eq_true rfl⟩ hP hK 0 rfl rfl rfl hl.1 rfl (Nat.le_of_ble_eq_true rfl) dX6_boatOf_78 ⟨Nat.le_of_ble_eq_true rfl, Nat.le_of_ble_eq_true rfl⟩ 81 rfl ?_
        refine z_goto C dX6_boatOf_81 86 (by decide) ?_
        exact z_ri C dX6_boatOf_86 (by unfold boaR; rw [if_neg (by omega), if_neg (by omega), if_neg (by omega), if_neg (by omega), if_pos (by omega), if_pos (by unfold onB; exact decide_eq_true c71)])
    · skip
      refine z_swIn C dX6_boatOf_12 (by omega) (by omega) 75 87 (by rw [h12]; rfl) (by decide) ?_
      refine z_al_n C hl dX6_boatOf_87 0 rfl 88 rfl ?_
      refine z_iconst C dX6_boatOf_88 89 rfl ?_
      refine z_il_n C hl dX6_boatOf_89 1 rfl 90 rfl ?_
      refine z_VR (r := .int (iI (bZ (onB v b && floB v b)))) (rest := []) C (m_xafl l G X kn ml kp (s2Z v y) 0 v b w (by omega) (s2_0 v y) (by omega)) kV_X6_74 ⟨Nat.le_of_ble_eq_true rfl, Nat.le_of_ble_eq_true rfl⟩ hP hK 0 rfl rfl rfl hl.1 rfl (Nat.le_of_ble_eq_true rfl) dX6_boatOf_90 ⟨Nat.le_of_ble_eq_true rfl, Nat.le_of_ble_eq_true rfl⟩ 93 rfl ?_
      refine z_ifb_eq C dX6_boatOf_93 100 96 (by decide) rfl (fun c93 => ?_) (fun c93 => ?_)
      · skip
        refine z_iconst C dX6_boatOf_100 101 rfl ?_
        exact z_ri C dX6_boatOf_101 (by unfold boaR; rw [if_neg (by omega), if_neg (by omega), if_neg (by omega), if_neg (by omega), if_neg (by omega), if_pos (by omega)]; exact bZ_0 c93)
      · skip
        refine z_iconst C dX6_boatOf_96 97 rfl ?_
        refine z_goto C dX6_boatOf_97 101 (by decide) ?_
        exact z_ri C dX6_boatOf_101 (by unfold boaR; rw [if_neg (by omega), if_neg (by omega), if_neg (by omega), if_neg (by omega), if_neg (by omega), if_pos (by omega)]; exact bZ_1 c93)
    · skip
      refine z_swIn C dX6_boatOf_12 (by omega) (by omega) 90 102 (by rw [h12]; rfl) (by decide) ?_
      refine z_al_n C hl dX6_boatOf_102 0 rfl 103 rfl ?_
      refine z_iconst C dX6_boatOf_103 104 rfl ?_
      refine z_il_n C hl dX6_boatOf_104 1 rfl 105 rfl ?_
      refine z_iconst C dX6_boatOf_105 106 rfl ?_
      refine z_VR (r := .int (iI (v (76 + 5 * b)))) (rest := []) C (m_xits l G X kn ml kp (s2Z v y) 0 v b 4 (76 + 5 * b)  (by omega) (s2_0 v y) (by omega) (by omega)) kV_X6_68 ⟨Nat.le_of_ble_eq_true rfl, Nat.le_of_ble_eq_true rfl⟩ hP hK 0 rfl rfl rfl hl.1 rfl (Nat.le_of_ble_eq_true rfl) dX6_boatOf_106 ⟨Nat.le_of_ble_eq_true rfl, Nat.le_of_ble_eq_true rfl⟩ 109 rfl ?_
      exact z_ri C dX6_boatOf_109 (by unfold boaR; rw [if_neg (by omega), if_neg (by omega), if_neg (by omega), if_neg (by omega), if_neg (by omega), if_neg (by omega), if_pos (by omega)])
    · skip
      refine z_swIn C dX6_boatOf_12 (by omega) (by omega) 98 110 (by rw [h12]; rfl) (by decide) ?_
      refine z_al_n C hl dX6_boatOf_110 0 rfl 111 rfl ?_
      refine z_il_n C hl dX6_boatOf_111 1 rfl 112 rfl ?_
      refine z_VR (r := .int (iI (mvsZ v b))) (rest := []) C (m_xmvs l G X kn ml kp v y b w (by omega)) kV_X6_171 ⟨Nat.le_of_ble_eq_true rfl, Nat.le_of_ble_eq_true rfl⟩ hP hK 0 rfl rfl rfl hl.1 rfl (Nat.le_of_ble_eq_true rfl) dX6_boatOf_112 ⟨Nat.le_of_ble_eq_true rfl, Nat.le_of_ble_eq_true rfl⟩ 115 rfl ?_
      exact z_ri C dX6_boatOf_115 (by unfold boaR; rw [if_neg (by omega), if_neg (by omega), if_neg (by omega), if_neg (by omega), if_neg (by omega), if_neg (by omega), if_neg (by omega), if_pos (by omega)])
    · skip
      refine z_swOut C dX6_boatOf_12 (by omega) h12 116 (by decide) ?_
      refine z_bipush C dX6_boatOf_116 (by decide) 118 rfl ?_
      exact z_ri C dX6_boatOf_118 (by unfold boaR; rw [if_neg (by omega), if_neg (by omega), if_neg (by omega), if_neg (by omega), if_neg (by omega), if_neg (by omega), if_neg (by omega), if_neg (by omega)])
  · skip
    simp only [decide_eq_true_eq, decide_eq_false_iff_not] at c6
    refine z_iconst C dX6_boatOf_9 10 rfl ?_
    exact z_ri C dX6_boatOf_10 (by unfold boaR; rw [if_pos (by omega)])

set_option maxHeartbeats 4000000 in
set_option maxRecDepth 100000 in
theorem m_xtideT (l : Launch) (G : gT) (X : Nat → Nat) (kn ml : Int) (kp : Bool) (v y : Int → Int) (t : Int) (w : Wf v) (ht : -2147483648 ≤ t ∧ t < 2147483648) : MR l G yX6_tide cX6_tide 2 (some .int) 1 [.ref (X 0), .int (iI (t))] [[moO X kn kp ml], [arI G (X 1) 258 (s2Z v y)]] ZT (.int (iI (tidR v t))) := by
  refine enterR (own := RX6) (by decide +kernel) rfl (Nat.le_of_ble_eq_true rfl) ?_
  intro p e s m below meth c C hP hK hZ ls hl
  have hl : lv_has ls 2 [(0, .ref (X 0)), (1, .int (iI (t)))] := hl
  refine z_il_n C hl dX6_tide_0 1 rfl 1 rfl ?_
  refine z_iconst C dX6_tide_1 2 rfl ?_
  refine z_sipush C dX6_tide_2 (by decide) 5 rfl ?_
  refine z_SR (r := .int (iI (bZ (decide (0 ≤ t ∧ t ≤ 1000))))) (rest := []) C (m_xin l G t 0 1000 (by omega) (by omega) (by omega)) kS_X6_35 ⟨Nat.le_of_ble_eq_true rfl, Nat.le_of_ble_eq_true rfl⟩ (gP_nil) hK rfl hl.1 rfl (Nat.le_of_ble_eq_true rfl) dX6_tide_5 ⟨Nat.le_of_ble_eq_true rfl, Nat.le_of_ble_eq_true rfl⟩ 8 rfl ?_
  refine z_ifb_eq C dX6_tide_8 20 11 (by decide) rfl (fun c8 => ?_) (fun c8 => ?_)
  · skip
    simp only [decide_eq_true_eq, decide_eq_false_iff_not] at c8
    refine z_iconst C dX6_tide_20 21 rfl ?_
    exact z_ri C dX6_tide_21 (by unfold tidR; rw [if_pos (by omega)])
  · skip
    simp only [decide_eq_true_eq, decide_eq_false_iff_not] at c8
    refine z_al_n C hl dX6_tide_11 0 rfl 12 rfl ?_
    refine z_iconst C dX6_tide_12 13 rfl ?_
    refine z_il_n C hl dX6_tide_13 1 rfl 14 rfl ?_
    refine z_VR (r := .int (iI (tideZ v t))) (rest := []) C (m_xtide l G X kn ml kp (s2Z v y) 0 v t w (by omega) (s2_0 v y) (by omega)) kV_X6_50 ⟨Nat.le_of_ble_eq_true rfl, Nat.le_of_ble_eq_true rfl⟩ hP hK 0 rfl rfl rfl hl.1 rfl (Nat.le_of_ble_eq_true rfl) dX6_tide_14 ⟨Nat.le_of_ble_eq_true rfl, Nat.le_of_ble_eq_true rfl⟩ 17 rfl ?_
    have r14 := tideZ_rng w t
    refine z_goto C dX6_tide_17 21 (by decide) ?_
    exact z_ri C dX6_tide_21 (by unfold tidR; rw [if_neg (by omega)])

set_option maxHeartbeats 4000000 in
set_option maxRecDepth 100000 in
theorem m_xwhyT (l : Launch) (G : gT) (X : Nat → Nat) (kn ml : Int) (kp : Bool) (v y : Int → Int) (b d n : Int) (w : Wf v) (hb : -2147483648 ≤ b ∧ b < 2147483648) (hd : -2147483648 ≤ d ∧ d < 2147483648) (hn : -2147483648 ≤ n ∧ n < 2147483648) : MR l G yX6_why cX6_why 5 (some .int) 7 [.ref (X 0), .int (iI (b)), .int (iI (d)), .int (iI (n))] [[moO X kn kp ml], [arI G (X 1) 258 (s2Z v y)]] ZT (.int (iI (whyR v b d n))) := by
  refine enterR (own := RX6) (by decide +kernel) rfl (Nat.le_of_ble_eq_true rfl) ?_
  intro p e s m below meth c C hP hK hZ ls hl
  have hl : lv_has ls 5 [(0, .ref (X 0)), (1, .int (iI (b))), (2, .int (iI (d))), (3, .int (iI (n)))] := hl
  have hn := w.n
  have ht := w.t
  have hwr := wof_rng d n
  refine z_al_n C hl dX6_why_0 0 rfl 1 rfl ?_
  refine z_iconst C dX6_why_1 2 rfl ?_
  refine z_il_n C hl dX6_why_2 1 rfl 3 rfl ?_
  refine z_VR (r := .int (iI (bZ (decide (0 ≤ b ∧ b < v 127))))) (rest := []) C (m_xisBoat l G X kn ml kp (s2Z v y) 0 v b w (by omega) (s2_0 v y) (by omega)) kV_X6_104 ⟨Nat.le_of_ble_eq_true rfl, Nat.le_of_ble_eq_true rfl⟩ hP hK 0 rfl rfl rfl hl.1 rfl (Nat.le_of_ble_eq_true rfl) dX6_why_3 ⟨Nat.le_of_ble_eq_true rfl, Nat.le_of_ble_eq_true rfl⟩ 6 rfl ?_
  refine z_ifb_ne C dX6_why_6 11 9 (by decide) rfl (fun c6 => ?_) (fun c6 => ?_)
  · skip
    simp only [decide_eq_true_eq, decide_eq_false_iff_not] at c6
    refine z_il_n C hl dX6_why_11 2 rfl 12 rfl ?_
    refine z_il_n C hl dX6_why_12 3 rfl 13 rfl ?_
    refine z_SR (r := .int (iI (wofZ d n))) (rest := []) C (m_xwof l G d n (by omega) (by omega)) kS_X6_127 ⟨Nat.le_of_ble_eq_true rfl, Nat.le_of_ble_eq_true rfl⟩ (gP_nil) hK rfl hl.1 rfl (Nat.le_of_ble_eq_true rfl) dX6_why_13 ⟨Nat.le_of_ble_eq_true rfl, Nat.le_of_ble_eq_true rfl⟩ 16 rfl ?_
    refine z_is C hl dX6_why_16 18 rfl (by decide) (lv' := [(4, .int (iI (wofZ d n))), (0, .ref (X 0)), (1, .int (iI (b))), (2, .int (iI (d))), (3, .int (iI (n)))]) rfl (fun ls hl => ?_)
    refine z_il C hl dX6_why_18 0 rfl 20 rfl ?_
    refine z_bipush C dX6_why_20 (by decide) 22 rfl ?_
    refine z_icmp_ne C dX6_why_22 30 25 (by decide) rfl (by omega) (fun c22 => ?_) (fun c22 => ?_)
    · skip
      obtain ⟨hd0, hn0, hwe⟩ := wof_e c22
      refine z_al_n C hl dX6_why_30 1 rfl 31 rfl ?_
      refine z_iconst C dX6_why_31 32 rfl ?_
      refine z_il_n C hl dX6_why_32 2 rfl 33 rfl ?_
      refine z_il C hl dX6_why_33 0 rfl 35 rfl ?_
      refine z_VR (r := .int (iI (reaZ v b d n false))) (rest := []) C (m_xwhy l G X kn ml kp (s2Z v y) 0 v b (wofZ d n) d n w (by omega) (s2_0 v y) (by omega) (by omega) (by omega) (by omega)) kV_X6_107 ⟨Nat.le_of_ble_eq_true rfl, Nat.le_of_ble_eq_true rfl⟩ hP hK 0 rfl rfl rfl hl.1 rfl (Nat.le_of_ble_eq_true rfl) dX6_why_35 ⟨Nat.le_of_ble_eq_true rfl, Nat.le_of_ble_eq_true rfl⟩ 38 rfl ?_
      have r35 := reaZ_rng v b d n false
      exact z_ri C dX6_why_38 (by have he : errZ v b d n = 0 := (by unfold errZ; rw [if_neg (by omega), if_neg (by omega)]); unfold whyR; rw [if_pos he])
    · skip
      refine z_bipush C dX6_why_25 (by decide) 27 rfl ?_
      refine z_goto C dX6_why_27 38 (by decide) ?_
      exact z_ri C dX6_why_38 (by have he : errZ v b d n = -2 := (by unfold errZ; rw [if_neg (by omega), if_pos (by have := wof_m c22; omega)]); unfold whyR; rw [if_neg (by rw [he]; decide), he])
  · skip
    simp only [decide_eq_true_eq, decide_eq_false_iff_not] at c6
    refine z_iconst C dX6_why_9 10 rfl ?_
    exact z_ri C dX6_why_10 (by have he : errZ v b d n = -1 := (by unfold errZ; rw [if_pos c6]); unfold whyR; rw [if_neg (by rw [he]; decide), he])

set_option maxHeartbeats 4000000 in
set_option maxRecDepth 100000 in
theorem m_xsco (l : Launch) (G : gT) (X : Nat → Nat) (kn ml : Int) (kp : Bool) (v y : Int → Int) (x : Int) (w : Wf v) (hx : -2147483648 ≤ x ∧ x < 2147483648) : MR l G yX6_score cX6_score 4 (some .int) 2 [.ref (X 0), .int (iI (x))] [[moO X kn kp ml], [arI G (X 1) 258 (s2Z v y)]] ZT (.int (iI (scoZ v x))) := by
  refine enterR (own := RX6) (by decide +kernel) rfl (Nat.le_of_ble_eq_true rfl) ?_
  intro p e s m below meth c C hP hK hZ ls hl
  have hl : lv_has ls 4 [(0, .ref (X 0)), (1, .int (iI (x)))] := hl
  have hn := w.n
  have ht := w.t
  refine z_iconst C dX6_score_0 1 rfl ?_
  refine z_is_n C hl dX6_score_1 2 rfl (by decide) (lv' := [(2, .int (iI (0))), (0, .ref (X 0)), (1, .int (iI (x)))]) rfl (fun ls hl => ?_)
  refine z_iconst C dX6_score_2 3 rfl ?_
  refine z_is_n C hl dX6_score_3 4 rfl (by decide) (lv' := [(3, .int (iI (0))), (2, .int (iI (0))), (0, .ref (X 0)), (1, .int (iI (x)))]) rfl (fun ls hl => ?_)
  have L4 : ∀ (fu : Nat) (g : Int) (k : Int) (h1 : 0 ≤ k ∧ k ≤ v 127) (h2 : g = sumN (fun k => if v (72 + 5 * k) = x ∧ v (74 + 5 * k) = 1 then v (73 + 5 * k) else 0) k.toNat) (hm : v 127 - k < (fu : Int)) (ls : Array Slot) (hl : lv_has ls 4 [(3, .int (iI (k))), (2, .int (iI (g))), (1, .int (iI (x))), (0, .ref (X 0))]), W p l e (rmN 2) s m [.ref (X 0), .int (iI (x))].toArray below meth c s.heap [] 0 0 (MQ below (QR (.int (iI (scoZ v x)))) [.ref (X 0), .int (iI (x))].toArray s 0 0 (fun _ => False)) (F0 m 4 ls []) := by
    intro fu
    induction fu with
    | zero => intro g k h1 h2 hm ls hl; exfalso; omega
    | succ fu ih =>
      intro g k h1 h2 hm ls hl
      have ih4 := ih
      refine z_il_n C hl dX6_score_4 0 rfl 5 rfl ?_
      refine z_al_n C hl dX6_score_5 3 rfl 6 rfl ?_
      refine z_get C hP hK fl_X6_7 0 rfl rfl dX6_score_6 9 rfl ?_
      refine z_bipush C dX6_score_9 (by decide) 11 rfl ?_
      refine z_iaZ C (s2Z v y) hP hK 1 rfl (by omega) (by decide) (v 127) (s2_lo (by omega)) dX6_score_11 12 rfl ?_
      refine z_icmp_ge C dX6_score_12 57 15 (by decide) rfl (by omega) (fun c12 => ?_) (fun c12 => ?_)
      · skip
        refine z_il_n C hl dX6_score_57 1 rfl 58 rfl ?_
        exact z_ri C dX6_score_58 (by rw [h2, show k = v 127 by omega]; rfl)
      · skip
        have hk := w.b k (by omega)
        refine z_il_n C hl dX6_score_15 1 rfl 16 rfl ?_
        refine z_al_n C hl dX6_score_16 3 rfl 17 rfl ?_
        refine z_iconst C dX6_score_17 18 rfl ?_
        refine z_il_n C hl dX6_score_18 0 rfl 19 rfl ?_
        refine z_iconst C dX6_score_19 20 rfl ?_
        refine z_VR (r := .int (iI (v (72 + 5 * k)))) (rest := [.int (iI (g))]) C (m_xits l G X kn ml kp (s2Z v y) 0 v k 0 (72 + 5 * k)  (by omega) (s2_0 v y) (by omega) (by omega)) kV_X6_68 ⟨Nat.le_of_ble_eq_true rfl, Nat.le_of_ble_eq_true rfl⟩ hP hK 0 rfl rfl rfl hl.1 rfl (Nat.le_of_ble_eq_true rfl) dX6_score_20 ⟨Nat.le_of_ble_eq_true rfl, Nat.le_of_ble_eq_true rfl⟩ 23 rfl ?_
        refine z_il_n C hl dX6_score_23 2 rfl 24 rfl ?_
        refine z_icmp_ne C dX6_score_24 48 27 (by decide) rfl (by omega) (fun c24 => ?_) (fun c24 => ?_)
        · skip
          refine z_iconst C dX6_score_48 49 rfl ?_
          refine z_iadd C dX6_score_49 50 rfl (g) (by omega) ?_
          refine z_is_n C hl dX6_score_50 51 rfl (by decide) (lv' := [(2, .int (iI (g))), (3, .int (iI (k))), (1, .int (iI (x))), (0, .ref (X 0))]) rfl (fun ls hl => ?_)
          refine z_iinc C hl dX6_score_51 54 rfl 1 rfl (z := 1 + k) (by omega) (by decide) (lv' := [(3, .int (iI (1 + k))), (2, .int (iI (g))), (1, .int (iI (x))), (0, .ref (X 0))]) rfl (fun ls hl => ?_)
          refine z_goto C dX6_score_54 4 (by decide) ?_
          exact ih4 g (1 + k) (by omega) (by rw [sumN_s (by omega), ← h2]; (try dsimp only); split <;> omega) (by omega) ls (lv_sub hl [0, 1, 2, 3] rfl)
        · skip
          refine z_al_n C hl dX6_score_27 3 rfl 28 rfl ?_
          refine z_iconst C dX6_score_28 29 rfl ?_
          refine z_il_n C hl dX6_score_29 0 rfl 30 rfl ?_
          refine z_iconst C dX6_score_30 31 rfl ?_
          refine z_VR (r := .int (iI (v (74 + 5 * k)))) (rest := [.int (iI (g))]) C (m_xits l G X kn ml kp (s2Z v y) 0 v k 2 (74 + 5 * k)  (by omega) (s2_0 v y) (by omega) (by omega)) kV_X6_68 ⟨Nat.le_of_ble_eq_true rfl, Nat.le_of_ble_eq_true rfl⟩ hP hK 0 rfl rfl rfl hl.1 rfl (Nat.le_of_ble_eq_true rfl) dX6_score_31 ⟨Nat.le_of_ble_eq_true rfl, Nat.le_of_ble_eq_true rfl⟩ 34 rfl ?_
          refine z_iconst C dX6_score_34 35 rfl ?_
          refine z_icmp_ne C dX6_score_35 48 38 (by decide) rfl (by omega) (fun c35 => ?_) (fun c35 => ?_)
          · skip
            refine z_iconst C dX6_score_48 49 rfl ?_
            refine z_iadd C dX6_score_49 50 rfl (g) (by omega) ?_
            refine z_is_n C hl dX6_score_50 51 rfl (by decide) (lv' := [(2, .int (iI (g))), (3, .int (iI (k))), (1, .int (iI (x))), (0, .ref (X 0))]) rfl (fun ls hl => ?_)
            refine z_iinc C hl dX6_score_51 54 rfl 1 rfl (z := 1 + k) (by omega) (by decide) (lv' := [(3, .int (iI (1 + k))), (2, .int (iI (g))), (1, .int (iI (x))), (0, .ref (X 0))]) rfl (fun ls hl => ?_)
            refine z_goto C dX6_score_54 4 (by decide) ?_
            exact ih4 g (1 + k) (by omega) (by rw [sumN_s (by omega), ← h2]; (try dsimp only); split <;> omega) (by omega) ls (lv_sub hl [0, 1, 2, 3] rfl)
          · skip
            refine z_al_n C hl dX6_score_38 3 rfl 39 rfl ?_
            refine z_iconst C dX6_score_39 40 rfl ?_
            refine z_il_n C hl dX6_score_40 0 rfl 41 rfl ?_
            refine z_iconst C dX6_score_41 42 rfl ?_
            refine z_VR (r := .int (iI (v (73 + 5 * k)))) (rest := [.int (iI (g))]) C (m_xits l G X kn ml kp (s2Z v y) 0 v k 1 (73 + 5 * k)  (by omega) (s2_0 v y) (by omega) (by omega)) kV_X6_68 ⟨Nat.le_of_ble_eq_true rfl, Nat.le_of_ble_eq_true rfl⟩ hP hK 0 rfl rfl rfl hl.1 rfl (Nat.le_of_ble_eq_true rfl) dX6_score_42 ⟨Nat.le_of_ble_eq_true rfl, Nat.le_of_ble_eq_true rfl⟩ 45 rfl ?_
            refine z_goto C dX6_score_45 49 (by decide) ?_
            refine z_iadd C dX6_score_49 50 rfl (g + v (73 + 5 * k)) (by omega) ?_
            refine z_is_n C hl dX6_score_50 51 rfl (by decide) (lv' := [(2, .int (iI (g + v (73 + 5 * k)))), (3, .int (iI (k))), (1, .int (iI (x))), (0, .ref (X 0))]) rfl (fun ls hl => ?_)
            refine z_iinc C hl dX6_score_51 54 rfl 1 rfl (z := 1 + k) (by omega) (by decide) (lv' := [(3, .int (iI (1 + k))), (2, .int (iI (g + v (73 + 5 * k)))), (1, .int (iI (x))), (0, .ref (X 0))]) rfl (fun ls hl => ?_)
            refine z_goto C dX6_score_54 4 (by decide) ?_
            exact ih4 (g + v (73 + 5 * k)) (1 + k) (by omega) (by rw [sumN_s (by omega), ← h2]; (try dsimp only); split <;> omega) (by omega) ls (lv_sub hl [0, 1, 2, 3] rfl)
  exact L4 (Int.toNat (v 127 - 0) + 1) 0 0 (by omega) (rfl) (by omega) ls (lv_sub hl [0, 1, 3, 2] rfl)

set_option maxHeartbeats 4000000 in
set_option maxRecDepth 100000 in
theorem m_xagr (l : Launch) (G : gT) (X : Nat → Nat) (kn ml : Int) (kp : Bool) (v y : Int → Int) (w : Wf v) : MR l G yX6_aground cX6_aground 3 (some .int) 4 [.ref (X 0)] [[moO X kn kp ml], [arI G (X 1) 258 (s2Z v y)]] ZT (.int (iI (agrZ v))) := by
  refine enterR (own := RX6) (by decide +kernel) rfl (Nat.le_of_ble_eq_true rfl) ?_
  intro p e s m below meth c C hP hK hZ ls hl
  have hl : lv_has ls 3 [(0, .ref (X 0))] := hl
  have hn := w.n
  have ht := w.t
  refine z_al_n C hl dX6_aground_0 0 rfl 1 rfl ?_
  refine z_iconst C dX6_aground_1 2 rfl ?_
  refine z_iconst C dX6_aground_2 3 rfl ?_
  refine z_VR (r := .int (iI (cntZ v 0))) (rest := []) C (m_xcnt l G X kn ml kp (s2Z v y) 0 v 0 w (by omega) (s2_0 v y) (by omega)) kV_X6_78 ⟨Nat.le_of_ble_eq_true rfl, Nat.le_of_ble_eq_true rfl⟩ hP hK 0 rfl rfl rfl hl.1 rfl (Nat.le_of_ble_eq_true rfl) dX6_aground_3 ⟨Nat.le_of_ble_eq_true rfl, Nat.le_of_ble_eq_true rfl⟩ 6 rfl ?_
  have r3 := cntZ_rng w 0
  refine z_is_n C hl dX6_aground_6 7 rfl (by decide) (lv' := [(1, .int (iI (cntZ v 0))), (0, .ref (X 0))]) rfl (fun ls hl => ?_)
  refine z_iconst C dX6_aground_7 8 rfl ?_
  refine z_is_n C hl dX6_aground_8 9 rfl (by decide) (lv' := [(2, .int (iI (0))), (1, .int (iI (cntZ v 0))), (0, .ref (X 0))]) rfl (fun ls hl => ?_)
  have L9 : ∀ (fu : Nat) (g : Int) (k : Int) (h1 : 0 ≤ k ∧ k ≤ v 127) (h2 : g = cntZ v 0 - sumN (fun k => if (onB v k && floB v k) = true then 1 else 0) k.toNat) (hm : v 127 - k < (fu : Int)) (ls : Array Slot) (hl : lv_has ls 3 [(2, .int (iI (k))), (1, .int (iI (g))), (0, .ref (X 0))]), W p l e (rmN 4) s m [.ref (X 0)].toArray below meth c s.heap [] 0 0 (MQ below (QR (.int (iI (agrZ v)))) [.ref (X 0)].toArray s 0 0 (fun _ => False)) (F0 m 9 ls []) := by
    intro fu
    induction fu with
    | zero => intro g k h1 h2 hm ls hl; exfalso; omega
    | succ fu ih =>
      intro g k h1 h2 hm ls hl
      have ih9 := ih
      refine z_il_n C hl dX6_aground_9 0 rfl 10 rfl ?_
      refine z_al_n C hl dX6_aground_10 2 rfl 11 rfl ?_
      refine z_get C hP hK fl_X6_7 0 rfl rfl dX6_aground_11 14 rfl ?_
      refine z_bipush C dX6_aground_14 (by decide) 16 rfl ?_
      refine z_iaZ C (s2Z v y) hP hK 1 rfl (by omega) (by decide) (v 127) (s2_lo (by omega)) dX6_aground_16 17 rfl ?_
      refine z_icmp_ge C dX6_aground_17 43 20 (by decide) rfl (by omega) (fun c17 => ?_) (fun c17 => ?_)
      · skip
        refine z_il_n C hl dX6_aground_43 1 rfl 44 rfl ?_
        exact z_ri C dX6_aground_44 (by rw [h2, show k = v 127 by omega]; exact agr_e v)
      · skip
        have hk := w.b k (by omega)
        refine z_il_n C hl dX6_aground_20 1 rfl 21 rfl ?_
        refine z_al_n C hl dX6_aground_21 2 rfl 22 rfl ?_
        refine z_iconst C dX6_aground_22 23 rfl ?_
        refine z_il_n C hl dX6_aground_23 0 rfl 24 rfl ?_
        refine z_VR (r := .int (iI (bZ (onB v k && floB v k)))) (rest := [.int (iI (g))]) C (m_xafl l G X kn ml kp (s2Z v y) 0 v k w (by omega) (s2_0 v y) (by omega)) kV_X6_74 ⟨Nat.le_of_ble_eq_true rfl, Nat.le_of_ble_eq_true rfl⟩ hP hK 0 rfl rfl rfl hl.1 rfl (Nat.le_of_ble_eq_true rfl) dX6_aground_24 ⟨Nat.le_of_ble_eq_true rfl, Nat.le_of_ble_eq_true rfl⟩ 27 rfl ?_
        refine z_ifb_eq C dX6_aground_27 34 30 (by decide) rfl (fun c27 => ?_) (fun c27 => ?_)
        · skip
          skip
          refine z_iconst C dX6_aground_34 35 rfl ?_
          refine z_isub C dX6_aground_35 36 rfl (g) (by omega) ?_
          refine z_is_n C hl dX6_aground_36 37 rfl (by decide) (lv' := [(1, .int (iI (g))), (2, .int (iI (k))), (0, .ref (X 0))]) rfl (fun ls hl => ?_)
          refine z_iinc C hl dX6_aground_37 40 rfl 1 rfl (z := 1 + k) (by omega) (by decide) (lv' := [(2, .int (iI (1 + k))), (1, .int (iI (g))), (0, .ref (X 0))]) rfl (fun ls hl => ?_)
          refine z_goto C dX6_aground_40 9 (by decide) ?_
          exact ih9 g (1 + k) (by omega) (by rw [sumN_s (by omega)]; (try dsimp only); rw [c27, if_neg (by decide)]; omega) (by omega) ls (lv_sub hl [0, 1, 2] rfl)
        · skip
          skip
          refine z_iconst C dX6_aground_30 31 rfl ?_
          refine z_goto C dX6_aground_31 35 (by decide) ?_
          refine z_isub C dX6_aground_35 36 rfl (g - 1) (rfl) ?_
          refine z_is_n C hl dX6_aground_36 37 rfl (by decide) (lv' := [(1, .int (iI (g - 1))), (2, .int (iI (k))), (0, .ref (X 0))]) rfl (fun ls hl => ?_)
          refine z_iinc C hl dX6_aground_37 40 rfl 1 rfl (z := 1 + k) (by omega) (by decide) (lv' := [(2, .int (iI (1 + k))), (1, .int (iI (g - 1))), (0, .ref (X 0))]) rfl (fun ls hl => ?_)
          refine z_goto C dX6_aground_40 9 (by decide) ?_
          exact ih9 (g - 1) (1 + k) (by omega) (by rw [sumN_s (by omega)]; (try dsimp only); rw [c27, if_pos rfl]; omega) (by omega) ls (lv_sub hl [0, 1, 2] rfl)
  exact L9 (Int.toNat (v 127 - 0) + 1) (cntZ v 0) 0 (by omega) (by show _ = cntZ v 0 - 0; omega) (by omega) ls (lv_sub hl [0, 1, 2] rfl)

set_option maxHeartbeats 4000000 in
set_option maxRecDepth 100000 in
theorem m_xmmv (l : Launch) (G : gT) (X : Nat → Nat) (kn ml : Int) (kp : Bool) (v y : Int → Int) (w : Wf v) : MR l G yX6_movesNow cX6_movesNow 3 (some .int) 7 [.ref (X 0)] [[moO X kn kp ml], [arI G (X 1) 258 (s2Z v y)]] ZT (.int (iI (mmvZ v))) := by
  refine enterR (own := RX6) (by decide +kernel) rfl (Nat.le_of_ble_eq_true rfl) ?_
  intro p e s m below meth c C hP hK hZ ls hl
  have hl : lv_has ls 3 [(0, .ref (X 0))] := hl
  have hn := w.n
  have ht := w.t
  refine z_iconst C dX6_movesNow_0 1 rfl ?_
  refine z_is_n C hl dX6_movesNow_1 2 rfl (by decide) (lv' := [(1, .int (iI (0))), (0, .ref (X 0))]) rfl (fun ls hl => ?_)
  refine z_iconst C dX6_movesNow_2 3 rfl ?_
  refine z_is_n C hl dX6_movesNow_3 4 rfl (by decide) (lv' := [(2, .int (iI (0))), (1, .int (iI (0))), (0, .ref (X 0))]) rfl (fun ls hl => ?_)
  have L4 : ∀ (fu : Nat) (g : Int) (k : Int) (h1 : 0 ≤ k ∧ k ≤ v 127) (h2 : g = sumN (fun k => if v (72 + 5 * k) = v 126 % 2 then mvsZ v k else 0) k.toNat) (hm : v 127 - k < (fu : Int)) (ls : Array Slot) (hl : lv_has ls 3 [(2, .int (iI (k))), (1, .int (iI (g))), (0, .ref (X 0))]), W p l e (rmN 7) s m [.ref (X 0)].toArray below meth c s.heap [] 0 0 (MQ below (QR (.int (iI (mmvZ v)))) [.ref (X 0)].toArray s 0 0 (fun _ => False)) (F0 m 4 ls []) := by
    intro fu
    induction fu with
    | zero => intro g k h1 h2 hm ls hl; exfalso; omega
    | succ fu ih =>
      intro g k h1 h2 hm ls hl
      have ih4 := ih
      refine z_il_n C hl dX6_movesNow_4 0 rfl 5 rfl ?_
      refine z_al_n C hl dX6_movesNow_5 2 rfl 6 rfl ?_
      refine z_get C hP hK fl_X6_7 0 rfl rfl dX6_movesNow_6 9 rfl ?_
      refine z_bipush C dX6_movesNow_9 (by decide) 11 rfl ?_
      refine z_iaZ C (s2Z v y) hP hK 1 rfl (by omega) (by decide) (v 127) (s2_lo (by omega)) dX6_movesNow_11 12 rfl ?_
      refine z_icmp_ge C dX6_movesNow_12 52 15 (by decide) rfl (by omega) (fun c12 => ?_) (fun c12 => ?_)
      · skip
        refine z_il_n C hl dX6_movesNow_52 1 rfl 53 rfl ?_
        exact z_ri C dX6_movesNow_53 (by rw [h2, show k = v 127 by omega]; rfl)
      · skip
        have hk := w.b k (by omega)
        refine z_il_n C hl dX6_movesNow_15 1 rfl 16 rfl ?_
        refine z_al_n C hl dX6_movesNow_16 2 rfl 17 rfl ?_
        refine z_iconst C dX6_movesNow_17 18 rfl ?_
        refine z_il_n C hl dX6_movesNow_18 0 rfl 19 rfl ?_
        refine z_iconst C dX6_movesNow_19 20 rfl ?_
        refine z_VR (r := .int (iI (v (72 + 5 * k)))) (rest := [.int (iI (g))]) C (m_xits l G X kn ml kp (s2Z v y) 0 v k 0 (72 + 5 * k)  (by omega) (s2_0 v y) (by omega) (by omega)) kV_X6_68 ⟨Nat.le_of_ble_eq_true rfl, Nat.le_of_ble_eq_true rfl⟩ hP hK 0 rfl rfl rfl hl.1 rfl (Nat.le_of_ble_eq_true rfl) dX6_movesNow_20 ⟨Nat.le_of_ble_eq_true rfl, Nat.le_of_ble_eq_true rfl⟩ 23 rfl ?_
        refine z_al_n C hl dX6_movesNow_23 2 rfl 24 rfl ?_
        refine z_get C hP hK fl_X6_7 0 rfl rfl dX6_movesNow_24 27 rfl ?_
        refine z_bipush C dX6_movesNow_27 (by decide) 29 rfl ?_
        refine z_iaZ C (s2Z v y) hP hK 1 rfl (by omega) (by decide) (v 126) (s2_lo (by omega)) dX6_movesNow_29 30 rfl ?_
        refine z_iconst C dX6_movesNow_30 31 rfl ?_
        refine z_irem C dX6_movesNow_31 32 rfl (by omega) (((v 126) % 2)) (rfl) ?_
        refine z_icmp_ne C dX6_movesNow_32 43 35 (by decide) rfl (by omega) (fun c32 => ?_) (fun c32 => ?_)
        · skip
          refine z_iconst C dX6_movesNow_43 44 rfl ?_
          refine z_iadd C dX6_movesNow_44 45 rfl (g) (by omega) ?_
          refine z_is_n C hl dX6_movesNow_45 46 rfl (by decide) (lv' := [(1, .int (iI (g))), (2, .int (iI (k))), (0, .ref (X 0))]) rfl (fun ls hl => ?_)
          refine z_iinc C hl dX6_movesNow_46 49 rfl 1 rfl (z := 1 + k) (by omega) (by decide) (lv' := [(2, .int (iI (1 + k))), (1, .int (iI (g))), (0, .ref (X 0))]) rfl (fun ls hl => ?_)
          refine z_goto C dX6_movesNow_49 4 (by decide) ?_
          exact ih4 g (1 + k) (by omega) (by rw [sumN_s (by omega), ← h2]; simp only [if_neg c32]; (try omega)) (by omega) ls (lv_sub hl [0, 1, 2] rfl)
        · skip
          refine z_al_n C hl dX6_movesNow_35 2 rfl 36 rfl ?_
          refine z_il_n C hl dX6_movesNow_36 0 rfl 37 rfl ?_
          refine z_VR (r := .int (iI (mvsZ v k))) (rest := [.int (iI (g))]) C (m_xmvs l G X kn ml kp v y k w (by omega)) kV_X6_171 ⟨Nat.le_of_ble_eq_true rfl, Nat.le_of_ble_eq_true rfl⟩ hP hK 0 rfl rfl rfl hl.1 rfl (Nat.le_of_ble_eq_true rfl) dX6_movesNow_37 ⟨Nat.le_of_ble_eq_true rfl, Nat.le_of_ble_eq_true rfl⟩ 40 rfl ?_
          refine z_goto C dX6_movesNow_40 44 (by decide) ?_
          refine z_iadd C dX6_movesNow_44 45 rfl (g + mvsZ v k) (by omega) ?_
          refine z_is_n C hl dX6_movesNow_45 46 rfl (by decide) (lv' := [(1, .int (iI (g + mvsZ v k))), (2, .int (iI (k))), (0, .ref (X 0))]) rfl (fun ls hl => ?_)
          refine z_iinc C hl dX6_movesNow_46 49 rfl 1 rfl (z := 1 + k) (by omega) (by decide) (lv' := [(2, .int (iI (1 + k))), (1, .int (iI (g + mvsZ v k))), (0, .ref (X 0))]) rfl (fun ls hl => ?_)
          refine z_goto C dX6_movesNow_49 4 (by decide) ?_
          exact ih4 (g + mvsZ v k) (1 + k) (by omega) (by rw [sumN_s (by omega), ← h2]; simp only [if_pos c32]; (try omega)) (by omega) ls (lv_sub hl [0, 1, 2] rfl)
  exact L4 (Int.toNat (v 127 - 0) + 1) 0 0 (by omega) (rfl) (by omega) ls (lv_sub hl [0, 1, 2] rfl)

set_option maxHeartbeats 4000000 in
set_option maxRecDepth 100000 in
theorem m_xcount (l : Launch) (G : gT) (X : Nat → Nat) (kn ml : Int) (kp : Bool) (v y : Int → Int) (k : Int) (w : Wf v) (hk : -2147483648 ≤ k ∧ k < 2147483648) : MR l G yX6_count cX6_count 2 (some .int) 8 [.ref (X 0), .int (iI (k))] [[moO X kn kp ml], [arI G (X 1) 258 (s2Z v y)]] ZT (.int (iI (cntR v kn ml k))) := by
  refine enterR (own := RX6) (by decide +kernel) rfl (Nat.le_of_ble_eq_true rfl) ?_
  intro p e s m below meth c C hP hK hZ ls hl
  have hl : lv_has ls 2 [(0, .ref (X 0)), (1, .int (iI (k)))] := hl
  have hn := w.n
  have ht := w.t
  refine z_il_n C hl dX6_count_0 1 rfl 1 rfl ?_
  have hsw1 : (k) = 0 ∨ (k) = 1 ∨ (k) = 2 ∨ (k) = 3 ∨ (k) = 4 ∨ (k) = 5 ∨ (k) = 6 ∨ (k) = 7 ∨ (k) = 8 ∨ (k) = 9 ∨ (k) = 10 ∨ (k) = 11 ∨ (k) = 12 ∨ (k) = 13 ∨ (k) = 14 ∨ ((k) < 0 ∨ 14 < (k)) := by omega
  rcases hsw1 with h1 | h1 | h1 | h1 | h1 | h1 | h1 | h1 | h1 | h1 | h1 | h1 | h1 | h1 | h1 | h1
  · skip
    refine z_swIn C dX6_count_1 (by omega) (by omega) 75 76 (by rw [h1]; rfl) (by decide) ?_
    refine z_al_n C hl dX6_count_76 0 rfl 77 rfl ?_
    refine z_get C hP hK fl_X6_7 0 rfl rfl dX6_count_77 80 rfl ?_
    refine z_bipush C dX6_count_80 (by decide) 82 rfl ?_
    refine z_iaZ C (s2Z v y) hP hK 1 rfl (by omega) (by decide) (v 126) (s2_lo (by omega)) dX6_count_82 83 rfl ?_
    exact z_ri C dX6_count_83 (by unfold cntR; rw [if_pos (by omega)])
  · skip
    refine z_swIn C dX6_count_1 (by omega) (by omega) 83 84 (by rw [h1]; rfl) (by decide) ?_
    refine z_al_n C hl dX6_count_84 0 rfl 85 rfl ?_
    refine z_get C hP hK fl_X6_7 0 rfl rfl dX6_count_85 88 rfl ?_
    refine z_bipush C dX6_count_88 (by decide) 90 rfl ?_
    refine z_iaZ C (s2Z v y) hP hK 1 rfl (by omega) (by decide) (v 126) (s2_lo (by omega)) dX6_count_90 91 rfl ?_
    refine z_iconst C dX6_count_91 92 rfl ?_
    refine z_irem C dX6_count_92 93 rfl (by omega) (((v 126) % 2)) (rfl) ?_
    exact z_ri C dX6_count_93 (by unfold cntR; rw [if_neg (by omega), if_pos (by omega)])
  · skip
    refine z_swIn C dX6_count_1 (by omega) (by omega) 93 94 (by rw [h1]; rfl) (by decide) ?_
    refine z_al_n C hl dX6_count_94 0 rfl 95 rfl ?_
    refine z_iconst C dX6_count_95 96 rfl ?_
    refine z_al_n C hl dX6_count_96 0 rfl 97 rfl ?_
    refine z_get C hP hK fl_X6_7 0 rfl rfl dX6_count_97 100 rfl ?_
    refine z_bipush C dX6_count_100 (by decide) 102 rfl ?_
    refine z_iaZ C (s2Z v y) hP hK 1 rfl (by omega) (by decide) (v 126) (s2_lo (by omega)) dX6_count_102 103 rfl ?_
    refine z_VR (r := .int (iI (tideZ v (v 126)))) (rest := []) C (m_xtide l G X kn ml kp (s2Z v y) 0 v (v 126) w (by omega) (s2_0 v y) (by omega)) kV_X6_50 ⟨Nat.le_of_ble_eq_true rfl, Nat.le_of_ble_eq_true rfl⟩ hP hK 0 rfl rfl rfl hl.1 rfl (Nat.le_of_ble_eq_true rfl) dX6_count_103 ⟨Nat.le_of_ble_eq_true rfl, Nat.le_of_ble_eq_true rfl⟩ 106 rfl ?_
    have r103 := tideZ_rng w (v 126)
    exact z_ri C dX6_count_106 (by unfold cntR; rw [if_neg (by omega), if_neg (by omega), if_pos (by omega)])
  · skip
    refine z_swIn C dX6_count_1 (by omega) (by omega) 106 107 (by rw [h1]; rfl) (by decide) ?_
    refine z_al_n C hl dX6_count_107 0 rfl 108 rfl ?_
    refine z_il_n C hl dX6_count_108 1 rfl 109 rfl ?_
    refine z_iconst C dX6_count_109 110 rfl ?_
    refine z_isub C dX6_count_110 111 rfl (k - 3) (rfl) ?_
    refine z_VR (r := .int (iI (scoZ v (k - 3)))) (rest := []) C (m_xsco l G X kn ml kp v y (k - 3) w (by omega)) kV_X6_174 ⟨Nat.le_of_ble_eq_true rfl, Nat.le_of_ble_eq_true rfl⟩ hP hK 0 rfl rfl rfl hl.1 rfl (Nat.le_of_ble_eq_true rfl) dX6_count_111 ⟨Nat.le_of_ble_eq_true rfl, Nat.le_of_ble_eq_true rfl⟩ 114 rfl ?_
    exact z_ri C dX6_count_114 (by rw [show (k - 3 : Int) = 0 by omega]; unfold cntR; rw [if_neg (by omega), if_neg (by omega), if_neg (by omega), if_pos (by omega)])
  · skip
    refine z_swIn C dX6_count_1 (by omega) (by omega) 106 107 (by rw [h1]; rfl) (by decide) ?_
    refine z_al_n C hl dX6_count_107 0 rfl 108 rfl ?_
    refine z_il_n C hl dX6_count_108 1 rfl 109 rfl ?_
    refine z_iconst C dX6_count_109 110 rfl ?_
    refine z_isub C dX6_count_110 111 rfl (k - 3) (rfl) ?_
    refine z_VR (r := .int (iI (scoZ v (k - 3)))) (rest := []) C (m_xsco l G X kn ml kp v y (k - 3) w (by omega)) kV_X6_174 ⟨Nat.le_of_ble_eq_true rfl, Nat.le_of_ble_eq_true rfl⟩ hP hK 0 rfl rfl rfl hl.1 rfl (Nat.le_of_ble_eq_true rfl) dX6_count_111 ⟨Nat.le_of_ble_eq_true rfl, Nat.le_of_ble_eq_true rfl⟩ 114 rfl ?_
    exact z_ri C dX6_count_114 (by rw [show (k - 3 : Int) = 1 by omega]; unfold cntR; rw [if_neg (by omega), if_neg (by omega), if_neg (by omega), if_neg (by omega), if_pos (by omega)])
  · skip
    refine z_swIn C dX6_count_1 (by omega) (by omega) 114 115 (by rw [h1]; rfl) (by decide) ?_
    refine z_al_n C hl dX6_count_115 0 rfl 116 rfl ?_
    refine z_get C hP hK fl_X6_7 0 rfl rfl dX6_count_116 119 rfl ?_
    refine z_bipush C dX6_count_119 (by decide) 121 rfl ?_
    refine z_iaZ C (s2Z v y) hP hK 1 rfl (by omega) (by decide) (v 127) (s2_lo (by omega)) dX6_count_121 122 rfl ?_
    exact z_ri C dX6_count_122 (by unfold cntR; rw [if_neg (by omega), if_neg (by omega), if_neg (by omega), if_neg (by omega), if_neg (by omega), if_pos (by omega)])
  · skip
    refine z_swIn C dX6_count_1 (by omega) (by omega) 122 123 (by rw [h1]; rfl) (by decide) ?_
    refine z_al_n C hl dX6_count_123 0 rfl 124 rfl ?_
    refine z_iconst C dX6_count_124 125 rfl ?_
    refine z_il_n C hl dX6_count_125 1 rfl 126 rfl ?_
    refine z_bipush C dX6_count_126 (by decide) 128 rfl ?_
    refine z_isub C dX6_count_128 129 rfl (k - 6) (rfl) ?_
    refine z_VR (r := .int (iI (cntZ v (k - 6)))) (rest := []) C (m_xcnt l G X kn ml kp (s2Z v y) 0 v (k - 6) w (by omega) (s2_0 v y) (by omega)) kV_X6_78 ⟨Nat.le_of_ble_eq_true rfl, Nat.le_of_ble_eq_true rfl⟩ hP hK 0 rfl rfl rfl hl.1 rfl (Nat.le_of_ble_eq_true rfl) dX6_count_129 ⟨Nat.le_of_ble_eq_true rfl, Nat.le_of_ble_eq_true rfl⟩ 132 rfl ?_
    have r129 := cntZ_rng w (k - 6)
    exact z_ri C dX6_count_132 (by rw [show (k - 6 : Int) = 0 by omega]; unfold cntR; rw [if_neg (by omega), if_neg (by omega), if_neg (by omega), if_neg (by omega), if_neg (by omega), if_neg (by omega), if_pos (by omega)])
  · skip
    refine z_swIn C dX6_count_1 (by omega) (by omega) 122 123 (by rw [h1]; rfl) (by decide) ?_
    refine z_al_n C hl dX6_count_123 0 rfl 124 rfl ?_
    refine z_iconst C dX6_count_124 125 rfl ?_
    refine z_il_n C hl dX6_count_125 1 rfl 126 rfl ?_
    refine z_bipush C dX6_count_126 (by decide) 128 rfl ?_
    refine z_isub C dX6_count_128 129 rfl (k - 6) (rfl) ?_
    refine z_VR (r := .int (iI (cntZ v (k - 6)))) (rest := []) C (m_xcnt l G X kn ml kp (s2Z v y) 0 v (k - 6) w (by omega) (s2_0 v y) (by omega)) kV_X6_78 ⟨Nat.le_of_ble_eq_true rfl, Nat.le_of_ble_eq_true rfl⟩ hP hK 0 rfl rfl rfl hl.1 rfl (Nat.le_of_ble_eq_true rfl) dX6_count_129 ⟨Nat.le_of_ble_eq_true rfl, Nat.le_of_ble_eq_true rfl⟩ 132 rfl ?_
    have r129 := cntZ_rng w (k - 6)
    exact z_ri C dX6_count_132 (by rw [show (k - 6 : Int) = 1 by omega]; unfold cntR; rw [if_neg (by omega), if_neg (by omega), if_neg (by omega), if_neg (by omega), if_neg (by omega), if_neg (by omega), if_neg (by omega), if_pos (by omega)])
  · skip
    refine z_swIn C dX6_count_1 (by omega) (by omega) 122 123 (by rw [h1]; rfl) (by decide) ?_
    refine z_al_n C hl dX6_count_123 0 rfl 124 rfl ?_
    refine z_iconst C dX6_count_124 125 rfl ?_
    refine z_il_n C hl dX6_count_125 1 rfl 126 rfl ?_
    refine z_bipush C dX6_count_126 (by decide) 128 rfl ?_
    refine z_isub C dX6_count_128 129 rfl (k - 6) (rfl) ?_
    refine z_VR (r := .int (iI (cntZ v (k - 6)))) (rest := []) C (m_xcnt l G X kn ml kp (s2Z v y) 0 v (k - 6) w (by omega) (s2_0 v y) (by omega)) kV_X6_78 ⟨Nat.le_of_ble_eq_true rfl, Nat.le_of_ble_eq_true rfl⟩ hP hK 0 rfl rfl rfl hl.1 rfl (Nat.le_of_ble_eq_true rfl) dX6_count_129 ⟨Nat.le_of_ble_eq_true rfl, Nat.le_of_ble_eq_true rfl⟩ 132 rfl ?_
    have r129 := cntZ_rng w (k - 6)
    exact z_ri C dX6_count_132 (by rw [show (k - 6 : Int) = 2 by omega]; unfold cntR; rw [if_neg (by omega), if_neg (by omega), if_neg (by omega), if_neg (by omega), if_neg (by omega), if_neg (by omega), if_neg (by omega), if_neg (by omega), if_pos (by omega)])
  · skip
    refine z_swIn C dX6_count_1 (by omega) (by omega) 132 133 (by rw [h1]; rfl) (by decide) ?_
    refine z_al_n C hl dX6_count_133 0 rfl 134 rfl ?_
    refine z_VR (r := .int (iI (agrZ v))) (rest := []) C (m_xagr l G X kn ml kp v y  w ) kV_X6_177 ⟨Nat.le_of_ble_eq_true rfl, Nat.le_of_ble_eq_true rfl⟩ hP hK 0 rfl rfl rfl hl.1 rfl (Nat.le_of_ble_eq_true rfl) dX6_count_134 ⟨Nat.le_of_ble_eq_true rfl, Nat.le_of_ble_eq_true rfl⟩ 137 rfl ?_
    exact z_ri C dX6_count_137 (by unfold cntR; rw [if_neg (by omega), if_neg (by omega), if_neg (by omega), if_neg (by omega), if_neg (by omega), if_neg (by omega), if_neg (by omega), if_neg (by omega), if_neg (by omega), if_pos (by omega)])
  · skip
    refine z_swIn C dX6_count_1 (by omega) (by omega) 137 138 (by rw [h1]; rfl) (by decide) ?_
    refine z_al_n C hl dX6_count_138 0 rfl 139 rfl ?_
    refine z_get C hP hK fl_X6_7 0 rfl rfl dX6_count_139 142 rfl ?_
    refine z_sipush C dX6_count_142 (by decide) 145 rfl ?_
    refine z_iaZ C (s2Z v y) hP hK 1 rfl (by omega) (by decide) (v 128) (s2_lo (by omega)) dX6_count_145 146 rfl ?_
    exact z_ri C dX6_count_146 (by unfold cntR; rw [if_neg (by omega), if_neg (by omega), if_neg (by omega), if_neg (by omega), if_neg (by omega), if_neg (by omega), if_neg (by omega), if_neg (by omega), if_neg (by omega), if_neg (by omega), if_pos (by omega)])
  · skip
    refine z_swIn C dX6_count_1 (by omega) (by omega) 146 147 (by rw [h1]; rfl) (by decide) ?_
    refine z_al_n C hl dX6_count_147 0 rfl 148 rfl ?_
    refine z_iconst C dX6_count_148 149 rfl ?_
    refine z_VR (r := .int (iI (bZ (overB v)))) (rest := []) C (m_xover l G X kn ml kp (s2Z v y) 0 v  w (by omega) (s2_0 v y) ) kV_X6_81 ⟨Nat.le_of_ble_eq_true rfl, Nat.le_of_ble_eq_true rfl⟩ hP hK 0 rfl rfl rfl hl.1 rfl (Nat.le_of_ble_eq_true rfl) dX6_count_149 ⟨Nat.le_of_ble_eq_true rfl, Nat.le_of_ble_eq_true rfl⟩ 152 rfl ?_
    refine z_ifb_eq C dX6_count_152 159 155 (by decide) rfl (fun c152 => ?_) (fun c152 => ?_)
    · skip
      refine z_iconst C dX6_count_159 160 rfl ?_
      exact z_ri C dX6_count_160 (by unfold cntR; rw [if_neg (by omega), if_neg (by omega), if_neg (by omega), if_neg (by omega), if_neg (by omega), if_neg (by omega), if_neg (by omega), if_neg (by omega), if_neg (by omega), if_neg (by omega), if_neg (by omega), if_pos (by omega)]; exact bZ_0 c152)
    · skip
      refine z_iconst C dX6_count_155 156 rfl ?_
      refine z_goto C dX6_count_156 160 (by decide) ?_
      exact z_ri C dX6_count_160 (by unfold cntR; rw [if_neg (by omega), if_neg (by omega), if_neg (by omega), if_neg (by omega), if_neg (by omega), if_neg (by omega), if_neg (by omega), if_neg (by omega), if_neg (by omega), if_neg (by omega), if_neg (by omega), if_pos (by omega)]; exact bZ_1 c152)
  · skip
    refine z_swIn C dX6_count_1 (by omega) (by omega) 160 161 (by rw [h1]; rfl) (by decide) ?_
    refine z_al_n C hl dX6_count_161 0 rfl 162 rfl ?_
    refine z_VR (r := .int (iI (mmvZ v))) (rest := []) C (m_xmmv l G X kn ml kp v y  w ) kV_X6_180 ⟨Nat.le_of_ble_eq_true rfl, Nat.le_of_ble_eq_true rfl⟩ hP hK 0 rfl rfl rfl hl.1 rfl (Nat.le_of_ble_eq_true rfl) dX6_count_162 ⟨Nat.le_of_ble_eq_true rfl, Nat.le_of_ble_eq_true rfl⟩ 165 rfl ?_
    exact z_ri C dX6_count_165 (by unfold cntR; rw [if_neg (by omega), if_neg (by omega), if_neg (by omega), if_neg (by omega), if_neg (by omega), if_neg (by omega), if_neg (by omega), if_neg (by omega), if_neg (by omega), if_neg (by omega), if_neg (by omega), if_neg (by omega), if_pos (by omega)])
  · skip
    refine z_swIn C dX6_count_1 (by omega) (by omega) 165 166 (by rw [h1]; rfl) (by decide) ?_
    refine z_al_n C hl dX6_count_166 0 rfl 167 rfl ?_
    refine z_get C hP hK fl_X6_43 0 rfl rfl dX6_count_167 170 rfl ?_
    exact z_ri C dX6_count_170 (by unfold cntR; rw [if_neg (by omega), if_neg (by omega), if_neg (by omega), if_neg (by omega), if_neg (by omega), if_neg (by omega), if_neg (by omega), if_neg (by omega), if_neg (by omega), if_neg (by omega), if_neg (by omega), if_neg (by omega), if_neg (by omega), if_pos (by omega)])
  · skip
    refine z_swIn C dX6_count_1 (by omega) (by omega) 170 171 (by rw [h1]; rfl) (by decide) ?_
    refine z_al_n C hl dX6_count_171 0 rfl 172 rfl ?_
    refine z_get C hP hK fl_X6_136 0 rfl rfl dX6_count_172 175 rfl ?_
    exact z_ri C dX6_count_175 (by unfold cntR; rw [if_neg (by omega), if_neg (by omega), if_neg (by omega), if_neg (by omega), if_neg (by omega), if_neg (by omega), if_neg (by omega), if_neg (by omega), if_neg (by omega), if_neg (by omega), if_neg (by omega), if_neg (by omega), if_neg (by omega), if_neg (by omega), if_pos (by omega)])
  · skip
    refine z_swOut C dX6_count_1 (by omega) h1 176 (by decide) ?_
    refine z_il_n C hl dX6_count_176 1 rfl 177 rfl ?_
    refine z_bipush C dX6_count_177 (by decide) 179 rfl ?_
    refine z_bipush C dX6_count_179 (by decide) 181 rfl ?_
    refine z_SR (r := .int (iI (bZ (decide (15 ≤ k ∧ k ≤ 18))))) (rest := []) C (m_xin l G k 15 18 (by omega) (by omega) (by omega)) kS_X6_35 ⟨Nat.le_of_ble_eq_true rfl, Nat.le_of_ble_eq_true rfl⟩ (gP_nil) hK rfl hl.1 rfl (Nat.le_of_ble_eq_true rfl) dX6_count_181 ⟨Nat.le_of_ble_eq_true rfl, Nat.le_of_ble_eq_true rfl⟩ 184 rfl ?_
    refine z_ifb_eq C dX6_count_184 202 187 (by decide) rfl (fun c184 => ?_) (fun c184 => ?_)
    · skip
      simp only [decide_eq_true_eq, decide_eq_false_iff_not] at c184
      refine z_bipush C dX6_count_202 (by decide) 204 rfl ?_
      exact z_ri C dX6_count_204 (by unfold cntR; rw [if_neg (by omega), if_neg (by omega), if_neg (by omega), if_neg (by omega), if_neg (by omega), if_neg (by omega), if_neg (by omega), if_neg (by omega), if_neg (by omega), if_neg (by omega), if_neg (by omega), if_neg (by omega), if_neg (by omega), if_neg (by omega), if_neg (by omega), if_neg (by omega), if_neg (by omega), if_neg (by omega), if_neg (by omega)])
    · skip
      simp only [decide_eq_true_eq, decide_eq_false_iff_not] at c184
      refine z_al_n C hl dX6_count_187 0 rfl 188 rfl ?_
      refine z_get C hP hK fl_X6_7 0 rfl rfl dX6_count_188 191 rfl ?_
      refine z_bipush C dX6_count_191 (by decide) 193 rfl ?_
      refine z_il_n C hl dX6_count_193 1 rfl 194 rfl ?_
      refine z_iadd C dX6_count_194 195 rfl (122 + k) (rfl) ?_
      refine z_bipush C dX6_count_195 (by decide) 197 rfl ?_
      refine z_isub C dX6_count_197 198 rfl (107 + k) (by omega) ?_
      refine z_iaZ C (s2Z v y) hP hK 1 rfl (by omega) (by decide) (v (107 + k)) (s2_lo (by omega)) dX6_count_198 199 rfl ?_
      refine z_goto C dX6_count_199 204 (by decide) ?_
      exact z_ri C dX6_count_204 (by rcases (show k = 15 ∨ k = 16 ∨ k = 17 ∨ k = 18 by omega) with e | e | e | e <;> subst e <;> rfl)

set_option maxHeartbeats 4000000 in
set_option maxRecDepth 100000 in
theorem m_xper (l : Launch) (G : gT) (X : Nat → Nat) (kn ml : Int) (kp : Bool) (v y : Int → Int) (w : Wf v) : MR l G yX6_period cX6_period 1 (some .int) 0 [.ref (X 0)] [[moO X kn kp ml], [arI G (X 1) 258 (s2Z v y)]] ZT (.int (iI (perZ v))) := by
  refine enterR (own := RX6) (by decide +kernel) rfl (Nat.le_of_ble_eq_true rfl) ?_
  intro p e s m below meth c C hP hK hZ ls hl
  have hl : lv_has ls 1 [(0, .ref (X 0))] := hl
  refine z_iconst C dX6_period_0 1 rfl ?_
  refine z_al_n C hl dX6_period_1 0 rfl 2 rfl ?_
  refine z_get C hP hK fl_X6_7 0 rfl rfl dX6_period_2 5 rfl ?_
  refine z_bipush C dX6_period_5 (by decide) 7 rfl ?_
  refine z_iaZ C (s2Z v y) hP hK 1 rfl (by omega) (by decide) (v 123) (s2_lo (by omega)) dX6_period_7 8 rfl ?_
  refine z_imul C dX6_period_8 9 rfl (2 * v 123) (by omega) ?_
  refine z_al_n C hl dX6_period_9 0 rfl 10 rfl ?_
  refine z_get C hP hK fl_X6_7 0 rfl rfl dX6_period_10 13 rfl ?_
  refine z_bipush C dX6_period_13 (by decide) 15 rfl ?_
  refine z_iaZ C (s2Z v y) hP hK 1 rfl (by omega) (by decide) (v 124) (s2_lo (by omega)) dX6_period_15 16 rfl ?_
  refine z_imul C dX6_period_16 17 rfl (((2 * v 123) * (v 124))) (rfl) ?_
  exact z_ri C dX6_period_17 (by unfold perZ; rfl)

set_option maxHeartbeats 4000000 in
set_option maxRecDepth 100000 in
theorem m_xafloat (l : Launch) (G : gT) (X : Nat → Nat) (kn ml : Int) (kp : Bool) (v y : Int → Int) (c0 d0 : Int) (w : Wf v) (hc0 : -2147483648 ≤ c0 ∧ c0 < 2147483648) (hd0 : -2147483648 ≤ d0 ∧ d0 < 2147483648) : MR l G yX6_afloat cX6_afloat 5 (some .float) 3 [.ref (X 0), .int (iI (c0)), .int (iI (d0))] [[moO X kn kp ml], [arI G (X 1) 258 (s2Z v y)]] ZT (.float (aflF v c0 d0)) := by
  refine enterR (own := RX6) (by decide +kernel) rfl (Nat.le_of_ble_eq_true rfl) ?_
  intro p e s m below meth c C hP hK hZ ls hl
  have hl : lv_has ls 5 [(0, .ref (X 0)), (1, .int (iI (c0))), (2, .int (iI (d0)))] := hl
  refine z_il_n C hl dX6_afloat_0 1 rfl 1 rfl ?_
  refine z_SR (r := .int (iI (bZ (decide (0 ≤ c0 ∧ c0 < 36))))) (rest := []) C (m_xisCell l G c0 (by omega)) kS_X6_98 ⟨Nat.le_of_ble_eq_true rfl, Nat.le_of_ble_eq_true rfl⟩ (gP_nil) hK rfl hl.1 rfl (Nat.le_of_ble_eq_true rfl) dX6_afloat_1 ⟨Nat.le_of_ble_eq_true rfl, Nat.le_of_ble_eq_true rfl⟩ 4 rfl ?_
  refine z_ifb_eq C dX6_afloat_4 16 7 (by decide) rfl (fun c4 => ?_) (fun c4 => ?_)
  · skip
    simp only [decide_eq_true_eq, decide_eq_false_iff_not] at c4
    refine z_ldcf C qc1023 dX6_afloat_16 18 rfl ?_
    exact z_rf C dX6_afloat_18 (by unfold aflF; rw [if_neg (by omega)])
  · skip
    simp only [decide_eq_true_eq, decide_eq_false_iff_not] at c4
    refine z_il_n C hl dX6_afloat_7 2 rfl 8 rfl ?_
    refine z_iconst C dX6_afloat_8 9 rfl ?_
    refine z_iconst C dX6_afloat_9 10 rfl ?_
    refine z_SR (r := .int (iI (bZ (decide (1 ≤ d0 ∧ d0 ≤ 3))))) (rest := []) C (m_xin l G d0 1 3 (by omega) (by omega) (by omega)) kS_X6_35 ⟨Nat.le_of_ble_eq_true rfl, Nat.le_of_ble_eq_true rfl⟩ (gP_nil) hK rfl hl.1 rfl (Nat.le_of_ble_eq_true rfl) dX6_afloat_10 ⟨Nat.le_of_ble_eq_true rfl, Nat.le_of_ble_eq_true rfl⟩ 13 rfl ?_
    refine z_ifb_ne C dX6_afloat_13 19 16 (by decide) rfl (fun c13 => ?_) (fun c13 => ?_)
    · skip
      simp only [decide_eq_true_eq, decide_eq_false_iff_not] at c13
      refine z_iconst C dX6_afloat_19 20 rfl ?_
      refine z_is_n C hl dX6_afloat_20 21 rfl (by decide) (lv' := [(3, .int (iI (0))), (0, .ref (X 0)), (1, .int (iI (c0))), (2, .int (iI (d0)))]) rfl (fun ls hl => ?_)
      refine z_iconst C dX6_afloat_21 22 rfl ?_
      refine z_is C hl dX6_afloat_22 24 rfl (by decide) (lv' := [(4, .int (iI (0))), (3, .int (iI (0))), (0, .ref (X 0)), (1, .int (iI (c0))), (2, .int (iI (d0)))]) rfl (fun ls hl => ?_)
      have L24 : ∀ (fu : Nat) (g : Int) (t : Int) (h1 : 0 ≤ t ∧ t ≤ 24) (h9 : t ≤ perZ v) (h2 : g = sumN (fun t => bZ (wetB v c0 d0 t)) t.toNat) (hm : 24 - t < (fu : Int)) (ls : Array Slot) (hl : lv_has ls 5 [(4, .int (iI (t))), (3, .int (iI (g))), (2, .int (iI (d0))), (1, .int (iI (c0))), (0, .ref (X 0))]), W p l e (rmN 3) s m [.ref (X 0), .int (iI (c0)), .int (iI (d0))].toArray below meth c s.heap [] 0 0 (MQ below (QR (.float (aflF v c0 d0))) [.ref (X 0), .int (iI (c0)), .int (iI (d0))].toArray s 0 0 (fun _ => False)) (F0 m 24 ls []) := by
        intro fu
        induction fu with
        | zero => intro g t h1 h9 h2 hm ls hl; exfalso; omega
        | succ fu ih =>
          intro g t h1 h9 h2 hm ls hl
          have ih24 := ih
          refine z_il C hl dX6_afloat_24 0 rfl 26 rfl ?_
          refine z_al_n C hl dX6_afloat_26 4 rfl 27 rfl ?_
          refine z_VR (r := .int (iI (perZ v))) (rest := [.int (iI (t))]) C (m_xper l G X kn ml kp v y  w ) kV_X6_184 ⟨Nat.le_of_ble_eq_true rfl, Nat.le_of_ble_eq_true rfl⟩ hP hK 0 rfl rfl rfl hl.1 rfl (Nat.le_of_ble_eq_true rfl) dX6_afloat_27 ⟨Nat.le_of_ble_eq_true rfl, Nat.le_of_ble_eq_true rfl⟩ 30 rfl ?_
          have r27 := perZ_rng w
          refine z_icmp_ge C dX6_afloat_30 59 33 (by decide) rfl (by omega) (fun c30 => ?_) (fun c30 => ?_)
          · skip
            have hf := afn_rng w c0 d0
            have hff : g = afnZ v c0 d0 := by rw [h2, show t = perZ v by omega]; rfl
            refine z_il_n C hl dX6_afloat_59 1 rfl 60 rfl ?_
            refine z_i2f C dX6_afloat_60 61 rfl ?_
            refine z_al_n C hl dX6_afloat_61 4 rfl 62 rfl ?_
            refine z_VR (r := .int (iI (perZ v))) (rest := [.float (FP.i2f (iI (g)))]) C (m_xper l G X kn ml kp v y  w ) kV_X6_184 ⟨Nat.le_of_ble_eq_true rfl, Nat.le_of_ble_eq_true rfl⟩ hP hK 0 rfl rfl rfl hl.1 rfl (Nat.le_of_ble_eq_true rfl) dX6_afloat_62 ⟨Nat.le_of_ble_eq_true rfl, Nat.le_of_ble_eq_true rfl⟩ 65 rfl ?_
            have r62 := perZ_rng w
            refine z_i2f C dX6_afloat_65 66 rfl ?_
            refine z_fdiv C dX6_afloat_66 (fdZ (by omega) (by omega)) 67 rfl ?_
            exact z_rf C dX6_afloat_67 (by rw [hff]; unfold aflF; rw [if_pos ⟨by omega, by omega⟩])
          · skip
            refine z_il_n C hl dX6_afloat_33 1 rfl 34 rfl ?_
            refine z_al_n C hl dX6_afloat_34 4 rfl 35 rfl ?_
            refine z_iconst C dX6_afloat_35 36 rfl ?_
            refine z_il_n C hl dX6_afloat_36 3 rfl 37 rfl ?_
            refine z_il_n C hl dX6_afloat_37 2 rfl 38 rfl ?_
            refine z_il C hl dX6_afloat_38 0 rfl 40 rfl ?_
            refine z_VR (r := .int (iI (bZ (wetB v c0 d0 t)))) (rest := [.int (iI (g))]) C (m_xfloats l G X kn ml kp (s2Z v y) 0 v c0 d0 t w (by omega) (s2_0 v y) (by omega) (by omega) (by omega)) kV_X6_57 ⟨Nat.le_of_ble_eq_true rfl, Nat.le_of_ble_eq_true rfl⟩ hP hK 0 rfl rfl rfl hl.1 rfl (Nat.le_of_ble_eq_true rfl) dX6_afloat_40 ⟨Nat.le_of_ble_eq_true rfl, Nat.le_of_ble_eq_true rfl⟩ 43 rfl ?_
            refine z_ifb_eq C dX6_afloat_43 50 46 (by decide) rfl (fun c43 => ?_) (fun c43 => ?_)
            · skip
              refine z_iconst C dX6_afloat_50 51 rfl ?_
              refine z_iadd C dX6_afloat_51 52 rfl (g) (by omega) ?_
              refine z_is_n C hl dX6_afloat_52 53 rfl (by decide) (lv' := [(3, .int (iI (g))), (4, .int (iI (t))), (2, .int (iI (d0))), (1, .int (iI (c0))), (0, .ref (X 0))]) rfl (fun ls hl => ?_)
              refine z_iinc C hl dX6_afloat_53 56 rfl 1 rfl (z := 1 + t) (by omega) (by decide) (lv' := [(4, .int (iI (1 + t))), (3, .int (iI (g))), (2, .int (iI (d0))), (1, .int (iI (c0))), (0, .ref (X 0))]) rfl (fun ls hl => ?_)
              refine z_goto C dX6_afloat_56 24 (by decide) ?_
              exact ih24 g (1 + t) (by omega) (by have := perZ_rng w; omega) (by rw [sumN_s (by omega), ← h2]; simp only [c43]; show _ = g + bZ _; unfold bZ; simp; try omega) (by omega) ls (lv_sub hl [0, 1, 2, 3, 4] rfl)
            · skip
              refine z_iconst C dX6_afloat_46 47 rfl ?_
              refine z_goto C dX6_afloat_47 51 (by decide) ?_
              refine z_iadd C dX6_afloat_51 52 rfl (1 + g) (by omega) ?_
              refine z_is_n C hl dX6_afloat_52 53 rfl (by decide) (lv' := [(3, .int (iI (1 + g))), (4, .int (iI (t))), (2, .int (iI (d0))), (1, .int (iI (c0))), (0, .ref (X 0))]) rfl (fun ls hl => ?_)
              refine z_iinc C hl dX6_afloat_53 56 rfl 1 rfl (z := 1 + t) (by omega) (by decide) (lv' := [(4, .int (iI (1 + t))), (3, .int (iI (1 + g))), (2, .int (iI (d0))), (1, .int (iI (c0))), (0, .ref (X 0))]) rfl (fun ls hl => ?_)
              refine z_goto C dX6_afloat_56 24 (by decide) ?_
              exact ih24 (1 + g) (1 + t) (by omega) (by have := perZ_rng w; omega) (by rw [sumN_s (by omega), ← h2]; simp only [c43]; show _ = g + bZ _; unfold bZ; simp; try omega) (by omega) ls (lv_sub hl [0, 1, 2, 3, 4] rfl)
      exact L24 (Int.toNat (24 - 0) + 1) 0 0 (by omega) (by have := perZ_rng w; omega) (rfl) (by omega) ls (lv_sub hl [0, 1, 4, 3, 2] rfl)
    · skip
      simp only [decide_eq_true_eq, decide_eq_false_iff_not] at c13
      refine z_ldcf C qc1023 dX6_afloat_16 18 rfl ?_
      exact z_rf C dX6_afloat_18 (by unfold aflF; rw [if_neg (by omega)])

set_option maxHeartbeats 4000000 in
set_option maxRecDepth 100000 in
theorem m_xflo (l : Launch) (G : gT) (X : Nat → Nat) (kn ml : Int) (kp : Bool) (v y : Int → Int) (b : Int) (w : Wf v) (hb : -2147483648 ≤ b ∧ b < 2147483648) : MR l G yX6_floatsIn cX6_floatsIn 3 (some .int) 3 [.ref (X 0), .int (iI (b))] [[moO X kn kp ml], [arI G (X 1) 258 (s2Z v y)]] ZT (.int (iI (floR v b))) := by
  refine enterR (own := RX6) (by decide +kernel) rfl (Nat.le_of_ble_eq_true rfl) ?_
  intro p e s m below meth c C hP hK hZ ls hl
  have hl : lv_has ls 3 [(0, .ref (X 0)), (1, .int (iI (b)))] := hl
  have hn := w.n
  have ht := w.t
  refine z_al_n C hl dX6_floatsIn_0 0 rfl 1 rfl ?_
  refine z_iconst C dX6_floatsIn_1 2 rfl ?_
  refine z_il_n C hl dX6_floatsIn_2 1 rfl 3 rfl ?_
  refine z_VR (r := .int (iI (bZ (decide (0 ≤ b ∧ b < v 127))))) (rest := []) C (m_xisBoat l G X kn ml kp (s2Z v y) 0 v b w (by omega) (s2_0 v y) (by omega)) kV_X6_104 ⟨Nat.le_of_ble_eq_true rfl, Nat.le_of_ble_eq_true rfl⟩ hP hK 0 rfl rfl rfl hl.1 rfl (Nat.le_of_ble_eq_true rfl) dX6_floatsIn_3 ⟨Nat.le_of_ble_eq_true rfl, Nat.le_of_ble_eq_true rfl⟩ 6 rfl ?_
  refine z_ifb_ne C dX6_floatsIn_6 11 9 (by decide) rfl (fun c6 => ?_) (fun c6 => ?_)
  · skip
    simp only [decide_eq_true_eq, decide_eq_false_iff_not] at c6
    have hw := w.b b (by omega)
    have hbb := w.bb b (by omega)
    refine z_al_n C hl dX6_floatsIn_11 0 rfl 12 rfl ?_
    refine z_iconst C dX6_floatsIn_12 13 rfl ?_
    refine z_il_n C hl dX6_floatsIn_13 1 rfl 14 rfl ?_
    refine z_iconst C dX6_floatsIn_14 15 rfl ?_
    refine z_VR (r := .int (iI (v (74 + 5 * b)))) (rest := []) C (m_xits l G X kn ml kp (s2Z v y) 0 v b 2 (74 + 5 * b)  (by omega) (s2_0 v y) (by omega) (by omega)) kV_X6_68 ⟨Nat.le_of_ble_eq_true rfl, Nat.le_of_ble_eq_true rfl⟩ hP hK 0 rfl rfl rfl hl.1 rfl (Nat.le_of_ble_eq_true rfl) dX6_floatsIn_15 ⟨Nat.le_of_ble_eq_true rfl, Nat.le_of_ble_eq_true rfl⟩ 18 rfl ?_
    refine z_if_eq C dX6_floatsIn_18 24 21 (by decide) rfl (by omega) (fun c18 => ?_) (fun c18 => ?_)
    · skip
      refine z_iconst C dX6_floatsIn_24 25 rfl ?_
      refine z_is_n C hl dX6_floatsIn_25 26 rfl (by decide) (lv' := [(2, .int (iI (0))), (0, .ref (X 0)), (1, .int (iI (b)))]) rfl (fun ls hl => ?_)
      have L26 : ∀ (fu : Nat) (k : Int) (h1 : 0 ≤ k ∧ k ≤ 24) (h9 : k ≤ perZ v) (h2 : firN v (v (75 + 5 * b)) (v (73 + 5 * b)) (v 126) (perZ v - k).toNat k = floR v b) (hm : 24 - k < (fu : Int)) (ls : Array Slot) (hl : lv_has ls 3 [(2, .int (iI (k))), (1, .int (iI (b))), (0, .ref (X 0))]), W p l e (rmN 3) s m [.ref (X 0), .int (iI (b))].toArray below meth c s.heap [] 0 0 (MQ below (QR (.int (iI (floR v b)))) [.ref (X 0), .int (iI (b))].toArray s 0 0 (fun _ => False)) (F0 m 26 ls []) := by
        intro fu
        induction fu with
        | zero => intro k h1 h9 h2 hm ls hl; exfalso; omega
        | succ fu ih =>
          intro k h1 h9 h2 hm ls hl
          have ih26 := ih
          refine z_il_n C hl dX6_floatsIn_26 0 rfl 27 rfl ?_
          refine z_al_n C hl dX6_floatsIn_27 2 rfl 28 rfl ?_
          refine z_VR (r := .int (iI (perZ v))) (rest := [.int (iI (k))]) C (m_xper l G X kn ml kp v y  w ) kV_X6_184 ⟨Nat.le_of_ble_eq_true rfl, Nat.le_of_ble_eq_true rfl⟩ hP hK 0 rfl rfl rfl hl.1 rfl (Nat.le_of_ble_eq_true rfl) dX6_floatsIn_28 ⟨Nat.le_of_ble_eq_true rfl, Nat.le_of_ble_eq_true rfl⟩ 31 rfl ?_
          have r28 := perZ_rng w
          refine z_icmp_ge C dX6_floatsIn_31 73 34 (by decide) rfl (by omega) (fun c31 => ?_) (fun c31 => ?_)
          · skip
            refine z_bipush C dX6_floatsIn_73 (by decide) 75 rfl ?_
            exact z_ri C dX6_floatsIn_75 (by rw [← h2, firN_0 (by omega)])
          · skip
            refine z_al_n C hl dX6_floatsIn_34 2 rfl 35 rfl ?_
            refine z_iconst C dX6_floatsIn_35 36 rfl ?_
            refine z_al_n C hl dX6_floatsIn_36 2 rfl 37 rfl ?_
            refine z_iconst C dX6_floatsIn_37 38 rfl ?_
            refine z_il_n C hl dX6_floatsIn_38 1 rfl 39 rfl ?_
            refine z_iconst C dX6_floatsIn_39 40 rfl ?_
            refine z_VR (r := .int (iI (v (75 + 5 * b)))) (rest := [.int (iI (0)), .ref (X 0)]) C (m_xits l G X kn ml kp (s2Z v y) 0 v b 3 (75 + 5 * b)  (by omega) (s2_0 v y) (by omega) (by omega)) kV_X6_68 ⟨Nat.le_of_ble_eq_true rfl, Nat.le_of_ble_eq_true rfl⟩ hP hK 0 rfl rfl rfl hl.1 rfl (Nat.le_of_ble_eq_true rfl) dX6_floatsIn_40 ⟨Nat.le_of_ble_eq_true rfl, Nat.le_of_ble_eq_true rfl⟩ 43 rfl ?_
            refine z_al_n C hl dX6_floatsIn_43 2 rfl 44 rfl ?_
            refine z_iconst C dX6_floatsIn_44 45 rfl ?_
            refine z_il_n C hl dX6_floatsIn_45 1 rfl 46 rfl ?_
            refine z_iconst C dX6_floatsIn_46 47 rfl ?_
            refine z_VR (r := .int (iI (v (73 + 5 * b)))) (rest := [.int (iI (v (75 + 5 * b))), .int (iI (0)), .ref (X 0)]) C (m_xits l G X kn ml kp (s2Z v y) 0 v b 1 (73 + 5 * b)  (by omega) (s2_0 v y) (by omega) (by omega)) kV_X6_68 ⟨Nat.le_of_ble_eq_true rfl, Nat.le_of_ble_eq_true rfl⟩ hP hK 0 rfl rfl rfl hl.1 rfl (Nat.le_of_ble_eq_true rfl) dX6_floatsIn_47 ⟨Nat.le_of_ble_eq_true rfl, Nat.le_of_ble_eq_true rfl⟩ 50 rfl ?_
            refine z_al_n C hl dX6_floatsIn_50 2 rfl 51 rfl ?_
            refine z_get C hP hK fl_X6_7 0 rfl rfl dX6_floatsIn_51 54 rfl ?_
            refine z_bipush C dX6_floatsIn_54 (by decide) 56 rfl ?_
            refine z_iaZ C (s2Z v y) hP hK 1 rfl (by omega) (by decide) (v 126) (s2_lo (by omega)) dX6_floatsIn_56 57 rfl ?_
            refine z_il_n C hl dX6_floatsIn_57 0 rfl 58 rfl ?_
            refine z_iadd C dX6_floatsIn_58 59 rfl (k + v 126) (by omega) ?_
            refine z_VR (r := .int (iI (bZ (wetB v (v (75 + 5 * b)) (v (73 + 5 * b)) (k + v 126))))) (rest := []) C (m_xfloats l G X kn ml kp (s2Z v y) 0 v (v (75 + 5 * b)) (v (73 + 5 * b)) (k + v 126) w (by omega) (s2_0 v y) (by omega) (by omega) (by omega)) kV_X6_57 ⟨Nat.le_of_ble_eq_true rfl, Nat.le_of_ble_eq_true rfl⟩ hP hK 0 rfl rfl rfl hl.1 rfl (Nat.le_of_ble_eq_true rfl) dX6_floatsIn_59 ⟨Nat.le_of_ble_eq_true rfl, Nat.le_of_ble_eq_true rfl⟩ 62 rfl ?_
            refine z_ifb_eq C dX6_floatsIn_62 67 65 (by decide) rfl (fun c62 => ?_) (fun c62 => ?_)
            · skip
              refine z_iinc C hl dX6_floatsIn_67 70 rfl 0 rfl (z := 1 + k) (by omega) (by decide) (lv' := [(2, .int (iI (1 + k))), (1, .int (iI (b))), (0, .ref (X 0))]) rfl (fun ls hl => ?_)
              refine z_goto C dX6_floatsIn_70 26 (by decide) ?_
              exact ih26 (1 + k) (by omega) (by have := perZ_rng w; omega) (by rw [← h2, firN_1 (n := perZ v - k) (by omega), if_neg (by rw [c62]; decide), show perZ v - k - 1 = perZ v - (1 + k) by omega]) (by omega) ls (lv_sub hl [0, 1, 2] rfl)
            · skip
              refine z_il_n C hl dX6_floatsIn_65 0 rfl 66 rfl ?_
              exact z_ri C dX6_floatsIn_66 (by rw [← h2, firN_1 (n := perZ v - k) (by omega), if_pos c62])
      exact L26 (Int.toNat (24 - 0) + 1) 0 (by omega) (by have := perZ_rng w; omega) (by unfold floR; rw [if_neg (by omega), if_neg (by unfold onB; rw [decide_eq_true c18]; decide), Int.sub_zero]) (by omega) ls (lv_sub hl [0, 2, 1] rfl)
    · skip
      refine z_bipush C dX6_floatsIn_21 (by decide) 23 rfl ?_
      exact z_ri C dX6_floatsIn_23 (by unfold floR; rw [if_neg (by omega), if_pos (by unfold onB; exact decide_eq_false c18)])
  · skip
    simp only [decide_eq_true_eq, decide_eq_false_iff_not] at c6
    refine z_iconst C dX6_floatsIn_9 10 rfl ?_
    exact z_ri C dX6_floatsIn_10 (by unfold floR; rw [if_pos (by omega)])

set_option maxHeartbeats 4000000 in
set_option maxRecDepth 100000 in
theorem m_xdan (l : Launch) (G : gT) (X : Nat → Nat) (kn ml : Int) (kp : Bool) (v y : Int → Int) (q : Int) (w : Wf v) (hq : -2147483648 ≤ q ∧ q < 2147483648) : MR l G yX6_inDanger cX6_inDanger 5 (some .int) 4 [.ref (X 0), .int (iI (q))] [[moO X kn kp ml], [arI G (X 1) 258 (s2Z v y)]] ZT (.int (danR v q)) := by
  refine enterR (own := RX6) (by decide +kernel) rfl (Nat.le_of_ble_eq_true rfl) ?_
  intro p e s m below meth c C hP hK hZ ls hl
  have hl : lv_has ls 5 [(0, .ref (X 0)), (1, .int (iI (q)))] := hl
  have hn := w.n
  have ht := w.t
  refine z_il_n C hl dX6_inDanger_0 1 rfl 1 rfl ?_
  refine z_iconst C dX6_inDanger_1 2 rfl ?_
  refine z_iconst C dX6_inDanger_2 3 rfl ?_
  refine z_SR (r := .int (iI (bZ (decide (0 ≤ q ∧ q ≤ 1))))) (rest := []) C (m_xin l G q 0 1 (by omega) (by omega) (by omega)) kS_X6_35 ⟨Nat.le_of_ble_eq_true rfl, Nat.le_of_ble_eq_true rfl⟩ (gP_nil) hK rfl hl.1 rfl (Nat.le_of_ble_eq_true rfl) dX6_inDanger_3 ⟨Nat.le_of_ble_eq_true rfl, Nat.le_of_ble_eq_true rfl⟩ 6 rfl ?_
  refine z_ifb_ne C dX6_inDanger_6 11 9 (by decide) rfl (fun c6 => ?_) (fun c6 => ?_)
  · skip
    simp only [decide_eq_true_eq, decide_eq_false_iff_not] at c6
    refine z_iconst C dX6_inDanger_11 12 rfl ?_
    refine z_top (b := .int (danN v q (Int.toNat 0))) rfl ?_
    refine z_is_n C hl dX6_inDanger_12 13 rfl (by decide) (lv' := [(2, .int (danN v q (Int.toNat 0))), (0, .ref (X 0)), (1, .int (iI (q)))]) rfl (fun ls hl => ?_)
    refine z_iconst C dX6_inDanger_13 14 rfl ?_
    refine z_is_n C hl dX6_inDanger_14 15 rfl (by decide) (lv' := [(3, .int (iI (0))), (2, .int (danN v q (Int.toNat 0))), (0, .ref (X 0)), (1, .int (iI (q)))]) rfl (fun ls hl => ?_)
    have L15 : ∀ (fu : Nat) (k : Int) (h1 : 0 ≤ k ∧ k ≤ v 127) (h2 : k = 0 ∨ overB v = false) (hm : v 127 - k < (fu : Int)) (ls : Array Slot) (hl : lv_has ls 5 [(3, .int (iI (k))), (2, .int (danN v q k.toNat)), (1, .int (iI (q))), (0, .ref (X 0))]), W p l e (rmN 4) s m [.ref (X 0), .int (iI (q))].toArray below meth c s.heap [] 0 0 (MQ below (QR (.int (danR v q))) [.ref (X 0), .int (iI (q))].toArray s 0 0 (fun _ => False)) (F0 m 15 ls []) := by
      intro fu
      induction fu with
      | zero => intro k h1 h2 hm ls hl; exfalso; omega
      | succ fu ih =>
        intro k h1 h2 hm ls hl
        have ih15 := ih
        refine z_il_n C hl dX6_inDanger_15 0 rfl 16 rfl ?_
        refine z_al_n C hl dX6_inDanger_16 3 rfl 17 rfl ?_
        refine z_get C hP hK fl_X6_7 0 rfl rfl dX6_inDanger_17 20 rfl ?_
        refine z_bipush C dX6_inDanger_20 (by decide) 22 rfl ?_
        refine z_iaZ C (s2Z v y) hP hK 1 rfl (by omega) (by decide) (v 127) (s2_lo (by omega)) dX6_inDanger_22 23 rfl ?_
        refine z_icmp_ge C dX6_inDanger_23 112 26 (by decide) rfl (by omega) (fun c23 => ?_) (fun c23 => ?_)
        · skip
          refine z_il_n C hl dX6_inDanger_112 1 rfl 113 rfl ?_
          exact z_ri32 C dX6_inDanger_113 (by unfold danR; rw [if_neg (by omega)]; exact dan_end h2 (by omega))
        · skip
          have hk := w.b k (by omega)
          have hkb := w.bb k (by omega)
          refine z_al_n C hl dX6_inDanger_26 3 rfl 27 rfl ?_
          refine z_iconst C dX6_inDanger_27 28 rfl ?_
          refine z_VR (r := .int (iI (bZ (overB v)))) (rest := []) C (m_xover l G X kn ml kp (s2Z v y) 0 v  w (by omega) (s2_0 v y) ) kV_X6_81 ⟨Nat.le_of_ble_eq_true rfl, Nat.le_of_ble_eq_true rfl⟩ hP hK 0 rfl rfl rfl hl.1 rfl (Nat.le_of_ble_eq_true rfl) dX6_inDanger_28 ⟨Nat.le_of_ble_eq_true rfl, Nat.le_of_ble_eq_true rfl⟩ 31 rfl ?_
          refine z_ifb_ne C dX6_inDanger_31 112 34 (by decide) rfl (fun c31 => ?_) (fun c31 => ?_)
          · skip
            refine z_il_n C hl dX6_inDanger_112 1 rfl 113 rfl ?_
            exact z_ri32 C dX6_inDanger_113 (by unfold danR; rw [if_neg (by omega), if_pos c31, show k = 0 from h2.resolve_right (by rw [c31]; decide)]; rfl)
          · skip
            refine z_al_n C hl dX6_inDanger_34 3 rfl 35 rfl ?_
            refine z_iconst C dX6_inDanger_35 36 rfl ?_
            refine z_il_n C hl dX6_inDanger_36 0 rfl 37 rfl ?_
            refine z_iconst C dX6_inDanger_37 38 rfl ?_
            refine z_VR (r := .int (iI (v (74 + 5 * k)))) (rest := []) C (m_xits l G X kn ml kp (s2Z v y) 0 v k 2 (74 + 5 * k)  (by omega) (s2_0 v y) (by omega) (by omega)) kV_X6_68 ⟨Nat.le_of_ble_eq_true rfl, Nat.le_of_ble_eq_true rfl⟩ hP hK 0 rfl rfl rfl hl.1 rfl (Nat.le_of_ble_eq_true rfl) dX6_inDanger_38 ⟨Nat.le_of_ble_eq_true rfl, Nat.le_of_ble_eq_true rfl⟩ 41 rfl ?_
            refine z_if_ne C dX6_inDanger_41 59 44 (by decide) rfl (by omega) (fun c41 => ?_) (fun c41 => ?_)
            · skip
              refine z_iconst C dX6_inDanger_59 60 rfl ?_
              refine z_is C hl dX6_inDanger_60 62 rfl (by decide) (lv' := [(4, .int (iI (0))), (3, .int (iI (k))), (2, .int (danN v q k.toNat)), (1, .int (iI (q))), (0, .ref (X 0))]) rfl (fun ls hl => ?_)
              refine z_il_n C hl dX6_inDanger_62 2 rfl 63 rfl ?_
              refine z_il C hl dX6_inDanger_63 0 rfl 65 rfl ?_
              refine z_if_eq C dX6_inDanger_65 103 68 (by decide) rfl (by omega) (fun c65 => ?_) (fun c65 => ?_)
              · skip
                refine z_iconst C dX6_inDanger_103 104 rfl ?_
                refine z_ior C dX6_inDanger_104 105 rfl ?_
                refine z_top (b := .int (danN v q (1 + k).toNat)) (congrArg Value.int (by rw [or0, danN_s h1.1, if_neg (fun z => by have h9 := z.2; simp [hitB, onB, c41] at h9)])) ?_
                refine z_is_n C hl dX6_inDanger_105 106 rfl (by decide) (lv' := [(2, .int (danN v q (1 + k).toNat)), (4, .int (iI (0))), (3, .int (iI (k))), (1, .int (iI (q))), (0, .ref (X 0))]) rfl (fun ls hl => ?_)
                refine z_iinc C hl dX6_inDanger_106 109 rfl 2 rfl (z := 1 + k) (by omega) (by decide) (lv' := [(3, .int (iI (1 + k))), (2, .int (danN v q (1 + k).toNat)), (4, .int (iI (0))), (1, .int (iI (q))), (0, .ref (X 0))]) rfl (fun ls hl => ?_)
                refine z_goto C dX6_inDanger_109 15 (by decide) ?_
                exact ih15 (1 + k) (by omega) (Or.inr c31) (by omega) ls (lv_sub hl [0, 1, 3, 4] rfl)
              · exfalso; omega
            · skip
              refine z_al_n C hl dX6_inDanger_44 3 rfl 45 rfl ?_
              refine z_iconst C dX6_inDanger_45 46 rfl ?_
              refine z_il_n C hl dX6_inDanger_46 0 rfl 47 rfl ?_
              refine z_iconst C dX6_inDanger_47 48 rfl ?_
              refine z_VR (r := .int (iI (v (72 + 5 * k)))) (rest := []) C (m_xits l G X kn ml kp (s2Z v y) 0 v k 0 (72 + 5 * k)  (by omega) (s2_0 v y) (by omega) (by omega)) kV_X6_68 ⟨Nat.le_of_ble_eq_true rfl, Nat.le_of_ble_eq_true rfl⟩ hP hK 0 rfl rfl rfl hl.1 rfl (Nat.le_of_ble_eq_true rfl) dX6_inDanger_48 ⟨Nat.le_of_ble_eq_true rfl, Nat.le_of_ble_eq_true rfl⟩ 51 rfl ?_
              refine z_il_n C hl dX6_inDanger_51 2 rfl 52 rfl ?_
              refine z_icmp_ne C dX6_inDanger_52 59 55 (by decide) rfl (by omega) (fun c52 => ?_) (fun c52 => ?_)
              · skip
                refine z_iconst C dX6_inDanger_59 60 rfl ?_
                refine z_is C hl dX6_inDanger_60 62 rfl (by decide) (lv' := [(4, .int (iI (0))), (3, .int (iI (k))), (2, .int (danN v q k.toNat)), (1, .int (iI (q))), (0, .ref (X 0))]) rfl (fun ls hl => ?_)
                refine z_il_n C hl dX6_inDanger_62 2 rfl 63 rfl ?_
                refine z_il C hl dX6_inDanger_63 0 rfl 65 rfl ?_
                refine z_if_eq C dX6_inDanger_65 103 68 (by decide) rfl (by omega) (fun c65 => ?_) (fun c65 => ?_)
                · skip
                  refine z_iconst C dX6_inDanger_103 104 rfl ?_
                  refine z_ior C dX6_inDanger_104 105 rfl ?_
                  refine z_top (b := .int (danN v q (1 + k).toNat)) (congrArg Value.int (by rw [or0, danN_s h1.1, if_neg (fun z => c52 z.1)])) ?_
                  refine z_is_n C hl dX6_inDanger_105 106 rfl (by decide) (lv' := [(2, .int (danN v q (1 + k).toNat)), (4, .int (iI (0))), (3, .int (iI (k))), (1, .int (iI (q))), (0, .ref (X 0))]) rfl (fun ls hl => ?_)
                  refine z_iinc C hl dX6_inDanger_106 109 rfl 2 rfl (z := 1 + k) (by omega) (by decide) (lv' := [(3, .int (iI (1 + k))), (2, .int (danN v q (1 + k).toNat)), (4, .int (iI (0))), (1, .int (iI (q))), (0, .ref (X 0))]) rfl (fun ls hl => ?_)
                  refine z_goto C dX6_inDanger_109 15 (by decide) ?_
                  exact ih15 (1 + k) (by omega) (Or.inr c31) (by omega) ls (lv_sub hl [0, 1, 3, 4] rfl)
                · exfalso; omega
              · skip
                refine z_iconst C dX6_inDanger_55 56 rfl ?_
                refine z_goto C dX6_inDanger_56 60 (by decide) ?_
                refine z_is C hl dX6_inDanger_60 62 rfl (by decide) (lv' := [(4, .int (iI (1))), (3, .int (iI (k))), (2, .int (danN v q k.toNat)), (1, .int (iI (q))), (0, .ref (X 0))]) rfl (fun ls hl => ?_)
                refine z_il_n C hl dX6_inDanger_62 2 rfl 63 rfl ?_
                refine z_il C hl dX6_inDanger_63 0 rfl 65 rfl ?_
                refine z_if_eq C dX6_inDanger_65 103 68 (by decide) rfl (by omega) (fun c65 => ?_) (fun c65 => ?_)
                · exfalso; omega
                · skip
                  refine z_al_n C hl dX6_inDanger_68 4 rfl 69 rfl ?_
                  refine z_iconst C dX6_inDanger_69 70 rfl ?_
                  refine z_al_n C hl dX6_inDanger_70 4 rfl 71 rfl ?_
                  refine z_iconst C dX6_inDanger_71 72 rfl ?_
                  refine z_il_n C hl dX6_inDanger_72 1 rfl 73 rfl ?_
                  refine z_iconst C dX6_inDanger_73 74 rfl ?_
                  refine z_VR (r := .int (iI (v (75 + 5 * k)))) (rest := [.int (iI (0)), .ref (X 0), .int (danN v q k.toNat)]) C (m_xits l G X kn ml kp (s2Z v y) 0 v k 3 (75 + 5 * k)  (by omega) (s2_0 v y) (by omega) (by omega)) kV_X6_68 ⟨Nat.le_of_ble_eq_true rfl, Nat.le_of_ble_eq_true rfl⟩ hP hK 0 rfl rfl rfl hl.1 rfl (Nat.le_of_ble_eq_true rfl) dX6_inDanger_74 ⟨Nat.le_of_ble_eq_true rfl, Nat.le_of_ble_eq_true rfl⟩ 77 rfl ?_
                  refine z_al_n C hl dX6_inDanger_77 4 rfl 78 rfl ?_
                  refine z_iconst C dX6_inDanger_78 79 rfl ?_
                  refine z_il_n C hl dX6_inDanger_79 1 rfl 80 rfl ?_
                  refine z_iconst C dX6_inDanger_80 81 rfl ?_
                  refine z_VR (r := .int (iI (v (73 + 5 * k)))) (rest := [.int (iI (v (75 + 5 * k))), .int (iI (0)), .ref (X 0), .int (danN v q k.toNat)]) C (m_xits l G X kn ml kp (s2Z v y) 0 v k 1 (73 + 5 * k)  (by omega) (s2_0 v y) (by omega) (by omega)) kV_X6_68 ⟨Nat.le_of_ble_eq_true rfl, Nat.le_of_ble_eq_true rfl⟩ hP hK 0 rfl rfl rfl hl.1 rfl (Nat.le_of_ble_eq_true rfl) dX6_inDanger_81 ⟨Nat.le_of_ble_eq_true rfl, Nat.le_of_ble_eq_true rfl⟩ 84 rfl ?_
                  refine z_al_n C hl dX6_inDanger_84 4 rfl 85 rfl ?_
                  refine z_get C hP hK fl_X6_7 0 rfl rfl dX6_inDanger_85 88 rfl ?_
                  refine z_bipush C dX6_inDanger_88 (by decide) 90 rfl ?_
                  refine z_iaZ C (s2Z v y) hP hK 1 rfl (by omega) (by decide) (v 126) (s2_lo (by omega)) dX6_inDanger_90 91 rfl ?_
                  refine z_VR (r := .int (iI (bZ (wreckB v (v (75 + 5 * k)) (v (73 + 5 * k)) (v 126))))) (rest := [.int (danN v q k.toNat)]) C (m_xwrecks l G X kn ml kp (s2Z v y) 0 v (v (75 + 5 * k)) (v (73 + 5 * k)) (v 126) w (by omega) (s2_0 v y) (by omega) (by omega) (by omega)) kV_X6_101 ⟨Nat.le_of_ble_eq_true rfl, Nat.le_of_ble_eq_true rfl⟩ hP hK 0 rfl rfl rfl hl.1 rfl (Nat.le_of_ble_eq_true rfl) dX6_inDanger_91 ⟨Nat.le_of_ble_eq_true rfl, Nat.le_of_ble_eq_true rfl⟩ 94 rfl ?_
                  refine z_ifb_eq C dX6_inDanger_94 103 97 (by decide) rfl (fun c94 => ?_) (fun c94 => ?_)
                  · skip
                    refine z_iconst C dX6_inDanger_103 104 rfl ?_
                    refine z_ior C dX6_inDanger_104 105 rfl ?_
                    refine z_top (b := .int (danN v q (1 + k).toNat)) (congrArg Value.int (by rw [or0, danN_s h1.1, if_neg (fun z => by have h9 := z.2; simp [hitB, onB, c41, c94] at h9)])) ?_
                    refine z_is_n C hl dX6_inDanger_105 106 rfl (by decide) (lv' := [(2, .int (danN v q (1 + k).toNat)), (4, .int (iI (1))), (3, .int (iI (k))), (1, .int (iI (q))), (0, .ref (X 0))]) rfl (fun ls hl => ?_)
                    refine z_iinc C hl dX6_inDanger_106 109 rfl 2 rfl (z := 1 + k) (by omega) (by decide) (lv' := [(3, .int (iI (1 + k))), (2, .int (danN v q (1 + k).toNat)), (4, .int (iI (1))), (1, .int (iI (q))), (0, .ref (X 0))]) rfl (fun ls hl => ?_)
                    refine z_goto C dX6_inDanger_109 15 (by decide) ?_
                    exact ih15 (1 + k) (by omega) (Or.inr c31) (by omega) ls (lv_sub hl [0, 1, 3, 4] rfl)
                  · skip
                    refine z_iconst C dX6_inDanger_97 98 rfl ?_
                    refine z_il_n C hl dX6_inDanger_98 1 rfl 99 rfl ?_
                    refine z_ishl C dX6_inDanger_99 100 rfl ?_
                    refine z_goto C dX6_inDanger_100 104 (by decide) ?_
                    refine z_ior C dX6_inDanger_104 105 rfl ?_
                    refine z_top (b := .int (danN v q (1 + k).toNat)) (congrArg Value.int (by rw [danN_s h1.1, if_pos ⟨c52, by simp [hitB, onB, c41, c94]⟩])) ?_
                    refine z_is_n C hl dX6_inDanger_105 106 rfl (by decide) (lv' := [(2, .int (danN v q (1 + k).toNat)), (4, .int (iI (1))), (3, .int (iI (k))), (1, .int (iI (q))), (0, .ref (X 0))]) rfl (fun ls hl => ?_)
                    refine z_iinc C hl dX6_inDanger_106 109 rfl 2 rfl (z := 1 + k) (by omega) (by decide) (lv' := [(3, .int (iI (1 + k))), (2, .int (danN v q (1 + k).toNat)), (4, .int (iI (1))), (1, .int (iI (q))), (0, .ref (X 0))]) rfl (fun ls hl => ?_)
                    refine z_goto C dX6_inDanger_109 15 (by decide) ?_
                    exact ih15 (1 + k) (by omega) (Or.inr c31) (by omega) ls (lv_sub hl [0, 1, 3, 4] rfl)
    exact L15 (Int.toNat (v 127 - 0) + 1) 0 (by omega) (Or.inl rfl) (by omega) ls (lv_sub hl [0, 1, 3, 2] rfl)
  · skip
    simp only [decide_eq_true_eq, decide_eq_false_iff_not] at c6
    refine z_iconst C dX6_inDanger_9 10 rfl ?_
    exact z_ri32 C dX6_inDanger_10 (by unfold danR; rw [if_pos (by omega)])
