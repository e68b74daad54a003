set_option maxHeartbeats 4000000 in
set_option maxRecDepth 100000 in
theorem m_errorOfMove (l : Launch) (G : gT) (r : Nat) (q : Nat → Nat) (v : Int → Int) (b d n : Int) (w : Wf v) (hb : -2147483648 ≤ b ∧ b < 2147483648) (hd : -2147483648 ≤ d ∧ d < 2147483648) (hn : -2147483648 ≤ n ∧ n < 2147483648) : MR l G yX3_errorOfMove cX3_errorOfMove 4 (some .int) 1 [.ref (r), .int (iI (b)), .int (iI (d)), .int (iI (n))] [[(r, .inr (3, [.ref (q 0)]))], stW G q v] ZT (.int (iI (errZ v b d n))) := by
  refine enterR (own := RX3) (by decide +kernel) rfl (Nat.le_of_ble_eq_true rfl) ?_
  intro p e s m below meth c C hP hK hZ ls hl
  have hl : lv_has ls 4 [(0, .ref (r)), (1, .int (iI (b))), (2, .int (iI (d))), (3, .int (iI (n)))] := hl
  refine z_al_n C hl dX3_errorOfMove_0 0 rfl 1 rfl ?_
  refine z_get C hP hK fl_X3_9 0 rfl rfl dX3_errorOfMove_1 4 rfl ?_
  refine z_il_n C hl dX3_errorOfMove_4 1 rfl 5 rfl ?_
  refine z_VR (r := .int (iI (bZ (decide (0 ≤ b ∧ b < v 127))))) (rest := []) C (m_isBoat l G q v b w (by omega)) kV_X3_111 ⟨Nat.le_of_ble_eq_true rfl, Nat.le_of_ble_eq_true rfl⟩ (gP_rg hP [1] rfl) hK 0 rfl rfl rfl hl.1 rfl (Nat.le_of_ble_eq_true rfl) dX3_errorOfMove_5 ⟨Nat.le_of_ble_eq_true rfl, Nat.le_of_ble_eq_true rfl⟩ 8 rfl ?_
  refine z_ifb_ne C dX3_errorOfMove_8 13 11 (by decide) rfl (fun c8 => ?_) (fun c8 => ?_)
  · skip
    simp only [decide_eq_true_eq, decide_eq_false_iff_not] at c8
    refine z_il_n C hl dX3_errorOfMove_13 2 rfl 14 rfl ?_
    refine z_if_lt C dX3_errorOfMove_14 32 17 (by decide) rfl (by omega) (fun c14 => ?_) (fun c14 => ?_)
    · skip
      refine z_bipush C dX3_errorOfMove_32 (by decide) 34 rfl ?_
      exact z_ri C dX3_errorOfMove_34 (by unfold errZ; (repeat' split) <;> first | rfl | omega | (exfalso; omega))
    · skip
      refine z_il_n C hl dX3_errorOfMove_17 2 rfl 18 rfl ?_
      refine z_iconst C dX3_errorOfMove_18 19 rfl ?_
      refine z_icmp_ge C dX3_errorOfMove_19 32 22 (by decide) rfl (by omega) (fun c19 => ?_) (fun c19 => ?_)
      · skip
        refine z_bipush C dX3_errorOfMove_32 (by decide) 34 rfl ?_
        exact z_ri C dX3_errorOfMove_34 (by unfold errZ; (repeat' split) <;> first | rfl | omega | (exfalso; omega))
      · skip
        refine z_il_n C hl dX3_errorOfMove_22 3 rfl 23 rfl ?_
        refine z_iconst C dX3_errorOfMove_23 24 rfl ?_
        refine z_icmp_lt C dX3_errorOfMove_24 32 27 (by decide) rfl (by omega) (fun c24 => ?_) (fun c24 => ?_)
        · skip
          refine z_bipush C dX3_errorOfMove_32 (by decide) 34 rfl ?_
          exact z_ri C dX3_errorOfMove_34 (by unfold errZ; (repeat' split) <;> first | rfl | omega | (exfalso; omega))
        · skip
          refine z_il_n C hl dX3_errorOfMove_27 3 rfl 28 rfl ?_
          refine z_iconst C dX3_errorOfMove_28 29 rfl ?_
          refine z_icmp_le C dX3_errorOfMove_29 35 32 (by decide) rfl (by omega) (fun c29 => ?_) (fun c29 => ?_)
          · skip
            refine z_iconst C dX3_errorOfMove_35 36 rfl ?_
            exact z_ri C dX3_errorOfMove_36 (by unfold errZ; (repeat' split) <;> first | rfl | omega | (exfalso; omega))
          · skip
            refine z_bipush C dX3_errorOfMove_32 (by decide) 34 rfl ?_
            exact z_ri C dX3_errorOfMove_34 (by unfold errZ; (repeat' split) <;> first | rfl | omega | (exfalso; omega))
  · skip
    simp only [decide_eq_true_eq, decide_eq_false_iff_not] at c8
    refine z_iconst C dX3_errorOfMove_11 12 rfl ?_
    exact z_ri C dX3_errorOfMove_12 (by unfold errZ; (repeat' split) <;> first | rfl | omega | (exfalso; omega))

set_option maxHeartbeats 4000000 in
set_option maxRecDepth 100000 in
theorem m_isWayOpen (l : Launch) (G : gT) (r : Nat) (q : Nat → Nat) (v : Int → Int) (b d n : Int) (w : Wf v) (hb : 0 ≤ b ∧ b < v 127) (hd : 0 ≤ d ∧ d < 4) (hn : 1 ≤ n ∧ n ≤ 3) (hon : v (74 + 5 * b) = 0) : MR l G yX3_isWayOpen cX3_isWayOpen 9 (some .boolean) 2 [.ref (r), .int (iI (b)), .int (iI (d)), .int (iI (n))] [[(r, .inr (3, [.ref (q 0)]))], stW G q v] ZT (.int (iI (bZ (decide (wayZ v b d n ≠ -5))))) := by
  refine enterR (own := RX3) (by decide +kernel) rfl (Nat.le_of_ble_eq_true rfl) ?_
  intro p e s m below meth c C hP hK hZ ls hl
  have hl : lv_has ls 9 [(0, .ref (r)), (1, .int (iI (b))), (2, .int (iI (d))), (3, .int (iI (n)))] := hl
  have h127 := w.n
  have hw := w.b b (by omega)
  have ht := w.t
  have hbb := w.bb b hb
  have hp := harZ_c (p := v (72 + 5 * b)) (by omega)
  refine z_al_n C hl dX3_isWayOpen_0 0 rfl 1 rfl ?_
  refine z_get C hP hK fl_X3_9 0 rfl rfl dX3_isWayOpen_1 4 rfl ?_
  refine z_getN C hP hK fl_X3_59 1 rfl rfl dX3_isWayOpen_4 7 rfl ?_
  refine z_il_n C hl dX3_isWayOpen_7 1 rfl 8 rfl ?_
  refine z_NR (r := .int (iI (v (73 + 5 * b)))) (rest := []) C (m_rd l G (q 4) 10 (fun k => v (73 + 5 * k)) (b) (v (73 + 5 * b)) (by decide) (by omega) (congrArg v (by omega))) kN_X3_32 ⟨Nat.le_of_ble_eq_true rfl, Nat.le_of_ble_eq_true rfl⟩ (gP_c hP 5 rfl) hK rfl hl.1 rfl (Nat.le_of_ble_eq_true rfl) dX3_isWayOpen_8 ⟨Nat.le_of_ble_eq_true rfl, Nat.le_of_ble_eq_true rfl⟩ 11 rfl ?_
  refine z_is C hl dX3_isWayOpen_11 13 rfl (by decide) (lv' := [(4, .int (iI (v (73 + 5 * b)))), (0, .ref (r)), (1, .int (iI (b))), (2, .int (iI (d))), (3, .int (iI (n)))]) rfl (fun ls hl => ?_)
  refine z_al_n C hl dX3_isWayOpen_13 1 rfl 14 rfl ?_
  refine z_get C hP hK fl_X3_9 0 rfl rfl dX3_isWayOpen_14 17 rfl ?_
  refine z_getN C hP hK fl_X3_56 1 rfl rfl dX3_isWayOpen_17 20 rfl ?_
  refine z_il_n C hl dX3_isWayOpen_20 2 rfl 21 rfl ?_
  refine z_NR (r := .int (iI (v (72 + 5 * b)))) (rest := []) C (m_rd l G (q 3) 10 (fun k => v (72 + 5 * k)) (b) (v (72 + 5 * b)) (by decide) (by omega) (congrArg v (by omega))) kN_X3_32 ⟨Nat.le_of_ble_eq_true rfl, Nat.le_of_ble_eq_true rfl⟩ (gP_c hP 4 rfl) hK rfl hl.1 rfl (Nat.le_of_ble_eq_true rfl) dX3_isWayOpen_21 ⟨Nat.le_of_ble_eq_true rfl, Nat.le_of_ble_eq_true rfl⟩ 24 rfl ?_
  refine z_NR (r := .int (iI (harZ (v (72 + 5 * b))))) (rest := []) C (m_harbourOf l G (v (72 + 5 * b)) (by omega)) kN_X3_98 ⟨Nat.le_of_ble_eq_true rfl, Nat.le_of_ble_eq_true rfl⟩ (gP_nil) hK rfl hl.1 rfl (Nat.le_of_ble_eq_true rfl) dX3_isWayOpen_24 ⟨Nat.le_of_ble_eq_true rfl, Nat.le_of_ble_eq_true rfl⟩ 27 rfl ?_
  have hh24 := harZ_rng (v (72 + 5 * b))
  refine z_is C hl dX3_isWayOpen_27 29 rfl (by decide) (lv' := [(5, .int (iI (harZ (v (72 + 5 * b))))), (4, .int (iI (v (73 + 5 * b)))), (0, .ref (r)), (1, .int (iI (b))), (2, .int (iI (d))), (3, .int (iI (n)))]) rfl (fun ls hl => ?_)
  refine z_al_n C hl dX3_isWayOpen_29 2 rfl 30 rfl ?_
  refine z_get C hP hK fl_X3_9 0 rfl rfl dX3_isWayOpen_30 33 rfl ?_
  refine z_getN C hP hK fl_X3_65 1 rfl rfl dX3_isWayOpen_33 36 rfl ?_
  refine z_il_n C hl dX3_isWayOpen_36 3 rfl 37 rfl ?_
  refine z_NR (r := .int (iI (v (75 + 5 * b)))) (rest := []) C (m_rd l G (q 6) 10 (fun k => v (75 + 5 * k)) (b) (v (75 + 5 * b)) (by decide) (by omega) (congrArg v (by omega))) kN_X3_32 ⟨Nat.le_of_ble_eq_true rfl, Nat.le_of_ble_eq_true rfl⟩ (gP_c hP 7 rfl) hK rfl hl.1 rfl (Nat.le_of_ble_eq_true rfl) dX3_isWayOpen_37 ⟨Nat.le_of_ble_eq_true rfl, Nat.le_of_ble_eq_true rfl⟩ 40 rfl ?_
  refine z_is C hl dX3_isWayOpen_40 42 rfl (by decide) (lv' := [(6, .int (iI (v (75 + 5 * b)))), (5, .int (iI (harZ (v (72 + 5 * b))))), (4, .int (iI (v (73 + 5 * b)))), (0, .ref (r)), (1, .int (iI (b))), (2, .int (iI (d))), (3, .int (iI (n)))]) rfl (fun ls hl => ?_)
  refine z_iconst C dX3_isWayOpen_42 43 rfl ?_
  refine z_is C hl dX3_isWayOpen_43 45 rfl (by decide) (lv' := [(7, .int (iI (1))), (6, .int (iI (v (75 + 5 * b)))), (5, .int (iI (harZ (v (72 + 5 * b))))), (4, .int (iI (v (73 + 5 * b)))), (0, .ref (r)), (1, .int (iI (b))), (2, .int (iI (d))), (3, .int (iI (n)))]) rfl (fun ls hl => ?_)
  have L45 : ∀ (fu : Nat) (x : Int) (st : Int) (h1 : 1 ≤ st ∧ st ≤ n + 1) (h2 : 0 ≤ x ∧ x < 36) (h4 : st ≤ n → x ≠ harZ (v (72 + 5 * b))) (h3 : wayN v (v (72 + 5 * b)) (v (73 + 5 * b)) (v 126) d (n + 1 - st).toNat x = wayZ v b d n) (hm : n + 1 - st < (fu : Int)) (ls : Array Slot) (hl : lv_has ls 9 [(7, .int (iI (st))), (6, .int (iI (x))), (5, .int (iI (harZ (v (72 + 5 * b))))), (4, .int (iI (v (73 + 5 * b)))), (3, .int (iI (n))), (2, .int (iI (d))), (1, .int (iI (b))), (0, .ref (r))]), W p l e (rmN 2) s m [.ref (r), .int (iI (b)), .int (iI (d)), .int (iI (n))].toArray below meth c s.heap [] 0 0 (MQ below (QR (.int (iI (bZ (decide (wayZ v b d n ≠ -5)))))) [.ref (r), .int (iI (b)), .int (iI (d)), .int (iI (n))].toArray s 0 0 (fun _ => False)) (F0 m 45 ls []) := by
    intro fu
    induction fu with
    | zero => intro x st h1 h2 h4 h3 hm ls hl; exfalso; omega
    | succ fu ih =>
      intro x st h1 h2 h4 h3 hm ls hl
      have ih45 := ih
      refine z_il C hl dX3_isWayOpen_45 0 rfl 47 rfl ?_
      refine z_il_n C hl dX3_isWayOpen_47 4 rfl 48 rfl ?_
      refine z_icmp_gt C dX3_isWayOpen_48 141 51 (by decide) rfl (by omega) (fun c48 => ?_) (fun c48 => ?_)
      · skip
        refine z_iconst C dX3_isWayOpen_141 142 rfl ?_
        exact z_rz C dX3_isWayOpen_142 (bZ_dt (by rw [← h3, wayN_0 (by omega)]; omega))
      · skip
        refine z_il C hl dX3_isWayOpen_51 0 rfl 53 rfl ?_
        refine z_iconst C dX3_isWayOpen_53 54 rfl ?_
        refine z_icmp_gt C dX3_isWayOpen_54 141 57 (by decide) rfl (by omega) (fun c54 => ?_) (fun c54 => ?_)
        · exfalso; omega
        · skip
          refine z_il C hl dX3_isWayOpen_57 1 rfl 59 rfl ?_
          refine z_il_n C hl dX3_isWayOpen_59 5 rfl 60 rfl ?_
          refine z_NR (r := .int (iI (besZ x d))) (rest := []) C (m_cellBeside l G (x) (d) (by omega) (by omega)) kN_X3_131 ⟨Nat.le_of_ble_eq_true rfl, Nat.le_of_ble_eq_true rfl⟩ (gP_nil) hK rfl hl.1 rfl (Nat.le_of_ble_eq_true rfl) dX3_isWayOpen_60 ⟨Nat.le_of_ble_eq_true rfl, Nat.le_of_ble_eq_true rfl⟩ 63 rfl ?_
          have hb60 := besZ_rng (x) (d)
          have J99 : ∀ (z : Int) (hz : z = bZ (decide ((besZ x d = harZ (v (72 + 5 * b)) ∧ st = n) ∨ (¬ besZ x d = harZ (v (72 + 5 * b)) ∧ ¬ (besZ x d = 0 ∨ besZ x d = 35))))) (ls : Array Slot) (hl : lv_has ls 9 [(6, .int (iI (besZ x d))), (7, .int (iI (st))), (5, .int (iI (harZ (v (72 + 5 * b))))), (4, .int (iI (v (73 + 5 * b)))), (3, .int (iI (n))), (2, .int (iI (d))), (1, .int (iI (b))), (0, .ref (r))]), W p l e (rmN 2) s m [.ref (r), .int (iI (b)), .int (iI (d)), .int (iI (n))].toArray below meth c s.heap [] 0 0 (MQ below (QR (.int (iI (bZ (decide (wayZ v b d n ≠ -5)))))) [.ref (r), .int (iI (b)), .int (iI (d)), .int (iI (n))].toArray s 0 0 (fun _ => False)) (F0 m 99 ls [.int (iI (z))]) := by
            intro z hz ls hl
            subst hz
            refine z_is C hl dX3_isWayOpen_99 101 rfl (by decide) (lv' := [(8, .int (iI (bZ (decide ((besZ x d = harZ (v (72 + 5 * b)) ∧ st = n) ∨ (¬ besZ x d = harZ (v (72 + 5 * b)) ∧ ¬ (besZ x d = 0 ∨ besZ x d = 35))))))), (6, .int (iI (besZ x d))), (7, .int (iI (st))), (5, .int (iI (harZ (v (72 + 5 * b))))), (4, .int (iI (v (73 + 5 * b)))), (3, .int (iI (n))), (2, .int (iI (d))), (1, .int (iI (b))), (0, .ref (r))]) rfl (fun ls hl => ?_)
            refine z_il C hl dX3_isWayOpen_101 1 rfl 103 rfl ?_
            refine z_iconst C dX3_isWayOpen_103 104 rfl ?_
            refine z_icmp_eq C dX3_isWayOpen_104 133 107 (by decide) rfl (by omega) (fun c104 => ?_) (fun c104 => ?_)
            · skip
              refine z_iconst C dX3_isWayOpen_133 134 rfl ?_
              exact z_rz C dX3_isWayOpen_134 (bZ_df (by rw [← h3, wayN_1 (by omega), if_pos (Or.inr (Or.inl c104))]; simp))
            · skip
              refine z_il C hl dX3_isWayOpen_107 0 rfl 109 rfl ?_
              refine z_ifb_eq C dX3_isWayOpen_109 133 112 (by decide) rfl (fun c109 => ?_) (fun c109 => ?_)
              · skip
                simp only [decide_eq_true_eq, decide_eq_false_iff_not] at c109
                refine z_iconst C dX3_isWayOpen_133 134 rfl ?_
                exact z_rz C dX3_isWayOpen_134 (bZ_df (by
          rw [← h3, wayN_1 (by omega)]
          split
          · simp
          · rename_i hno
            by_cases he : besZ x d = harZ (v (72 + 5 * b))
            · rw [wayN_1 (by omega), if_pos (Or.inl he)]; simp
            · exfalso; omega))
              · skip
                simp only [decide_eq_true_eq, decide_eq_false_iff_not] at c109
                refine z_al_n C hl dX3_isWayOpen_112 8 rfl 113 rfl ?_
                refine z_get C hP hK fl_X3_9 0 rfl rfl dX3_isWayOpen_113 116 rfl ?_
                refine z_il C hl dX3_isWayOpen_116 1 rfl 118 rfl ?_
                refine z_il C hl dX3_isWayOpen_118 4 rfl 120 rfl ?_
                refine z_al_n C hl dX3_isWayOpen_120 8 rfl 121 rfl ?_
                refine z_get C hP hK fl_X3_9 0 rfl rfl dX3_isWayOpen_121 124 rfl ?_
                refine z_getN C hP hK fl_X3_22 1 rfl rfl dX3_isWayOpen_124 127 rfl ?_
                refine z_VR (r := .int (iI (bZ (wetB v (besZ x d) (v (73 + 5 * b)) (v 126))))) (rest := []) C (m_isWet l G q v (besZ x d) (v (73 + 5 * b)) (v 126) w (by omega) (by omega) (by omega)) kV_X3_135 ⟨Nat.le_of_ble_eq_true rfl, Nat.le_of_ble_eq_true rfl⟩ (gP_rg hP [1] rfl) hK 0 rfl rfl rfl hl.1 rfl (Nat.le_of_ble_eq_true rfl) dX3_isWayOpen_127 ⟨Nat.le_of_ble_eq_true rfl, Nat.le_of_ble_eq_true rfl⟩ 130 rfl ?_
                refine z_ifb_ne C dX3_isWayOpen_130 135 133 (by decide) rfl (fun c130 => ?_) (fun c130 => ?_)
                · skip
                  refine z_iinc C hl dX3_isWayOpen_135 138 rfl 2 rfl (z := 1 + st) (by omega) (by decide) (lv' := [(7, .int (iI (1 + st))), (8, .int (iI (bZ (decide ((besZ x d = harZ (v (72 + 5 * b)) ∧ st = n) ∨ (¬ besZ x d = harZ (v (72 + 5 * b)) ∧ ¬ (besZ x d = 0 ∨ besZ x d = 35))))))), (6, .int (iI (besZ x d))), (5, .int (iI (harZ (v (72 + 5 * b))))), (4, .int (iI (v (73 + 5 * b)))), (3, .int (iI (n))), (2, .int (iI (d))), (1, .int (iI (b))), (0, .ref (r))]) rfl (fun ls hl => ?_)
                  refine z_goto C dX3_isWayOpen_138 45 (by decide) ?_
                  exact ih45 (besZ x d) (1 + st) (by omega) (by omega) (by omega) (by
            rw [← h3, wayN_1 (k := n + 1 - st) (by omega), if_neg (by
              rintro (h | h | h | h)
              · omega
              · omega
              · omega
              · rw [c130] at h; cases h), show n + 1 - st - 1 = n + 1 - (1 + st) by omega]) (by omega) ls (lv_sub hl [0, 2, 3, 4, 5, 6, 7, 8] rfl)
                · skip
                  refine z_iconst C dX3_isWayOpen_133 134 rfl ?_
                  exact z_rz C dX3_isWayOpen_134 (bZ_df (by rw [← h3, wayN_1 (by omega), if_pos (Or.inr (Or.inr (Or.inr c130)))]; simp))
          refine z_is C hl dX3_isWayOpen_63 65 rfl (by decide) (lv' := [(6, .int (iI (besZ x d))), (7, .int (iI (st))), (5, .int (iI (harZ (v (72 + 5 * b))))), (4, .int (iI (v (73 + 5 * b)))), (3, .int (iI (n))), (2, .int (iI (d))), (1, .int (iI (b))), (0, .ref (r))]) rfl (fun ls hl => ?_)
          refine z_il C hl dX3_isWayOpen_65 0 rfl 67 rfl ?_
          refine z_il C hl dX3_isWayOpen_67 2 rfl 69 rfl ?_
          refine z_icmp_ne C dX3_isWayOpen_69 86 72 (by decide) rfl (by omega) (fun c69 => ?_) (fun c69 => ?_)
          · skip
            refine z_il C hl dX3_isWayOpen_86 0 rfl 88 rfl ?_
            refine z_NR (r := .int (iI (bZ (decide ((besZ x d) = 0 ∨ (besZ x d) = 35))))) (rest := []) C (m_isHarbour l G (besZ x d) (by omega)) kN_X3_19 ⟨Nat.le_of_ble_eq_true rfl, Nat.le_of_ble_eq_true rfl⟩ (gP_nil) hK rfl hl.1 rfl (Nat.le_of_ble_eq_true rfl) dX3_isWayOpen_88 ⟨Nat.le_of_ble_eq_true rfl, Nat.le_of_ble_eq_true rfl⟩ 91 rfl ?_
            refine z_ifb_ne C dX3_isWayOpen_91 98 94 (by decide) rfl (fun c91 => ?_) (fun c91 => ?_)
            · skip
              simp only [decide_eq_true_eq, decide_eq_false_iff_not] at c91
              refine z_iconst C dX3_isWayOpen_98 99 rfl ?_
              exact J99 0 (bZ_df (by omega)) ls (lv_sub hl [0, 1, 2, 3, 4, 5, 6, 7] rfl)
            · skip
              simp only [decide_eq_true_eq, decide_eq_false_iff_not] at c91
              refine z_iconst C dX3_isWayOpen_94 95 rfl ?_
              refine z_goto C dX3_isWayOpen_95 99 (by decide) ?_
              exact J99 1 (bZ_dt (by omega)) ls (lv_sub hl [0, 1, 2, 3, 4, 5, 6, 7] rfl)
          · skip
            refine z_il C hl dX3_isWayOpen_72 1 rfl 74 rfl ?_
            refine z_il_n C hl dX3_isWayOpen_74 4 rfl 75 rfl ?_
            refine z_icmp_ne C dX3_isWayOpen_75 82 78 (by decide) rfl (by omega) (fun c75 => ?_) (fun c75 => ?_)
            · skip
              refine z_iconst C dX3_isWayOpen_82 83 rfl ?_
              refine z_goto C dX3_isWayOpen_83 99 (by decide) ?_
              exact J99 0 (bZ_df (by omega)) ls (lv_sub hl [0, 1, 2, 3, 4, 5, 6, 7] rfl)
            · skip
              refine z_iconst C dX3_isWayOpen_78 79 rfl ?_
              refine z_goto C dX3_isWayOpen_79 99 (by decide) ?_
              exact J99 1 (bZ_dt (by omega)) ls (lv_sub hl [0, 1, 2, 3, 4, 5, 6, 7] rfl)
  exact L45 (Int.toNat (n + 1 - 1) + 1) (v (75 + 5 * b)) 1 (by omega) (by omega) (by omega) (by rw [show n + 1 - 1 = n by omega]; rfl) (by omega) ls (lv_sub hl [0, 1, 2, 3, 7, 6, 5, 4] rfl)

set_option maxHeartbeats 4000000 in
set_option maxRecDepth 100000 in
theorem m_rd0 (l : Launch) (G : gT) (a n : Nat) (f : Int → Int) (i : Int) (hn : (n : Int) ≤ 1000) (hr : -2147483648 ≤ i ∧ i < 2147483648) (hi : i < 0 ∨ n ≤ i) : MR l G yX5_read cX5_read 2 (some .int) 0 [.ref (a), .int (iI (i))] [[arI G a n f]] ZT (.int (iI (0))) := by
  refine enterR (own := RX5) (by decide +kernel) rfl (Nat.le_of_ble_eq_true rfl) ?_
  intro p e s m below meth c C hP hK hZ ls hl
  have hl : lv_has ls 2 [(0, .ref (a)), (1, .int (iI (i)))] := hl
  refine z_il_n C hl dX5_read_0 1 rfl 1 rfl ?_
  refine z_if_lt C dX5_read_1 16 4 (by decide) rfl (by omega) (fun c1 => ?_) (fun c1 => ?_)
  · skip
    refine z_iconst C dX5_read_16 17 rfl ?_
    exact z_ri C dX5_read_17 (rfl)
  · skip
    refine z_il_n C hl dX5_read_4 1 rfl 5 rfl ?_
    refine z_al_n C hl dX5_read_5 0 rfl 6 rfl ?_
    refine z_alen C hP hK 0 0 rfl rfl ((n : Int)) rfl dX5_read_6 7 rfl ?_
    refine z_icmp_ge C dX5_read_7 16 10 (by decide) rfl (by omega) (fun c7 => ?_) (fun c7 => ?_)
    · skip
      refine z_iconst C dX5_read_16 17 rfl ?_
      exact z_ri C dX5_read_17 (rfl)
    · exfalso; omega

set_option maxHeartbeats 4000000 in
set_option maxRecDepth 100000 in
theorem m_isBoatInWay (l : Launch) (G : gT) (r : Nat) (q : Nat → Nat) (v : Int → Int) (b d n : Int) (w : Wf v) (hb : 0 ≤ b ∧ b < v 127) (hd : 0 ≤ d ∧ d < 4) (hn : 1 ≤ n ∧ n ≤ 3) (hway : wayZ v b d n ≠ -5) : MR l G yX3_isBoatInWay cX3_isBoatInWay 8 (some .boolean) 2 [.ref (r), .int (iI (b)), .int (iI (d)), .int (iI (n))] [[(r, .inr (3, [.ref (q 0)]))], stW G q v] ZT (.int (iI (bZ (blkB v b d n)))) := by
  refine enterR (own := RX3) (by decide +kernel) rfl (Nat.le_of_ble_eq_true rfl) ?_
  intro p e s m below meth c C hP hK hZ ls hl
  have hl : lv_has ls 8 [(0, .ref (r)), (1, .int (iI (b))), (2, .int (iI (d))), (3, .int (iI (n)))] := hl
  have h127 := w.n
  have hw := w.b b (by omega)
  have ht := w.t
  have hbb := w.bb b hb
  have hp := harZ_c (p := v (72 + 5 * b)) (by omega)
  refine z_al_n C hl dX3_isBoatInWay_0 0 rfl 1 rfl ?_
  refine z_get C hP hK fl_X3_9 0 rfl rfl dX3_isBoatInWay_1 4 rfl ?_
  refine z_getN C hP hK fl_X3_65 1 rfl rfl dX3_isBoatInWay_4 7 rfl ?_
  refine z_il_n C hl dX3_isBoatInWay_7 1 rfl 8 rfl ?_
  refine z_NR (r := .int (iI (v (75 + 5 * b)))) (rest := []) C (m_rd l G (q 6) 10 (fun k => v (75 + 5 * k)) (b) (v (75 + 5 * b)) (by decide) (by omega) (congrArg v (by omega))) kN_X3_32 ⟨Nat.le_of_ble_eq_true rfl, Nat.le_of_ble_eq_true rfl⟩ (gP_c hP 7 rfl) hK rfl hl.1 rfl (Nat.le_of_ble_eq_true rfl) dX3_isBoatInWay_8 ⟨Nat.le_of_ble_eq_true rfl, Nat.le_of_ble_eq_true rfl⟩ 11 rfl ?_
  refine z_is C hl dX3_isBoatInWay_11 13 rfl (by decide) (lv' := [(4, .int (iI (v (75 + 5 * b)))), (0, .ref (r)), (1, .int (iI (b))), (2, .int (iI (d))), (3, .int (iI (n)))]) rfl (fun ls hl => ?_)
  refine z_iconst C dX3_isBoatInWay_13 14 rfl ?_
  refine z_is C hl dX3_isBoatInWay_14 16 rfl (by decide) (lv' := [(5, .int (iI (1))), (4, .int (iI (v (75 + 5 * b)))), (0, .ref (r)), (1, .int (iI (b))), (2, .int (iI (d))), (3, .int (iI (n)))]) rfl (fun ls hl => ?_)
  have L16 : ∀ (fu : Nat) (x : Int) (st : Int) (h1 : 1 ≤ st ∧ st ≤ n + 1) (h2 : 0 ≤ x ∧ x < 36) (hw3 : wayN v (v (72 + 5 * b)) (v (73 + 5 * b)) (v 126) d (n + 1 - st).toNat x ≠ -5) (h3 : blkN v b d (n + 1 - st).toNat x = blkB v b d n) (hm : n + 1 - st < (fu : Int)) (ls : Array Slot) (hl : lv_has ls 8 [(5, .int (iI (st))), (4, .int (iI (x))), (3, .int (iI (n))), (2, .int (iI (d))), (1, .int (iI (b))), (0, .ref (r))]), W p l e (rmN 2) s m [.ref (r), .int (iI (b)), .int (iI (d)), .int (iI (n))].toArray below meth c s.heap [] 0 0 (MQ below (QR (.int (iI (bZ (blkB v b d n))))) [.ref (r), .int (iI (b)), .int (iI (d)), .int (iI (n))].toArray s 0 0 (fun _ => False)) (F0 m 16 ls []) := by
    intro fu
    induction fu with
    | zero => intro x st h1 h2 hw3 h3 hm ls hl; exfalso; omega
    | succ fu ih =>
      intro x st h1 h2 hw3 h3 hm ls hl
      have ih16 := ih
      refine z_il C hl dX3_isBoatInWay_16 0 rfl 18 rfl ?_
      refine z_il_n C hl dX3_isBoatInWay_18 2 rfl 19 rfl ?_
      refine z_icmp_gt C dX3_isBoatInWay_19 137 22 (by decide) rfl (by omega) (fun c19 => ?_) (fun c19 => ?_)
      · skip
        refine z_iconst C dX3_isBoatInWay_137 138 rfl ?_
        exact z_rz C dX3_isBoatInWay_138 (bZ_0 (by rw [← h3, blkN_0 (by omega)]))
      · skip
        refine z_il C hl dX3_isBoatInWay_22 0 rfl 24 rfl ?_
        refine z_iconst C dX3_isBoatInWay_24 25 rfl ?_
        refine z_icmp_gt C dX3_isBoatInWay_25 137 28 (by decide) rfl (by omega) (fun c25 => ?_) (fun c25 => ?_)
        · exfalso; omega
        · skip
          have hw4 := wayN_s (by omega) hw3
          refine z_il C hl dX3_isBoatInWay_28 1 rfl 30 rfl ?_
          refine z_il_n C hl dX3_isBoatInWay_30 3 rfl 31 rfl ?_
          refine z_NR (r := .int (iI (besZ x d))) (rest := []) C (m_cellBeside l G (x) (d) (by omega) (by omega)) kN_X3_131 ⟨Nat.le_of_ble_eq_true rfl, Nat.le_of_ble_eq_true rfl⟩ (gP_nil) hK rfl hl.1 rfl (Nat.le_of_ble_eq_true rfl) dX3_isBoatInWay_31 ⟨Nat.le_of_ble_eq_true rfl, Nat.le_of_ble_eq_true rfl⟩ 34 rfl ?_
          have hb31 := besZ_rng (x) (d)
          refine z_is C hl dX3_isBoatInWay_34 36 rfl (by decide) (lv' := [(4, .int (iI (besZ x d))), (5, .int (iI (st))), (3, .int (iI (n))), (2, .int (iI (d))), (1, .int (iI (b))), (0, .ref (r))]) rfl (fun ls hl => ?_)
          refine z_al_n C hl dX3_isBoatInWay_36 5 rfl 37 rfl ?_
          refine z_get C hP hK fl_X3_9 0 rfl rfl dX3_isBoatInWay_37 40 rfl ?_
          refine z_il C hl dX3_isBoatInWay_40 0 rfl 42 rfl ?_
          refine z_VR (r := .int (iI (batZ v (besZ x d)))) (rest := []) C (m_boatAt l G q v (besZ x d) w (by omega)) kV_X3_49 ⟨Nat.le_of_ble_eq_true rfl, Nat.le_of_ble_eq_true rfl⟩ (gP_rg hP [1] rfl) hK 0 rfl rfl rfl hl.1 rfl (Nat.le_of_ble_eq_true rfl) dX3_isBoatInWay_42 ⟨Nat.le_of_ble_eq_true rfl, Nat.le_of_ble_eq_true rfl⟩ 45 rfl ?_
          have r42 := batZ_rng w (besZ x d)
          rcases r42 with ho | ho
          · skip
            refine z_is C hl dX3_isBoatInWay_45 47 rfl (by decide) (lv' := [(6, .int (iI (batZ v (besZ x d)))), (4, .int (iI (besZ x d))), (5, .int (iI (st))), (3, .int (iI (n))), (2, .int (iI (d))), (1, .int (iI (b))), (0, .ref (r))]) rfl (fun ls hl => ?_)
            have J115 : ∀ (z : Int) (hz0 : 0 ≤ z ∧ z ≤ 1) (hz : batZ v (besZ x d) ≠ -5 → z = bZ (decide (n + 1 - st = 1) && (decide (v (72 + 5 * batZ v (besZ x d)) ≠ v (72 + 5 * b)) && !wetB v (besZ x d) (v (73 + 5 * batZ v (besZ x d))) (v 126)))) (ls : Array Slot) (hl : lv_has ls 8 [(6, .int (iI (batZ v (besZ x d)))), (4, .int (iI (besZ x d))), (5, .int (iI (st))), (3, .int (iI (n))), (2, .int (iI (d))), (1, .int (iI (b))), (0, .ref (r))]), W p l e (rmN 2) s m [.ref (r), .int (iI (b)), .int (iI (d)), .int (iI (n))].toArray below meth c s.heap [] 0 0 (MQ below (QR (.int (iI (bZ (blkB v b d n))))) [.ref (r), .int (iI (b)), .int (iI (d)), .int (iI (n))].toArray s 0 0 (fun _ => False)) (F0 m 115 ls [.int (iI (z))]) := by
              intro z hz0 hz ls hl
              refine z_is C hl dX3_isBoatInWay_115 117 rfl (by decide) (lv' := [(7, .int (iI (z))), (6, .int (iI (batZ v (besZ x d)))), (4, .int (iI (besZ x d))), (5, .int (iI (st))), (3, .int (iI (n))), (2, .int (iI (d))), (1, .int (iI (b))), (0, .ref (r))]) rfl (fun ls hl => ?_)
              refine z_il C hl dX3_isBoatInWay_117 1 rfl 119 rfl ?_
              refine z_bipush C dX3_isBoatInWay_119 (by decide) 121 rfl ?_
              refine z_icmp_eq C dX3_isBoatInWay_121 131 124 (by decide) rfl (by omega) (fun c121 => ?_) (fun c121 => ?_)
              · skip
                have ho := c121
                refine z_iinc C hl dX3_isBoatInWay_131 134 rfl 3 rfl (z := 1 + st) (by omega) (by decide) (lv' := [(5, .int (iI (1 + st))), (7, .int (iI (z))), (6, .int (iI (batZ v (besZ x d)))), (4, .int (iI (besZ x d))), (3, .int (iI (n))), (2, .int (iI (d))), (1, .int (iI (b))), (0, .ref (r))]) rfl (fun ls hl => ?_)
                refine z_goto C dX3_isBoatInWay_134 16 (by decide) ?_
                exact ih16 (besZ x d) (1 + st) (by omega) (by omega) (by rw [show n + 1 - (1 + st) = n + 1 - st - 1 by omega]; exact hw4.2) (by rw [← h3, blkN_1 (k := n + 1 - st) (by omega), ho, show n + 1 - st - 1 = n + 1 - (1 + st) by omega]; simp) (by omega) ls (lv_sub hl [0, 3, 4, 5, 6, 7] rfl)
              · skip
                refine z_il C hl dX3_isBoatInWay_124 0 rfl 126 rfl ?_
                refine z_if_ne C dX3_isBoatInWay_126 131 129 (by decide) rfl (by omega) (fun c126 => ?_) (fun c126 => ?_)
                · skip
                  have hcr := (hz c121).symm
                  rw [show z = 1 by omega] at hcr
                  rw [bZ_eq1] at hcr
                  refine z_iinc C hl dX3_isBoatInWay_131 134 rfl 3 rfl (z := 1 + st) (by omega) (by decide) (lv' := [(5, .int (iI (1 + st))), (7, .int (iI (z))), (6, .int (iI (batZ v (besZ x d)))), (4, .int (iI (besZ x d))), (3, .int (iI (n))), (2, .int (iI (d))), (1, .int (iI (b))), (0, .ref (r))]) rfl (fun ls hl => ?_)
                  refine z_goto C dX3_isBoatInWay_134 16 (by decide) ?_
                  exact ih16 (besZ x d) (1 + st) (by omega) (by omega) (by rw [show n + 1 - (1 + st) = n + 1 - st - 1 by omega]; exact hw4.2) (by rw [← h3, blkN_1 (k := n + 1 - st) (by omega), hcr, show n + 1 - st - 1 = n + 1 - (1 + st) by omega]; simp) (by omega) ls (lv_sub hl [0, 3, 4, 5, 6, 7] rfl)
                · skip
                  have hcr := (hz c121).symm
                  rw [c126, bZ_eq0] at hcr
                  refine z_iconst C dX3_isBoatInWay_129 130 rfl ?_
                  exact z_rz C dX3_isBoatInWay_130 (bZ_1 (by rw [← h3, blkN_1 (by omega), hcr, decide_eq_true c121]; rfl))
            refine z_il C hl dX3_isBoatInWay_47 2 rfl 49 rfl ?_
            refine z_il_n C hl dX3_isBoatInWay_49 3 rfl 50 rfl ?_
            refine z_icmp_ne C dX3_isBoatInWay_50 114 53 (by decide) rfl (by omega) (fun c50 => ?_) (fun c50 => ?_)
            · skip
              refine z_iconst C dX3_isBoatInWay_114 115 rfl ?_
              exact J115 0 (by omega) (fun h => absurd ho h) ls (lv_sub hl [0, 1, 2, 3, 4, 5, 6] rfl)
            · skip
              refine z_al_n C hl dX3_isBoatInWay_53 6 rfl 54 rfl ?_
              refine z_get C hP hK fl_X3_9 0 rfl rfl dX3_isBoatInWay_54 57 rfl ?_
              refine z_getN C hP hK fl_X3_56 1 rfl rfl dX3_isBoatInWay_57 60 rfl ?_
              refine z_il C hl dX3_isBoatInWay_60 0 rfl 62 rfl ?_
              refine z_NR (r := .int (iI (0))) (rest := []) C (m_rd0 l G (q 3) 10 (fun k => v (72 + 5 * k)) (batZ v (besZ x d)) (by decide) (by omega) (by omega)) kN_X3_32 ⟨Nat.le_of_ble_eq_true rfl, Nat.le_of_ble_eq_true rfl⟩ (gP_c hP 4 rfl) hK rfl hl.1 rfl (Nat.le_of_ble_eq_true rfl) dX3_isBoatInWay_62 ⟨Nat.le_of_ble_eq_true rfl, Nat.le_of_ble_eq_true rfl⟩ 65 rfl ?_
              refine z_al_n C hl dX3_isBoatInWay_65 6 rfl 66 rfl ?_
              refine z_get C hP hK fl_X3_9 0 rfl rfl dX3_isBoatInWay_66 69 rfl ?_
              refine z_getN C hP hK fl_X3_56 1 rfl rfl dX3_isBoatInWay_69 72 rfl ?_
              refine z_il_n C hl dX3_isBoatInWay_72 5 rfl 73 rfl ?_
              refine z_NR (r := .int (iI (v (72 + 5 * b)))) (rest := [.int (iI (0))]) C (m_rd l G (q 3) 10 (fun k => v (72 + 5 * k)) (b) (v (72 + 5 * b)) (by decide) (by omega) (congrArg v (by omega))) kN_X3_32 ⟨Nat.le_of_ble_eq_true rfl, Nat.le_of_ble_eq_true rfl⟩ (gP_c hP 4 rfl) hK rfl hl.1 rfl (Nat.le_of_ble_eq_true rfl) dX3_isBoatInWay_73 ⟨Nat.le_of_ble_eq_true rfl, Nat.le_of_ble_eq_true rfl⟩ 76 rfl ?_
              refine z_icmp_eq C dX3_isBoatInWay_76 114 79 (by decide) rfl (by omega) (fun c76 => ?_) (fun c76 => ?_)
              · skip
                refine z_iconst C dX3_isBoatInWay_114 115 rfl ?_
                exact J115 0 (by omega) (fun h => absurd ho h) ls (lv_sub hl [0, 1, 2, 3, 4, 5, 6] rfl)
              · skip
                refine z_al_n C hl dX3_isBoatInWay_79 6 rfl 80 rfl ?_
                refine z_get C hP hK fl_X3_9 0 rfl rfl dX3_isBoatInWay_80 83 rfl ?_
                refine z_il C hl dX3_isBoatInWay_83 1 rfl 85 rfl ?_
                refine z_al_n C hl dX3_isBoatInWay_85 6 rfl 86 rfl ?_
                refine z_get C hP hK fl_X3_9 0 rfl rfl dX3_isBoatInWay_86 89 rfl ?_
                refine z_getN C hP hK fl_X3_59 1 rfl rfl dX3_isBoatInWay_89 92 rfl ?_
                refine z_il C hl dX3_isBoatInWay_92 0 rfl 94 rfl ?_
                refine z_NR (r := .int (iI (0))) (rest := [.int (iI (besZ x d)), .ref (q 0)]) C (m_rd0 l G (q 4) 10 (fun k => v (73 + 5 * k)) (batZ v (besZ x d)) (by decide) (by omega) (by omega)) kN_X3_32 ⟨Nat.le_of_ble_eq_true rfl, Nat.le_of_ble_eq_true rfl⟩ (gP_c hP 5 rfl) hK rfl hl.1 rfl (Nat.le_of_ble_eq_true rfl) dX3_isBoatInWay_94 ⟨Nat.le_of_ble_eq_true rfl, Nat.le_of_ble_eq_true rfl⟩ 97 rfl ?_
                refine z_al_n C hl dX3_isBoatInWay_97 6 rfl 98 rfl ?_
                refine z_get C hP hK fl_X3_9 0 rfl rfl dX3_isBoatInWay_98 101 rfl ?_
                refine z_getN C hP hK fl_X3_22 1 rfl rfl dX3_isBoatInWay_101 104 rfl ?_
                refine z_VR (r := .int (iI (bZ (wetB v (besZ x d) 0 (v 126))))) (rest := []) C (m_isWet l G q v (besZ x d) 0 (v 126) w (by omega) (by omega) (by omega)) kV_X3_135 ⟨Nat.le_of_ble_eq_true rfl, Nat.le_of_ble_eq_true rfl⟩ (gP_rg hP [1] rfl) hK 0 rfl rfl rfl hl.1 rfl (Nat.le_of_ble_eq_true rfl) dX3_isBoatInWay_104 ⟨Nat.le_of_ble_eq_true rfl, Nat.le_of_ble_eq_true rfl⟩ 107 rfl ?_
                refine z_ifb_ne C dX3_isBoatInWay_107 114 110 (by decide) rfl (fun c107 => ?_) (fun c107 => ?_)
                · skip
                  refine z_iconst C dX3_isBoatInWay_114 115 rfl ?_
                  exact J115 0 (by omega) (fun h => absurd ho h) ls (lv_sub hl [0, 1, 2, 3, 4, 5, 6] rfl)
                · skip
                  refine z_iconst C dX3_isBoatInWay_110 111 rfl ?_
                  refine z_goto C dX3_isBoatInWay_111 115 (by decide) ?_
                  exact J115 1 (by omega) (fun h => absurd ho h) ls (lv_sub hl [0, 1, 2, 3, 4, 5, 6] rfl)
          · skip
            have ho2 := w.b (batZ v (besZ x d)) (by omega)
            refine z_is C hl dX3_isBoatInWay_45 47 rfl (by decide) (lv' := [(6, .int (iI (batZ v (besZ x d)))), (4, .int (iI (besZ x d))), (5, .int (iI (st))), (3, .int (iI (n))), (2, .int (iI (d))), (1, .int (iI (b))), (0, .ref (r))]) rfl (fun ls hl => ?_)
            have J115 : ∀ (z : Int) (hz0 : 0 ≤ z ∧ z ≤ 1) (hz : batZ v (besZ x d) ≠ -5 → z = bZ (decide (n + 1 - st = 1) && (decide (v (72 + 5 * batZ v (besZ x d)) ≠ v (72 + 5 * b)) && !wetB v (besZ x d) (v (73 + 5 * batZ v (besZ x d))) (v 126)))) (ls : Array Slot) (hl : lv_has ls 8 [(6, .int (iI (batZ v (besZ x d)))), (4, .int (iI (besZ x d))), (5, .int (iI (st))), (3, .int (iI (n))), (2, .int (iI (d))), (1, .int (iI (b))), (0, .ref (r))]), W p l e (rmN 2) s m [.ref (r), .int (iI (b)), .int (iI (d)), .int (iI (n))].toArray below meth c s.heap [] 0 0 (MQ below (QR (.int (iI (bZ (blkB v b d n))))) [.ref (r), .int (iI (b)), .int (iI (d)), .int (iI (n))].toArray s 0 0 (fun _ => False)) (F0 m 115 ls [.int (iI (z))]) := by
              intro z hz0 hz ls hl
              refine z_is C hl dX3_isBoatInWay_115 117 rfl (by decide) (lv' := [(7, .int (iI (z))), (6, .int (iI (batZ v (besZ x d)))), (4, .int (iI (besZ x d))), (5, .int (iI (st))), (3, .int (iI (n))), (2, .int (iI (d))), (1, .int (iI (b))), (0, .ref (r))]) rfl (fun ls hl => ?_)
              refine z_il C hl dX3_isBoatInWay_117 1 rfl 119 rfl ?_
              refine z_bipush C dX3_isBoatInWay_119 (by decide) 121 rfl ?_
              refine z_icmp_eq C dX3_isBoatInWay_121 131 124 (by decide) rfl (by omega) (fun c121 => ?_) (fun c121 => ?_)
              · skip
                have ho := c121
                refine z_iinc C hl dX3_isBoatInWay_131 134 rfl 3 rfl (z := 1 + st) (by omega) (by decide) (lv' := [(5, .int (iI (1 + st))), (7, .int (iI (z))), (6, .int (iI (batZ v (besZ x d)))), (4, .int (iI (besZ x d))), (3, .int (iI (n))), (2, .int (iI (d))), (1, .int (iI (b))), (0, .ref (r))]) rfl (fun ls hl => ?_)
                refine z_goto C dX3_isBoatInWay_134 16 (by decide) ?_
                exact ih16 (besZ x d) (1 + st) (by omega) (by omega) (by rw [show n + 1 - (1 + st) = n + 1 - st - 1 by omega]; exact hw4.2) (by rw [← h3, blkN_1 (k := n + 1 - st) (by omega), ho, show n + 1 - st - 1 = n + 1 - (1 + st) by omega]; simp) (by omega) ls (lv_sub hl [0, 3, 4, 5, 6, 7] rfl)
              · skip
                refine z_il C hl dX3_isBoatInWay_124 0 rfl 126 rfl ?_
                refine z_if_ne C dX3_isBoatInWay_126 131 129 (by decide) rfl (by omega) (fun c126 => ?_) (fun c126 => ?_)
                · skip
                  have hcr := (hz c121).symm
                  rw [show z = 1 by omega] at hcr
                  rw [bZ_eq1] at hcr
                  refine z_iinc C hl dX3_isBoatInWay_131 134 rfl 3 rfl (z := 1 + st) (by omega) (by decide) (lv' := [(5, .int (iI (1 + st))), (7, .int (iI (z))), (6, .int (iI (batZ v (besZ x d)))), (4, .int (iI (besZ x d))), (3, .int (iI (n))), (2, .int (iI (d))), (1, .int (iI (b))), (0, .ref (r))]) rfl (fun ls hl => ?_)
                  refine z_goto C dX3_isBoatInWay_134 16 (by decide) ?_
                  exact ih16 (besZ x d) (1 + st) (by omega) (by omega) (by rw [show n + 1 - (1 + st) = n + 1 - st - 1 by omega]; exact hw4.2) (by rw [← h3, blkN_1 (k := n + 1 - st) (by omega), hcr, show n + 1 - st - 1 = n + 1 - (1 + st) by omega]; simp) (by omega) ls (lv_sub hl [0, 3, 4, 5, 6, 7] rfl)
                · skip
                  have hcr := (hz c121).symm
                  rw [c126, bZ_eq0] at hcr
                  refine z_iconst C dX3_isBoatInWay_129 130 rfl ?_
                  exact z_rz C dX3_isBoatInWay_130 (bZ_1 (by rw [← h3, blkN_1 (by omega), hcr, decide_eq_true c121]; rfl))
            refine z_il C hl dX3_isBoatInWay_47 2 rfl 49 rfl ?_
            refine z_il_n C hl dX3_isBoatInWay_49 3 rfl 50 rfl ?_
            refine z_icmp_ne C dX3_isBoatInWay_50 114 53 (by decide) rfl (by omega) (fun c50 => ?_) (fun c50 => ?_)
            · skip
              refine z_iconst C dX3_isBoatInWay_114 115 rfl ?_
              exact J115 0 (by omega) (fun _ => bZ_0 (by simp [c50]; try omega)) ls (lv_sub hl [0, 1, 2, 3, 4, 5, 6] rfl)
            · skip
              refine z_al_n C hl dX3_isBoatInWay_53 6 rfl 54 rfl ?_
              refine z_get C hP hK fl_X3_9 0 rfl rfl dX3_isBoatInWay_54 57 rfl ?_
              refine z_getN C hP hK fl_X3_56 1 rfl rfl dX3_isBoatInWay_57 60 rfl ?_
              refine z_il C hl dX3_isBoatInWay_60 0 rfl 62 rfl ?_
              refine z_NR (r := .int (iI (v (72 + 5 * batZ v (besZ x d))))) (rest := []) C (m_rd l G (q 3) 10 (fun k => v (72 + 5 * k)) (batZ v (besZ x d)) (v (72 + 5 * batZ v (besZ x d))) (by decide) (by omega) (congrArg v (by omega))) kN_X3_32 ⟨Nat.le_of_ble_eq_true rfl, Nat.le_of_ble_eq_true rfl⟩ (gP_c hP 4 rfl) hK rfl hl.1 rfl (Nat.le_of_ble_eq_true rfl) dX3_isBoatInWay_62 ⟨Nat.le_of_ble_eq_true rfl, Nat.le_of_ble_eq_true rfl⟩ 65 rfl ?_
              refine z_al_n C hl dX3_isBoatInWay_65 6 rfl 66 rfl ?_
              refine z_get C hP hK fl_X3_9 0 rfl rfl dX3_isBoatInWay_66 69 rfl ?_
              refine z_getN C hP hK fl_X3_56 1 rfl rfl dX3_isBoatInWay_69 72 rfl ?_
              refine z_il_n C hl dX3_isBoatInWay_72 5 rfl 73 rfl ?_
              refine z_NR (r := .int (iI (v (72 + 5 * b)))) (rest := [.int (iI (v (72 + 5 * batZ v (besZ x d))))]) C (m_rd l G (q 3) 10 (fun k => v (72 + 5 * k)) (b) (v (72 + 5 * b)) (by decide) (by omega) (congrArg v (by omega))) kN_X3_32 ⟨Nat.le_of_ble_eq_true rfl, Nat.le_of_ble_eq_true rfl⟩ (gP_c hP 4 rfl) hK rfl hl.1 rfl (Nat.le_of_ble_eq_true rfl) dX3_isBoatInWay_73 ⟨Nat.le_of_ble_eq_true rfl, Nat.le_of_ble_eq_true rfl⟩ 76 rfl ?_
              refine z_icmp_eq C dX3_isBoatInWay_76 114 79 (by decide) rfl (by omega) (fun c76 => ?_) (fun c76 => ?_)
              · skip
                refine z_iconst C dX3_isBoatInWay_114 115 rfl ?_
                exact J115 0 (by omega) (fun _ => bZ_0 (by simp [c50, c76]; try omega)) ls (lv_sub hl [0, 1, 2, 3, 4, 5, 6] rfl)
              · skip
                refine z_al_n C hl dX3_isBoatInWay_79 6 rfl 80 rfl ?_
                refine z_get C hP hK fl_X3_9 0 rfl rfl dX3_isBoatInWay_80 83 rfl ?_
                refine z_il C hl dX3_isBoatInWay_83 1 rfl 85 rfl ?_
                refine z_al_n C hl dX3_isBoatInWay_85 6 rfl 86 rfl ?_
                refine z_get C hP hK fl_X3_9 0 rfl rfl dX3_isBoatInWay_86 89 rfl ?_
                refine z_getN C hP hK fl_X3_59 1 rfl rfl dX3_isBoatInWay_89 92 rfl ?_
                refine z_il C hl dX3_isBoatInWay_92 0 rfl 94 rfl ?_
                refine z_NR (r := .int (iI (v (73 + 5 * batZ v (besZ x d))))) (rest := [.int (iI (besZ x d)), .ref (q 0)]) C (m_rd l G (q 4) 10 (fun k => v (73 + 5 * k)) (batZ v (besZ x d)) (v (73 + 5 * batZ v (besZ x d))) (by decide) (by omega) (congrArg v (by omega))) kN_X3_32 ⟨Nat.le_of_ble_eq_true rfl, Nat.le_of_ble_eq_true rfl⟩ (gP_c hP 5 rfl) hK rfl hl.1 rfl (Nat.le_of_ble_eq_true rfl) dX3_isBoatInWay_94 ⟨Nat.le_of_ble_eq_true rfl, Nat.le_of_ble_eq_true rfl⟩ 97 rfl ?_
                refine z_al_n C hl dX3_isBoatInWay_97 6 rfl 98 rfl ?_
                refine z_get C hP hK fl_X3_9 0 rfl rfl dX3_isBoatInWay_98 101 rfl ?_
                refine z_getN C hP hK fl_X3_22 1 rfl rfl dX3_isBoatInWay_101 104 rfl ?_
                refine z_VR (r := .int (iI (bZ (wetB v (besZ x d) (v (73 + 5 * batZ v (besZ x d))) (v 126))))) (rest := []) C (m_isWet l G q v (besZ x d) (v (73 + 5 * batZ v (besZ x d))) (v 126) w (by omega) (by omega) (by omega)) kV_X3_135 ⟨Nat.le_of_ble_eq_true rfl, Nat.le_of_ble_eq_true rfl⟩ (gP_rg hP [1] rfl) hK 0 rfl rfl rfl hl.1 rfl (Nat.le_of_ble_eq_true rfl) dX3_isBoatInWay_104 ⟨Nat.le_of_ble_eq_true rfl, Nat.le_of_ble_eq_true rfl⟩ 107 rfl ?_
                refine z_ifb_ne C dX3_isBoatInWay_107 114 110 (by decide) rfl (fun c107 => ?_) (fun c107 => ?_)
                · skip
                  refine z_iconst C dX3_isBoatInWay_114 115 rfl ?_
                  exact J115 0 (by omega) (fun _ => bZ_0 (by simp [c50, c76, c107]; try omega)) ls (lv_sub hl [0, 1, 2, 3, 4, 5, 6] rfl)
                · skip
                  refine z_iconst C dX3_isBoatInWay_110 111 rfl ?_
                  refine z_goto C dX3_isBoatInWay_111 115 (by decide) ?_
                  exact J115 1 (by omega) (fun _ => bZ_1 (by simp [c50, c76, c107]; try omega)) ls (lv_sub hl [0, 1, 2, 3, 4, 5, 6] rfl)
  exact L16 (Int.toNat (n + 1 - 1) + 1) (v (75 + 5 * b)) 1 (by omega) (by omega) (by rw [show n + 1 - 1 = n by omega]; exact hway) (by rw [show n + 1 - 1 = n by omega]; rfl) (by omega) ls (lv_sub hl [0, 1, 5, 4, 3, 2] rfl)

set_option maxHeartbeats 4000000 in
set_option maxRecDepth 100000 in
theorem m_reasonAgainst (l : Launch) (G : gT) (r : Nat) (q : Nat → Nat) (v : Int → Int) (b d n : Int) (a : Bool) (w : Wf v) (hb : 0 ≤ b ∧ b < v 127) (hd : 0 ≤ d ∧ d < 4) (hn : 1 ≤ n ∧ n ≤ 3) : MR l G yX3_reasonAgainst cX3_reasonAgainst 5 (some .int) 3 [.ref (r), .int (iI (b)), .int (iI (d)), .int (iI (n)), .int (iI (bZ (a)))] [[(r, .inr (3, [.ref (q 0)]))], stW G q v] ZT (.int (iI (reaZ v b d n a))) := by
  refine enterR (own := RX3) (by decide +kernel) rfl (Nat.le_of_ble_eq_true rfl) ?_
  intro p e s m below meth c C hP hK hZ ls hl
  have hl : lv_has ls 5 [(0, .ref (r)), (1, .int (iI (b))), (2, .int (iI (d))), (3, .int (iI (n))), (4, .int (iI (bZ (a))))] := hl
  have h127 := w.n
  have hw := w.b b (by omega)
  have ht := w.t
  have hbb := w.bb b hb
  have hp := harZ_c (p := v (72 + 5 * b)) (by omega)
  refine z_al_n C hl dX3_reasonAgainst_0 0 rfl 1 rfl ?_
  refine z_get C hP hK fl_X3_9 0 rfl rfl dX3_reasonAgainst_1 4 rfl ?_
  refine z_VR (r := .int (iI (bZ (overB v)))) (rest := []) C (m_isOver l G q v  w ) kV_X3_104 ⟨Nat.le_of_ble_eq_true rfl, Nat.le_of_ble_eq_true rfl⟩ (gP_rg hP [1] rfl) hK 0 rfl rfl rfl hl.1 rfl (Nat.le_of_ble_eq_true rfl) dX3_reasonAgainst_4 ⟨Nat.le_of_ble_eq_true rfl, Nat.le_of_ble_eq_true rfl⟩ 7 rfl ?_
  refine z_ifb_eq C dX3_reasonAgainst_7 12 10 (by decide) rfl (fun c7 => ?_) (fun c7 => ?_)
  · skip
    refine z_al_n C hl dX3_reasonAgainst_12 0 rfl 13 rfl ?_
    refine z_get C hP hK fl_X3_9 0 rfl rfl dX3_reasonAgainst_13 16 rfl ?_
    refine z_il_n C hl dX3_reasonAgainst_16 1 rfl 17 rfl ?_
    refine z_VR (r := .int (iI (bZ (onB v b)))) (rest := []) C (m_isOnBoard l G q v b w (by omega)) kV_X3_114 ⟨Nat.le_of_ble_eq_true rfl, Nat.le_of_ble_eq_true rfl⟩ (gP_rg hP [1] rfl) hK 0 rfl rfl rfl hl.1 rfl (Nat.le_of_ble_eq_true rfl) dX3_reasonAgainst_17 ⟨Nat.le_of_ble_eq_true rfl, Nat.le_of_ble_eq_true rfl⟩ 20 rfl ?_
    refine z_ifb_ne C dX3_reasonAgainst_20 25 23 (by decide) rfl (fun c20 => ?_) (fun c20 => ?_)
    · skip
      have hon : v (74 + 5 * b) = 0 := of_decide_eq_true c20
      refine z_il C hl dX3_reasonAgainst_25 4 rfl 27 rfl ?_
      refine z_ifb_ne C dX3_reasonAgainst_27 53 30 (by decide) rfl (fun c27 => ?_) (fun c27 => ?_)
      · skip
        refine z_al_n C hl dX3_reasonAgainst_53 0 rfl 54 rfl ?_
        refine z_get C hP hK fl_X3_9 0 rfl rfl dX3_reasonAgainst_54 57 rfl ?_
        refine z_il_n C hl dX3_reasonAgainst_57 1 rfl 58 rfl ?_
        refine z_VR (r := .int (iI (bZ (floB v b)))) (rest := []) C (m_floats l G q v b w (by omega)) kV_X3_121 ⟨Nat.le_of_ble_eq_true rfl, Nat.le_of_ble_eq_true rfl⟩ (gP_rg hP [1] rfl) hK 0 rfl rfl rfl hl.1 rfl (Nat.le_of_ble_eq_true rfl) dX3_reasonAgainst_58 ⟨Nat.le_of_ble_eq_true rfl, Nat.le_of_ble_eq_true rfl⟩ 61 rfl ?_
        refine z_ifb_ne C dX3_reasonAgainst_61 66 64 (by decide) rfl (fun c61 => ?_) (fun c61 => ?_)
        · skip
          refine z_al_n C hl dX3_reasonAgainst_66 0 rfl 67 rfl ?_
          refine z_il_n C hl dX3_reasonAgainst_67 1 rfl 68 rfl ?_
          refine z_il_n C hl dX3_reasonAgainst_68 2 rfl 69 rfl ?_
          refine z_il_n C hl dX3_reasonAgainst_69 3 rfl 70 rfl ?_
          refine z_VR (r := .int (iI (bZ (decide (wayZ v b d n ≠ -5))))) (rest := []) C (m_isWayOpen l G r q v b d n w (by omega) (by omega) (by omega) (by assumption)) kV_X3_124 ⟨Nat.le_of_ble_eq_true rfl, Nat.le_of_ble_eq_true rfl⟩ hP hK 0 rfl rfl rfl hl.1 rfl (Nat.le_of_ble_eq_true rfl) dX3_reasonAgainst_70 ⟨Nat.le_of_ble_eq_true rfl, Nat.le_of_ble_eq_true rfl⟩ 73 rfl ?_
          refine z_ifb_ne C dX3_reasonAgainst_73 78 76 (by decide) rfl (fun c73 => ?_) (fun c73 => ?_)
          · skip
            simp only [decide_eq_true_eq, decide_eq_false_iff_not] at c73
            refine z_al_n C hl dX3_reasonAgainst_78 0 rfl 79 rfl ?_
            refine z_il_n C hl dX3_reasonAgainst_79 1 rfl 80 rfl ?_
            refine z_il_n C hl dX3_reasonAgainst_80 2 rfl 81 rfl ?_
            refine z_il_n C hl dX3_reasonAgainst_81 3 rfl 82 rfl ?_
            refine z_VR (r := .int (iI (bZ (blkB v b d n)))) (rest := []) C (m_isBoatInWay l G r q v b d n w (by omega) (by omega) (by omega) (by assumption)) kV_X3_128 ⟨Nat.le_of_ble_eq_true rfl, Nat.le_of_ble_eq_true rfl⟩ hP hK 0 rfl rfl rfl hl.1 rfl (Nat.le_of_ble_eq_true rfl) dX3_reasonAgainst_82 ⟨Nat.le_of_ble_eq_true rfl, Nat.le_of_ble_eq_true rfl⟩ 85 rfl ?_
            refine z_ifb_eq C dX3_reasonAgainst_85 93 88 (by decide) rfl (fun c85 => ?_) (fun c85 => ?_)
            · skip
              refine z_iconst C dX3_reasonAgainst_93 94 rfl ?_
              exact z_ri C dX3_reasonAgainst_94 (by simp [reaZ, c7, c20, c27, c61, c73, c85])
            · skip
              refine z_bipush C dX3_reasonAgainst_88 (by decide) 90 rfl ?_
              refine z_goto C dX3_reasonAgainst_90 94 (by decide) ?_
              exact z_ri C dX3_reasonAgainst_94 (by simp [reaZ, c7, c20, c27, c61, c73, c85])
          · skip
            simp only [decide_eq_true_eq, decide_eq_false_iff_not] at c73
            refine z_iconst C dX3_reasonAgainst_76 77 rfl ?_
            exact z_ri C dX3_reasonAgainst_77 (by simp [reaZ, c7, c20, c27, c61, c73])
        · skip
          refine z_iconst C dX3_reasonAgainst_64 65 rfl ?_
          exact z_ri C dX3_reasonAgainst_65 (by simp [reaZ, c7, c20, c27, c61])
      · skip
        refine z_al_n C hl dX3_reasonAgainst_30 0 rfl 31 rfl ?_
        refine z_get C hP hK fl_X3_9 0 rfl rfl dX3_reasonAgainst_31 34 rfl ?_
        refine z_getN C hP hK fl_X3_56 1 rfl rfl dX3_reasonAgainst_34 37 rfl ?_
        refine z_il_n C hl dX3_reasonAgainst_37 1 rfl 38 rfl ?_
        refine z_NR (r := .int (iI (v (72 + 5 * b)))) (rest := []) C (m_rd l G (q 3) 10 (fun k => v (72 + 5 * k)) (b) (v (72 + 5 * b)) (by decide) (by omega) (congrArg v (by omega))) kN_X3_32 ⟨Nat.le_of_ble_eq_true rfl, Nat.le_of_ble_eq_true rfl⟩ (gP_c hP 4 rfl) hK rfl hl.1 rfl (Nat.le_of_ble_eq_true rfl) dX3_reasonAgainst_38 ⟨Nat.le_of_ble_eq_true rfl, Nat.le_of_ble_eq_true rfl⟩ 41 rfl ?_
        refine z_al_n C hl dX3_reasonAgainst_41 0 rfl 42 rfl ?_
        refine z_get C hP hK fl_X3_9 0 rfl rfl dX3_reasonAgainst_42 45 rfl ?_
        refine z_VR (r := .int (iI ((v 126 % 2)))) (rest := [.int (iI (v (72 + 5 * b)))]) C (m_mover l G q v  w ) kV_X3_117 ⟨Nat.le_of_ble_eq_true rfl, Nat.le_of_ble_eq_true rfl⟩ (gP_rg hP [1] rfl) hK 0 rfl rfl rfl hl.1 rfl (Nat.le_of_ble_eq_true rfl) dX3_reasonAgainst_45 ⟨Nat.le_of_ble_eq_true rfl, Nat.le_of_ble_eq_true rfl⟩ 48 rfl ?_
        refine z_icmp_eq C dX3_reasonAgainst_48 53 51 (by decide) rfl (by omega) (fun c48 => ?_) (fun c48 => ?_)
        · skip
          refine z_al_n C hl dX3_reasonAgainst_53 0 rfl 54 rfl ?_
          refine z_get C hP hK fl_X3_9 0 rfl rfl dX3_reasonAgainst_54 57 rfl ?_
          refine z_il_n C hl dX3_reasonAgainst_57 1 rfl 58 rfl ?_
          refine z_VR (r := .int (iI (bZ (floB v b)))) (rest := []) C (m_floats l G q v b w (by omega)) kV_X3_121 ⟨Nat.le_of_ble_eq_true rfl, Nat.le_of_ble_eq_true rfl⟩ (gP_rg hP [1] rfl) hK 0 rfl rfl rfl hl.1 rfl (Nat.le_of_ble_eq_true rfl) dX3_reasonAgainst_58 ⟨Nat.le_of_ble_eq_true rfl, Nat.le_of_ble_eq_true rfl⟩ 61 rfl ?_
          refine z_ifb_ne C dX3_reasonAgainst_61 66 64 (by decide) rfl (fun c61 => ?_) (fun c61 => ?_)
          · skip
            refine z_al_n C hl dX3_reasonAgainst_66 0 rfl 67 rfl ?_
            refine z_il_n C hl dX3_reasonAgainst_67 1 rfl 68 rfl ?_
            refine z_il_n C hl dX3_reasonAgainst_68 2 rfl 69 rfl ?_
            refine z_il_n C hl dX3_reasonAgainst_69 3 rfl 70 rfl ?_
            refine z_VR (r := .int (iI (bZ (decide (wayZ v b d n ≠ -5))))) (rest := []) C (m_isWayOpen l G r q v b d n w (by omega) (by omega) (by omega) (by assumption)) kV_X3_124 ⟨Nat.le_of_ble_eq_true rfl, Nat.le_of_ble_eq_true rfl⟩ hP hK 0 rfl rfl rfl hl.1 rfl (Nat.le_of_ble_eq_true rfl) dX3_reasonAgainst_70 ⟨Nat.le_of_ble_eq_true rfl, Nat.le_of_ble_eq_true rfl⟩ 73 rfl ?_
            refine z_ifb_ne C dX3_reasonAgainst_73 78 76 (by decide) rfl (fun c73 => ?_) (fun c73 => ?_)
            · skip
              simp only [decide_eq_true_eq, decide_eq_false_iff_not] at c73
              refine z_al_n C hl dX3_reasonAgainst_78 0 rfl 79 rfl ?_
              refine z_il_n C hl dX3_reasonAgainst_79 1 rfl 80 rfl ?_
              refine z_il_n C hl dX3_reasonAgainst_80 2 rfl 81 rfl ?_
              refine z_il_n C hl dX3_reasonAgainst_81 3 rfl 82 rfl ?_
              refine z_VR (r := .int (iI (bZ (blkB v b d n)))) (rest := []) C (m_isBoatInWay l G r q v b d n w (by omega) (by omega) (by omega) (by assumption)) kV_X3_128 ⟨Nat.le_of_ble_eq_true rfl, Nat.le_of_ble_eq_true rfl⟩ hP hK 0 rfl rfl rfl hl.1 rfl (Nat.le_of_ble_eq_true rfl) dX3_reasonAgainst_82 ⟨Nat.le_of_ble_eq_true rfl, Nat.le_of_ble_eq_true rfl⟩ 85 rfl ?_
              refine z_ifb_eq C dX3_reasonAgainst_85 93 88 (by decide) rfl (fun c85 => ?_) (fun c85 => ?_)
              · skip
                refine z_iconst C dX3_reasonAgainst_93 94 rfl ?_
                exact z_ri C dX3_reasonAgainst_94 (by simp [reaZ, c7, c20, c27, c48, c61, c73, c85])
              · skip
                refine z_bipush C dX3_reasonAgainst_88 (by decide) 90 rfl ?_
                refine z_goto C dX3_reasonAgainst_90 94 (by decide) ?_
                exact z_ri C dX3_reasonAgainst_94 (by simp [reaZ, c7, c20, c27, c48, c61, c73, c85])
            · skip
              simp only [decide_eq_true_eq, decide_eq_false_iff_not] at c73
              refine z_iconst C dX3_reasonAgainst_76 77 rfl ?_
              exact z_ri C dX3_reasonAgainst_77 (by simp [reaZ, c7, c20, c27, c48, c61, c73])
          · skip
            refine z_iconst C dX3_reasonAgainst_64 65 rfl ?_
            exact z_ri C dX3_reasonAgainst_65 (by simp [reaZ, c7, c20, c27, c48, c61])
        · skip
          refine z_iconst C dX3_reasonAgainst_51 52 rfl ?_
          exact z_ri C dX3_reasonAgainst_52 (by simp [reaZ, c7, c20, c27, c48])
    · skip
      refine z_iconst C dX3_reasonAgainst_23 24 rfl ?_
      exact z_ri C dX3_reasonAgainst_24 (by simp [reaZ, c7, c20])
  · skip
    refine z_iconst C dX3_reasonAgainst_10 11 rfl ?_
    exact z_ri C dX3_reasonAgainst_11 (by simp [reaZ, c7])

set_option maxHeartbeats 4000000 in
set_option maxRecDepth 100000 in
theorem m_movesOf (l : Launch) (G : gT) (r : Nat) (q : Nat → Nat) (v : Int → Int) (b : Int) (w : Wf v) (hb : 0 ≤ b ∧ b < v 127) : MR l G yX3_movesOf cX3_movesOf 5 (some .int) 4 [.ref (r), .int (iI (b))] [[(r, .inr (3, [.ref (q 0)]))], stW G q v] ZT (.int (iI (mvsZ v b))) := by
  refine enterR (own := RX3) (by decide +kernel) rfl (Nat.le_of_ble_eq_true rfl) ?_
  intro p e s m below meth c C hP hK hZ ls hl
  have hl : lv_has ls 5 [(0, .ref (r)), (1, .int (iI (b)))] := hl
  have h127 := w.n
  refine z_iconst C dX3_movesOf_0 1 rfl ?_
  refine z_is_n C hl dX3_movesOf_1 2 rfl (by decide) (lv' := [(2, .int (iI (0))), (0, .ref (r)), (1, .int (iI (b)))]) rfl (fun ls hl => ?_)
  refine z_iconst C dX3_movesOf_2 3 rfl ?_
  refine z_is_n C hl dX3_movesOf_3 4 rfl (by decide) (lv' := [(3, .int (iI (0))), (2, .int (iI (0))), (0, .ref (r)), (1, .int (iI (b)))]) rfl (fun ls hl => ?_)
  have L4 : ∀ (fu : Nat) (f : Int) (d : Int) (h1 : 0 ≤ d ∧ d ≤ 4) (h2 : f = sumN (fun k => if reaZ v b (k / 3) (k % 3 + 1) true = 0 then 1 else 0) (3 * d).toNat) (hm : 4 - d < (fu : Int)) (ls : Array Slot) (hl : lv_has ls 5 [(3, .int (iI (d))), (2, .int (iI (f))), (1, .int (iI (b))), (0, .ref (r))]), W p l e (rmN 4) s m [.ref (r), .int (iI (b))].toArray below meth c s.heap [] 0 0 (MQ below (QR (.int (iI (mvsZ v b)))) [.ref (r), .int (iI (b))].toArray s 0 0 (fun _ => False)) (F0 m 4 ls []) := by
    intro fu
    induction fu with
    | zero => intro f d h1 h2 hm ls hl; exfalso; omega
    | succ fu ih =>
      intro f d h1 h2 hm ls hl
      have ih4 := ih
      refine z_il_n C hl dX3_movesOf_4 0 rfl 5 rfl ?_
      refine z_iconst C dX3_movesOf_5 6 rfl ?_
      refine z_icmp_ge C dX3_movesOf_6 45 9 (by decide) rfl (by omega) (fun c6 => ?_) (fun c6 => ?_)
      · skip
        refine z_il_n C hl dX3_movesOf_45 1 rfl 46 rfl ?_
        exact z_ri C dX3_movesOf_46 (by rw [h2, show d = 4 by omega]; rfl)
      · skip
        refine z_iconst C dX3_movesOf_9 10 rfl ?_
        refine z_is C hl dX3_movesOf_10 12 rfl (by decide) (lv' := [(4, .int (iI (1))), (3, .int (iI (d))), (2, .int (iI (f))), (1, .int (iI (b))), (0, .ref (r))]) rfl (fun ls hl => ?_)
        have L12 : ∀ (fu : Nat) (g : Int) (st : Int) (g1 : 1 ≤ st ∧ st ≤ 4) (g2 : g = sumN (fun k => if reaZ v b (k / 3) (k % 3 + 1) true = 0 then 1 else 0) (3 * d + st - 1).toNat) (hm : 4 - st < (fu : Int)) (ls : Array Slot) (hl : lv_has ls 5 [(4, .int (iI (st))), (3, .int (iI (d))), (2, .int (iI (g))), (1, .int (iI (b))), (0, .ref (r))]), W p l e (rmN 4) s m [.ref (r), .int (iI (b))].toArray below meth c s.heap [] 0 0 (MQ below (QR (.int (iI (mvsZ v b)))) [.ref (r), .int (iI (b))].toArray s 0 0 (fun _ => False)) (F0 m 12 ls []) := by
          intro fu
          induction fu with
          | zero => intro g st g1 g2 hm ls hl; exfalso; omega
          | succ fu ih =>
            intro g st g1 g2 hm ls hl
            have ih12 := ih
            refine z_il C hl dX3_movesOf_12 0 rfl 14 rfl ?_
            refine z_iconst C dX3_movesOf_14 15 rfl ?_
            refine z_icmp_gt C dX3_movesOf_15 39 18 (by decide) rfl (by omega) (fun c15 => ?_) (fun c15 => ?_)
            · skip
              refine z_iinc C hl dX3_movesOf_39 42 rfl 1 rfl (z := 1 + d) (by omega) (by decide) (lv' := [(3, .int (iI (1 + d))), (4, .int (iI (st))), (2, .int (iI (g))), (1, .int (iI (b))), (0, .ref (r))]) rfl (fun ls hl => ?_)
              refine z_goto C dX3_movesOf_42 4 (by decide) ?_
              exact ih4 g (1 + d) (by omega) (by rw [show 3 * (1 + d) = 3 * d + st - 1 by omega]; exact g2) (by omega) ls (lv_sub hl [0, 2, 3, 4] rfl)
            · skip
              refine z_al_n C hl dX3_movesOf_18 4 rfl 19 rfl ?_
              refine z_il_n C hl dX3_movesOf_19 3 rfl 20 rfl ?_
              refine z_il_n C hl dX3_movesOf_20 1 rfl 21 rfl ?_
              refine z_il C hl dX3_movesOf_21 0 rfl 23 rfl ?_
              refine z_iconst C dX3_movesOf_23 24 rfl ?_
              refine z_VR (r := .int (iI (reaZ v b d st true))) (rest := []) C (m_reasonAgainst l G r q v b d st true w (by omega) (by omega) (by omega)) kV_X3_88 ⟨Nat.le_of_ble_eq_true rfl, Nat.le_of_ble_eq_true rfl⟩ hP hK 0 rfl rfl rfl hl.1 rfl (Nat.le_of_ble_eq_true rfl) dX3_movesOf_24 ⟨Nat.le_of_ble_eq_true rfl, Nat.le_of_ble_eq_true rfl⟩ 27 rfl ?_
              have r24 := reaZ_rng v b d st true
              refine z_if_ne C dX3_movesOf_27 33 30 (by decide) rfl (by omega) (fun c27 => ?_) (fun c27 => ?_)
              · skip
                skip
                refine z_iinc C hl dX3_movesOf_33 36 rfl 0 rfl (z := 1 + st) (by omega) (by decide) (lv' := [(4, .int (iI (1 + st))), (3, .int (iI (d))), (2, .int (iI (g))), (1, .int (iI (b))), (0, .ref (r))]) rfl (fun ls hl => ?_)
                refine z_goto C dX3_movesOf_36 12 (by decide) ?_
                exact ih12 g (1 + st) (by omega) (by rw [show 3 * d + (1 + st) - 1 = 1 + (3 * d + st - 1) by omega, sumN_s (by omega), ← g2, show (3 * d + st - 1) / 3 = d by omega, show (3 * d + st - 1) % 3 + 1 = st by omega, if_neg c27]; omega) (by omega) ls (lv_sub hl [0, 1, 2, 3, 4] rfl)
              · skip
                skip
                refine z_iinc C hl dX3_movesOf_30 33 rfl 2 rfl (z := 1 + g) (by omega) (by decide) (lv' := [(2, .int (iI (1 + g))), (4, .int (iI (st))), (3, .int (iI (d))), (1, .int (iI (b))), (0, .ref (r))]) rfl (fun ls hl => ?_)
                refine z_iinc C hl dX3_movesOf_33 36 rfl 1 rfl (z := 1 + st) (by omega) (by decide) (lv' := [(4, .int (iI (1 + st))), (2, .int (iI (1 + g))), (3, .int (iI (d))), (1, .int (iI (b))), (0, .ref (r))]) rfl (fun ls hl => ?_)
                refine z_goto C dX3_movesOf_36 12 (by decide) ?_
                exact ih12 (1 + g) (1 + st) (by omega) (by rw [show 3 * d + (1 + st) - 1 = 1 + (3 * d + st - 1) by omega, sumN_s (by omega), ← g2, show (3 * d + st - 1) / 3 = d by omega, show (3 * d + st - 1) % 3 + 1 = st by omega, if_pos c27]; omega) (by omega) ls (lv_sub hl [0, 2, 1, 3, 4] rfl)
        exact L12 (Int.toNat (4 - 1) + 1) f 1 (by omega) (by rw [h2, show 3 * d + 1 - 1 = 3 * d by omega]) (by omega) ls (lv_sub hl [0, 1, 2, 3, 4] rfl)
  exact L4 (Int.toNat (4 - 0) + 1) 0 0 (by omega) (rfl) (by omega) ls (lv_sub hl [0, 1, 3, 2] rfl)
