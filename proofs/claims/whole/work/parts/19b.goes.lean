set_option maxHeartbeats 4000000 in
set_option maxRecDepth 100000 in
theorem m_xgoes (l : Launch) (G : gT) (X : Nat → Nat) (kn ml : Int) (kp : Bool) (f : Int → Int) (z : Int) (u : Int → Int) (kd t P D : Int) (S T0 : Int → Bool) (w : Wf u) (hz : 0 ≤ z ∧ z ≤ 129) (hu : ∀ k : Int, 0 ≤ k → k < 129 → f (z + k) = u k) (hk : kd = 100 * P + D) (hP0 : 0 ≤ P ∧ P ≤ 1) (hD0 : 1 ≤ D ∧ D ≤ 3) (ht : 0 ≤ t ∧ t < 999999) (hD : gD ([[moO X kn kp ml], [arI G (X 1) 258 f], [arB G (X 5) 36 S], [arB G (X 6) 36 T0]] : List va_W).flatten) : MW l G yX6_goes cX6_goes 9 (some .boolean) 4 [.ref (X 0), .int (iI (z)), .int (iI (kd)), .int (iI (t))] [[moO X kn kp ml], [arI G (X 1) 258 f], [arB G (X 5) 36 S], [arB G (X 6) 36 T0]] [[moO X kn kp ml], [arI G (X 1) 258 f], [arB G (X 5) 36 S], [arB G (X 6) 36 ((goC u P D t S (false, T0) 36).2)]] ZT (some (.int (iI (bZ ((goC u P D t S (false, T0) 36).1))))) := by
  refine enterW (own := RX6) (by decide +kernel) rfl (Nat.le_of_ble_eq_true rfl) hD ?_
  intro p e s m below meth c C hW hK hZ ls hl
  have hl : lv_has ls 9 [(0, .ref (X 0)), (1, .int (iI (z))), (2, .int (iI (kd))), (3, .int (iI (t)))] := hl
  refine z_iconst C dX6_goes_0 1 rfl ?_
  refine z_is C hl dX6_goes_1 3 rfl (by decide) (lv' := [(4, .int (iI (0))), (0, .ref (X 0)), (1, .int (iI (z))), (2, .int (iI (kd))), (3, .int (iI (t)))]) rfl (fun ls hl => ?_)
  refine z_iconst C dX6_goes_3 4 rfl ?_
  refine z_is C hl dX6_goes_4 6 rfl (by decide) (lv' := [(5, .int (iI (0))), (4, .int (iI (0))), (0, .ref (X 0)), (1, .int (iI (z))), (2, .int (iI (kd))), (3, .int (iI (t)))]) rfl (fun ls hl => ?_)
  have L6 : ∀ (fu : Nat) (hA : Bool) (TA : Int → Bool) (i : Int) (h1 : 0 ≤ i ∧ i ≤ 36) (h2 : goC u P D t S (false, T0) i.toNat = (hA, TA)) (H : Heap) (locs : List Loc) (hW : Wd G (adr ([[moO X kn kp ml], [arI G (X 1) 258 f], [arB G (X 5) 36 S], [arB G (X 6) 36 T0]] : List va_W).flatten) [[moO X kn kp ml], [arI G (X 1) 258 f], [arB G (X 5) 36 S], [arB G (X 6) 36 TA]] s.heap H locs) (hm : 36 - i < (fu : Int)) (ls : Array Slot) (hl : lv_has ls 9 [(5, .int (iI (i))), (4, .int (iI (bZ (hA)))), (3, .int (iI (t))), (2, .int (iI (kd))), (1, .int (iI (z))), (0, .ref (X 0))]), W p l e (rmN 4) s m [.ref (X 0), .int (iI (z)), .int (iI (kd)), .int (iI (t))].toArray below meth c H locs 0 0 (MQ below (QW G [[moO X kn kp ml], [arI G (X 1) 258 f], [arB G (X 5) 36 S], [arB G (X 6) 36 T0]] [[moO X kn kp ml], [arI G (X 1) 258 f], [arB G (X 5) 36 S], [arB G (X 6) 36 ((goC u P D t S (false, T0) 36).2)]] (some (.int (iI (bZ ((goC u P D t S (false, T0) 36).1)))))) [.ref (X 0), .int (iI (z)), .int (iI (kd)), .int (iI (t))].toArray s 0 0 (adr ([[moO X kn kp ml], [arI G (X 1) 258 f], [arB G (X 5) 36 S], [arB G (X 6) 36 T0]] : List va_W).flatten)) (F0 m 6 ls []) := by
    intro fu
    induction fu with
    | zero => intro hA TA i h1 h2 H locs hW hm ls hl; exfalso; omega
    | succ fu ih =>
      intro hA TA i h1 h2 H locs hW hm ls hl
      have ih6 := ih
      refine z_il C hl dX6_goes_6 0 rfl 8 rfl ?_
      refine z_bipush C dX6_goes_8 (by decide) 10 rfl ?_
      refine z_icmp_ge C dX6_goes_10 208 13 (by decide) rfl (by omega) (fun c10 => ?_) (fun c10 => ?_)
      · skip
        refine z_il C hl dX6_goes_208 1 rfl 210 rfl ?_
        have e9 : goC u P D t S (false, T0) 36 = (hA, TA) := by rw [← h2, show i = 36 by omega]; rfl
        rw [e9]
        exact z_wz C hW dX6_goes_210 rfl rfl
      · skip
        refine z_al_n C hl dX6_goes_13 5 rfl 14 rfl ?_
        refine z_get C hW.1 hK fl_X6_26 0 rfl rfl dX6_goes_14 17 rfl ?_
        refine z_il C hl dX6_goes_17 0 rfl 19 rfl ?_
        refine z_al_n C hl dX6_goes_19 5 rfl 20 rfl ?_
        refine z_get C hW.1 hK fl_X6_26 0 rfl rfl dX6_goes_20 23 rfl ?_
        refine z_il C hl dX6_goes_23 0 rfl 25 rfl ?_
        refine z_iaB C (TA) hW.1 hK 3 rfl (by omega) (by decide) (TA i) (rfl) dX6_goes_25 26 rfl ?_
        refine z_ifb_ne C dX6_goes_26 54 29 (by decide) rfl (fun c26 => ?_) (fun c26 => ?_)
        · skip
          refine z_iconst C dX6_goes_54 55 rfl ?_
          refine z_goto C dX6_goes_55 59 (by decide) ?_
          have e26 : (TA i || (S i && !wreckB u i D t)) = true := by simp [c26]
          refine z_iasB C (TA) (x := true) hW hK 3 rfl (by omega) (by decide) dX6_goes_59 60 rfl (rs' := [[moO X kn kp ml], [arI G (X 1) 258 f], [arB G (X 5) 36 S], [arB G (X 6) 36 (updB TA i true)]]) rfl (fun H locs hW => ?_)
          rw [show updB TA i true = go1 u D t S i TA by unfold go1; rw [e26]] at hW
          refine z_al_n C hl dX6_goes_60 5 rfl 61 rfl ?_
          refine z_get C hW.1 hK fl_X6_22 0 rfl rfl dX6_goes_61 64 rfl ?_
          refine z_il C hl dX6_goes_64 0 rfl 66 rfl ?_
          refine z_iaB C (S) hW.1 hK 2 rfl (by omega) (by decide) (S i) (rfl) dX6_goes_66 67 rfl ?_
          refine z_ifb_eq C dX6_goes_67 99 70 (by decide) rfl (fun c67 => ?_) (fun c67 => ?_)
          · skip
            refine z_iconst C dX6_goes_99 100 rfl ?_
            have hcan : canB u P D t S i = false := by simp [canB, c67]
            refine z_is C hl dX6_goes_100 102 rfl (by decide) (lv' := [(6, .int (iI (0))), (5, .int (iI (i))), (4, .int (iI (bZ (hA)))), (3, .int (iI (t))), (2, .int (iI (kd))), (1, .int (iI (z))), (0, .ref (X 0))]) rfl (fun ls hl => ?_)
            refine z_iconst C dX6_goes_102 103 rfl ?_
            refine z_is C hl dX6_goes_103 105 rfl (by decide) (lv' := [(7, .int (iI (0))), (6, .int (iI (0))), (5, .int (iI (i))), (4, .int (iI (bZ (hA)))), (3, .int (iI (t))), (2, .int (iI (kd))), (1, .int (iI (z))), (0, .ref (X 0))]) rfl (fun ls hl => ?_)
            refine z_il C hl dX6_goes_105 0 rfl 107 rfl ?_
            refine z_bipush C dX6_goes_107 (by decide) 109 rfl ?_
            refine z_icmp_ge C dX6_goes_109 202 112 (by decide) rfl (by omega) (fun c109 => ?_) (fun c109 => ?_)
            · exfalso; omega
            · skip
              refine z_il C hl dX6_goes_112 1 rfl 114 rfl ?_
              refine z_if_eq C dX6_goes_114 202 117 (by decide) rfl (by omega) (fun c114 => ?_) (fun c114 => ?_)
              · skip
                refine z_iinc C hl dX6_goes_202 205 rfl 2 rfl (z := 1 + i) (by omega) (by decide) (lv' := [(5, .int (iI (1 + i))), (7, .int (iI (0))), (6, .int (iI (0))), (4, .int (iI (bZ (hA)))), (3, .int (iI (t))), (2, .int (iI (kd))), (1, .int (iI (z))), (0, .ref (X 0))]) rfl (fun ls hl => ?_)
                refine z_goto C dX6_goes_205 6 (by decide) ?_
                exact ih6 hA (go1 u D t S i TA) (1 + i) (by omega) (by rw [goC_n h1.1 h2 hcan]) _ _ hW (by omega) ls (lv_sub hl [0, 3, 4, 5, 6, 7] rfl)
              · exfalso; omega
          · skip
            refine z_il_n C hl dX6_goes_70 2 rfl 71 rfl ?_
            refine z_iconst C dX6_goes_71 72 rfl ?_
            refine z_irem C dX6_goes_72 73 rfl (by omega) ((t % 2)) (rfl) ?_
            refine z_il_n C hl dX6_goes_73 3 rfl 74 rfl ?_
            refine z_bipush C dX6_goes_74 (by decide) 76 rfl ?_
            refine z_idiv C dX6_goes_76 77 rfl (by omega) (P) (by omega) ?_
            refine z_icmp_ne C dX6_goes_77 99 80 (by decide) rfl (by omega) (fun c77 => ?_) (fun c77 => ?_)
            · skip
              refine z_iconst C dX6_goes_99 100 rfl ?_
              have hcan : canB u P D t S i = false := by simp [canB, c67, c77]
              refine z_is C hl dX6_goes_100 102 rfl (by decide) (lv' := [(6, .int (iI (0))), (5, .int (iI (i))), (4, .int (iI (bZ (hA)))), (3, .int (iI (t))), (2, .int (iI (kd))), (1, .int (iI (z))), (0, .ref (X 0))]) rfl (fun ls hl => ?_)
              refine z_iconst C dX6_goes_102 103 rfl ?_
              refine z_is C hl dX6_goes_103 105 rfl (by decide) (lv' := [(7, .int (iI (0))), (6, .int (iI (0))), (5, .int (iI (i))), (4, .int (iI (bZ (hA)))), (3, .int (iI (t))), (2, .int (iI (kd))), (1, .int (iI (z))), (0, .ref (X 0))]) rfl (fun ls hl => ?_)
              refine z_il C hl dX6_goes_105 0 rfl 107 rfl ?_
              refine z_bipush C dX6_goes_107 (by decide) 109 rfl ?_
              refine z_icmp_ge C dX6_goes_109 202 112 (by decide) rfl (by omega) (fun c109 => ?_) (fun c109 => ?_)
              · exfalso; omega
              · skip
                refine z_il C hl dX6_goes_112 1 rfl 114 rfl ?_
                refine z_if_eq C dX6_goes_114 202 117 (by decide) rfl (by omega) (fun c114 => ?_) (fun c114 => ?_)
                · skip
                  refine z_iinc C hl dX6_goes_202 205 rfl 2 rfl (z := 1 + i) (by omega) (by decide) (lv' := [(5, .int (iI (1 + i))), (7, .int (iI (0))), (6, .int (iI (0))), (4, .int (iI (bZ (hA)))), (3, .int (iI (t))), (2, .int (iI (kd))), (1, .int (iI (z))), (0, .ref (X 0))]) rfl (fun ls hl => ?_)
                  refine z_goto C dX6_goes_205 6 (by decide) ?_
                  exact ih6 hA (go1 u D t S i TA) (1 + i) (by omega) (by rw [goC_n h1.1 h2 hcan]) _ _ hW (by omega) ls (lv_sub hl [0, 3, 4, 5, 6, 7] rfl)
                · exfalso; omega
            · skip
              refine z_al_n C hl dX6_goes_80 5 rfl 81 rfl ?_
              refine z_il_n C hl dX6_goes_81 4 rfl 82 rfl ?_
              refine z_il C hl dX6_goes_82 0 rfl 84 rfl ?_
              refine z_il_n C hl dX6_goes_84 3 rfl 85 rfl ?_
              refine z_bipush C dX6_goes_85 (by decide) 87 rfl ?_
              refine z_irem C dX6_goes_87 88 rfl (by omega) (D) (by omega) ?_
              refine z_il_n C hl dX6_goes_88 2 rfl 89 rfl ?_
              refine z_VR (r := .int (iI (bZ (wetB u i D t)))) (rest := []) C (m_xfloats l G X kn ml kp f z u i D t w (by omega) hu (by omega) (by omega) (by omega)) kV_X6_57 ⟨Nat.le_of_ble_eq_true rfl, Nat.le_of_ble_eq_true rfl⟩ (gP_rg hW.1 [0, 1] rfl) hK 0 rfl rfl rfl hl.1 rfl (Nat.le_of_ble_eq_true rfl) dX6_goes_89 ⟨Nat.le_of_ble_eq_true rfl, Nat.le_of_ble_eq_true rfl⟩ 92 rfl ?_
              refine z_ifb_eq C dX6_goes_92 99 95 (by decide) rfl (fun c92 => ?_) (fun c92 => ?_)
              · skip
                refine z_iconst C dX6_goes_99 100 rfl ?_
                have hcan : canB u P D t S i = false := by simp [canB, c67, c77, c92]
                refine z_is C hl dX6_goes_100 102 rfl (by decide) (lv' := [(6, .int (iI (0))), (5, .int (iI (i))), (4, .int (iI (bZ (hA)))), (3, .int (iI (t))), (2, .int (iI (kd))), (1, .int (iI (z))), (0, .ref (X 0))]) rfl (fun ls hl => ?_)
                refine z_iconst C dX6_goes_102 103 rfl ?_
                refine z_is C hl dX6_goes_103 105 rfl (by decide) (lv' := [(7, .int (iI (0))), (6, .int (iI (0))), (5, .int (iI (i))), (4, .int (iI (bZ (hA)))), (3, .int (iI (t))), (2, .int (iI (kd))), (1, .int (iI (z))), (0, .ref (X 0))]) rfl (fun ls hl => ?_)
                refine z_il C hl dX6_goes_105 0 rfl 107 rfl ?_
                refine z_bipush C dX6_goes_107 (by decide) 109 rfl ?_
                refine z_icmp_ge C dX6_goes_109 202 112 (by decide) rfl (by omega) (fun c109 => ?_) (fun c109 => ?_)
                · exfalso; omega
                · skip
                  refine z_il C hl dX6_goes_112 1 rfl 114 rfl ?_
                  refine z_if_eq C dX6_goes_114 202 117 (by decide) rfl (by omega) (fun c114 => ?_) (fun c114 => ?_)
                  · skip
                    refine z_iinc C hl dX6_goes_202 205 rfl 2 rfl (z := 1 + i) (by omega) (by decide) (lv' := [(5, .int (iI (1 + i))), (7, .int (iI (0))), (6, .int (iI (0))), (4, .int (iI (bZ (hA)))), (3, .int (iI (t))), (2, .int (iI (kd))), (1, .int (iI (z))), (0, .ref (X 0))]) rfl (fun ls hl => ?_)
                    refine z_goto C dX6_goes_205 6 (by decide) ?_
                    exact ih6 hA (go1 u D t S i TA) (1 + i) (by omega) (by rw [goC_n h1.1 h2 hcan]) _ _ hW (by omega) ls (lv_sub hl [0, 3, 4, 5, 6, 7] rfl)
                  · exfalso; omega
              · skip
                refine z_iconst C dX6_goes_95 96 rfl ?_
                refine z_goto C dX6_goes_96 100 (by decide) ?_
                have hcan : canB u P D t S i = true := by simp [canB, c67, c77, c92]
                refine z_is C hl dX6_goes_100 102 rfl (by decide) (lv' := [(6, .int (iI (1))), (5, .int (iI (i))), (4, .int (iI (bZ (hA)))), (3, .int (iI (t))), (2, .int (iI (kd))), (1, .int (iI (z))), (0, .ref (X 0))]) rfl (fun ls hl => ?_)
                refine z_iconst C dX6_goes_102 103 rfl ?_
                refine z_is C hl dX6_goes_103 105 rfl (by decide) (lv' := [(7, .int (iI (0))), (6, .int (iI (1))), (5, .int (iI (i))), (4, .int (iI (bZ (hA)))), (3, .int (iI (t))), (2, .int (iI (kd))), (1, .int (iI (z))), (0, .ref (X 0))]) rfl (fun ls hl => ?_)
                have L105 : ∀ (fu : Nat) (h : Bool) (T : Int → Bool) (k : Int) (h5 : 0 ≤ k ∧ k ≤ 12) (g2 : goW u P D t i (hA, go1 u D t S i TA) k.toNat = (h, T)) (H : Heap) (locs : List Loc) (hW : Wd G (adr ([[moO X kn kp ml], [arI G (X 1) 258 f], [arB G (X 5) 36 S], [arB G (X 6) 36 T0]] : List va_W).flatten) [[moO X kn kp ml], [arI G (X 1) 258 f], [arB G (X 5) 36 S], [arB G (X 6) 36 T]] s.heap H locs) (hm : 12 - k < (fu : Int)) (ls : Array Slot) (hl : lv_has ls 9 [(7, .int (iI (k))), (6, .int (iI (1))), (5, .int (iI (i))), (4, .int (iI (bZ (h)))), (3, .int (iI (t))), (2, .int (iI (kd))), (1, .int (iI (z))), (0, .ref (X 0))]), W p l e (rmN 4) s m [.ref (X 0), .int (iI (z)), .int (iI (kd)), .int (iI (t))].toArray below meth c H locs 0 0 (MQ below (QW G [[moO X kn kp ml], [arI G (X 1) 258 f], [arB G (X 5) 36 S], [arB G (X 6) 36 T0]] [[moO X kn kp ml], [arI G (X 1) 258 f], [arB G (X 5) 36 S], [arB G (X 6) 36 ((goC u P D t S (false, T0) 36).2)]] (some (.int (iI (bZ ((goC u P D t S (false, T0) 36).1)))))) [.ref (X 0), .int (iI (z)), .int (iI (kd)), .int (iI (t))].toArray s 0 0 (adr ([[moO X kn kp ml], [arI G (X 1) 258 f], [arB G (X 5) 36 S], [arB G (X 6) 36 T0]] : List va_W).flatten)) (F0 m 105 ls []) := by
                  intro fu
                  induction fu with
                  | zero => intro h T k h5 g2 H locs hW hm ls hl; exfalso; omega
                  | succ fu ih =>
                    intro h T k h5 g2 H locs hW hm ls hl
                    have ih105 := ih
                    refine z_il C hl dX6_goes_105 0 rfl 107 rfl ?_
                    refine z_bipush C dX6_goes_107 (by decide) 109 rfl ?_
                    refine z_icmp_ge C dX6_goes_109 202 112 (by decide) rfl (by omega) (fun c109 => ?_) (fun c109 => ?_)
                    · skip
                      refine z_iinc C hl dX6_goes_202 205 rfl 2 rfl (z := 1 + i) (by omega) (by decide) (lv' := [(5, .int (iI (1 + i))), (7, .int (iI (k))), (6, .int (iI (1))), (4, .int (iI (bZ (h)))), (3, .int (iI (t))), (2, .int (iI (kd))), (1, .int (iI (z))), (0, .ref (X 0))]) rfl (fun ls hl => ?_)
                      refine z_goto C dX6_goes_205 6 (by decide) ?_
                      exact ih6 h T (1 + i) (by omega) (by rw [goC_y h1.1 h2 hcan, show (12 : Nat) = Int.toNat k by omega]; exact g2) _ _ hW (by omega) ls (lv_sub hl [0, 3, 4, 5, 6, 7] rfl)
                    · skip
                      refine z_il C hl dX6_goes_112 1 rfl 114 rfl ?_
                      refine z_if_eq C dX6_goes_114 202 117 (by decide) rfl (by omega) (fun c114 => ?_) (fun c114 => ?_)
                      · exfalso; omega
                      · skip
                        refine z_al_n C hl dX6_goes_117 7 rfl 118 rfl ?_
                        refine z_il_n C hl dX6_goes_118 6 rfl 119 rfl ?_
                        refine z_il_n C hl dX6_goes_119 5 rfl 120 rfl ?_
                        refine z_il C hl dX6_goes_120 2 rfl 122 rfl ?_
                        refine z_bipush C dX6_goes_122 (by decide) 124 rfl ?_
                        refine z_il C hl dX6_goes_124 0 rfl 126 rfl ?_
                        refine z_iconst C dX6_goes_126 127 rfl ?_
                        refine z_idiv C dX6_goes_127 128 rfl (by omega) ((k / 3)) (rfl) ?_
                        refine z_imul C dX6_goes_128 129 rfl (10 * (k / 3)) (rfl) ?_
                        refine z_il C hl dX6_goes_129 0 rfl 131 rfl ?_
                        refine z_iconst C dX6_goes_131 132 rfl ?_
                        refine z_irem C dX6_goes_132 133 rfl (by omega) ((k % 3)) (rfl) ?_
                        refine z_iadd C dX6_goes_133 134 rfl ((k % 3) + 10 * (k / 3)) (by omega) ?_
                        refine z_iconst C dX6_goes_134 135 rfl ?_
                        refine z_iadd C dX6_goes_135 136 rfl (1 + (k % 3) + 10 * (k / 3)) (by omega) ?_
                        refine z_il_n C hl dX6_goes_136 4 rfl 137 rfl ?_
                        refine z_VR (r := .int (iI (wayN u P D t (k / 3) (Int.toNat (k % 3 + 1)) i))) (rest := []) C (m_xway l G X kn ml kp f z u kd i (1 + (k % 3) + 10 * (k / 3)) t P D (k / 3) (k % 3 + 1) w (by omega) hu (by omega) (by omega) (by omega) (by omega) (by omega) (by omega) (by omega) (by omega)) kV_X6_88 ⟨Nat.le_of_ble_eq_true rfl, Nat.le_of_ble_eq_true rfl⟩ (gP_rg hW.1 [0, 1] rfl) hK 0 rfl rfl rfl hl.1 rfl (Nat.le_of_ble_eq_true rfl) dX6_goes_137 ⟨Nat.le_of_ble_eq_true rfl, Nat.le_of_ble_eq_true rfl⟩ 140 rfl ?_
                        refine z_top (b := .int (iI (wyN u P D t i k))) rfl ?_
                        have hwy := wyN_2 (u := u) (P := P) (D := D) (t := t) (k := k) (c := i) (by omega)
                        refine z_is C hl dX6_goes_140 142 rfl (by decide) (lv' := [(8, .int (iI (wyN u P D t i k))), (7, .int (iI (k))), (6, .int (iI (1))), (5, .int (iI (i))), (4, .int (iI (bZ (h)))), (3, .int (iI (t))), (2, .int (iI (kd))), (1, .int (iI (z))), (0, .ref (X 0))]) rfl (fun ls hl => ?_)
                        refine z_il C hl dX6_goes_142 4 rfl 144 rfl ?_
                        refine z_ifb_ne C dX6_goes_144 159 147 (by decide) rfl (fun c144 => ?_) (fun c144 => ?_)
                        · skip
                          refine z_iconst C dX6_goes_159 160 rfl ?_
                          refine z_goto C dX6_goes_160 164 (by decide) ?_
                          refine z_is C hl dX6_goes_164 166 rfl (by decide) (lv' := [(4, .int (iI (1))), (8, .int (iI (wyN u P D t i k))), (7, .int (iI (k))), (6, .int (iI (1))), (5, .int (iI (i))), (3, .int (iI (t))), (2, .int (iI (kd))), (1, .int (iI (z))), (0, .ref (X 0))]) rfl (fun ls hl => ?_)
                          refine z_il C hl dX6_goes_166 1 rfl 168 rfl ?_
                          refine z_bipush C dX6_goes_168 (by decide) 170 rfl ?_
                          refine z_icmp_eq C dX6_goes_170 196 173 (by decide) rfl (by omega) (fun c170 => ?_) (fun c170 => ?_)
                          · skip
                            refine z_iinc C hl dX6_goes_196 199 rfl 2 rfl (z := 1 + k) (by omega) (by decide) (lv' := [(7, .int (iI (1 + k))), (4, .int (iI (1))), (8, .int (iI (wyN u P D t i k))), (6, .int (iI (1))), (5, .int (iI (i))), (3, .int (iI (t))), (2, .int (iI (kd))), (1, .int (iI (z))), (0, .ref (X 0))]) rfl (fun ls hl => ?_)
                            refine z_goto C dX6_goes_199 105 (by decide) ?_
                            exact ih105 true T (1 + k) (by omega) (by rw [goW_s h5.1 g2]; exact Prod.ext (by show (h || _) = true; rw [c144]; rfl) (if_neg (fun z => z.1 c170))) _ _ hW (by omega) ls (lv_sub hl [0, 3, 4, 1, 5, 6, 7, 8] rfl)
                          · skip
                            refine z_al_n C hl dX6_goes_173 8 rfl 174 rfl ?_
                            refine z_il_n C hl dX6_goes_174 7 rfl 175 rfl ?_
                            refine z_il C hl dX6_goes_175 1 rfl 177 rfl ?_
                            refine z_il_n C hl dX6_goes_177 6 rfl 178 rfl ?_
                            refine z_bipush C dX6_goes_178 (by decide) 180 rfl ?_
                            refine z_irem C dX6_goes_180 181 rfl (by omega) (D) (by omega) ?_
                            refine z_il_n C hl dX6_goes_181 5 rfl 182 rfl ?_
                            refine z_VR (r := .int (iI (bZ (wreckB u (wyN u P D t i k) D t)))) (rest := []) C (m_xwrecks l G X kn ml kp f z u (wyN u P D t i k) D t w (by omega) hu (by omega) (by omega) (by omega)) kV_X6_101 ⟨Nat.le_of_ble_eq_true rfl, Nat.le_of_ble_eq_true rfl⟩ (gP_rg hW.1 [0, 1] rfl) hK 0 rfl rfl rfl hl.1 rfl (Nat.le_of_ble_eq_true rfl) dX6_goes_182 ⟨Nat.le_of_ble_eq_true rfl, Nat.le_of_ble_eq_true rfl⟩ 185 rfl ?_
                            refine z_ifb_ne C dX6_goes_185 196 188 (by decide) rfl (fun c185 => ?_) (fun c185 => ?_)
                            · skip
                              refine z_iinc C hl dX6_goes_196 199 rfl 2 rfl (z := 1 + k) (by omega) (by decide) (lv' := [(7, .int (iI (1 + k))), (4, .int (iI (1))), (8, .int (iI (wyN u P D t i k))), (6, .int (iI (1))), (5, .int (iI (i))), (3, .int (iI (t))), (2, .int (iI (kd))), (1, .int (iI (z))), (0, .ref (X 0))]) rfl (fun ls hl => ?_)
                              refine z_goto C dX6_goes_199 105 (by decide) ?_
                              exact ih105 true T (1 + k) (by omega) (by rw [goW_s h5.1 g2]; exact Prod.ext (by show (h || _) = true; rw [c144]; rfl) (if_neg (fun z => by rw [c185] at z; cases z.2))) _ _ hW (by omega) ls (lv_sub hl [0, 3, 4, 1, 5, 6, 7, 8] rfl)
                            · skip
                              refine z_al_n C hl dX6_goes_188 8 rfl 189 rfl ?_
                              refine z_get C hW.1 hK fl_X6_26 0 rfl rfl dX6_goes_189 192 rfl ?_
                              refine z_il C hl dX6_goes_192 1 rfl 194 rfl ?_
                              refine z_iconst C dX6_goes_194 195 rfl ?_
                              refine z_iasB C (T) (x := true) hW hK 3 rfl (by omega) (by decide) dX6_goes_195 196 rfl (rs' := [[moO X kn kp ml], [arI G (X 1) 258 f], [arB G (X 5) 36 S], [arB G (X 6) 36 (updB T (wyN u P D t i k) true)]]) rfl (fun H locs hW => ?_)
                              refine z_iinc C hl dX6_goes_196 199 rfl 2 rfl (z := 1 + k) (by omega) (by decide) (lv' := [(7, .int (iI (1 + k))), (4, .int (iI (1))), (8, .int (iI (wyN u P D t i k))), (6, .int (iI (1))), (5, .int (iI (i))), (3, .int (iI (t))), (2, .int (iI (kd))), (1, .int (iI (z))), (0, .ref (X 0))]) rfl (fun ls hl => ?_)
                              refine z_goto C dX6_goes_199 105 (by decide) ?_
                              exact ih105 true (updB T (wyN u P D t i k) true) (1 + k) (by omega) (by rw [goW_s h5.1 g2]; exact Prod.ext (by show (h || _) = true; rw [c144]; rfl) (if_pos ⟨c170, c185⟩)) _ _ hW (by omega) ls (lv_sub hl [0, 3, 4, 1, 5, 6, 7, 8] rfl)
                        · skip
                          refine z_il C hl dX6_goes_147 0 rfl 149 rfl ?_
                          refine z_il_n C hl dX6_goes_149 6 rfl 150 rfl ?_
                          refine z_bipush C dX6_goes_150 (by decide) 152 rfl ?_
                          refine z_idiv C dX6_goes_152 153 rfl (by omega) (P) (by omega) ?_
                          refine z_SR (r := .int (iI (harZ P))) (rest := [.int (iI (wyN u P D t i k))]) C (m_xhar l G P (by omega)) kS_X6_61 ⟨Nat.le_of_ble_eq_true rfl, Nat.le_of_ble_eq_true rfl⟩ (gP_nil) hK rfl hl.1 rfl (Nat.le_of_ble_eq_true rfl) dX6_goes_153 ⟨Nat.le_of_ble_eq_true rfl, Nat.le_of_ble_eq_true rfl⟩ 156 rfl ?_
                          have hh153 := harZ_rng P
                          refine z_icmp_ne C dX6_goes_156 163 159 (by decide) rfl (by omega) (fun c156 => ?_) (fun c156 => ?_)
                          · skip
                            refine z_iconst C dX6_goes_163 164 rfl ?_
                            refine z_is C hl dX6_goes_164 166 rfl (by decide) (lv' := [(4, .int (iI (0))), (8, .int (iI (wyN u P D t i k))), (7, .int (iI (k))), (6, .int (iI (1))), (5, .int (iI (i))), (3, .int (iI (t))), (2, .int (iI (kd))), (1, .int (iI (z))), (0, .ref (X 0))]) rfl (fun ls hl => ?_)
                            refine z_il C hl dX6_goes_166 1 rfl 168 rfl ?_
                            refine z_bipush C dX6_goes_168 (by decide) 170 rfl ?_
                            refine z_icmp_eq C dX6_goes_170 196 173 (by decide) rfl (by omega) (fun c170 => ?_) (fun c170 => ?_)
                            · skip
                              refine z_iinc C hl dX6_goes_196 199 rfl 2 rfl (z := 1 + k) (by omega) (by decide) (lv' := [(7, .int (iI (1 + k))), (4, .int (iI (0))), (8, .int (iI (wyN u P D t i k))), (6, .int (iI (1))), (5, .int (iI (i))), (3, .int (iI (t))), (2, .int (iI (kd))), (1, .int (iI (z))), (0, .ref (X 0))]) rfl (fun ls hl => ?_)
                              refine z_goto C dX6_goes_199 105 (by decide) ?_
                              exact ih105 false T (1 + k) (by omega) (by rw [goW_s h5.1 g2]; exact Prod.ext (by show (h || _) = false; rw [c144, decide_eq_false c156]; rfl) (if_neg (fun z => z.1 c170))) _ _ hW (by omega) ls (lv_sub hl [0, 3, 4, 1, 5, 6, 7, 8] rfl)
                            · skip
                              refine z_al_n C hl dX6_goes_173 8 rfl 174 rfl ?_
                              refine z_il_n C hl dX6_goes_174 7 rfl 175 rfl ?_
                              refine z_il C hl dX6_goes_175 1 rfl 177 rfl ?_
                              refine z_il_n C hl dX6_goes_177 6 rfl 178 rfl ?_
                              refine z_bipush C dX6_goes_178 (by decide) 180 rfl ?_
                              refine z_irem C dX6_goes_180 181 rfl (by omega) (D) (by omega) ?_
                              refine z_il_n C hl dX6_goes_181 5 rfl 182 rfl ?_
                              refine z_VR (r := .int (iI (bZ (wreckB u (wyN u P D t i k) D t)))) (rest := []) C (m_xwrecks l G X kn ml kp f z u (wyN u P D t i k) D t w (by omega) hu (by omega) (by omega) (by omega)) kV_X6_101 ⟨Nat.le_of_ble_eq_true rfl, Nat.le_of_ble_eq_true rfl⟩ (gP_rg hW.1 [0, 1] rfl) hK 0 rfl rfl rfl hl.1 rfl (Nat.le_of_ble_eq_true rfl) dX6_goes_182 ⟨Nat.le_of_ble_eq_true rfl, Nat.le_of_ble_eq_true rfl⟩ 185 rfl ?_
                              refine z_ifb_ne C dX6_goes_185 196 188 (by decide) rfl (fun c185 => ?_) (fun c185 => ?_)
                              · skip
                                refine z_iinc C hl dX6_goes_196 199 rfl 2 rfl (z := 1 + k) (by omega) (by decide) (lv' := [(7, .int (iI (1 + k))), (4, .int (iI (0))), (8, .int (iI (wyN u P D t i k))), (6, .int (iI (1))), (5, .int (iI (i))), (3, .int (iI (t))), (2, .int (iI (kd))), (1, .int (iI (z))), (0, .ref (X 0))]) rfl (fun ls hl => ?_)
                                refine z_goto C dX6_goes_199 105 (by decide) ?_
                                exact ih105 false T (1 + k) (by omega) (by rw [goW_s h5.1 g2]; exact Prod.ext (by show (h || _) = false; rw [c144, decide_eq_false c156]; rfl) (if_neg (fun z => by rw [c185] at z; cases z.2))) _ _ hW (by omega) ls (lv_sub hl [0, 3, 4, 1, 5, 6, 7, 8] rfl)
                              · skip
                                refine z_al_n C hl dX6_goes_188 8 rfl 189 rfl ?_
                                refine z_get C hW.1 hK fl_X6_26 0 rfl rfl dX6_goes_189 192 rfl ?_
                                refine z_il C hl dX6_goes_192 1 rfl 194 rfl ?_
                                refine z_iconst C dX6_goes_194 195 rfl ?_
                                refine z_iasB C (T) (x := true) hW hK 3 rfl (by omega) (by decide) dX6_goes_195 196 rfl (rs' := [[moO X kn kp ml], [arI G (X 1) 258 f], [arB G (X 5) 36 S], [arB G (X 6) 36 (updB T (wyN u P D t i k) true)]]) rfl (fun H locs hW => ?_)
                                refine z_iinc C hl dX6_goes_196 199 rfl 2 rfl (z := 1 + k) (by omega) (by decide) (lv' := [(7, .int (iI (1 + k))), (4, .int (iI (0))), (8, .int (iI (wyN u P D t i k))), (6, .int (iI (1))), (5, .int (iI (i))), (3, .int (iI (t))), (2, .int (iI (kd))), (1, .int (iI (z))), (0, .ref (X 0))]) rfl (fun ls hl => ?_)
                                refine z_goto C dX6_goes_199 105 (by decide) ?_
                                exact ih105 false (updB T (wyN u P D t i k) true) (1 + k) (by omega) (by rw [goW_s h5.1 g2]; exact Prod.ext (by show (h || _) = false; rw [c144, decide_eq_false c156]; rfl) (if_pos ⟨c170, c185⟩)) _ _ hW (by omega) ls (lv_sub hl [0, 3, 4, 1, 5, 6, 7, 8] rfl)
                          · skip
                            refine z_iconst C dX6_goes_159 160 rfl ?_
                            refine z_goto C dX6_goes_160 164 (by decide) ?_
                            refine z_is C hl dX6_goes_164 166 rfl (by decide) (lv' := [(4, .int (iI (1))), (8, .int (iI (wyN u P D t i k))), (7, .int (iI (k))), (6, .int (iI (1))), (5, .int (iI (i))), (3, .int (iI (t))), (2, .int (iI (kd))), (1, .int (iI (z))), (0, .ref (X 0))]) rfl (fun ls hl => ?_)
                            refine z_il C hl dX6_goes_166 1 rfl 168 rfl ?_
                            refine z_bipush C dX6_goes_168 (by decide) 170 rfl ?_
                            refine z_icmp_eq C dX6_goes_170 196 173 (by decide) rfl (by omega) (fun c170 => ?_) (fun c170 => ?_)
                            · skip
                              refine z_iinc C hl dX6_goes_196 199 rfl 2 rfl (z := 1 + k) (by omega) (by decide) (lv' := [(7, .int (iI (1 + k))), (4, .int (iI (1))), (8, .int (iI (wyN u P D t i k))), (6, .int (iI (1))), (5, .int (iI (i))), (3, .int (iI (t))), (2, .int (iI (kd))), (1, .int (iI (z))), (0, .ref (X 0))]) rfl (fun ls hl => ?_)
                              refine z_goto C dX6_goes_199 105 (by decide) ?_
                              exact ih105 true T (1 + k) (by omega) (by rw [goW_s h5.1 g2]; exact Prod.ext (by show (h || _) = true; rw [c144, decide_eq_true c156]; rfl) (if_neg (fun z => z.1 c170))) _ _ hW (by omega) ls (lv_sub hl [0, 3, 4, 1, 5, 6, 7, 8] rfl)
                            · skip
                              refine z_al_n C hl dX6_goes_173 8 rfl 174 rfl ?_
                              refine z_il_n C hl dX6_goes_174 7 rfl 175 rfl ?_
                              refine z_il C hl dX6_goes_175 1 rfl 177 rfl ?_
                              refine z_il_n C hl dX6_goes_177 6 rfl 178 rfl ?_
                              refine z_bipush C dX6_goes_178 (by decide) 180 rfl ?_
                              refine z_irem C dX6_goes_180 181 rfl (by omega) (D) (by omega) ?_
                              refine z_il_n C hl dX6_goes_181 5 rfl 182 rfl ?_
                              refine z_VR (r := .int (iI (bZ (wreckB u (wyN u P D t i k) D t)))) (rest := []) C (m_xwrecks l G X kn ml kp f z u (wyN u P D t i k) D t w (by omega) hu (by omega) (by omega) (by omega)) kV_X6_101 ⟨Nat.le_of_ble_eq_true rfl, Nat.le_of_ble_eq_true rfl⟩ (gP_rg hW.1 [0, 1] rfl) hK 0 rfl rfl rfl hl.1 rfl (Nat.le_of_ble_eq_true rfl) dX6_goes_182 ⟨Nat.le_of_ble_eq_true rfl, Nat.le_of_ble_eq_true rfl⟩ 185 rfl ?_
                              refine z_ifb_ne C dX6_goes_185 196 188 (by decide) rfl (fun c185 => ?_) (fun c185 => ?_)
                              · skip
                                refine z_iinc C hl dX6_goes_196 199 rfl 2 rfl (z := 1 + k) (by omega) (by decide) (lv' := [(7, .int (iI (1 + k))), (4, .int (iI (1))), (8, .int (iI (wyN u P D t i k))), (6, .int (iI (1))), (5, .int (iI (i))), (3, .int (iI (t))), (2, .int (iI (kd))), (1, .int (iI (z))), (0, .ref (X 0))]) rfl (fun ls hl => ?_)
                                refine z_goto C dX6_goes_199 105 (by decide) ?_
                                exact ih105 true T (1 + k) (by omega) (by rw [goW_s h5.1 g2]; exact Prod.ext (by show (h || _) = true; rw [c144, decide_eq_true c156]; rfl) (if_neg (fun z => by rw [c185] at z; cases z.2))) _ _ hW (by omega) ls (lv_sub hl [0, 3, 4, 1, 5, 6, 7, 8] rfl)
                              · skip
                                refine z_al_n C hl dX6_goes_188 8 rfl 189 rfl ?_
                                refine z_get C hW.1 hK fl_X6_26 0 rfl rfl dX6_goes_189 192 rfl ?_
                                refine z_il C hl dX6_goes_192 1 rfl 194 rfl ?_
                                refine z_iconst C dX6_goes_194 195 rfl ?_
                                refine z_iasB C (T) (x := true) hW hK 3 rfl (by omega) (by decide) dX6_goes_195 196 rfl (rs' := [[moO X kn kp ml], [arI G (X 1) 258 f], [arB G (X 5) 36 S], [arB G (X 6) 36 (updB T (wyN u P D t i k) true)]]) rfl (fun H locs hW => ?_)
                                refine z_iinc C hl dX6_goes_196 199 rfl 2 rfl (z := 1 + k) (by omega) (by decide) (lv' := [(7, .int (iI (1 + k))), (4, .int (iI (1))), (8, .int (iI (wyN u P D t i k))), (6, .int (iI (1))), (5, .int (iI (i))), (3, .int (iI (t))), (2, .int (iI (kd))), (1, .int (iI (z))), (0, .ref (X 0))]) rfl (fun ls hl => ?_)
                                refine z_goto C dX6_goes_199 105 (by decide) ?_
                                exact ih105 true (updB T (wyN u P D t i k) true) (1 + k) (by omega) (by rw [goW_s h5.1 g2]; exact Prod.ext (by show (h || _) = true; rw [c144, decide_eq_true c156]; rfl) (if_pos ⟨c170, c185⟩)) _ _ hW (by omega) ls (lv_sub hl [0, 3, 4, 1, 5, 6, 7, 8] rfl)
                exact L105 (Int.toNat (12 - 0) + 1) hA (go1 u D t S i TA) 0 (by omega) (rfl) _ _ hW (by omega) ls (lv_sub hl [0, 1, 2, 3, 4, 5, 6, 7] rfl)
        · skip
          refine z_al_n C hl dX6_goes_29 5 rfl 30 rfl ?_
          refine z_get C hW.1 hK fl_X6_22 0 rfl rfl dX6_goes_30 33 rfl ?_
          refine z_il C hl dX6_goes_33 0 rfl 35 rfl ?_
          refine z_iaB C (S) hW.1 hK 2 rfl (by omega) (by decide) (S i) (rfl) dX6_goes_35 36 rfl ?_
          refine z_ifb_eq C dX6_goes_36 58 39 (by decide) rfl (fun c36 => ?_) (fun c36 => ?_)
          · skip
            refine z_iconst C dX6_goes_58 59 rfl ?_
            have e26 : (TA i || (S i && !wreckB u i D t)) = false := by simp [c26, c36]
            refine z_iasB C (TA) (x := false) hW hK 3 rfl (by omega) (by decide) dX6_goes_59 60 rfl (rs' := [[moO X kn kp ml], [arI G (X 1) 258 f], [arB G (X 5) 36 S], [arB G (X 6) 36 (updB TA i false)]]) rfl (fun H locs hW => ?_)
            rw [show updB TA i false = go1 u D t S i TA by unfold go1; rw [e26]] at hW
            refine z_al_n C hl dX6_goes_60 5 rfl 61 rfl ?_
            refine z_get C hW.1 hK fl_X6_22 0 rfl rfl dX6_goes_61 64 rfl ?_
            refine z_il C hl dX6_goes_64 0 rfl 66 rfl ?_
            refine z_iaB C (S) hW.1 hK 2 rfl (by omega) (by decide) (S i) (rfl) dX6_goes_66 67 rfl ?_
            refine z_ifb_eq C dX6_goes_67 99 70 (by decide) rfl (fun c67 => ?_) (fun c67 => ?_)
            · skip
              refine z_iconst C dX6_goes_99 100 rfl ?_
              have hcan : canB u P D t S i = false := by simp [canB, c67]
              refine z_is C hl dX6_goes_100 102 rfl (by decide) (lv' := [(6, .int (iI (0))), (5, .int (iI (i))), (4, .int (iI (bZ (hA)))), (3, .int (iI (t))), (2, .int (iI (kd))), (1, .int (iI (z))), (0, .ref (X 0))]) rfl (fun ls hl => ?_)
              refine z_iconst C dX6_goes_102 103 rfl ?_
              refine z_is C hl dX6_goes_103 105 rfl (by decide) (lv' := [(7, .int (iI (0))), (6, .int (iI (0))), (5, .int (iI (i))), (4, .int (iI (bZ (hA)))), (3, .int (iI (t))), (2, .int (iI (kd))), (1, .int (iI (z))), (0, .ref (X 0))]) rfl (fun ls hl => ?_)
              refine z_il C hl dX6_goes_105 0 rfl 107 rfl ?_
              refine z_bipush C dX6_goes_107 (by decide) 109 rfl ?_
              refine z_icmp_ge C dX6_goes_109 202 112 (by decide) rfl (by omega) (fun c109 => ?_) (fun c109 => ?_)
              · exfalso; omega
              · skip
                refine z_il C hl dX6_goes_112 1 rfl 114 rfl ?_
                refine z_if_eq C dX6_goes_114 202 117 (by decide) rfl (by omega) (fun c114 => ?_) (fun c114 => ?_)
                · skip
                  refine z_iinc C hl dX6_goes_202 205 rfl 2 rfl (z := 1 + i) (by omega) (by decide) (lv' := [(5, .int (iI (1 + i))), (7, .int (iI (0))), (6, .int (iI (0))), (4, .int (iI (bZ (hA)))), (3, .int (iI (t))), (2, .int (iI (kd))), (1, .int (iI (z))), (0, .ref (X 0))]) rfl (fun ls hl => ?_)
                  refine z_goto C dX6_goes_205 6 (by decide) ?_
                  exact ih6 hA (go1 u D t S i TA) (1 + i) (by omega) (by rw [goC_n h1.1 h2 hcan]) _ _ hW (by omega) ls (lv_sub hl [0, 3, 4, 5, 6, 7] rfl)
                · exfalso; omega
            · skip
              refine z_il_n C hl dX6_goes_70 2 rfl 71 rfl ?_
              refine z_iconst C dX6_goes_71 72 rfl ?_
              refine z_irem C dX6_goes_72 73 rfl (by omega) ((t % 2)) (rfl) ?_
              refine z_il_n C hl dX6_goes_73 3 rfl 74 rfl ?_
              refine z_bipush C dX6_goes_74 (by decide) 76 rfl ?_
              refine z_idiv C dX6_goes_76 77 rfl (by omega) (P) (by omega) ?_
              refine z_icmp_ne C dX6_goes_77 99 80 (by decide) rfl (by omega) (fun c77 => ?_) (fun c77 => ?_)
              · skip
                refine z_iconst C dX6_goes_99 100 rfl ?_
                have hcan : canB u P D t S i = false := by simp [canB, c67, c77]
                refine z_is C hl dX6_goes_100 102 rfl (by decide) (lv' := [(6, .int (iI (0))), (5, .int (iI (i))), (4, .int (iI (bZ (hA)))), (3, .int (iI (t))), (2, .int (iI (kd))), (1, .int (iI (z))), (0, .ref (X 0))]) rfl (fun ls hl => ?_)
                refine z_iconst C dX6_goes_102 103 rfl ?_
                refine z_is C hl dX6_goes_103 105 rfl (by decide) (lv' := [(7, .int (iI (0))), (6, .int (iI (0))), (5, .int (iI (i))), (4, .int (iI (bZ (hA)))), (3, .int (iI (t))), (2, .int (iI (kd))), (1, .int (iI (z))), (0, .ref (X 0))]) rfl (fun ls hl => ?_)
                refine z_il C hl dX6_goes_105 0 rfl 107 rfl ?_
                refine z_bipush C dX6_goes_107 (by decide) 109 rfl ?_
                refine z_icmp_ge C dX6_goes_109 202 112 (by decide) rfl (by omega) (fun c109 => ?_) (fun c109 => ?_)
                · exfalso; omega
                · skip
                  refine z_il C hl dX6_goes_112 1 rfl 114 rfl ?_
                  refine z_if_eq C dX6_goes_114 202 117 (by decide) rfl (by omega) (fun c114 => ?_) (fun c114 => ?_)
                  · skip
                    refine z_iinc C hl dX6_goes_202 205 rfl 2 rfl (z := 1 + i) (by omega) (by decide) (lv' := [(5, .int (iI (1 + i))), (7, .int (iI (0))), (6, .int (iI (0))), (4, .int (iI (bZ (hA)))), (3, .int (iI (t))), (2, .int (iI (kd))), (1, .int (iI (z))), (0, .ref (X 0))]) rfl (fun ls hl => ?_)
                    refine z_goto C dX6_goes_205 6 (by decide) ?_
                    exact ih6 hA (go1 u D t S i TA) (1 + i) (by omega) (by rw [goC_n h1.1 h2 hcan]) _ _ hW (by omega) ls (lv_sub hl [0, 3, 4, 5, 6, 7] rfl)
                  · exfalso; omega
              · skip
                refine z_al_n C hl dX6_goes_80 5 rfl 81 rfl ?_
                refine z_il_n C hl dX6_goes_81 4 rfl 82 rfl ?_
                refine z_il C hl dX6_goes_82 0 rfl 84 rfl ?_
                refine z_il_n C hl dX6_goes_84 3 rfl 85 rfl ?_
                refine z_bipush C dX6_goes_85 (by decide) 87 rfl ?_
                refine z_irem C dX6_goes_87 88 rfl (by omega) (D) (by omega) ?_
                refine z_il_n C hl dX6_goes_88 2 rfl 89 rfl ?_
                refine z_VR (r := .int (iI (bZ (wetB u i D t)))) (rest := []) C (m_xfloats l G X kn ml kp f z u i D t w (by omega) hu (by omega) (by omega) (by omega)) kV_X6_57 ⟨Nat.le_of_ble_eq_true rfl, Nat.le_of_ble_eq_true rfl⟩ (gP_rg hW.1 [0, 1] rfl) hK 0 rfl rfl rfl hl.1 rfl (Nat.le_of_ble_eq_true rfl) dX6_goes_89 ⟨Nat.le_of_ble_eq_true rfl, Nat.le_of_ble_eq_true rfl⟩ 92 rfl ?_
                refine z_ifb_eq C dX6_goes_92 99 95 (by decide) rfl (fun c92 => ?_) (fun c92 => ?_)
                · skip
                  refine z_iconst C dX6_goes_99 100 rfl ?_
                  have hcan : canB u P D t S i = false := by simp [canB, c67, c77, c92]
                  refine z_is C hl dX6_goes_100 102 rfl (by decide) (lv' := [(6, .int (iI (0))), (5, .int (iI (i))), (4, .int (iI (bZ (hA)))), (3, .int (iI (t))), (2, .int (iI (kd))), (1, .int (iI (z))), (0, .ref (X 0))]) rfl (fun ls hl => ?_)
                  refine z_iconst C dX6_goes_102 103 rfl ?_
                  refine z_is C hl dX6_goes_103 105 rfl (by decide) (lv' := [(7, .int (iI (0))), (6, .int (iI (0))), (5, .int (iI (i))), (4, .int (iI (bZ (hA)))), (3, .int (iI (t))), (2, .int (iI (kd))), (1, .int (iI (z))), (0, .ref (X 0))]) rfl (fun ls hl => ?_)
                  refine z_il C hl dX6_goes_105 0 rfl 107 rfl ?_
                  refine z_bipush C dX6_goes_107 (by decide) 109 rfl ?_
                  refine z_icmp_ge C dX6_goes_109 202 112 (by decide) rfl (by omega) (fun c109 => ?_) (fun c109 => ?_)
                  · exfalso; omega
                  · skip
                    refine z_il C hl dX6_goes_112 1 rfl 114 rfl ?_
                    refine z_if_eq C dX6_goes_114 202 117 (by decide) rfl (by omega) (fun c114 => ?_) (fun c114 => ?_)
                    · skip
                      refine z_iinc C hl dX6_goes_202 205 rfl 2 rfl (z := 1 + i) (by omega) (by decide) (lv' := [(5, .int (iI (1 + i))), (7, .int (iI (0))), (6, .int (iI (0))), (4, .int (iI (bZ (hA)))), (3, .int (iI (t))), (2, .int (iI (kd))), (1, .int (iI (z))), (0, .ref (X 0))]) rfl (fun ls hl => ?_)
                      refine z_goto C dX6_goes_205 6 (by decide) ?_
                      exact ih6 hA (go1 u D t S i TA) (1 + i) (by omega) (by rw [goC_n h1.1 h2 hcan]) _ _ hW (by omega) ls (lv_sub hl [0, 3, 4, 5, 6, 7] rfl)
                    · exfalso; omega
                · skip
                  refine z_iconst C dX6_goes_95 96 rfl ?_
                  refine z_goto C dX6_goes_96 100 (by decide) ?_
                  have hcan : canB u P D t S i = true := by simp [canB, c67, c77, c92]
                  refine z_is C hl dX6_goes_100 102 rfl (by decide) (lv' := [(6, .int (iI (1))), (5, .int (iI (i))), (4, .int (iI (bZ (hA)))), (3, .int (iI (t))), (2, .int (iI (kd))), (1, .int (iI (z))), (0, .ref (X 0))]) rfl (fun ls hl => ?_)
                  refine z_iconst C dX6_goes_102 103 rfl ?_
                  refine z_is C hl dX6_goes_103 105 rfl (by decide) (lv' := [(7, .int (iI (0))), (6, .int (iI (1))), (5, .int (iI (i))), (4, .int (iI (bZ (hA)))), (3, .int (iI (t))), (2, .int (iI (kd))), (1, .int (iI (z))), (0, .ref (X 0))]) rfl (fun ls hl => ?_)
                  have L105 : ∀ (fu : Nat) (h : Bool) (T : Int → Bool) (k : Int) (h5 : 0 ≤ k ∧ k ≤ 12) (g2 : goW u P D t i (hA, go1 u D t S i TA) k.toNat = (h, T)) (H : Heap) (locs : List Loc) (hW : Wd G (adr ([[moO X kn kp ml], [arI G (X 1) 258 f], [arB G (X 5) 36 S], [arB G (X 6) 36 T0]] : List va_W).flatten) [[moO X kn kp ml], [arI G (X 1) 258 f], [arB G (X 5) 36 S], [arB G (X 6) 36 T]] s.heap H locs) (hm : 12 - k < (fu : Int)) (ls : Array Slot) (hl : lv_has ls 9 [(7, .int (iI (k))), (6, .int (iI (1))), (5, .int (iI (i))), (4, .int (iI (bZ (h)))), (3, .int (iI (t))), (2, .int (iI (kd))), (1, .int (iI (z))), (0, .ref (X 0))]), W p l e (rmN 4) s m [.ref (X 0), .int (iI (z)), .int (iI (kd)), .int (iI (t))].toArray below meth c H locs 0 0 (MQ below (QW G [[moO X kn kp ml], [arI G (X 1) 258 f], [arB G (X 5) 36 S], [arB G (X 6) 36 T0]] [[moO X kn kp ml], [arI G (X 1) 258 f], [arB G (X 5) 36 S], [arB G (X 6) 36 ((goC u P D t S (false, T0) 36).2)]] (some (.int (iI (bZ ((goC u P D t S (false, T0) 36).1)))))) [.ref (X 0), .int (iI (z)), .int (iI (kd)), .int (iI (t))].toArray s 0 0 (adr ([[moO X kn kp ml], [arI G (X 1) 258 f], [arB G (X 5) 36 S], [arB G (X 6) 36 T0]] : List va_W).flatten)) (F0 m 105 ls []) := by
                    intro fu
                    induction fu with
                    | zero => intro h T k h5 g2 H locs hW hm ls hl; exfalso; omega
                    | succ fu ih =>
                      intro h T k h5 g2 H locs hW hm ls hl
                      have ih105 := ih
                      refine z_il C hl dX6_goes_105 0 rfl 107 rfl ?_
                      refine z_bipush C dX6_goes_107 (by decide) 109 rfl ?_
                      refine z_icmp_ge C dX6_goes_109 202 112 (by decide) rfl (by omega) (fun c109 => ?_) (fun c109 => ?_)
                      · skip
                        refine z_iinc C hl dX6_goes_202 205 rfl 2 rfl (z := 1 + i) (by omega) (by decide) (lv' := [(5, .int (iI (1 + i))), (7, .int (iI (k))), (6, .int (iI (1))), (4, .int (iI (bZ (h)))), (3, .int (iI (t))), (2, .int (iI (kd))), (1, .int (iI (z))), (0, .ref (X 0))]) rfl (fun ls hl => ?_)
                        refine z_goto C dX6_goes_205 6 (by decide) ?_
                        exact ih6 h T (1 + i) (by omega) (by rw [goC_y h1.1 h2 hcan, show (12 : Nat) = Int.toNat k by omega]; exact g2) _ _ hW (by omega) ls (lv_sub hl [0, 3, 4, 5, 6, 7] rfl)
                      · skip
                        refine z_il C hl dX6_goes_112 1 rfl 114 rfl ?_
                        refine z_if_eq C dX6_goes_114 202 117 (by decide) rfl (by omega) (fun c114 => ?_) (fun c114 => ?_)
                        · exfalso; omega
                        · skip
                          refine z_al_n C hl dX6_goes_117 7 rfl 118 rfl ?_
                          refine z_il_n C hl dX6_goes_118 6 rfl 119 rfl ?_
                          refine z_il_n C hl dX6_goes_119 5 rfl 120 rfl ?_
                          refine z_il C hl dX6_goes_120 2 rfl 122 rfl ?_
                          refine z_bipush C dX6_goes_122 (by decide) 124 rfl ?_
                          refine z_il C hl dX6_goes_124 0 rfl 126 rfl ?_
                          refine z_iconst C dX6_goes_126 127 rfl ?_
                          refine z_idiv C dX6_goes_127 128 rfl (by omega) ((k / 3)) (rfl) ?_
                          refine z_imul C dX6_goes_128 129 rfl (10 * (k / 3)) (rfl) ?_
                          refine z_il C hl dX6_goes_129 0 rfl 131 rfl ?_
                          refine z_iconst C dX6_goes_131 132 rfl ?_
                          refine z_irem C dX6_goes_132 133 rfl (by omega) ((k % 3)) (rfl) ?_
                          refine z_iadd C dX6_goes_133 134 rfl ((k % 3) + 10 * (k / 3)) (by omega) ?_
                          refine z_iconst C dX6_goes_134 135 rfl ?_
                          refine z_iadd C dX6_goes_135 136 rfl (1 + (k % 3) + 10 * (k / 3)) (by omega) ?_
                          refine z_il_n C hl dX6_goes_136 4 rfl 137 rfl ?_
                          refine z_VR (r := .int (iI (wayN u P D t (k / 3) (Int.toNat (k % 3 + 1)) i))) (rest := []) C (m_xway l G X kn ml kp f z u kd i (1 + (k % 3) + 10 * (k / 3)) t P D (k / 3) (k % 3 + 1) w (by omega) hu (by omega) (by omega) (by omega) (by omega) (by omega) (by omega) (by omega) (by omega)) kV_X6_88 ⟨Nat.le_of_ble_eq_true rfl, Nat.le_of_ble_eq_true rfl⟩ (gP_rg hW.1 [0, 1] rfl) hK 0 rfl rfl rfl hl.1 rfl (Nat.le_of_ble_eq_true rfl) dX6_goes_137 ⟨Nat.le_of_ble_eq_true rfl, Nat.le_of_ble_eq_true rfl⟩ 140 rfl ?_
                          refine z_top (b := .int (iI (wyN u P D t i k))) rfl ?_
                          have hwy := wyN_2 (u := u) (P := P) (D := D) (t := t) (k := k) (c := i) (by omega)
                          refine z_is C hl dX6_goes_140 142 rfl (by decide) (lv' := [(8, .int (iI (wyN u P D t i k))), (7, .int (iI (k))), (6, .int (iI (1))), (5, .int (iI (i))), (4, .int (iI (bZ (h)))), (3, .int (iI (t))), (2, .int (iI (kd))), (1, .int (iI (z))), (0, .ref (X 0))]) rfl (fun ls hl => ?_)
                          refine z_il C hl dX6_goes_142 4 rfl 144 rfl ?_
                          refine z_ifb_ne C dX6_goes_144 159 147 (by decide) rfl (fun c144 => ?_) (fun c144 => ?_)
                          · skip
                            refine z_iconst C dX6_goes_159 160 rfl ?_
                            refine z_goto C dX6_goes_160 164 (by decide) ?_
                            refine z_is C hl dX6_goes_164 166 rfl (by decide) (lv' := [(4, .int (iI (1))), (8, .int (iI (wyN u P D t i k))), (7, .int (iI (k))), (6, .int (iI (1))), (5, .int (iI (i))), (3, .int (iI (t))), (2, .int (iI (kd))), (1, .int (iI (z))), (0, .ref (X 0))]) rfl (fun ls hl => ?_)
                            refine z_il C hl dX6_goes_166 1 rfl 168 rfl ?_
                            refine z_bipush C dX6_goes_168 (by decide) 170 rfl ?_
                            refine z_icmp_eq C dX6_goes_170 196 173 (by decide) rfl (by omega) (fun c170 => ?_) (fun c170 => ?_)
                            · skip
                              refine z_iinc C hl dX6_goes_196 199 rfl 2 rfl (z := 1 + k) (by omega) (by decide) (lv' := [(7, .int (iI (1 + k))), (4, .int (iI (1))), (8, .int (iI (wyN u P D t i k))), (6, .int (iI (1))), (5, .int (iI (i))), (3, .int (iI (t))), (2, .int (iI (kd))), (1, .int (iI (z))), (0, .ref (X 0))]) rfl (fun ls hl => ?_)
                              refine z_goto C dX6_goes_199 105 (by decide) ?_
                              exact ih105 true T (1 + k) (by omega) (by rw [goW_s h5.1 g2]; exact Prod.ext (by show (h || _) = true; rw [c144]; rfl) (if_neg (fun z => z.1 c170))) _ _ hW (by omega) ls (lv_sub hl [0, 3, 4, 1, 5, 6, 7, 8] rfl)
                            · skip
                              refine z_al_n C hl dX6_goes_173 8 rfl 174 rfl ?_
                              refine z_il_n C hl dX6_goes_174 7 rfl 175 rfl ?_
                              refine z_il C hl dX6_goes_175 1 rfl 177 rfl ?_
                              refine z_il_n C hl dX6_goes_177 6 rfl 178 rfl ?_
                              refine z_bipush C dX6_goes_178 (by decide) 180 rfl ?_
                              refine z_irem C dX6_goes_180 181 rfl (by omega) (D) (by omega) ?_
                              refine z_il_n C hl dX6_goes_181 5 rfl 182 rfl ?_
                              refine z_VR (r := .int (iI (bZ (wreckB u (wyN u P D t i k) D t)))) (rest := []) C (m_xwrecks l G X kn ml kp f z u (wyN u P D t i k) D t w (by omega) hu (by omega) (by omega) (by omega)) kV_X6_101 ⟨Nat.le_of_ble_eq_true rfl, Nat.le_of_ble_eq_true rfl⟩ (gP_rg hW.1 [0, 1] rfl) hK 0 rfl rfl rfl hl.1 rfl (Nat.le_of_ble_eq_true rfl) dX6_goes_182 ⟨Nat.le_of_ble_eq_true rfl, Nat.le_of_ble_eq_true rfl⟩ 185 rfl ?_
                              refine z_ifb_ne C dX6_goes_185 196 188 (by decide) rfl (fun c185 => ?_) (fun c185 => ?_)
                              · skip
                                refine z_iinc C hl dX6_goes_196 199 rfl 2 rfl (z := 1 + k) (by omega) (by decide) (lv' := [(7, .int (iI (1 + k))), (4, .int (iI (1))), (8, .int (iI (wyN u P D t i k))), (6, .int (iI (1))), (5, .int (iI (i))), (3, .int (iI (t))), (2, .int (iI (kd))), (1, .int (iI (z))), (0, .ref (X 0))]) rfl (fun ls hl => ?_)
                                refine z_goto C dX6_goes_199 105 (by decide) ?_
                                exact ih105 true T (1 + k) (by omega) (by rw [goW_s h5.1 g2]; exact Prod.ext (by show (h || _) = true; rw [c144]; rfl) (if_neg (fun z => by rw [c185] at z; cases z.2))) _ _ hW (by omega) ls (lv_sub hl [0, 3, 4, 1, 5, 6, 7, 8] rfl)
                              · skip
                                refine z_al_n C hl dX6_goes_188 8 rfl 189 rfl ?_
                                refine z_get C hW.1 hK fl_X6_26 0 rfl rfl dX6_goes_189 192 rfl ?_
                                refine z_il C hl dX6_goes_192 1 rfl 194 rfl ?_
                                refine z_iconst C dX6_goes_194 195 rfl ?_
                                refine z_iasB C (T) (x := true) hW hK 3 rfl (by omega) (by decide) dX6_goes_195 196 rfl (rs' := [[moO X kn kp ml], [arI G (X 1) 258 f], [arB G (X 5) 36 S], [arB G (X 6) 36 (updB T (wyN u P D t i k) true)]]) rfl (fun H locs hW => ?_)
                                refine z_iinc C hl dX6_goes_196 199 rfl 2 rfl (z := 1 + k) (by omega) (by decide) (lv' := [(7, .int (iI (1 + k))), (4, .int (iI (1))), (8, .int (iI (wyN u P D t i k))), (6, .int (iI (1))), (5, .int (iI (i))), (3, .int (iI (t))), (2, .int (iI (kd))), (1, .int (iI (z))), (0, .ref (X 0))]) rfl (fun ls hl => ?_)
                                refine z_goto C dX6_goes_199 105 (by decide) ?_
                                exact ih105 true (updB T (wyN u P D t i k) true) (1 + k) (by omega) (by rw [goW_s h5.1 g2]; exact Prod.ext (by show (h || _) = true; rw [c144]; rfl) (if_pos ⟨c170, c185⟩)) _ _ hW (by omega) ls (lv_sub hl [0, 3, 4, 1, 5, 6, 7, 8] rfl)
                          · skip
                            refine z_il C hl dX6_goes_147 0 rfl 149 rfl ?_
                            refine z_il_n C hl dX6_goes_149 6 rfl 150 rfl ?_
                            refine z_bipush C dX6_goes_150 (by decide) 152 rfl ?_
                            refine z_idiv C dX6_goes_152 153 rfl (by omega) (P) (by omega) ?_
                            refine z_SR (r := .int (iI (harZ P))) (rest := [.int (iI (wyN u P D t i k))]) C (m_xhar l G P (by omega)) kS_X6_61 ⟨Nat.le_of_ble_eq_true rfl, Nat.le_of_ble_eq_true rfl⟩ (gP_nil) hK rfl hl.1 rfl (Nat.le_of_ble_eq_true rfl) dX6_goes_153 ⟨Nat.le_of_ble_eq_true rfl, Nat.le_of_ble_eq_true rfl⟩ 156 rfl ?_
                            have hh153 := harZ_rng P
                            refine z_icmp_ne C dX6_goes_156 163 159 (by decide) rfl (by omega) (fun c156 => ?_) (fun c156 => ?_)
                            · skip
                              refine z_iconst C dX6_goes_163 164 rfl ?_
                              refine z_is C hl dX6_goes_164 166 rfl (by decide) (lv' := [(4, .int (iI (0))), (8, .int (iI (wyN u P D t i k))), (7, .int (iI (k))), (6, .int (iI (1))), (5, .int (iI (i))), (3, .int (iI (t))), (2, .int (iI (kd))), (1, .int (iI (z))), (0, .ref (X 0))]) rfl (fun ls hl => ?_)
                              refine z_il C hl dX6_goes_166 1 rfl 168 rfl ?_
                              refine z_bipush C dX6_goes_168 (by decide) 170 rfl ?_
                              refine z_icmp_eq C dX6_goes_170 196 173 (by decide) rfl (by omega) (fun c170 => ?_) (fun c170 => ?_)
                              · skip
                                refine z_iinc C hl dX6_goes_196 199 rfl 2 rfl (z := 1 + k) (by omega) (by decide) (lv' := [(7, .int (iI (1 + k))), (4, .int (iI (0))), (8, .int (iI (wyN u P D t i k))), (6, .int (iI (1))), (5, .int (iI (i))), (3, .int (iI (t))), (2, .int (iI (kd))), (1, .int (iI (z))), (0, .ref (X 0))]) rfl (fun ls hl => ?_)
                                refine z_goto C dX6_goes_199 105 (by decide) ?_
                                exact ih105 false T (1 + k) (by omega) (by rw [goW_s h5.1 g2]; exact Prod.ext (by show (h || _) = false; rw [c144, decide_eq_false c156]; rfl) (if_neg (fun z => z.1 c170))) _ _ hW (by omega) ls (lv_sub hl [0, 3, 4, 1, 5, 6, 7, 8] rfl)
                              · skip
                                refine z_al_n C hl dX6_goes_173 8 rfl 174 rfl ?_
                                refine z_il_n C hl dX6_goes_174 7 rfl 175 rfl ?_
                                refine z_il C hl dX6_goes_175 1 rfl 177 rfl ?_
                                refine z_il_n C hl dX6_goes_177 6 rfl 178 rfl ?_
                                refine z_bipush C dX6_goes_178 (by decide) 180 rfl ?_
                                refine z_irem C dX6_goes_180 181 rfl (by omega) (D) (by omega) ?_
                                refine z_il_n C hl dX6_goes_181 5 rfl 182 rfl ?_
                                refine z_VR (r := .int (iI (bZ (wreckB u (wyN u P D t i k) D t)))) (rest := []) C (m_xwrecks l G X kn ml kp f z u (wyN u P D t i k) D t w (by omega) hu (by omega) (by omega) (by omega)) kV_X6_101 ⟨Nat.le_of_ble_eq_true rfl, Nat.le_of_ble_eq_true rfl⟩ (gP_rg hW.1 [0, 1] rfl) hK 0 rfl rfl rfl hl.1 rfl (Nat.le_of_ble_eq_true rfl) dX6_goes_182 ⟨Nat.le_of_ble_eq_true rfl, Nat.le_of_ble_eq_true rfl⟩ 185 rfl ?_
                                refine z_ifb_ne C dX6_goes_185 196 188 (by decide) rfl (fun c185 => ?_) (fun c185 => ?_)
                                · skip
                                  refine z_iinc C hl dX6_goes_196 199 rfl 2 rfl (z := 1 + k) (by omega) (by decide) (lv' := [(7, .int (iI (1 + k))), (4, .int (iI (0))), (8, .int (iI (wyN u P D t i k))), (6, .int (iI (1))), (5, .int (iI (i))), (3, .int (iI (t))), (2, .int (iI (kd))), (1, .int (iI (z))), (0, .ref (X 0))]) rfl (fun ls hl => ?_)
                                  refine z_goto C dX6_goes_199 105 (by decide) ?_
                                  exact ih105 false T (1 + k) (by omega) (by rw [goW_s h5.1 g2]; exact Prod.ext (by show (h || _) = false; rw [c144, decide_eq_false c156]; rfl) (if_neg (fun z => by rw [c185] at z; cases z.2))) _ _ hW (by omega) ls (lv_sub hl [0, 3, 4, 1, 5, 6, 7, 8] rfl)
                                · skip
                                  refine z_al_n C hl dX6_goes_188 8 rfl 189 rfl ?_
                                  refine z_get C hW.1 hK fl_X6_26 0 rfl rfl dX6_goes_189 192 rfl ?_
                                  refine z_il C hl dX6_goes_192 1 rfl 194 rfl ?_
                                  refine z_iconst C dX6_goes_194 195 rfl ?_
                                  refine z_iasB C (T) (x := true) hW hK 3 rfl (by omega) (by decide) dX6_goes_195 196 rfl (rs' := [[moO X kn kp ml], [arI G (X 1) 258 f], [arB G (X 5) 36 S], [arB G (X 6) 36 (updB T (wyN u P D t i k) true)]]) rfl (fun H locs hW => ?_)
                                  refine z_iinc C hl dX6_goes_196 199 rfl 2 rfl (z := 1 + k) (by omega) (by decide) (lv' := [(7, .int (iI (1 + k))), (4, .int (iI (0))), (8, .int (iI (wyN u P D t i k))), (6, .int (iI (1))), (5, .int (iI (i))), (3, .int (iI (t))), (2, .int (iI (kd))), (1, .int (iI (z))), (0, .ref (X 0))]) rfl (fun ls hl => ?_)
                                  refine z_goto C dX6_goes_199 105 (by decide) ?_
                                  exact ih105 false (updB T (wyN u P D t i k) true) (1 + k) (by omega) (by rw [goW_s h5.1 g2]; exact Prod.ext (by show (h || _) = false; rw [c144, decide_eq_false c156]; rfl) (if_pos ⟨c170, c185⟩)) _ _ hW (by omega) ls (lv_sub hl [0, 3, 4, 1, 5, 6, 7, 8] rfl)
                            · skip
                              refine z_iconst C dX6_goes_159 160 rfl ?_
                              refine z_goto C dX6_goes_160 164 (by decide) ?_
                              refine z_is C hl dX6_goes_164 166 rfl (by decide) (lv' := [(4, .int (iI (1))), (8, .int (iI (wyN u P D t i k))), (7, .int (iI (k))), (6, .int (iI (1))), (5, .int (iI (i))), (3, .int (iI (t))), (2, .int (iI (kd))), (1, .int (iI (z))), (0, .ref (X 0))]) rfl (fun ls hl => ?_)
                              refine z_il C hl dX6_goes_166 1 rfl 168 rfl ?_
                              refine z_bipush C dX6_goes_168 (by decide) 170 rfl ?_
                              refine z_icmp_eq C dX6_goes_170 196 173 (by decide) rfl (by omega) (fun c170 => ?_) (fun c170 => ?_)
                              · skip
                                refine z_iinc C hl dX6_goes_196 199 rfl 2 rfl (z := 1 + k) (by omega) (by decide) (lv' := [(7, .int (iI (1 + k))), (4, .int (iI (1))), (8, .int (iI (wyN u P D t i k))), (6, .int (iI (1))), (5, .int (iI (i))), (3, .int (iI (t))), (2, .int (iI (kd))), (1, .int (iI (z))), (0, .ref (X 0))]) rfl (fun ls hl => ?_)
                                refine z_goto C dX6_goes_199 105 (by decide) ?_
                                exact ih105 true T (1 + k) (by omega) (by rw [goW_s h5.1 g2]; exact Prod.ext (by show (h || _) = true; rw [c144, decide_eq_true c156]; rfl) (if_neg (fun z => z.1 c170))) _ _ hW (by omega) ls (lv_sub hl [0, 3, 4, 1, 5, 6, 7, 8] rfl)
                              · skip
                                refine z_al_n C hl dX6_goes_173 8 rfl 174 rfl ?_
                                refine z_il_n C hl dX6_goes_174 7 rfl 175 rfl ?_
                                refine z_il C hl dX6_goes_175 1 rfl 177 rfl ?_
                                refine z_il_n C hl dX6_goes_177 6 rfl 178 rfl ?_
                                refine z_bipush C dX6_goes_178 (by decide) 180 rfl ?_
                                refine z_irem C dX6_goes_180 181 rfl (by omega) (D) (by omega) ?_
                                refine z_il_n C hl dX6_goes_181 5 rfl 182 rfl ?_
                                refine z_VR (r := .int (iI (bZ (wreckB u (wyN u P D t i k) D t)))) (rest := []) C (m_xwrecks l G X kn ml kp f z u (wyN u P D t i k) D t w (by omega) hu (by omega) (by omega) (by omega)) kV_X6_101 ⟨Nat.le_of_ble_eq_true rfl, Nat.le_of_ble_eq_true rfl⟩ (gP_rg hW.1 [0, 1] rfl) hK 0 rfl rfl rfl hl.1 rfl (Nat.le_of_ble_eq_true rfl) dX6_goes_182 ⟨Nat.le_of_ble_eq_true rfl, Nat.le_of_ble_eq_true rfl⟩ 185 rfl ?_
                                refine z_ifb_ne C dX6_goes_185 196 188 (by decide) rfl (fun c185 => ?_) (fun c185 => ?_)
                                · skip
                                  refine z_iinc C hl dX6_goes_196 199 rfl 2 rfl (z := 1 + k) (by omega) (by decide) (lv' := [(7, .int (iI (1 + k))), (4, .int (iI (1))), (8, .int (iI (wyN u P D t i k))), (6, .int (iI (1))), (5, .int (iI (i))), (3, .int (iI (t))), (2, .int (iI (kd))), (1, .int (iI (z))), (0, .ref (X 0))]) rfl (fun ls hl => ?_)
                                  refine z_goto C dX6_goes_199 105 (by decide) ?_
                                  exact ih105 true T (1 + k) (by omega) (by rw [goW_s h5.1 g2]; exact Prod.ext (by show (h || _) = true; rw [c144, decide_eq_true c156]; rfl) (if_neg (fun z => by rw [c185] at z; cases z.2))) _ _ hW (by omega) ls (lv_sub hl [0, 3, 4, 1, 5, 6, 7, 8] rfl)
                                · skip
                                  refine z_al_n C hl dX6_goes_188 8 rfl 189 rfl ?_
                                  refine z_get C hW.1 hK fl_X6_26 0 rfl rfl dX6_goes_189 192 rfl ?_
                                  refine z_il C hl dX6_goes_192 1 rfl 194 rfl ?_
                                  refine z_iconst C dX6_goes_194 195 rfl ?_
                                  refine z_iasB C (T) (x := true) hW hK 3 rfl (by omega) (by decide) dX6_goes_195 196 rfl (rs' := [[moO X kn kp ml], [arI G (X 1) 258 f], [arB G (X 5) 36 S], [arB G (X 6) 36 (updB T (wyN u P D t i k) true)]]) rfl (fun H locs hW => ?_)
                                  refine z_iinc C hl dX6_goes_196 199 rfl 2 rfl (z := 1 + k) (by omega) (by decide) (lv' := [(7, .int (iI (1 + k))), (4, .int (iI (1))), (8, .int (iI (wyN u P D t i k))), (6, .int (iI (1))), (5, .int (iI (i))), (3, .int (iI (t))), (2, .int (iI (kd))), (1, .int (iI (z))), (0, .ref (X 0))]) rfl (fun ls hl => ?_)
                                  refine z_goto C dX6_goes_199 105 (by decide) ?_
                                  exact ih105 true (updB T (wyN u P D t i k) true) (1 + k) (by omega) (by rw [goW_s h5.1 g2]; exact Prod.ext (by show (h || _) = true; rw [c144, decide_eq_true c156]; rfl) (if_pos ⟨c170, c185⟩)) _ _ hW (by omega) ls (lv_sub hl [0, 3, 4, 1, 5, 6, 7, 8] rfl)
                  exact L105 (Int.toNat (12 - 0) + 1) hA (go1 u D t S i TA) 0 (by omega) (rfl) _ _ hW (by omega) ls (lv_sub hl [0, 1, 2, 3, 4, 5, 6, 7] rfl)
          · skip
            refine z_al_n C hl dX6_goes_39 5 rfl 40 rfl ?_
            refine z_il_n C hl dX6_goes_40 4 rfl 41 rfl ?_
            refine z_il C hl dX6_goes_41 0 rfl 43 rfl ?_
            refine z_il_n C hl dX6_goes_43 3 rfl 44 rfl ?_
            refine z_bipush C dX6_goes_44 (by decide) 46 rfl ?_
            refine z_irem C dX6_goes_46 47 rfl (by omega) (D) (by omega) ?_
            refine z_il_n C hl dX6_goes_47 2 rfl 48 rfl ?_
            refine z_VR (r := .int (iI (bZ (wreckB u i D t)))) (rest := [.int (iI (i)), .ref (X 6)]) C (m_xwrecks l G X kn ml kp f z u i D t w (by omega) hu (by omega) (by omega) (by omega)) kV_X6_101 ⟨Nat.le_of_ble_eq_true rfl, Nat.le_of_ble_eq_true rfl⟩ (gP_rg hW.1 [0, 1] rfl) hK 0 rfl rfl rfl hl.1 rfl (Nat.le_of_ble_eq_true rfl) dX6_goes_48 ⟨Nat.le_of_ble_eq_true rfl, Nat.le_of_ble_eq_true rfl⟩ 51 rfl ?_
            refine z_ifb_ne C dX6_goes_51 58 54 (by decide) rfl (fun c51 => ?_) (fun c51 => ?_)
            · skip
              refine z_iconst C dX6_goes_58 59 rfl ?_
              have e26 : (TA i || (S i && !wreckB u i D t)) = false := by simp [c26, c36, c51]
              refine z_iasB C (TA) (x := false) hW hK 3 rfl (by omega) (by decide) dX6_goes_59 60 rfl (rs' := [[moO X kn kp ml], [arI G (X 1) 258 f], [arB G (X 5) 36 S], [arB G (X 6) 36 (updB TA i false)]]) rfl (fun H locs hW => ?_)
              rw [show updB TA i false = go1 u D t S i TA by unfold go1; rw [e26]] at hW
              refine z_al_n C hl dX6_goes_60 5 rfl 61 rfl ?_
              refine z_get C hW.1 hK fl_X6_22 0 rfl rfl dX6_goes_61 64 rfl ?_
              refine z_il C hl dX6_goes_64 0 rfl 66 rfl ?_
              refine z_iaB C (S) hW.1 hK 2 rfl (by omega) (by decide) (S i) (rfl) dX6_goes_66 67 rfl ?_
              refine z_ifb_eq C dX6_goes_67 99 70 (by decide) rfl (fun c67 => ?_) (fun c67 => ?_)
              · skip
                refine z_iconst C dX6_goes_99 100 rfl ?_
                have hcan : canB u P D t S i = false := by simp [canB, c67]
                refine z_is C hl dX6_goes_100 102 rfl (by decide) (lv' := [(6, .int (iI (0))), (5, .int (iI (i))), (4, .int (iI (bZ (hA)))), (3, .int (iI (t))), (2, .int (iI (kd))), (1, .int (iI (z))), (0, .ref (X 0))]) rfl (fun ls hl => ?_)
                refine z_iconst C dX6_goes_102 103 rfl ?_
                refine z_is C hl dX6_goes_103 105 rfl (by decide) (lv' := [(7, .int (iI (0))), (6, .int (iI (0))), (5, .int (iI (i))), (4, .int (iI (bZ (hA)))), (3, .int (iI (t))), (2, .int (iI (kd))), (1, .int (iI (z))), (0, .ref (X 0))]) rfl (fun ls hl => ?_)
                refine z_il C hl dX6_goes_105 0 rfl 107 rfl ?_
                refine z_bipush C dX6_goes_107 (by decide) 109 rfl ?_
                refine z_icmp_ge C dX6_goes_109 202 112 (by decide) rfl (by omega) (fun c109 => ?_) (fun c109 => ?_)
                · exfalso; omega
                · skip
                  refine z_il C hl dX6_goes_112 1 rfl 114 rfl ?_
                  refine z_if_eq C dX6_goes_114 202 117 (by decide) rfl (by omega) (fun c114 => ?_) (fun c114 => ?_)
                  · skip
                    refine z_iinc C hl dX6_goes_202 205 rfl 2 rfl (z := 1 + i) (by omega) (by decide) (lv' := [(5, .int (iI (1 + i))), (7, .int (iI (0))), (6, .int (iI (0))), (4, .int (iI (bZ (hA)))), (3, .int (iI (t))), (2, .int (iI (kd))), (1, .int (iI (z))), (0, .ref (X 0))]) rfl (fun ls hl => ?_)
                    refine z_goto C dX6_goes_205 6 (by decide) ?_
                    exact ih6 hA (go1 u D t S i TA) (1 + i) (by omega) (by rw [goC_n h1.1 h2 hcan]) _ _ hW (by omega) ls (lv_sub hl [0, 3, 4, 5, 6, 7] rfl)
                  · exfalso; omega
              · skip
                refine z_il_n C hl dX6_goes_70 2 rfl 71 rfl ?_
                refine z_iconst C dX6_goes_71 72 rfl ?_
                refine z_irem C dX6_goes_72 73 rfl (by omega) ((t % 2)) (rfl) ?_
                refine z_il_n C hl dX6_goes_73 3 rfl 74 rfl ?_
                refine z_bipush C dX6_goes_74 (by decide) 76 rfl ?_
                refine z_idiv C dX6_goes_76 77 rfl (by omega) (P) (by omega) ?_
                refine z_icmp_ne C dX6_goes_77 99 80 (by decide) rfl (by omega) (fun c77 => ?_) (fun c77 => ?_)
                · skip
                  refine z_iconst C dX6_goes_99 100 rfl ?_
                  have hcan : canB u P D t S i = false := by simp [canB, c67, c77]
                  refine z_is C hl dX6_goes_100 102 rfl (by decide) (lv' := [(6, .int (iI (0))), (5, .int (iI (i))), (4, .int (iI (bZ (hA)))), (3, .int (iI (t))), (2, .int (iI (kd))), (1, .int (iI (z))), (0, .ref (X 0))]) rfl (fun ls hl => ?_)
                  refine z_iconst C dX6_goes_102 103 rfl ?_
                  refine z_is C hl dX6_goes_103 105 rfl (by decide) (lv' := [(7, .int (iI (0))), (6, .int (iI (0))), (5, .int (iI (i))), (4, .int (iI (bZ (hA)))), (3, .int (iI (t))), (2, .int (iI (kd))), (1, .int (iI (z))), (0, .ref (X 0))]) rfl (fun ls hl => ?_)
                  refine z_il C hl dX6_goes_105 0 rfl 107 rfl ?_
                  refine z_bipush C dX6_goes_107 (by decide) 109 rfl ?_
                  refine z_icmp_ge C dX6_goes_109 202 112 (by decide) rfl (by omega) (fun c109 => ?_) (fun c109 => ?_)
                  · exfalso; omega
                  · skip
                    refine z_il C hl dX6_goes_112 1 rfl 114 rfl ?_
                    refine z_if_eq C dX6_goes_114 202 117 (by decide) rfl (by omega) (fun c114 => ?_) (fun c114 => ?_)
                    · skip
                      refine z_iinc C hl dX6_goes_202 205 rfl 2 rfl (z := 1 + i) (by omega) (by decide) (lv' := [(5, .int (iI (1 + i))), (7, .int (iI (0))), (6, .int (iI (0))), (4, .int (iI (bZ (hA)))), (3, .int (iI (t))), (2, .int (iI (kd))), (1, .int (iI (z))), (0, .ref (X 0))]) rfl (fun ls hl => ?_)
                      refine z_goto C dX6_goes_205 6 (by decide) ?_
                      exact ih6 hA (go1 u D t S i TA) (1 + i) (by omega) (by rw [goC_n h1.1 h2 hcan]) _ _ hW (by omega) ls (lv_sub hl [0, 3, 4, 5, 6, 7] rfl)
                    · exfalso; omega
                · skip
                  refine z_al_n C hl dX6_goes_80 5 rfl 81 rfl ?_
                  refine z_il_n C hl dX6_goes_81 4 rfl 82 rfl ?_
                  refine z_il C hl dX6_goes_82 0 rfl 84 rfl ?_
                  refine z_il_n C hl dX6_goes_84 3 rfl 85 rfl ?_
                  refine z_bipush C dX6_goes_85 (by decide) 87 rfl ?_
                  refine z_irem C dX6_goes_87 88 rfl (by omega) (D) (by omega) ?_
                  refine z_il_n C hl dX6_goes_88 2 rfl 89 rfl ?_
                  refine z_VR (r := .int (iI (bZ (wetB u i D t)))) (rest := []) C (m_xfloats l G X kn ml kp f z u i D t w (by omega) hu (by omega) (by omega) (by omega)) kV_X6_57 ⟨Nat.le_of_ble_eq_true rfl, Nat.le_of_ble_eq_true rfl⟩ (gP_rg hW.1 [0, 1] rfl) hK 0 rfl rfl rfl hl.1 rfl (Nat.le_of_ble_eq_true rfl) dX6_goes_89 ⟨Nat.le_of_ble_eq_true rfl, Nat.le_of_ble_eq_true rfl⟩ 92 rfl ?_
                  refine z_ifb_eq C dX6_goes_92 99 95 (by decide) rfl (fun c92 => ?_) (fun c92 => ?_)
                  · skip
                    refine z_iconst C dX6_goes_99 100 rfl ?_
                    have hcan : canB u P D t S i = false := by simp [canB, c67, c77, c92]
                    refine z_is C hl dX6_goes_100 102 rfl (by decide) (lv' := [(6, .int (iI (0))), (5, .int (iI (i))), (4, .int (iI (bZ (hA)))), (3, .int (iI (t))), (2, .int (iI (kd))), (1, .int (iI (z))), (0, .ref (X 0))]) rfl (fun ls hl => ?_)
                    refine z_iconst C dX6_goes_102 103 rfl ?_
                    refine z_is C hl dX6_goes_103 105 rfl (by decide) (lv' := [(7, .int (iI (0))), (6, .int (iI (0))), (5, .int (iI (i))), (4, .int (iI (bZ (hA)))), (3, .int (iI (t))), (2, .int (iI (kd))), (1, .int (iI (z))), (0, .ref (X 0))]) rfl (fun ls hl => ?_)
                    refine z_il C hl dX6_goes_105 0 rfl 107 rfl ?_
                    refine z_bipush C dX6_goes_107 (by decide) 109 rfl ?_
                    refine z_icmp_ge C dX6_goes_109 202 112 (by decide) rfl (by omega) (fun c109 => ?_) (fun c109 => ?_)
                    · exfalso; omega
                    · skip
                      refine z_il C hl dX6_goes_112 1 rfl 114 rfl ?_
                      refine z_if_eq C dX6_goes_114 202 117 (by decide) rfl (by omega) (fun c114 => ?_) (fun c114 => ?_)
                      · skip
                        refine z_iinc C hl dX6_goes_202 205 rfl 2 rfl (z := 1 + i) (by omega) (by decide) (lv' := [(5, .int (iI (1 + i))), (7, .int (iI (0))), (6, .int (iI (0))), (4, .int (iI (bZ (hA)))), (3, .int (iI (t))), (2, .int (iI (kd))), (1, .int (iI (z))), (0, .ref (X 0))]) rfl (fun ls hl => ?_)
                        refine z_goto C dX6_goes_205 6 (by decide) ?_
                        exact ih6 hA (go1 u D t S i TA) (1 + i) (by omega) (by rw [goC_n h1.1 h2 hcan]) _ _ hW (by omega) ls (lv_sub hl [0, 3, 4, 5, 6, 7] rfl)
                      · exfalso; omega
                  · skip
                    refine z_iconst C dX6_goes_95 96 rfl ?_
                    refine z_goto C dX6_goes_96 100 (by decide) ?_
                    have hcan : canB u P D t S i = true := by simp [canB, c67, c77, c92]
                    refine z_is C hl dX6_goes_100 102 rfl (by decide) (lv' := [(6, .int (iI (1))), (5, .int (iI (i))), (4, .int (iI (bZ (hA)))), (3, .int (iI (t))), (2, .int (iI (kd))), (1, .int (iI (z))), (0, .ref (X 0))]) rfl (fun ls hl => ?_)
                    refine z_iconst C dX6_goes_102 103 rfl ?_
                    refine z_is C hl dX6_goes_103 105 rfl (by decide) (lv' := [(7, .int (iI (0))), (6, .int (iI (1))), (5, .int (iI (i))), (4, .int (iI (bZ (hA)))), (3, .int (iI (t))), (2, .int (iI (kd))), (1, .int (iI (z))), (0, .ref (X 0))]) rfl (fun ls hl => ?_)
                    have L105 : ∀ (fu : Nat) (h : Bool) (T : Int → Bool) (k : Int) (h5 : 0 ≤ k ∧ k ≤ 12) (g2 : goW u P D t i (hA, go1 u D t S i TA) k.toNat = (h, T)) (H : Heap) (locs : List Loc) (hW : Wd G (adr ([[moO X kn kp ml], [arI G (X 1) 258 f], [arB G (X 5) 36 S], [arB G (X 6) 36 T0]] : List va_W).flatten) [[moO X kn kp ml], [arI G (X 1) 258 f], [arB G (X 5) 36 S], [arB G (X 6) 36 T]] s.heap H locs) (hm : 12 - k < (fu : Int)) (ls : Array Slot) (hl : lv_has ls 9 [(7, .int (iI (k))), (6, .int (iI (1))), (5, .int (iI (i))), (4, .int (iI (bZ (h)))), (3, .int (iI (t))), (2, .int (iI (kd))), (1, .int (iI (z))), (0, .ref (X 0))]), W p l e (rmN 4) s m [.ref (X 0), .int (iI (z)), .int (iI (kd)), .int (iI (t))].toArray below meth c H locs 0 0 (MQ below (QW G [[moO X kn kp ml], [arI G (X 1) 258 f], [arB G (X 5) 36 S], [arB G (X 6) 36 T0]] [[moO X kn kp ml], [arI G (X 1) 258 f], [arB G (X 5) 36 S], [arB G (X 6) 36 ((goC u P D t S (false, T0) 36).2)]] (some (.int (iI (bZ ((goC u P D t S (false, T0) 36).1)))))) [.ref (X 0), .int (iI (z)), .int (iI (kd)), .int (iI (t))].toArray s 0 0 (adr ([[moO X kn kp ml], [arI G (X 1) 258 f], [arB G (X 5) 36 S], [arB G (X 6) 36 T0]] : List va_W).flatten)) (F0 m 105 ls []) := by
                      intro fu
                      induction fu with
                      | zero => intro h T k h5 g2 H locs hW hm ls hl; exfalso; omega
                      | succ fu ih =>
                        intro h T k h5 g2 H locs hW hm ls hl
                        have ih105 := ih
                        refine z_il C hl dX6_goes_105 0 rfl 107 rfl ?_
                        refine z_bipush C dX6_goes_107 (by decide) 109 rfl ?_
                        refine z_icmp_ge C dX6_goes_109 202 112 (by decide) rfl (by omega) (fun c109 => ?_) (fun c109 => ?_)
                        · skip
                          refine z_iinc C hl dX6_goes_202 205 rfl 2 rfl (z := 1 + i) (by omega) (by decide) (lv' := [(5, .int (iI (1 + i))), (7, .int (iI (k))), (6, .int (iI (1))), (4, .int (iI (bZ (h)))), (3, .int (iI (t))), (2, .int (iI (kd))), (1, .int (iI (z))), (0, .ref (X 0))]) rfl (fun ls hl => ?_)
                          refine z_goto C dX6_goes_205 6 (by decide) ?_
                          exact ih6 h T (1 + i) (by omega) (by rw [goC_y h1.1 h2 hcan, show (12 : Nat) = Int.toNat k by omega]; exact g2) _ _ hW (by omega) ls (lv_sub hl [0, 3, 4, 5, 6, 7] rfl)
                        · skip
                          refine z_il C hl dX6_goes_112 1 rfl 114 rfl ?_
                          refine z_if_eq C dX6_goes_114 202 117 (by decide) rfl (by omega) (fun c114 => ?_) (fun c114 => ?_)
                          · exfalso; omega
                          · skip
                            refine z_al_n C hl dX6_goes_117 7 rfl 118 rfl ?_
                            refine z_il_n C hl dX6_goes_118 6 rfl 119 rfl ?_
                            refine z_il_n C hl dX6_goes_119 5 rfl 120 rfl ?_
                            refine z_il C hl dX6_goes_120 2 rfl 122 rfl ?_
                            refine z_bipush C dX6_goes_122 (by decide) 124 rfl ?_
                            refine z_il C hl dX6_goes_124 0 rfl 126 rfl ?_
                            refine z_iconst C dX6_goes_126 127 rfl ?_
                            refine z_idiv C dX6_goes_127 128 rfl (by omega) ((k / 3)) (rfl) ?_
                            refine z_imul C dX6_goes_128 129 rfl (10 * (k / 3)) (rfl) ?_
                            refine z_il C hl dX6_goes_129 0 rfl 131 rfl ?_
                            refine z_iconst C dX6_goes_131 132 rfl ?_
                            refine z_irem C dX6_goes_132 133 rfl (by omega) ((k % 3)) (rfl) ?_
                            refine z_iadd C dX6_goes_133 134 rfl ((k % 3) + 10 * (k / 3)) (by omega) ?_
                            refine z_iconst C dX6_goes_134 135 rfl ?_
                            refine z_iadd C dX6_goes_135 136 rfl (1 + (k % 3) + 10 * (k / 3)) (by omega) ?_
                            refine z_il_n C hl dX6_goes_136 4 rfl 137 rfl ?_
                            refine z_VR (r := .int (iI (wayN u P D t (k / 3) (Int.toNat (k % 3 + 1)) i))) (rest := []) C (m_xway l G X kn ml kp f z u kd i (1 + (k % 3) + 10 * (k / 3)) t P D (k / 3) (k % 3 + 1) w (by omega) hu (by omega) (by omega) (by omega) (by omega) (by omega) (by omega) (by omega) (by omega)) kV_X6_88 ⟨Nat.le_of_ble_eq_true rfl, Nat.le_of_ble_eq_true rfl⟩ (gP_rg hW.1 [0, 1] rfl) hK 0 rfl rfl rfl hl.1 rfl (Nat.le_of_ble_eq_true rfl) dX6_goes_137 ⟨Nat.le_of_ble_eq_true rfl, Nat.le_of_ble_eq_true rfl⟩ 140 rfl ?_
                            refine z_top (b := .int (iI (wyN u P D t i k))) rfl ?_
                            have hwy := wyN_2 (u := u) (P := P) (D := D) (t := t) (k := k) (c := i) (by omega)
                            refine z_is C hl dX6_goes_140 142 rfl (by decide) (lv' := [(8, .int (iI (wyN u P D t i k))), (7, .int (iI (k))), (6, .int (iI (1))), (5, .int (iI (i))), (4, .int (iI (bZ (h)))), (3, .int (iI (t))), (2, .int (iI (kd))), (1, .int (iI (z))), (0, .ref (X 0))]) rfl (fun ls hl => ?_)
                            refine z_il C hl dX6_goes_142 4 rfl 144 rfl ?_
                            refine z_ifb_ne C dX6_goes_144 159 147 (by decide) rfl (fun c144 => ?_) (fun c144 => ?_)
                            · skip
                              refine z_iconst C dX6_goes_159 160 rfl ?_
                              refine z_goto C dX6_goes_160 164 (by decide) ?_
                              refine z_is C hl dX6_goes_164 166 rfl (by decide) (lv' := [(4, .int (iI (1))), (8, .int (iI (wyN u P D t i k))), (7, .int (iI (k))), (6, .int (iI (1))), (5, .int (iI (i))), (3, .int (iI (t))), (2, .int (iI (kd))), (1, .int (iI (z))), (0, .ref (X 0))]) rfl (fun ls hl => ?_)
                              refine z_il C hl dX6_goes_166 1 rfl 168 rfl ?_
                              refine z_bipush C dX6_goes_168 (by decide) 170 rfl ?_
                              refine z_icmp_eq C dX6_goes_170 196 173 (by decide) rfl (by omega) (fun c170 => ?_) (fun c170 => ?_)
                              · skip
                                refine z_iinc C hl dX6_goes_196 199 rfl 2 rfl (z := 1 + k) (by omega) (by decide) (lv' := [(7, .int (iI (1 + k))), (4, .int (iI (1))), (8, .int (iI (wyN u P D t i k))), (6, .int (iI (1))), (5, .int (iI (i))), (3, .int (iI (t))), (2, .int (iI (kd))), (1, .int (iI (z))), (0, .ref (X 0))]) rfl (fun ls hl => ?_)
                                refine z_goto C dX6_goes_199 105 (by decide) ?_
                                exact ih105 true T (1 + k) (by omega) (by rw [goW_s h5.1 g2]; exact Prod.ext (by show (h || _) = true; rw [c144]; rfl) (if_neg (fun z => z.1 c170))) _ _ hW (by omega) ls (lv_sub hl [0, 3, 4, 1, 5, 6, 7, 8] rfl)
                              · skip
                                refine z_al_n C hl dX6_goes_173 8 rfl 174 rfl ?_
                                refine z_il_n C hl dX6_goes_174 7 rfl 175 rfl ?_
                                refine z_il C hl dX6_goes_175 1 rfl 177 rfl ?_
                                refine z_il_n C hl dX6_goes_177 6 rfl 178 rfl ?_
                                refine z_bipush C dX6_goes_178 (by decide) 180 rfl ?_
                                refine z_irem C dX6_goes_180 181 rfl (by omega) (D) (by omega) ?_
                                refine z_il_n C hl dX6_goes_181 5 rfl 182 rfl ?_
                                refine z_VR (r := .int (iI (bZ (wreckB u (wyN u P D t i k) D t)))) (rest := []) C (m_xwrecks l G X kn ml kp f z u (wyN u P D t i k) D t w (by omega) hu (by omega) (by omega) (by omega)) kV_X6_101 ⟨Nat.le_of_ble_eq_true rfl, Nat.le_of_ble_eq_true rfl⟩ (gP_rg hW.1 [0, 1] rfl) hK 0 rfl rfl rfl hl.1 rfl (Nat.le_of_ble_eq_true rfl) dX6_goes_182 ⟨Nat.le_of_ble_eq_true rfl, Nat.le_of_ble_eq_true rfl⟩ 185 rfl ?_
                                refine z_ifb_ne C dX6_goes_185 196 188 (by decide) rfl (fun c185 => ?_) (fun c185 => ?_)
                                · skip
                                  refine z_iinc C hl dX6_goes_196 199 rfl 2 rfl (z := 1 + k) (by omega) (by decide) (lv' := [(7, .int (iI (1 + k))), (4, .int (iI (1))), (8, .int (iI (wyN u P D t i k))), (6, .int (iI (1))), (5, .int (iI (i))), (3, .int (iI (t))), (2, .int (iI (kd))), (1, .int (iI (z))), (0, .ref (X 0))]) rfl (fun ls hl => ?_)
                                  refine z_goto C dX6_goes_199 105 (by decide) ?_
                                  exact ih105 true T (1 + k) (by omega) (by rw [goW_s h5.1 g2]; exact Prod.ext (by show (h || _) = true; rw [c144]; rfl) (if_neg (fun z => by rw [c185] at z; cases z.2))) _ _ hW (by omega) ls (lv_sub hl [0, 3, 4, 1, 5, 6, 7, 8] rfl)
                                · skip
                                  refine z_al_n C hl dX6_goes_188 8 rfl 189 rfl ?_
                                  refine z_get C hW.1 hK fl_X6_26 0 rfl rfl dX6_goes_189 192 rfl ?_
                                  refine z_il C hl dX6_goes_192 1 rfl 194 rfl ?_
                                  refine z_iconst C dX6_goes_194 195 rfl ?_
                                  refine z_iasB C (T) (x := true) hW hK 3 rfl (by omega) (by decide) dX6_goes_195 196 rfl (rs' := [[moO X kn kp ml], [arI G (X 1) 258 f], [arB G (X 5) 36 S], [arB G (X 6) 36 (updB T (wyN u P D t i k) true)]]) rfl (fun H locs hW => ?_)
                                  refine z_iinc C hl dX6_goes_196 199 rfl 2 rfl (z := 1 + k) (by omega) (by decide) (lv' := [(7, .int (iI (1 + k))), (4, .int (iI (1))), (8, .int (iI (wyN u P D t i k))), (6, .int (iI (1))), (5, .int (iI (i))), (3, .int (iI (t))), (2, .int (iI (kd))), (1, .int (iI (z))), (0, .ref (X 0))]) rfl (fun ls hl => ?_)
                                  refine z_goto C dX6_goes_199 105 (by decide) ?_
                                  exact ih105 true (updB T (wyN u P D t i k) true) (1 + k) (by omega) (by rw [goW_s h5.1 g2]; exact Prod.ext (by show (h || _) = true; rw [c144]; rfl) (if_pos ⟨c170, c185⟩)) _ _ hW (by omega) ls (lv_sub hl [0, 3, 4, 1, 5, 6, 7, 8] rfl)
                            · skip
                              refine z_il C hl dX6_goes_147 0 rfl 149 rfl ?_
                              refine z_il_n C hl dX6_goes_149 6 rfl 150 rfl ?_
                              refine z_bipush C dX6_goes_150 (by decide) 152 rfl ?_
                              refine z_idiv C dX6_goes_152 153 rfl (by omega) (P) (by omega) ?_
                              refine z_SR (r := .int (iI (harZ P))) (rest := [.int (iI (wyN u P D t i k))]) C (m_xhar l G P (by omega)) kS_X6_61 ⟨Nat.le_of_ble_eq_true rfl, Nat.le_of_ble_eq_true rfl⟩ (gP_nil) hK rfl hl.1 rfl (Nat.le_of_ble_eq_true rfl) dX6_goes_153 ⟨Nat.le_of_ble_eq_true rfl, Nat.le_of_ble_eq_true rfl⟩ 156 rfl ?_
                              have hh153 := harZ_rng P
                              refine z_icmp_ne C dX6_goes_156 163 159 (by decide) rfl (by omega) (fun c156 => ?_) (fun c156 => ?_)
                              · skip
                                refine z_iconst C dX6_goes_163 164 rfl ?_
                                refine z_is C hl dX6_goes_164 166 rfl (by decide) (lv' := [(4, .int (iI (0))), (8, .int (iI (wyN u P D t i k))), (7, .int (iI (k))), (6, .int (iI (1))), (5, .int (iI (i))), (3, .int (iI (t))), (2, .int (iI (kd))), (1, .int (iI (z))), (0, .ref (X 0))]) rfl (fun ls hl => ?_)
                                refine z_il C hl dX6_goes_166 1 rfl 168 rfl ?_
                                refine z_bipush C dX6_goes_168 (by decide) 170 rfl ?_
                                refine z_icmp_eq C dX6_goes_170 196 173 (by decide) rfl (by omega) (fun c170 => ?_) (fun c170 => ?_)
                                · skip
                                  refine z_iinc C hl dX6_goes_196 199 rfl 2 rfl (z := 1 + k) (by omega) (by decide) (lv' := [(7, .int (iI (1 + k))), (4, .int (iI (0))), (8, .int (iI (wyN u P D t i k))), (6, .int (iI (1))), (5, .int (iI (i))), (3, .int (iI (t))), (2, .int (iI (kd))), (1, .int (iI (z))), (0, .ref (X 0))]) rfl (fun ls hl => ?_)
                                  refine z_goto C dX6_goes_199 105 (by decide) ?_
                                  exact ih105 false T (1 + k) (by omega) (by rw [goW_s h5.1 g2]; exact Prod.ext (by show (h || _) = false; rw [c144, decide_eq_false c156]; rfl) (if_neg (fun z => z.1 c170))) _ _ hW (by omega) ls (lv_sub hl [0, 3, 4, 1, 5, 6, 7, 8] rfl)
                                · skip
                                  refine z_al_n C hl dX6_goes_173 8 rfl 174 rfl ?_
                                  refine z_il_n C hl dX6_goes_174 7 rfl 175 rfl ?_
                                  refine z_il C hl dX6_goes_175 1 rfl 177 rfl ?_
                                  refine z_il_n C hl dX6_goes_177 6 rfl 178 rfl ?_
                                  refine z_bipush C dX6_goes_178 (by decide) 180 rfl ?_
                                  refine z_irem C dX6_goes_180 181 rfl (by omega) (D) (by omega) ?_
                                  refine z_il_n C hl dX6_goes_181 5 rfl 182 rfl ?_
                                  refine z_VR (r := .int (iI (bZ (wreckB u (wyN u P D t i k) D t)))) (rest := []) C (m_xwrecks l G X kn ml kp f z u (wyN u P D t i k) D t w (by omega) hu (by omega) (by omega) (by omega)) kV_X6_101 ⟨Nat.le_of_ble_eq_true rfl, Nat.le_of_ble_eq_true rfl⟩ (gP_rg hW.1 [0, 1] rfl) hK 0 rfl rfl rfl hl.1 rfl (Nat.le_of_ble_eq_true rfl) dX6_goes_182 ⟨Nat.le_of_ble_eq_true rfl, Nat.le_of_ble_eq_true rfl⟩ 185 rfl ?_
                                  refine z_ifb_ne C dX6_goes_185 196 188 (by decide) rfl (fun c185 => ?_) (fun c185 => ?_)
                                  · skip
                                    refine z_iinc C hl dX6_goes_196 199 rfl 2 rfl (z := 1 + k) (by omega) (by decide) (lv' := [(7, .int (iI (1 + k))), (4, .int (iI (0))), (8, .int (iI (wyN u P D t i k))), (6, .int (iI (1))), (5, .int (iI (i))), (3, .int (iI (t))), (2, .int (iI (kd))), (1, .int (iI (z))), (0, .ref (X 0))]) rfl (fun ls hl => ?_)
                                    refine z_goto C dX6_goes_199 105 (by decide) ?_
                                    exact ih105 false T (1 + k) (by omega) (by rw [goW_s h5.1 g2]; exact Prod.ext (by show (h || _) = false; rw [c144, decide_eq_false c156]; rfl) (if_neg (fun z => by rw [c185] at z; cases z.2))) _ _ hW (by omega) ls (lv_sub hl [0, 3, 4, 1, 5, 6, 7, 8] rfl)
                                  · skip
                                    refine z_al_n C hl dX6_goes_188 8 rfl 189 rfl ?_
                                    refine z_get C hW.1 hK fl_X6_26 0 rfl rfl dX6_goes_189 192 rfl ?_
                                    refine z_il C hl dX6_goes_192 1 rfl 194 rfl ?_
                                    refine z_iconst C dX6_goes_194 195 rfl ?_
                                    refine z_iasB C (T) (x := true) hW hK 3 rfl (by omega) (by decide) dX6_goes_195 196 rfl (rs' := [[moO X kn kp ml], [arI G (X 1) 258 f], [arB G (X 5) 36 S], [arB G (X 6) 36 (updB T (wyN u P D t i k) true)]]) rfl (fun H locs hW => ?_)
                                    refine z_iinc C hl dX6_goes_196 199 rfl 2 rfl (z := 1 + k) (by omega) (by decide) (lv' := [(7, .int (iI (1 + k))), (4, .int (iI (0))), (8, .int (iI (wyN u P D t i k))), (6, .int (iI (1))), (5, .int (iI (i))), (3, .int (iI (t))), (2, .int (iI (kd))), (1, .int (iI (z))), (0, .ref (X 0))]) rfl (fun ls hl => ?_)
                                    refine z_goto C dX6_goes_199 105 (by decide) ?_
                                    exact ih105 false (updB T (wyN u P D t i k) true) (1 + k) (by omega) (by rw [goW_s h5.1 g2]; exact Prod.ext (by show (h || _) = false; rw [c144, decide_eq_false c156]; rfl) (if_pos ⟨c170, c185⟩)) _ _ hW (by omega) ls (lv_sub hl [0, 3, 4, 1, 5, 6, 7, 8] rfl)
                              · skip
                                refine z_iconst C dX6_goes_159 160 rfl ?_
                                refine z_goto C dX6_goes_160 164 (by decide) ?_
                                refine z_is C hl dX6_goes_164 166 rfl (by decide) (lv' := [(4, .int (iI (1))), (8, .int (iI (wyN u P D t i k))), (7, .int (iI (k))), (6, .int (iI (1))), (5, .int (iI (i))), (3, .int (iI (t))), (2, .int (iI (kd))), (1, .int (iI (z))), (0, .ref (X 0))]) rfl (fun ls hl => ?_)
                                refine z_il C hl dX6_goes_166 1 rfl 168 rfl ?_
                                refine z_bipush C dX6_goes_168 (by decide) 170 rfl ?_
                                refine z_icmp_eq C dX6_goes_170 196 173 (by decide) rfl (by omega) (fun c170 => ?_) (fun c170 => ?_)
                                · skip
                                  refine z_iinc C hl dX6_goes_196 199 rfl 2 rfl (z := 1 + k) (by omega) (by decide) (lv' := [(7, .int (iI (1 + k))), (4, .int (iI (1))), (8, .int (iI (wyN u P D t i k))), (6, .int (iI (1))), (5, .int (iI (i))), (3, .int (iI (t))), (2, .int (iI (kd))), (1, .int (iI (z))), (0, .ref (X 0))]) rfl (fun ls hl => ?_)
                                  refine z_goto C dX6_goes_199 105 (by decide) ?_
                                  exact ih105 true T (1 + k) (by omega) (by rw [goW_s h5.1 g2]; exact Prod.ext (by show (h || _) = true; rw [c144, decide_eq_true c156]; rfl) (if_neg (fun z => z.1 c170))) _ _ hW (by omega) ls (lv_sub hl [0, 3, 4, 1, 5, 6, 7, 8] rfl)
                                · skip
                                  refine z_al_n C hl dX6_goes_173 8 rfl 174 rfl ?_
                                  refine z_il_n C hl dX6_goes_174 7 rfl 175 rfl ?_
                                  refine z_il C hl dX6_goes_175 1 rfl 177 rfl ?_
                                  refine z_il_n C hl dX6_goes_177 6 rfl 178 rfl ?_
                                  refine z_bipush C dX6_goes_178 (by decide) 180 rfl ?_
                                  refine z_irem C dX6_goes_180 181 rfl (by omega) (D) (by omega) ?_
                                  refine z_il_n C hl dX6_goes_181 5 rfl 182 rfl ?_
                                  refine z_VR (r := .int (iI (bZ (wreckB u (wyN u P D t i k) D t)))) (rest := []) C (m_xwrecks l G X kn ml kp f z u (wyN u P D t i k) D t w (by omega) hu (by omega) (by omega) (by omega)) kV_X6_101 ⟨Nat.le_of_ble_eq_true rfl, Nat.le_of_ble_eq_true rfl⟩ (gP_rg hW.1 [0, 1] rfl) hK 0 rfl rfl rfl hl.1 rfl (Nat.le_of_ble_eq_true rfl) dX6_goes_182 ⟨Nat.le_of_ble_eq_true rfl, Nat.le_of_ble_eq_true rfl⟩ 185 rfl ?_
                                  refine z_ifb_ne C dX6_goes_185 196 188 (by decide) rfl (fun c185 => ?_) (fun c185 => ?_)
                                  · skip
                                    refine z_iinc C hl dX6_goes_196 199 rfl 2 rfl (z := 1 + k) (by omega) (by decide) (lv' := [(7, .int (iI (1 + k))), (4, .int (iI (1))), (8, .int (iI (wyN u P D t i k))), (6, .int (iI (1))), (5, .int (iI (i))), (3, .int (iI (t))), (2, .int (iI (kd))), (1, .int (iI (z))), (0, .ref (X 0))]) rfl (fun ls hl => ?_)
                                    refine z_goto C dX6_goes_199 105 (by decide) ?_
                                    exact ih105 true T (1 + k) (by omega) (by rw [goW_s h5.1 g2]; exact Prod.ext (by show (h || _) = true; rw [c144, decide_eq_true c156]; rfl) (if_neg (fun z => by rw [c185] at z; cases z.2))) _ _ hW (by omega) ls (lv_sub hl [0, 3, 4, 1, 5, 6, 7, 8] rfl)
                                  · skip
                                    refine z_al_n C hl dX6_goes_188 8 rfl 189 rfl ?_
                                    refine z_get C hW.1 hK fl_X6_26 0 rfl rfl dX6_goes_189 192 rfl ?_
                                    refine z_il C hl dX6_goes_192 1 rfl 194 rfl ?_
                                    refine z_iconst C dX6_goes_194 195 rfl ?_
                                    refine z_iasB C (T) (x := true) hW hK 3 rfl (by omega) (by decide) dX6_goes_195 196 rfl (rs' := [[moO X kn kp ml], [arI G (X 1) 258 f], [arB G (X 5) 36 S], [arB G (X 6) 36 (updB T (wyN u P D t i k) true)]]) rfl (fun H locs hW => ?_)
                                    refine z_iinc C hl dX6_goes_196 199 rfl 2 rfl (z := 1 + k) (by omega) (by decide) (lv' := [(7, .int (iI (1 + k))), (4, .int (iI (1))), (8, .int (iI (wyN u P D t i k))), (6, .int (iI (1))), (5, .int (iI (i))), (3, .int (iI (t))), (2, .int (iI (kd))), (1, .int (iI (z))), (0, .ref (X 0))]) rfl (fun ls hl => ?_)
                                    refine z_goto C dX6_goes_199 105 (by decide) ?_
                                    exact ih105 true (updB T (wyN u P D t i k) true) (1 + k) (by omega) (by rw [goW_s h5.1 g2]; exact Prod.ext (by show (h || _) = true; rw [c144, decide_eq_true c156]; rfl) (if_pos ⟨c170, c185⟩)) _ _ hW (by omega) ls (lv_sub hl [0, 3, 4, 1, 5, 6, 7, 8] rfl)
                    exact L105 (Int.toNat (12 - 0) + 1) hA (go1 u D t S i TA) 0 (by omega) (rfl) _ _ hW (by omega) ls (lv_sub hl [0, 1, 2, 3, 4, 5, 6, 7] rfl)
            · skip
              refine z_iconst C dX6_goes_54 55 rfl ?_
              refine z_goto C dX6_goes_55 59 (by decide) ?_
              have e26 : (TA i || (S i && !wreckB u i D t)) = true := by simp [c26, c36, c51]
              refine z_iasB C (TA) (x := true) hW hK 3 rfl (by omega) (by decide) dX6_goes_59 60 rfl (rs' := [[moO X kn kp ml], [arI G (X 1) 258 f], [arB G (X 5) 36 S], [arB G (X 6) 36 (updB TA i true)]]) rfl (fun H locs hW => ?_)
              rw [show updB TA i true = go1 u D t S i TA by unfold go1; rw [e26]] at hW
              refine z_al_n C hl dX6_goes_60 5 rfl 61 rfl ?_
              refine z_get C hW.1 hK fl_X6_22 0 rfl rfl dX6_goes_61 64 rfl ?_
              refine z_il C hl dX6_goes_64 0 rfl 66 rfl ?_
              refine z_iaB C (S) hW.1 hK 2 rfl (by omega) (by decide) (S i) (rfl) dX6_goes_66 67 rfl ?_
              refine z_ifb_eq C dX6_goes_67 99 70 (by decide) rfl (fun c67 => ?_) (fun c67 => ?_)
              · skip
                refine z_iconst C dX6_goes_99 100 rfl ?_
                have hcan : canB u P D t S i = false := by simp [canB, c67]
                refine z_is C hl dX6_goes_100 102 rfl (by decide) (lv' := [(6, .int (iI (0))), (5, .int (iI (i))), (4, .int (iI (bZ (hA)))), (3, .int (iI (t))), (2, .int (iI (kd))), (1, .int (iI (z))), (0, .ref (X 0))]) rfl (fun ls hl => ?_)
                refine z_iconst C dX6_goes_102 103 rfl ?_
                refine z_is C hl dX6_goes_103 105 rfl (by decide) (lv' := [(7, .int (iI (0))), (6, .int (iI (0))), (5, .int (iI (i))), (4, .int (iI (bZ (hA)))), (3, .int (iI (t))), (2, .int (iI (kd))), (1, .int (iI (z))), (0, .ref (X 0))]) rfl (fun ls hl => ?_)
                refine z_il C hl dX6_goes_105 0 rfl 107 rfl ?_
                refine z_bipush C dX6_goes_107 (by decide) 109 rfl ?_
                refine z_icmp_ge C dX6_goes_109 202 112 (by decide) rfl (by omega) (fun c109 => ?_) (fun c109 => ?_)
                · exfalso; omega
                · skip
                  refine z_il C hl dX6_goes_112 1 rfl 114 rfl ?_
                  refine z_if_eq C dX6_goes_114 202 117 (by decide) rfl (by omega) (fun c114 => ?_) (fun c114 => ?_)
                  · skip
                    refine z_iinc C hl dX6_goes_202 205 rfl 2 rfl (z := 1 + i) (by omega) (by decide) (lv' := [(5, .int (iI (1 + i))), (7, .int (iI (0))), (6, .int (iI (0))), (4, .int (iI (bZ (hA)))), (3, .int (iI (t))), (2, .int (iI (kd))), (1, .int (iI (z))), (0, .ref (X 0))]) rfl (fun ls hl => ?_)
                    refine z_goto C dX6_goes_205 6 (by decide) ?_
                    exact ih6 hA (go1 u D t S i TA) (1 + i) (by omega) (by rw [goC_n h1.1 h2 hcan]) _ _ hW (by omega) ls (lv_sub hl [0, 3, 4, 5, 6, 7] rfl)
                  · exfalso; omega
              · skip
                refine z_il_n C hl dX6_goes_70 2 rfl 71 rfl ?_
                refine z_iconst C dX6_goes_71 72 rfl ?_
                refine z_irem C dX6_goes_72 73 rfl (by omega) ((t % 2)) (rfl) ?_
                refine z_il_n C hl dX6_goes_73 3 rfl 74 rfl ?_
                refine z_bipush C dX6_goes_74 (by decide) 76 rfl ?_
                refine z_idiv C dX6_goes_76 77 rfl (by omega) (P) (by omega) ?_
                refine z_icmp_ne C dX6_goes_77 99 80 (by decide) rfl (by omega) (fun c77 => ?_) (fun c77 => ?_)
                · skip
                  refine z_iconst C dX6_goes_99 100 rfl ?_
                  have hcan : canB u P D t S i = false := by simp [canB, c67, c77]
                  refine z_is C hl dX6_goes_100 102 rfl (by decide) (lv' := [(6, .int (iI (0))), (5, .int (iI (i))), (4, .int (iI (bZ (hA)))), (3, .int (iI (t))), (2, .int (iI (kd))), (1, .int (iI (z))), (0, .ref (X 0))]) rfl (fun ls hl => ?_)
                  refine z_iconst C dX6_goes_102 103 rfl ?_
                  refine z_is C hl dX6_goes_103 105 rfl (by decide) (lv' := [(7, .int (iI (0))), (6, .int (iI (0))), (5, .int (iI (i))), (4, .int (iI (bZ (hA)))), (3, .int (iI (t))), (2, .int (iI (kd))), (1, .int (iI (z))), (0, .ref (X 0))]) rfl (fun ls hl => ?_)
                  refine z_il C hl dX6_goes_105 0 rfl 107 rfl ?_
                  refine z_bipush C dX6_goes_107 (by decide) 109 rfl ?_
                  refine z_icmp_ge C dX6_goes_109 202 112 (by decide) rfl (by omega) (fun c109 => ?_) (fun c109 => ?_)
                  · exfalso; omega
                  · skip
                    refine z_il C hl dX6_goes_112 1 rfl 114 rfl ?_
                    refine z_if_eq C dX6_goes_114 202 117 (by decide) rfl (by omega) (fun c114 => ?_) (fun c114 => ?_)
                    · skip
                      refine z_iinc C hl dX6_goes_202 205 rfl 2 rfl (z := 1 + i) (by omega) (by decide) (lv' := [(5, .int (iI (1 + i))), (7, .int (iI (0))), (6, .int (iI (0))), (4, .int (iI (bZ (hA)))), (3, .int (iI (t))), (2, .int (iI (kd))), (1, .int (iI (z))), (0, .ref (X 0))]) rfl (fun ls hl => ?_)
                      refine z_goto C dX6_goes_205 6 (by decide) ?_
                      exact ih6 hA (go1 u D t S i TA) (1 + i) (by omega) (by rw [goC_n h1.1 h2 hcan]) _ _ hW (by omega) ls (lv_sub hl [0, 3, 4, 5, 6, 7] rfl)
                    · exfalso; omega
                · skip
                  refine z_al_n C hl dX6_goes_80 5 rfl 81 rfl ?_
                  refine z_il_n C hl dX6_goes_81 4 rfl 82 rfl ?_
                  refine z_il C hl dX6_goes_82 0 rfl 84 rfl ?_
                  refine z_il_n C hl dX6_goes_84 3 rfl 85 rfl ?_
                  refine z_bipush C dX6_goes_85 (by decide) 87 rfl ?_
                  refine z_irem C dX6_goes_87 88 rfl (by omega) (D) (by omega) ?_
                  refine z_il_n C hl dX6_goes_88 2 rfl 89 rfl ?_
                  refine z_VR (r := .int (iI (bZ (wetB u i D t)))) (rest := []) C (m_xfloats l G X kn ml kp f z u i D t w (by omega) hu (by omega) (by omega) (by omega)) kV_X6_57 ⟨Nat.le_of_ble_eq_true rfl, Nat.le_of_ble_eq_true rfl⟩ (gP_rg hW.1 [0, 1] rfl) hK 0 rfl rfl rfl hl.1 rfl (Nat.le_of_ble_eq_true rfl) dX6_goes_89 ⟨Nat.le_of_ble_eq_true rfl, Nat.le_of_ble_eq_true rfl⟩ 92 rfl ?_
                  refine z_ifb_eq C dX6_goes_92 99 95 (by decide) rfl (fun c92 => ?_) (fun c92 => ?_)
                  · skip
                    refine z_iconst C dX6_goes_99 100 rfl ?_
                    have hcan : canB u P D t S i = false := by simp [canB, c67, c77, c92]
                    refine z_is C hl dX6_goes_100 102 rfl (by decide) (lv' := [(6, .int (iI (0))), (5, .int (iI (i))), (4, .int (iI (bZ (hA)))), (3, .int (iI (t))), (2, .int (iI (kd))), (1, .int (iI (z))), (0, .ref (X 0))]) rfl (fun ls hl => ?_)
                    refine z_iconst C dX6_goes_102 103 rfl ?_
                    refine z_is C hl dX6_goes_103 105 rfl (by decide) (lv' := [(7, .int (iI (0))), (6, .int (iI (0))), (5, .int (iI (i))), (4, .int (iI (bZ (hA)))), (3, .int (iI (t))), (2, .int (iI (kd))), (1, .int (iI (z))), (0, .ref (X 0))]) rfl (fun ls hl => ?_)
                    refine z_il C hl dX6_goes_105 0 rfl 107 rfl ?_
                    refine z_bipush C dX6_goes_107 (by decide) 109 rfl ?_
                    refine z_icmp_ge C dX6_goes_109 202 112 (by decide) rfl (by omega) (fun c109 => ?_) (fun c109 => ?_)
                    · exfalso; omega
                    · skip
                      refine z_il C hl dX6_goes_112 1 rfl 114 rfl ?_
                      refine z_if_eq C dX6_goes_114 202 117 (by decide) rfl (by omega) (fun c114 => ?_) (fun c114 => ?_)
                      · skip
                        refine z_iinc C hl dX6_goes_202 205 rfl 2 rfl (z := 1 + i) (by omega) (by decide) (lv' := [(5, .int (iI (1 + i))), (7, .int (iI (0))), (6, .int (iI (0))), (4, .int (iI (bZ (hA)))), (3, .int (iI (t))), (2, .int (iI (kd))), (1, .int (iI (z))), (0, .ref (X 0))]) rfl (fun ls hl => ?_)
                        refine z_goto C dX6_goes_205 6 (by decide) ?_
                        exact ih6 hA (go1 u D t S i TA) (1 + i) (by omega) (by rw [goC_n h1.1 h2 hcan]) _ _ hW (by omega) ls (lv_sub hl [0, 3, 4, 5, 6, 7] rfl)
                      · exfalso; omega
                  · skip
                    refine z_iconst C dX6_goes_95 96 rfl ?_
                    refine z_goto C dX6_goes_96 100 (by decide) ?_
                    have hcan : canB u P D t S i = true := by simp [canB, c67, c77, c92]
                    refine z_is C hl dX6_goes_100 102 rfl (by decide) (lv' := [(6, .int (iI (1))), (5, .int (iI (i))), (4, .int (iI (bZ (hA)))), (3, .int (iI (t))), (2, .int (iI (kd))), (1, .int (iI (z))), (0, .ref (X 0))]) rfl (fun ls hl => ?_)
                    refine z_iconst C dX6_goes_102 103 rfl ?_
                    refine z_is C hl dX6_goes_103 105 rfl (by decide) (lv' := [(7, .int (iI (0))), (6, .int (iI (1))), (5, .int (iI (i))), (4, .int (iI (bZ (hA)))), (3, .int (iI (t))), (2, .int (iI (kd))), (1, .int (iI (z))), (0, .ref (X 0))]) rfl (fun ls hl => ?_)
                    have L105 : ∀ (fu : Nat) (h : Bool) (T : Int → Bool) (k : Int) (h5 : 0 ≤ k ∧ k ≤ 12) (g2 : goW u P D t i (hA, go1 u D t S i TA) k.toNat = (h, T)) (H : Heap) (locs : List Loc) (hW : Wd G (adr ([[moO X kn kp ml], [arI G (X 1) 258 f], [arB G (X 5) 36 S], [arB G (X 6) 36 T0]] : List va_W).flatten) [[moO X kn kp ml], [arI G (X 1) 258 f], [arB G (X 5) 36 S], [arB G (X 6) 36 T]] s.heap H locs) (hm : 12 - k < (fu : Int)) (ls : Array Slot) (hl : lv_has ls 9 [(7, .int (iI (k))), (6, .int (iI (1))), (5, .int (iI (i))), (4, .int (iI (bZ (h)))), (3, .int (iI (t))), (2, .int (iI (kd))), (1, .int (iI (z))), (0, .ref (X 0))]), W p l e (rmN 4) s m [.ref (X 0), .int (iI (z)), .int (iI (kd)), .int (iI (t))].toArray below meth c H locs 0 0 (MQ below (QW G [[moO X kn kp ml], [arI G (X 1) 258 f], [arB G (X 5) 36 S], [arB G (X 6) 36 T0]] [[moO X kn kp ml], [arI G (X 1) 258 f], [arB G (X 5) 36 S], [arB G (X 6) 36 ((goC u P D t S (false, T0) 36).2)]] (some (.int (iI (bZ ((goC u P D t S (false, T0) 36).1)))))) [.ref (X 0), .int (iI (z)), .int (iI (kd)), .int (iI (t))].toArray s 0 0 (adr ([[moO X kn kp ml], [arI G (X 1) 258 f], [arB G (X 5) 36 S], [arB G (X 6) 36 T0]] : List va_W).flatten)) (F0 m 105 ls []) := by
                      intro fu
                      induction fu with
                      | zero => intro h T k h5 g2 H locs hW hm ls hl; exfalso; omega
                      | succ fu ih =>
                        intro h T k h5 g2 H locs hW hm ls hl
                        have ih105 := ih
                        refine z_il C hl dX6_goes_105 0 rfl 107 rfl ?_
                        refine z_bipush C dX6_goes_107 (by decide) 109 rfl ?_
                        refine z_icmp_ge C dX6_goes_109 202 112 (by decide) rfl (by omega) (fun c109 => ?_) (fun c109 => ?_)
                        · skip
                          refine z_iinc C hl dX6_goes_202 205 rfl 2 rfl (z := 1 + i) (by omega) (by decide) (lv' := [(5, .int (iI (1 + i))), (7, .int (iI (k))), (6, .int (iI (1))), (4, .int (iI (bZ (h)))), (3, .int (iI (t))), (2, .int (iI (kd))), (1, .int (iI (z))), (0, .ref (X 0))]) rfl (fun ls hl => ?_)
                          refine z_goto C dX6_goes_205 6 (by decide) ?_
                          exact ih6 h T (1 + i) (by omega) (by rw [goC_y h1.1 h2 hcan, show (12 : Nat) = Int.toNat k by omega]; exact g2) _ _ hW (by omega) ls (lv_sub hl [0, 3, 4, 5, 6, 7] rfl)
                        · skip
                          refine z_il C hl dX6_goes_112 1 rfl 114 rfl ?_
                          refine z_if_eq C dX6_goes_114 202 117 (by decide) rfl (by omega) (fun c114 => ?_) (fun c114 => ?_)
                          · exfalso; omega
                          · skip
                            refine z_al_n C hl dX6_goes_117 7 rfl 118 rfl ?_
                            refine z_il_n C hl dX6_goes_118 6 rfl 119 rfl ?_
                            refine z_il_n C hl dX6_goes_119 5 rfl 120 rfl ?_
                            refine z_il C hl dX6_goes_120 2 rfl 122 rfl ?_
                            refine z_bipush C dX6_goes_122 (by decide) 124 rfl ?_
                            refine z_il C hl dX6_goes_124 0 rfl 126 rfl ?_
                            refine z_iconst C dX6_goes_126 127 rfl ?_
                            refine z_idiv C dX6_goes_127 128 rfl (by omega) ((k / 3)) (rfl) ?_
                            refine z_imul C dX6_goes_128 129 rfl (10 * (k / 3)) (rfl) ?_
                            refine z_il C hl dX6_goes_129 0 rfl 131 rfl ?_
                            refine z_iconst C dX6_goes_131 132 rfl ?_
                            refine z_irem C dX6_goes_132 133 rfl (by omega) ((k % 3)) (rfl) ?_
                            refine z_iadd C dX6_goes_133 134 rfl ((k % 3) + 10 * (k / 3)) (by omega) ?_
                            refine z_iconst C dX6_goes_134 135 rfl ?_
                            refine z_iadd C dX6_goes_135 136 rfl (1 + (k % 3) + 10 * (k / 3)) (by omega) ?_
                            refine z_il_n C hl dX6_goes_136 4 rfl 137 rfl ?_
                            refine z_VR (r := .int (iI (wayN u P D t (k / 3) (Int.toNat (k % 3 + 1)) i))) (rest := []) C (m_xway l G X kn ml kp f z u kd i (1 + (k % 3) + 10 * (k / 3)) t P D (k / 3) (k % 3 + 1) w (by omega) hu (by omega) (by omega) (by omega) (by omega) (by omega) (by omega) (by omega) (by omega)) kV_X6_88 ⟨Nat.le_of_ble_eq_true rfl, Nat.le_of_ble_eq_true rfl⟩ (gP_rg hW.1 [0, 1] rfl) hK 0 rfl rfl rfl hl.1 rfl (Nat.le_of_ble_eq_true rfl) dX6_goes_137 ⟨Nat.le_of_ble_eq_true rfl, Nat.le_of_ble_eq_true rfl⟩ 140 rfl ?_
                            refine z_top (b := .int (iI (wyN u P D t i k))) rfl ?_
                            have hwy := wyN_2 (u := u) (P := P) (D := D) (t := t) (k := k) (c := i) (by omega)
                            refine z_is C hl dX6_goes_140 142 rfl (by decide) (lv' := [(8, .int (iI (wyN u P D t i k))), (7, .int (iI (k))), (6, .int (iI (1))), (5, .int (iI (i))), (4, .int (iI (bZ (h)))), (3, .int (iI (t))), (2, .int (iI (kd))), (1, .int (iI (z))), (0, .ref (X 0))]) rfl (fun ls hl => ?_)
                            refine z_il C hl dX6_goes_142 4 rfl 144 rfl ?_
                            refine z_ifb_ne C dX6_goes_144 159 147 (by decide) rfl (fun c144 => ?_) (fun c144 => ?_)
                            · skip
                              refine z_iconst C dX6_goes_159 160 rfl ?_
                              refine z_goto C dX6_goes_160 164 (by decide) ?_
                              refine z_is C hl dX6_goes_164 166 rfl (by decide) (lv' := [(4, .int (iI (1))), (8, .int (iI (wyN u P D t i k))), (7, .int (iI (k))), (6, .int (iI (1))), (5, .int (iI (i))), (3, .int (iI (t))), (2, .int (iI (kd))), (1, .int (iI (z))), (0, .ref (X 0))]) rfl (fun ls hl => ?_)
                              refine z_il C hl dX6_goes_166 1 rfl 168 rfl ?_
                              refine z_bipush C dX6_goes_168 (by decide) 170 rfl ?_
                              refine z_icmp_eq C dX6_goes_170 196 173 (by decide) rfl (by omega) (fun c170 => ?_) (fun c170 => ?_)
                              · skip
                                refine z_iinc C hl dX6_goes_196 199 rfl 2 rfl (z := 1 + k) (by omega) (by decide) (lv' := [(7, .int (iI (1 + k))), (4, .int (iI (1))), (8, .int (iI (wyN u P D t i k))), (6, .int (iI (1))), (5, .int (iI (i))), (3, .int (iI (t))), (2, .int (iI (kd))), (1, .int (iI (z))), (0, .ref (X 0))]) rfl (fun ls hl => ?_)
                                refine z_goto C dX6_goes_199 105 (by decide) ?_
                                exact ih105 true T (1 + k) (by omega) (by rw [goW_s h5.1 g2]; exact Prod.ext (by show (h || _) = true; rw [c144]; rfl) (if_neg (fun z => z.1 c170))) _ _ hW (by omega) ls (lv_sub hl [0, 3, 4, 1, 5, 6, 7, 8] rfl)
                              · skip
                                refine z_al_n C hl dX6_goes_173 8 rfl 174 rfl ?_
                                refine z_il_n C hl dX6_goes_174 7 rfl 175 rfl ?_
                                refine z_il C hl dX6_goes_175 1 rfl 177 rfl ?_
                                refine z_il_n C hl dX6_goes_177 6 rfl 178 rfl ?_
                                refine z_bipush C dX6_goes_178 (by decide) 180 rfl ?_
                                refine z_irem C dX6_goes_180 181 rfl (by omega) (D) (by omega) ?_
                                refine z_il_n C hl dX6_goes_181 5 rfl 182 rfl ?_
                                refine z_VR (r := .int (iI (bZ (wreckB u (wyN u P D t i k) D t)))) (rest := []) C (m_xwrecks l G X kn ml kp f z u (wyN u P D t i k) D t w (by omega) hu (by omega) (by omega) (by omega)) kV_X6_101 ⟨Nat.le_of_ble_eq_true rfl, Nat.le_of_ble_eq_true rfl⟩ (gP_rg hW.1 [0, 1] rfl) hK 0 rfl rfl rfl hl.1 rfl (Nat.le_of_ble_eq_true rfl) dX6_goes_182 ⟨Nat.le_of_ble_eq_true rfl, Nat.le_of_ble_eq_true rfl⟩ 185 rfl ?_
                                refine z_ifb_ne C dX6_goes_185 196 188 (by decide) rfl (fun c185 => ?_) (fun c185 => ?_)
                                · skip
                                  refine z_iinc C hl dX6_goes_196 199 rfl 2 rfl (z := 1 + k) (by omega) (by decide) (lv' := [(7, .int (iI (1 + k))), (4, .int (iI (1))), (8, .int (iI (wyN u P D t i k))), (6, .int (iI (1))), (5, .int (iI (i))), (3, .int (iI (t))), (2, .int (iI (kd))), (1, .int (iI (z))), (0, .ref (X 0))]) rfl (fun ls hl => ?_)
                                  refine z_goto C dX6_goes_199 105 (by decide) ?_
                                  exact ih105 true T (1 + k) (by omega) (by rw [goW_s h5.1 g2]; exact Prod.ext (by show (h || _) = true; rw [c144]; rfl) (if_neg (fun z => by rw [c185] at z; cases z.2))) _ _ hW (by omega) ls (lv_sub hl [0, 3, 4, 1, 5, 6, 7, 8] rfl)
                                · skip
                                  refine z_al_n C hl dX6_goes_188 8 rfl 189 rfl ?_
                                  refine z_get C hW.1 hK fl_X6_26 0 rfl rfl dX6_goes_189 192 rfl ?_
                                  refine z_il C hl dX6_goes_192 1 rfl 194 rfl ?_
                                  refine z_iconst C dX6_goes_194 195 rfl ?_
                                  refine z_iasB C (T) (x := true) hW hK 3 rfl (by omega) (by decide) dX6_goes_195 196 rfl (rs' := [[moO X kn kp ml], [arI G (X 1) 258 f], [arB G (X 5) 36 S], [arB G (X 6) 36 (updB T (wyN u P D t i k) true)]]) rfl (fun H locs hW => ?_)
                                  refine z_iinc C hl dX6_goes_196 199 rfl 2 rfl (z := 1 + k) (by omega) (by decide) (lv' := [(7, .int (iI (1 + k))), (4, .int (iI (1))), (8, .int (iI (wyN u P D t i k))), (6, .int (iI (1))), (5, .int (iI (i))), (3, .int (iI (t))), (2, .int (iI (kd))), (1, .int (iI (z))), (0, .ref (X 0))]) rfl (fun ls hl => ?_)
                                  refine z_goto C dX6_goes_199 105 (by decide) ?_
                                  exact ih105 true (updB T (wyN u P D t i k) true) (1 + k) (by omega) (by rw [goW_s h5.1 g2]; exact Prod.ext (by show (h || _) = true; rw [c144]; rfl) (if_pos ⟨c170, c185⟩)) _ _ hW (by omega) ls (lv_sub hl [0, 3, 4, 1, 5, 6, 7, 8] rfl)
                            · skip
                              refine z_il C hl dX6_goes_147 0 rfl 149 rfl ?_
                              refine z_il_n C hl dX6_goes_149 6 rfl 150 rfl ?_
                              refine z_bipush C dX6_goes_150 (by decide) 152 rfl ?_
                              refine z_idiv C dX6_goes_152 153 rfl (by omega) (P) (by omega) ?_
                              refine z_SR (r := .int (iI (harZ P))) (rest := [.int (iI (wyN u P D t i k))]) C (m_xhar l G P (by omega)) kS_X6_61 ⟨Nat.le_of_ble_eq_true rfl, Nat.le_of_ble_eq_true rfl⟩ (gP_nil) hK rfl hl.1 rfl (Nat.le_of_ble_eq_true rfl) dX6_goes_153 ⟨Nat.le_of_ble_eq_true rfl, Nat.le_of_ble_eq_true rfl⟩ 156 rfl ?_
                              have hh153 := harZ_rng P
                              refine z_icmp_ne C dX6_goes_156 163 159 (by decide) rfl (by omega) (fun c156 => ?_) (fun c156 => ?_)
                              · skip
                                refine z_iconst C dX6_goes_163 164 rfl ?_
                                refine z_is C hl dX6_goes_164 166 rfl (by decide) (lv' := [(4, .int (iI (0))), (8, .int (iI (wyN u P D t i k))), (7, .int (iI (k))), (6, .int (iI (1))), (5, .int (iI (i))), (3, .int (iI (t))), (2, .int (iI (kd))), (1, .int (iI (z))), (0, .ref (X 0))]) rfl (fun ls hl => ?_)
                                refine z_il C hl dX6_goes_166 1 rfl 168 rfl ?_
                                refine z_bipush C dX6_goes_168 (by decide) 170 rfl ?_
                                refine z_icmp_eq C dX6_goes_170 196 173 (by decide) rfl (by omega) (fun c170 => ?_) (fun c170 => ?_)
                                · skip
                                  refine z_iinc C hl dX6_goes_196 199 rfl 2 rfl (z := 1 + k) (by omega) (by decide) (lv' := [(7, .int (iI (1 + k))), (4, .int (iI (0))), (8, .int (iI (wyN u P D t i k))), (6, .int (iI (1))), (5, .int (iI (i))), (3, .int (iI (t))), (2, .int (iI (kd))), (1, .int (iI (z))), (0, .ref (X 0))]) rfl (fun ls hl => ?_)
                                  refine z_goto C dX6_goes_199 105 (by decide) ?_
                                  exact ih105 false T (1 + k) (by omega) (by rw [goW_s h5.1 g2]; exact Prod.ext (by show (h || _) = false; rw [c144, decide_eq_false c156]; rfl) (if_neg (fun z => z.1 c170))) _ _ hW (by omega) ls (lv_sub hl [0, 3, 4, 1, 5, 6, 7, 8] rfl)
                                · skip
                                  refine z_al_n C hl dX6_goes_173 8 rfl 174 rfl ?_
                                  refine z_il_n C hl dX6_goes_174 7 rfl 175 rfl ?_
                                  refine z_il C hl dX6_goes_175 1 rfl 177 rfl ?_
                                  refine z_il_n C hl dX6_goes_177 6 rfl 178 rfl ?_
                                  refine z_bipush C dX6_goes_178 (by decide) 180 rfl ?_
                                  refine z_irem C dX6_goes_180 181 rfl (by omega) (D) (by omega) ?_
                                  refine z_il_n C hl dX6_goes_181 5 rfl 182 rfl ?_
                                  refine z_VR (r := .int (iI (bZ (wreckB u (wyN u P D t i k) D t)))) (rest := []) C (m_xwrecks l G X kn ml kp f z u (wyN u P D t i k) D t w (by omega) hu (by omega) (by omega) (by omega)) kV_X6_101 ⟨Nat.le_of_ble_eq_true rfl, Nat.le_of_ble_eq_true rfl⟩ (gP_rg hW.1 [0, 1] rfl) hK 0 rfl rfl rfl hl.1 rfl (Nat.le_of_ble_eq_true rfl) dX6_goes_182 ⟨Nat.le_of_ble_eq_true rfl, Nat.le_of_ble_eq_true rfl⟩ 185 rfl ?_
                                  refine z_ifb_ne C dX6_goes_185 196 188 (by decide) rfl (fun c185 => ?_) (fun c185 => ?_)
                                  · skip
                                    refine z_iinc C hl dX6_goes_196 199 rfl 2 rfl (z := 1 + k) (by omega) (by decide) (lv' := [(7, .int (iI (1 + k))), (4, .int (iI (0))), (8, .int (iI (wyN u P D t i k))), (6, .int (iI (1))), (5, .int (iI (i))), (3, .int (iI (t))), (2, .int (iI (kd))), (1, .int (iI (z))), (0, .ref (X 0))]) rfl (fun ls hl => ?_)
                                    refine z_goto C dX6_goes_199 105 (by decide) ?_
                                    exact ih105 false T (1 + k) (by omega) (by rw [goW_s h5.1 g2]; exact Prod.ext (by show (h || _) = false; rw [c144, decide_eq_false c156]; rfl) (if_neg (fun z => by rw [c185] at z; cases z.2))) _ _ hW (by omega) ls (lv_sub hl [0, 3, 4, 1, 5, 6, 7, 8] rfl)
                                  · skip
                                    refine z_al_n C hl dX6_goes_188 8 rfl 189 rfl ?_
                                    refine z_get C hW.1 hK fl_X6_26 0 rfl rfl dX6_goes_189 192 rfl ?_
                                    refine z_il C hl dX6_goes_192 1 rfl 194 rfl ?_
                                    refine z_iconst C dX6_goes_194 195 rfl ?_
                                    refine z_iasB C (T) (x := true) hW hK 3 rfl (by omega) (by decide) dX6_goes_195 196 rfl (rs' := [[moO X kn kp ml], [arI G (X 1) 258 f], [arB G (X 5) 36 S], [arB G (X 6) 36 (updB T (wyN u P D t i k) true)]]) rfl (fun H locs hW => ?_)
                                    refine z_iinc C hl dX6_goes_196 199 rfl 2 rfl (z := 1 + k) (by omega) (by decide) (lv' := [(7, .int (iI (1 + k))), (4, .int (iI (0))), (8, .int (iI (wyN u P D t i k))), (6, .int (iI (1))), (5, .int (iI (i))), (3, .int (iI (t))), (2, .int (iI (kd))), (1, .int (iI (z))), (0, .ref (X 0))]) rfl (fun ls hl => ?_)
                                    refine z_goto C dX6_goes_199 105 (by decide) ?_
                                    exact ih105 false (updB T (wyN u P D t i k) true) (1 + k) (by omega) (by rw [goW_s h5.1 g2]; exact Prod.ext (by show (h || _) = false; rw [c144, decide_eq_false c156]; rfl) (if_pos ⟨c170, c185⟩)) _ _ hW (by omega) ls (lv_sub hl [0, 3, 4, 1, 5, 6, 7, 8] rfl)
                              · skip
                                refine z_iconst C dX6_goes_159 160 rfl ?_
                                refine z_goto C dX6_goes_160 164 (by decide) ?_
                                refine z_is C hl dX6_goes_164 166 rfl (by decide) (lv' := [(4, .int (iI (1))), (8, .int (iI (wyN u P D t i k))), (7, .int (iI (k))), (6, .int (iI (1))), (5, .int (iI (i))), (3, .int (iI (t))), (2, .int (iI (kd))), (1, .int (iI (z))), (0, .ref (X 0))]) rfl (fun ls hl => ?_)
                                refine z_il C hl dX6_goes_166 1 rfl 168 rfl ?_
                                refine z_bipush C dX6_goes_168 (by decide) 170 rfl ?_
                                refine z_icmp_eq C dX6_goes_170 196 173 (by decide) rfl (by omega) (fun c170 => ?_) (fun c170 => ?_)
                                · skip
                                  refine z_iinc C hl dX6_goes_196 199 rfl 2 rfl (z := 1 + k) (by omega) (by decide) (lv' := [(7, .int (iI (1 + k))), (4, .int (iI (1))), (8, .int (iI (wyN u P D t i k))), (6, .int (iI (1))), (5, .int (iI (i))), (3, .int (iI (t))), (2, .int (iI (kd))), (1, .int (iI (z))), (0, .ref (X 0))]) rfl (fun ls hl => ?_)
                                  refine z_goto C dX6_goes_199 105 (by decide) ?_
                                  exact ih105 true T (1 + k) (by omega) (by rw [goW_s h5.1 g2]; exact Prod.ext (by show (h || _) = true; rw [c144, decide_eq_true c156]; rfl) (if_neg (fun z => z.1 c170))) _ _ hW (by omega) ls (lv_sub hl [0, 3, 4, 1, 5, 6, 7, 8] rfl)
                                · skip
                                  refine z_al_n C hl dX6_goes_173 8 rfl 174 rfl ?_
                                  refine z_il_n C hl dX6_goes_174 7 rfl 175 rfl ?_
                                  refine z_il C hl dX6_goes_175 1 rfl 177 rfl ?_
                                  refine z_il_n C hl dX6_goes_177 6 rfl 178 rfl ?_
                                  refine z_bipush C dX6_goes_178 (by decide) 180 rfl ?_
                                  refine z_irem C dX6_goes_180 181 rfl (by omega) (D) (by omega) ?_
                                  refine z_il_n C hl dX6_goes_181 5 rfl 182 rfl ?_
                                  refine z_VR (r := .int (iI (bZ (wreckB u (wyN u P D t i k) D t)))) (rest := []) C (m_xwrecks l G X kn ml kp f z u (wyN u P D t i k) D t w (by omega) hu (by omega) (by omega) (by omega)) kV_X6_101 ⟨Nat.le_of_ble_eq_true rfl, Nat.le_of_ble_eq_true rfl⟩ (gP_rg hW.1 [0, 1] rfl) hK 0 rfl rfl rfl hl.1 rfl (Nat.le_of_ble_eq_true rfl) dX6_goes_182 ⟨Nat.le_of_ble_eq_true rfl, Nat.le_of_ble_eq_true rfl⟩ 185 rfl ?_
                                  refine z_ifb_ne C dX6_goes_185 196 188 (by decide) rfl (fun c185 => ?_) (fun c185 => ?_)
                                  · skip
                                    refine z_iinc C hl dX6_goes_196 199 rfl 2 rfl (z := 1 + k) (by omega) (by decide) (lv' := [(7, .int (iI (1 + k))), (4, .int (iI (1))), (8, .int (iI (wyN u P D t i k))), (6, .int (iI (1))), (5, .int (iI (i))), (3, .int (iI (t))), (2, .int (iI (kd))), (1, .int (iI (z))), (0, .ref (X 0))]) rfl (fun ls hl => ?_)
                                    refine z_goto C dX6_goes_199 105 (by decide) ?_
                                    exact ih105 true T (1 + k) (by omega) (by rw [goW_s h5.1 g2]; exact Prod.ext (by show (h || _) = true; rw [c144, decide_eq_true c156]; rfl) (if_neg (fun z => by rw [c185] at z; cases z.2))) _ _ hW (by omega) ls (lv_sub hl [0, 3, 4, 1, 5, 6, 7, 8] rfl)
                                  · skip
                                    refine z_al_n C hl dX6_goes_188 8 rfl 189 rfl ?_
                                    refine z_get C hW.1 hK fl_X6_26 0 rfl rfl dX6_goes_189 192 rfl ?_
                                    refine z_il C hl dX6_goes_192 1 rfl 194 rfl ?_
                                    refine z_iconst C dX6_goes_194 195 rfl ?_
                                    refine z_iasB C (T) (x := true) hW hK 3 rfl (by omega) (by decide) dX6_goes_195 196 rfl (rs' := [[moO X kn kp ml], [arI G (X 1) 258 f], [arB G (X 5) 36 S], [arB G (X 6) 36 (updB T (wyN u P D t i k) true)]]) rfl (fun H locs hW => ?_)
                                    refine z_iinc C hl dX6_goes_196 199 rfl 2 rfl (z := 1 + k) (by omega) (by decide) (lv' := [(7, .int (iI (1 + k))), (4, .int (iI (1))), (8, .int (iI (wyN u P D t i k))), (6, .int (iI (1))), (5, .int (iI (i))), (3, .int (iI (t))), (2, .int (iI (kd))), (1, .int (iI (z))), (0, .ref (X 0))]) rfl (fun ls hl => ?_)
                                    refine z_goto C dX6_goes_199 105 (by decide) ?_
                                    exact ih105 true (updB T (wyN u P D t i k) true) (1 + k) (by omega) (by rw [goW_s h5.1 g2]; exact Prod.ext (by show (h || _) = true; rw [c144, decide_eq_true c156]; rfl) (if_pos ⟨c170, c185⟩)) _ _ hW (by omega) ls (lv_sub hl [0, 3, 4, 1, 5, 6, 7, 8] rfl)
                    exact L105 (Int.toNat (12 - 0) + 1) hA (go1 u D t S i TA) 0 (by omega) (rfl) _ _ hW (by omega) ls (lv_sub hl [0, 1, 2, 3, 4, 5, 6, 7] rfl)
  exact L6 (Int.toNat (36 - 0) + 1) false T0 0 (by omega) (rfl) _ _ hW (by omega) ls (lv_sub hl [0, 1, 5, 4, 3, 2] rfl)
