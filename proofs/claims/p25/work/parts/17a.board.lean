set_option maxHeartbeats 4000000 in
set_option maxRecDepth 100000 in
theorem m_cell (l : Launch) (G : gT) (b L : Nat) (xs : Nat → Int32) (k : Int) (hL : L ≤ 2048) (hk : 0 ≤ k ∧ k < 200) : MR l G yL_cell cL_cell 2 (some .int) 0 [.ref b, .int (iI k)] [] (ZX b L xs) (.int (celX xs L k)) := by
  refine enterR (own := RL) (by decide +kernel) rfl (Nat.le_of_ble_eq_true rfl) ?_
  intro p e s m below meth c C hP hK hZ ls hl
  have hl : lv_has ls 2 [(0, .ref b), (1, .int (iI k))] := hl
  have hW : Wd G (fun q => s.heap.size ≤ q) [] s.heap s.heap [] := ⟨hP, List.nodup_nil, fun q hq => absurd hq List.not_mem_nil, va_S.rf⟩
  refine z_il_n C hl dL_cell_0 1 rfl 1 rfl ?_
  refine z_al_n C hl dL_cell_1 0 rfl 2 rfl ?_
  refine z_slenL C hZ.1 hZ.2 hW dL_cell_2 3 rfl ?_
  refine z_icmp_ge C dL_cell_3 12 6 (by decide) rfl (by omega) (fun c3 => ?_) (fun c3 => ?_)
  · refine z_sipush C dL_cell_12 (by decide) 15 rfl ?_
    refine z_il_n C hl dL_cell_15 1 rfl 16 rfl ?_
    refine z_iconst C dL_cell_16 17 rfl ?_
    refine z_iadd C dL_cell_17 18 rfl (k + 3) rfl ?_
    refine z_imul C dL_cell_18 19 rfl (7919 * (k + 3)) rfl ?_
    refine z_il_n C hl dL_cell_19 1 rfl 20 rfl ?_
    refine z_bipush C dL_cell_20 (by decide) 22 rfl ?_
    refine z_iadd C dL_cell_22 23 rfl (k + 11) rfl ?_
    refine z_imul C dL_cell_23 24 rfl (7919 * (k + 3) * (k + 11)) rfl ?_
    exact z_ri32 C dL_cell_24 (by unfold celX; rw [if_neg (by omega)])
  · obtain ⟨z, hz, ez⟩ := iI_ex (xs k.toNat)
    refine z_al_n C hl dL_cell_6 0 rfl 7 rfl ?_
    refine z_il_n C hl dL_cell_7 1 rfl 8 rfl ?_
    refine z_sld C hZ.1 hZ.2 hW (by omega) hL ez dL_cell_8 9 rfl ?_
    refine z_goto C dL_cell_9 24 (by decide) ?_
    exact z_ri32 C dL_cell_24 (by unfold celX; rw [if_pos (by omega), ez])

set_option maxHeartbeats 4000000 in
set_option maxRecDepth 100000 in
theorem m_low (l : Launch) (G : gT) (x : Int32) (n : Int) (hn : 0 < n ∧ n < 2147483648) : MR l G yL_low cL_low 2 (some .int) 0 [.int (x), .int (iI (n))] [] ZT (.int (iI (lowZ x n))) := by
  refine enterR (own := RL) (by decide +kernel) rfl (Nat.le_of_ble_eq_true rfl) ?_
  intro p e s m below meth c C hP hK hZ ls hl
  have hl : lv_has ls 2 [(0, .int (x)), (1, .int (iI (n)))] := hl
  have hlr := low_rng x
  refine z_il_n C hl dL_low_0 0 rfl 1 rfl ?_
  refine z_ldc C (z := 2147483647) qc474 rfl dL_low_1 3 rfl ?_
  refine z_iand C dL_low_3 4 rfl ?_
  refine z_top (b := .int (iI (((x.toBitVec.toNat % 2 ^ 31 : Nat) : Int)))) (congrArg Value.int (low_and x)) ?_
  refine z_il_n C hl dL_low_4 1 rfl 5 rfl ?_
  refine z_irem C dL_low_5 6 rfl (by omega) (lowZ x n) (rfl) ?_
  exact z_ri C dL_low_6 (rfl)

set_option maxHeartbeats 4000000 in
set_option maxRecDepth 100000 in
theorem m_ones (l : Launch) (G : gT) (x : Int32) : MR l G yL_ones cL_ones 3 (some .int) 0 [.int (x)] [] ZT (.int (iI (onesZ x))) := by
  refine enterR (own := RL) (by decide +kernel) rfl (Nat.le_of_ble_eq_true rfl) ?_
  intro p e s m below meth c C hP hK hZ ls hl
  have hl : lv_has ls 3 [(0, .int (x))] := hl
  refine z_iconst C dL_ones_0 1 rfl ?_
  refine z_top (b := .int (iI (onesK x 0))) rfl ?_
  refine z_is_n C hl dL_ones_1 2 rfl (by decide) (lv' := [(1, .int (iI (onesK x 0))), (0, .int (x))]) rfl (fun ls hl => ?_)
  refine z_iconst C dL_ones_2 3 rfl ?_
  refine z_is_n C hl dL_ones_3 4 rfl (by decide) (lv' := [(2, .int (iI (0))), (1, .int (iI (onesK x 0))), (0, .int (x))]) rfl (fun ls hl => ?_)
  have L4 : ∀ (fu : Nat) (k : Int) (h1 : 0 ≤ k ∧ k ≤ 10) (hm : 10 - k < (fu : Int)) (ls : Array Slot) (hl : lv_has ls 3 [(2, .int (iI (k))), (1, .int (iI (onesK x k))), (0, .int (x))]), W p l e (rmN 0) s m [.int (x)].toArray below meth c s.heap [] 0 0 (MQ below (QR (.int (iI (onesZ x)))) [.int (x)].toArray s 0 0 (fun _ => False)) (F0 m 4 ls []) := by
    intro fu
    induction fu with
    | zero => intro k h1 hm ls hl; exfalso; omega
    | succ fu ih =>
      intro k h1 hm ls hl
      have r1 := onesK_rng x (k := k) (by omega)
      have ih4 := ih
      refine z_il_n C hl dL_ones_4 0 rfl 5 rfl ?_
      refine z_bipush C dL_ones_5 (by decide) 7 rfl ?_
      refine z_icmp_ge C dL_ones_7 24 10 (by decide) rfl (by omega) (fun c7 => ?_) (fun c7 => ?_)
      · skip
        refine z_il_n C hl dL_ones_24 1 rfl 25 rfl ?_
        exact z_ri C dL_ones_25 (by rw [show k = 10 by omega]; rfl)
      · skip
        refine z_il_n C hl dL_ones_10 1 rfl 11 rfl ?_
        refine z_il_n C hl dL_ones_11 2 rfl 12 rfl ?_
        refine z_il_n C hl dL_ones_12 0 rfl 13 rfl ?_
        refine z_ishr C dL_ones_13 14 rfl ?_
        refine z_iconst C dL_ones_14 15 rfl ?_
        refine z_iand C dL_ones_15 16 rfl ?_
        refine z_top (b := .int (iI (bZ (btI x k)))) (congrArg Value.int (bit_at x (by omega))) ?_
        refine z_iadd C dL_ones_16 17 rfl (bZ (btI x k) + onesK x k) (by omega) ?_
        refine z_top (b := .int (iI (onesK x (1 + k)))) (congrArg (fun z => Value.int (iI z)) (by have hq := onesK_s (x := x) (k := k) (by omega); omega)) ?_
        refine z_is_n C hl dL_ones_17 18 rfl (by decide) (lv' := [(1, .int (iI (onesK x (1 + k)))), (2, .int (iI (k))), (0, .int (x))]) rfl (fun ls hl => ?_)
        refine z_iinc C hl dL_ones_18 21 rfl 1 rfl (z := 1 + k) (by omega) (by decide) (lv' := [(2, .int (iI (1 + k))), (1, .int (iI (onesK x (1 + k)))), (0, .int (x))]) rfl (fun ls hl => ?_)
        refine z_goto C dL_ones_21 4 (by decide) ?_
        exact ih4 (1 + k) (by omega) (by omega) ls (lv_sub hl [0, 1, 2] rfl)
  exact L4 (Int.toNat (10 - 0) + 1) 0 (by omega) (by omega) ls (lv_sub hl [0, 1, 2] rfl)

set_option maxHeartbeats 16000000 in
set_option maxRecDepth 100000 in
theorem m_isBoard (l : Launch) (G : gT) (tb r x cu h pa o sg : Nat) (qn qb sn : Nat → Nat) (S : Nat → Nat → Nat) (v : Int → Int) (g : Nat → Int → Int) (n : Int) (i : Ia v) : MR l G yL_isBoard cL_isBoard 21 (some .boolean) 7 [.ref (tb)] [[tbO tb qn qb r x h o], [(r, .inr (3, [.ref (qn 0)]))], stW G qn v, hiW G h pa sn n S g false, [orO G o sg 0]] ZT (.int (iI (bZ (true)))) := by
  refine enterR (own := RL) (by decide +kernel) rfl (Nat.le_of_ble_eq_true rfl) ?_
  intro p e s m below meth c C hP hK hZ ls hl
  have hl : lv_has ls 21 [(0, .ref (tb))] := hl
  have w0 := i.w
  have hn := w0.n
  have ht := w0.t
  have hs := w0.s
  have hcr := i.r
  refine z_al_n C hl dL_isBoard_0 0 rfl 1 rfl ?_
  refine z_iconst C dL_isBoard_1 2 rfl ?_
  refine z_VR (r := .int (iI (cntR v n 0 2))) (rest := []) C (m_count l G tb r x cu h pa o sg qn qb sn S g n false v 0 2 w0 (by omega)) kV_L_8 ⟨Nat.le_of_ble_eq_true rfl, Nat.le_of_ble_eq_true rfl⟩ hP hK 0 rfl rfl rfl hl.1 rfl (Nat.le_of_ble_eq_true rfl) dL_isBoard_2 ⟨Nat.le_of_ble_eq_true rfl, Nat.le_of_ble_eq_true rfl⟩ 5 rfl ?_
  refine z_top (b := .int (iI (tideZ v (v 126)))) (congrArg (fun z => Value.int (iI z)) (rfl)) ?_
  have rt2 := tide_lim w0 (v 126)
  refine z_is_n C hl dL_isBoard_5 6 rfl (by decide) (lv' := [(1, .int (iI (tideZ v (v 126)))), (0, .ref (tb))]) rfl (fun ls hl => ?_)
  refine z_iconst C dL_isBoard_6 7 rfl ?_
  refine z_top (b := .int (iI (cntK v 0 0))) rfl ?_
  refine z_is_n C hl dL_isBoard_7 8 rfl (by decide) (lv' := [(2, .int (iI (cntK v 0 0))), (1, .int (iI (tideZ v (v 126)))), (0, .ref (tb))]) rfl (fun ls hl => ?_)
  refine z_iconst C dL_isBoard_8 9 rfl ?_
  refine z_top (b := .int (iI (cntK v 1 0))) rfl ?_
  refine z_is_n C hl dL_isBoard_9 10 rfl (by decide) (lv' := [(3, .int (iI (cntK v 1 0))), (2, .int (iI (cntK v 0 0))), (1, .int (iI (tideZ v (v 126)))), (0, .ref (tb))]) rfl (fun ls hl => ?_)
  refine z_iconst C dL_isBoard_10 11 rfl ?_
  refine z_top (b := .int (iI (cntK v 2 0))) rfl ?_
  refine z_is C hl dL_isBoard_11 13 rfl (by decide) (lv' := [(4, .int (iI (cntK v 2 0))), (3, .int (iI (cntK v 1 0))), (2, .int (iI (cntK v 0 0))), (1, .int (iI (tideZ v (v 126)))), (0, .ref (tb))]) rfl (fun ls hl => ?_)
  refine z_iconst C dL_isBoard_13 14 rfl ?_
  refine z_top (b := .int (iI (agrK v 0))) rfl ?_
  refine z_is C hl dL_isBoard_14 16 rfl (by decide) (lv' := [(5, .int (iI (agrK v 0))), (4, .int (iI (cntK v 2 0))), (3, .int (iI (cntK v 1 0))), (2, .int (iI (cntK v 0 0))), (1, .int (iI (tideZ v (v 126)))), (0, .ref (tb))]) rfl (fun ls hl => ?_)
  refine z_iconst C dL_isBoard_16 17 rfl ?_
  refine z_top (b := .int (iI (scoK v 0 0))) rfl ?_
  refine z_is C hl dL_isBoard_17 19 rfl (by decide) (lv' := [(6, .int (iI (scoK v 0 0))), (5, .int (iI (agrK v 0))), (4, .int (iI (cntK v 2 0))), (3, .int (iI (cntK v 1 0))), (2, .int (iI (cntK v 0 0))), (1, .int (iI (tideZ v (v 126)))), (0, .ref (tb))]) rfl (fun ls hl => ?_)
  refine z_iconst C dL_isBoard_19 20 rfl ?_
  refine z_top (b := .int (iI (scoK v 1 0))) rfl ?_
  refine z_is C hl dL_isBoard_20 22 rfl (by decide) (lv' := [(7, .int (iI (scoK v 1 0))), (6, .int (iI (scoK v 0 0))), (5, .int (iI (agrK v 0))), (4, .int (iI (cntK v 2 0))), (3, .int (iI (cntK v 1 0))), (2, .int (iI (cntK v 0 0))), (1, .int (iI (tideZ v (v 126)))), (0, .ref (tb))]) rfl (fun ls hl => ?_)
  refine z_iconst C dL_isBoard_22 23 rfl ?_
  refine z_top (b := .int (iI (mmvK v 0))) rfl ?_
  refine z_is C hl dL_isBoard_23 25 rfl (by decide) (lv' := [(8, .int (iI (mmvK v 0))), (7, .int (iI (scoK v 1 0))), (6, .int (iI (scoK v 0 0))), (5, .int (iI (agrK v 0))), (4, .int (iI (cntK v 2 0))), (3, .int (iI (cntK v 1 0))), (2, .int (iI (cntK v 0 0))), (1, .int (iI (tideZ v (v 126)))), (0, .ref (tb))]) rfl (fun ls hl => ?_)
  refine z_iconst C dL_isBoard_25 26 rfl ?_
  refine z_is C hl dL_isBoard_26 28 rfl (by decide) (lv' := [(9, .int (iI (0))), (8, .int (iI (mmvK v 0))), (7, .int (iI (scoK v 1 0))), (6, .int (iI (scoK v 0 0))), (5, .int (iI (agrK v 0))), (4, .int (iI (cntK v 2 0))), (3, .int (iI (cntK v 1 0))), (2, .int (iI (cntK v 0 0))), (1, .int (iI (tideZ v (v 126)))), (0, .ref (tb))]) rfl (fun ls hl => ?_)
  have L28 : ∀ (fu : Nat) (k : Int) (h1 : 0 ≤ k ∧ k ≤ v 127) (hm : v 127 - k < (fu : Int)) (ls : Array Slot) (hl : lv_has ls 21 [(9, .int (iI (k))), (8, .int (iI (mmvK v k))), (7, .int (iI (scoK v 1 k))), (6, .int (iI (scoK v 0 k))), (5, .int (iI (agrK v k))), (4, .int (iI (cntK v 2 k))), (3, .int (iI (cntK v 1 k))), (2, .int (iI (cntK v 0 k))), (1, .int (iI (tideZ v (v 126)))), (0, .ref (tb))]), W p l e (rmN 7) s m [.ref (tb)].toArray below meth c s.heap [] 0 0 (MQ below (QR (.int (iI (bZ (true))))) [.ref (tb)].toArray s 0 0 (fun _ => False)) (F0 m 28 ls []) := by
    intro fu
    induction fu with
    | zero => intro k h1 hm ls hl; exfalso; omega
    | succ fu ih =>
      intro k h1 hm ls hl
      have r0 := cntK_rng v 0 (k := k) (by omega)
      have r1 := cntK_rng v 1 (k := k) (by omega)
      have r2 := cntK_rng v 2 (k := k) (by omega)
      have r3 := agrK_rng v (k := k) (by omega)
      have r4 := scoK_rng w0 0 (k := k) (by omega)
      have r5 := scoK_rng w0 1 (k := k) (by omega)
      have r6 := mmvK_rng (v := v) (k := k) (by omega)
      have ih28 := ih
      refine z_il C hl dL_isBoard_28 0 rfl 30 rfl ?_
      refine z_al_n C hl dL_isBoard_30 9 rfl 31 rfl ?_
      refine z_iconst C dL_isBoard_31 32 rfl ?_
      refine z_VR (r := .int (iI (cntR v n 0 5))) (rest := [.int (iI (k))]) C (m_count l G tb r x cu h pa o sg qn qb sn S g n false v 0 5 w0 (by omega)) kV_L_8 ⟨Nat.le_of_ble_eq_true rfl, Nat.le_of_ble_eq_true rfl⟩ hP hK 0 rfl rfl rfl hl.1 rfl (Nat.le_of_ble_eq_true rfl) dL_isBoard_32 ⟨Nat.le_of_ble_eq_true rfl, Nat.le_of_ble_eq_true rfl⟩ 35 rfl ?_
      refine z_top (b := .int (iI (v 127))) (congrArg (fun z => Value.int (iI z)) (rfl)) ?_
      refine z_icmp_ge C dL_isBoard_35 603 38 (by decide) rfl (by omega) (fun c35 => ?_) (fun c35 => ?_)
      · skip
        have hk9 : k = v 127 := by omega
        have e0 : cntK v 0 k = cntZ v 0 := by rw [hk9]; rfl
        have e1 : cntK v 1 k = cntZ v 1 := by rw [hk9]; rfl
        have e2 : cntK v 2 k = cntZ v 2 := by rw [hk9]; rfl
        have e3 : agrK v k = agrZ v := by rw [hk9]; rfl
        have e4 : scoK v 0 k = scoZ v 0 := by rw [hk9]; rfl
        have e5 : scoK v 1 k = scoZ v 1 := by rw [hk9]; rfl
        have e6 : mmvK v k = mmvZ v := by rw [hk9]; rfl
        have J626 : ∀ (ls : Array Slot) (hl : lv_has ls 21 [(8, .int (iI (mmvK v k))), (7, .int (iI (scoK v 1 k))), (6, .int (iI (scoK v 0 k))), (5, .int (iI (agrK v k))), (4, .int (iI (cntK v 2 k))), (3, .int (iI (cntK v 1 k))), (2, .int (iI (cntK v 0 k))), (1, .int (iI (tideZ v (v 126)))), (0, .ref (tb))]), W p l e (rmN 7) s m [.ref (tb)].toArray below meth c s.heap [] 0 0 (MQ below (QR (.int (iI (bZ (true))))) [.ref (tb)].toArray s 0 0 (fun _ => False)) (F0 m 626 ls [.int (iI (bZ (overB v)))]) := by
          intro ls hl
          refine z_is C hl dL_isBoard_626 628 rfl (by decide) (lv' := [(9, .int (iI (bZ (overB v)))), (8, .int (iI (mmvK v k))), (7, .int (iI (scoK v 1 k))), (6, .int (iI (scoK v 0 k))), (5, .int (iI (agrK v k))), (4, .int (iI (cntK v 2 k))), (3, .int (iI (cntK v 1 k))), (2, .int (iI (cntK v 0 k))), (1, .int (iI (tideZ v (v 126)))), (0, .ref (tb))]) rfl (fun ls hl => ?_)
          refine z_il_n C hl dL_isBoard_628 8 rfl 629 rfl ?_
          refine z_al_n C hl dL_isBoard_629 9 rfl 630 rfl ?_
          refine z_al_n C hl dL_isBoard_630 9 rfl 631 rfl ?_
          refine z_iconst C dL_isBoard_631 632 rfl ?_
          refine z_VR (r := .int (iI (cntR v n 0 0))) (rest := [.ref (tb), .int (iI (tideZ v (v 126)))]) C (m_count l G tb r x cu h pa o sg qn qb sn S g n false v 0 0 w0 (by omega)) kV_L_8 ⟨Nat.le_of_ble_eq_true rfl, Nat.le_of_ble_eq_true rfl⟩ hP hK 0 rfl rfl rfl hl.1 rfl (Nat.le_of_ble_eq_true rfl) dL_isBoard_632 ⟨Nat.le_of_ble_eq_true rfl, Nat.le_of_ble_eq_true rfl⟩ 635 rfl ?_
          refine z_top (b := .int (iI (v 126))) (congrArg (fun z => Value.int (iI z)) (rfl)) ?_
          refine z_VR (r := .int (iI (tidR v (v 126)))) (rest := [.int (iI (tideZ v (v 126)))]) C (m_tide l G tb r x cu h pa o sg qn qb sn v (v 126) w0 (by omega)) kV_L_25 ⟨Nat.le_of_ble_eq_true rfl, Nat.le_of_ble_eq_true rfl⟩ (gP_rg hP [0, 2] rfl) hK 0 rfl rfl rfl hl.1 rfl (Nat.le_of_ble_eq_true rfl) dL_isBoard_635 ⟨Nat.le_of_ble_eq_true rfl, Nat.le_of_ble_eq_true rfl⟩ 638 rfl ?_
          refine z_top (b := .int (iI (tideZ v (v 126)))) (congrArg (fun z => Value.int (iI z)) (tid_is (v := v) (t := (v 126)) (by omega))) ?_
          have rt635 := tide_lim w0 (v 126)
          refine z_icmp_ne C dL_isBoard_638 763 641 (by decide) rfl (by omega) (fun c638 => ?_) (fun c638 => ?_)
          · exfalso; exact c638 rfl
          · skip
            refine z_al_n C hl dL_isBoard_641 9 rfl 642 rfl ?_
            refine z_iconst C dL_isBoard_642 643 rfl ?_
            refine z_VR (r := .int (iI (cntR v n 0 1))) (rest := []) C (m_count l G tb r x cu h pa o sg qn qb sn S g n false v 0 1 w0 (by omega)) kV_L_8 ⟨Nat.le_of_ble_eq_true rfl, Nat.le_of_ble_eq_true rfl⟩ hP hK 0 rfl rfl rfl hl.1 rfl (Nat.le_of_ble_eq_true rfl) dL_isBoard_643 ⟨Nat.le_of_ble_eq_true rfl, Nat.le_of_ble_eq_true rfl⟩ 646 rfl ?_
            refine z_top (b := .int (iI ((v 126 % 2)))) (congrArg (fun z => Value.int (iI z)) (rfl)) ?_
            refine z_al_n C hl dL_isBoard_646 9 rfl 647 rfl ?_
            refine z_iconst C dL_isBoard_647 648 rfl ?_
            refine z_VR (r := .int (iI (cntR v n 0 0))) (rest := [.int (iI ((v 126 % 2)))]) C (m_count l G tb r x cu h pa o sg qn qb sn S g n false v 0 0 w0 (by omega)) kV_L_8 ⟨Nat.le_of_ble_eq_true rfl, Nat.le_of_ble_eq_true rfl⟩ hP hK 0 rfl rfl rfl hl.1 rfl (Nat.le_of_ble_eq_true rfl) dL_isBoard_648 ⟨Nat.le_of_ble_eq_true rfl, Nat.le_of_ble_eq_true rfl⟩ 651 rfl ?_
            refine z_top (b := .int (iI (v 126))) (congrArg (fun z => Value.int (iI z)) (rfl)) ?_
            refine z_iconst C dL_isBoard_651 652 rfl ?_
            refine z_irem C dL_isBoard_652 653 rfl (by omega) (((v 126) % 2)) (rfl) ?_
            refine z_icmp_ne C dL_isBoard_653 763 656 (by decide) rfl (by omega) (fun c653 => ?_) (fun c653 => ?_)
            · exfalso; exact c653 rfl
            · skip
              refine z_al_n C hl dL_isBoard_656 9 rfl 657 rfl ?_
              refine z_iconst C dL_isBoard_657 658 rfl ?_
              refine z_VR (r := .int (iI (cntR v n 0 3))) (rest := []) C (m_count l G tb r x cu h pa o sg qn qb sn S g n false v 0 3 w0 (by omega)) kV_L_8 ⟨Nat.le_of_ble_eq_true rfl, Nat.le_of_ble_eq_true rfl⟩ hP hK 0 rfl rfl rfl hl.1 rfl (Nat.le_of_ble_eq_true rfl) dL_isBoard_658 ⟨Nat.le_of_ble_eq_true rfl, Nat.le_of_ble_eq_true rfl⟩ 661 rfl ?_
              refine z_top (b := .int (iI (scoZ v 0))) (congrArg (fun z => Value.int (iI z)) (rfl)) ?_
              have rc658 := sco_rng w0 0
              refine z_il C hl dL_isBoard_661 3 rfl 663 rfl ?_
              refine z_icmp_ne C dL_isBoard_663 763 666 (by decide) rfl (by omega) (fun c663 => ?_) (fun c663 => ?_)
              · exfalso; omega
              · skip
                refine z_al_n C hl dL_isBoard_666 9 rfl 667 rfl ?_
                refine z_iconst C dL_isBoard_667 668 rfl ?_
                refine z_VR (r := .int (iI (cntR v n 0 4))) (rest := []) C (m_count l G tb r x cu h pa o sg qn qb sn S g n false v 0 4 w0 (by omega)) kV_L_8 ⟨Nat.le_of_ble_eq_true rfl, Nat.le_of_ble_eq_true rfl⟩ hP hK 0 rfl rfl rfl hl.1 rfl (Nat.le_of_ble_eq_true rfl) dL_isBoard_668 ⟨Nat.le_of_ble_eq_true rfl, Nat.le_of_ble_eq_true rfl⟩ 671 rfl ?_
                refine z_top (b := .int (iI (scoZ v 1))) (congrArg (fun z => Value.int (iI z)) (rfl)) ?_
                have rc668 := sco_rng w0 1
                refine z_il C hl dL_isBoard_671 2 rfl 673 rfl ?_
                refine z_icmp_ne C dL_isBoard_673 763 676 (by decide) rfl (by omega) (fun c673 => ?_) (fun c673 => ?_)
                · exfalso; omega
                · skip
                  refine z_al_n C hl dL_isBoard_676 9 rfl 677 rfl ?_
                  refine z_bipush C dL_isBoard_677 (by decide) 679 rfl ?_
                  refine z_VR (r := .int (iI (cntR v n 0 6))) (rest := []) C (m_count l G tb r x cu h pa o sg qn qb sn S g n false v 0 6 w0 (by omega)) kV_L_8 ⟨Nat.le_of_ble_eq_true rfl, Nat.le_of_ble_eq_true rfl⟩ hP hK 0 rfl rfl rfl hl.1 rfl (Nat.le_of_ble_eq_true rfl) dL_isBoard_679 ⟨Nat.le_of_ble_eq_true rfl, Nat.le_of_ble_eq_true rfl⟩ 682 rfl ?_
                  refine z_top (b := .int (iI (cntZ v 0))) (congrArg (fun z => Value.int (iI z)) (rfl)) ?_
                  have rc679 := cntZ_rng w0 0
                  refine z_il_n C hl dL_isBoard_682 7 rfl 683 rfl ?_
                  refine z_icmp_ne C dL_isBoard_683 763 686 (by decide) rfl (by omega) (fun c683 => ?_) (fun c683 => ?_)
                  · exfalso; omega
                  · skip
                    refine z_al_n C hl dL_isBoard_686 9 rfl 687 rfl ?_
                    refine z_bipush C dL_isBoard_687 (by decide) 689 rfl ?_
                    refine z_VR (r := .int (iI (cntR v n 0 7))) (rest := []) C (m_count l G tb r x cu h pa o sg qn qb sn S g n false v 0 7 w0 (by omega)) kV_L_8 ⟨Nat.le_of_ble_eq_true rfl, Nat.le_of_ble_eq_true rfl⟩ hP hK 0 rfl rfl rfl hl.1 rfl (Nat.le_of_ble_eq_true rfl) dL_isBoard_689 ⟨Nat.le_of_ble_eq_true rfl, Nat.le_of_ble_eq_true rfl⟩ 692 rfl ?_
                    refine z_top (b := .int (iI (cntZ v 1))) (congrArg (fun z => Value.int (iI z)) (rfl)) ?_
                    have rc689 := cntZ_rng w0 1
                    refine z_il_n C hl dL_isBoard_692 6 rfl 693 rfl ?_
                    refine z_icmp_ne C dL_isBoard_693 763 696 (by decide) rfl (by omega) (fun c693 => ?_) (fun c693 => ?_)
                    · exfalso; omega
                    · skip
                      refine z_al_n C hl dL_isBoard_696 9 rfl 697 rfl ?_
                      refine z_bipush C dL_isBoard_697 (by decide) 699 rfl ?_
                      refine z_VR (r := .int (iI (cntR v n 0 8))) (rest := []) C (m_count l G tb r x cu h pa o sg qn qb sn S g n false v 0 8 w0 (by omega)) kV_L_8 ⟨Nat.le_of_ble_eq_true rfl, Nat.le_of_ble_eq_true rfl⟩ hP hK 0 rfl rfl rfl hl.1 rfl (Nat.le_of_ble_eq_true rfl) dL_isBoard_699 ⟨Nat.le_of_ble_eq_true rfl, Nat.le_of_ble_eq_true rfl⟩ 702 rfl ?_
                      refine z_top (b := .int (iI (cntZ v 2))) (congrArg (fun z => Value.int (iI z)) (rfl)) ?_
                      have rc699 := cntZ_rng w0 2
                      refine z_il C hl dL_isBoard_702 5 rfl 704 rfl ?_
                      refine z_icmp_ne C dL_isBoard_704 763 707 (by decide) rfl (by omega) (fun c704 => ?_) (fun c704 => ?_)
                      · exfalso; omega
                      · skip
                        refine z_al_n C hl dL_isBoard_707 9 rfl 708 rfl ?_
                        refine z_bipush C dL_isBoard_708 (by decide) 710 rfl ?_
                        refine z_VR (r := .int (iI (cntR v n 0 9))) (rest := []) C (m_count l G tb r x cu h pa o sg qn qb sn S g n false v 0 9 w0 (by omega)) kV_L_8 ⟨Nat.le_of_ble_eq_true rfl, Nat.le_of_ble_eq_true rfl⟩ hP hK 0 rfl rfl rfl hl.1 rfl (Nat.le_of_ble_eq_true rfl) dL_isBoard_710 ⟨Nat.le_of_ble_eq_true rfl, Nat.le_of_ble_eq_true rfl⟩ 713 rfl ?_
                        refine z_top (b := .int (iI (agrZ v))) (congrArg (fun z => Value.int (iI z)) (rfl)) ?_
                        have rc710 := agr_rng w0
                        refine z_il C hl dL_isBoard_713 4 rfl 715 rfl ?_
                        refine z_icmp_ne C dL_isBoard_715 763 718 (by decide) rfl (by omega) (fun c715 => ?_) (fun c715 => ?_)
                        · exfalso; omega
                        · skip
                          refine z_al_n C hl dL_isBoard_718 9 rfl 719 rfl ?_
                          refine z_bipush C dL_isBoard_719 (by decide) 721 rfl ?_
                          refine z_VR (r := .int (iI (cntR v n 0 10))) (rest := []) C (m_count l G tb r x cu h pa o sg qn qb sn S g n false v 0 10 w0 (by omega)) kV_L_8 ⟨Nat.le_of_ble_eq_true rfl, Nat.le_of_ble_eq_true rfl⟩ hP hK 0 rfl rfl rfl hl.1 rfl (Nat.le_of_ble_eq_true rfl) dL_isBoard_721 ⟨Nat.le_of_ble_eq_true rfl, Nat.le_of_ble_eq_true rfl⟩ 724 rfl ?_
                          refine z_top (b := .int (iI (v 128))) (congrArg (fun z => Value.int (iI z)) (rfl)) ?_
                          refine z_il C hl dL_isBoard_724 5 rfl 726 rfl ?_
                          refine z_icmp_gt C dL_isBoard_726 763 729 (by decide) rfl (by omega) (fun c726 => ?_) (fun c726 => ?_)
                          · exfalso; omega
                          · skip
                            refine z_al_n C hl dL_isBoard_729 9 rfl 730 rfl ?_
                            refine z_bipush C dL_isBoard_730 (by decide) 732 rfl ?_
                            refine z_VR (r := .int (iI (cntR v n 0 11))) (rest := []) C (m_count l G tb r x cu h pa o sg qn qb sn S g n false v 0 11 w0 (by omega)) kV_L_8 ⟨Nat.le_of_ble_eq_true rfl, Nat.le_of_ble_eq_true rfl⟩ hP hK 0 rfl rfl rfl hl.1 rfl (Nat.le_of_ble_eq_true rfl) dL_isBoard_732 ⟨Nat.le_of_ble_eq_true rfl, Nat.le_of_ble_eq_true rfl⟩ 735 rfl ?_
                            refine z_top (b := .int (iI (bZ (overB v)))) (congrArg (fun z => Value.int (iI z)) (rfl)) ?_
                            refine z_il C hl dL_isBoard_735 0 rfl 737 rfl ?_
                            refine z_mb_eq C dL_isBoard_737 dL_isBoard_740 dL_isBoard_741 dL_isBoard_744 rfl rfl rfl 745 rfl ?_
                            refine z_icmp_ne C dL_isBoard_745 763 748 (by decide) rfl (by have := bZ_rng (overB v); omega) (fun c745 => ?_) (fun c745 => ?_)
                            · exfalso; exact c745 rfl
                            · skip
                              refine z_al_n C hl dL_isBoard_748 9 rfl 749 rfl ?_
                              refine z_bipush C dL_isBoard_749 (by decide) 751 rfl ?_
                              refine z_VR (r := .int (iI (cntR v n 0 12))) (rest := []) C (m_count l G tb r x cu h pa o sg qn qb sn S g n false v 0 12 w0 (by omega)) kV_L_8 ⟨Nat.le_of_ble_eq_true rfl, Nat.le_of_ble_eq_true rfl⟩ hP hK 0 rfl rfl rfl hl.1 rfl (Nat.le_of_ble_eq_true rfl) dL_isBoard_751 ⟨Nat.le_of_ble_eq_true rfl, Nat.le_of_ble_eq_true rfl⟩ 754 rfl ?_
                              refine z_top (b := .int (iI (mmvZ v))) (congrArg (fun z => Value.int (iI z)) (rfl)) ?_
                              have rc751 := mmv_rng w0
                              refine z_il C hl dL_isBoard_754 1 rfl 756 rfl ?_
                              refine z_icmp_ne C dL_isBoard_756 763 759 (by decide) rfl (by omega) (fun c756 => ?_) (fun c756 => ?_)
                              · exfalso; omega
                              · skip
                                refine z_iconst C dL_isBoard_759 760 rfl ?_
                                refine z_goto C dL_isBoard_760 764 (by decide) ?_
                                exact z_rz C dL_isBoard_764 (rfl)
        refine z_il_n C hl dL_isBoard_603 7 rfl 604 rfl ?_
        refine z_if_eq C dL_isBoard_604 621 607 (by decide) rfl (by omega) (fun c604 => ?_) (fun c604 => ?_)
        · skip
          refine z_iconst C dL_isBoard_621 622 rfl ?_
          refine z_goto C dL_isBoard_622 626 (by decide) ?_
          refine z_top (b := .int (iI (bZ (overB v)))) (congrArg (fun z => Value.int (iI z)) (bZ_t (decide_eq_true (Or.inr (by rw [← e0]; exact c604)))).symm) ?_
          exact J626 ls (lv_sub hl [1, 2, 3, 4, 5, 6, 7, 8, 9] rfl)
        · skip
          refine z_al_n C hl dL_isBoard_607 9 rfl 608 rfl ?_
          refine z_iconst C dL_isBoard_608 609 rfl ?_
          refine z_VR (r := .int (iI (cntR v n 0 0))) (rest := []) C (m_count l G tb r x cu h pa o sg qn qb sn S g n false v 0 0 w0 (by omega)) kV_L_8 ⟨Nat.le_of_ble_eq_true rfl, Nat.le_of_ble_eq_true rfl⟩ hP hK 0 rfl rfl rfl hl.1 rfl (Nat.le_of_ble_eq_true rfl) dL_isBoard_609 ⟨Nat.le_of_ble_eq_true rfl, Nat.le_of_ble_eq_true rfl⟩ 612 rfl ?_
          refine z_top (b := .int (iI (v 126))) (congrArg (fun z => Value.int (iI z)) (rfl)) ?_
          refine z_al_n C hl dL_isBoard_612 9 rfl 613 rfl ?_
          refine z_bipush C dL_isBoard_613 (by decide) 615 rfl ?_
          refine z_VR (r := .int (iI (cntR v n 0 18))) (rest := [.int (iI (v 126))]) C (m_count l G tb r x cu h pa o sg qn qb sn S g n false v 0 18 w0 (by omega)) kV_L_8 ⟨Nat.le_of_ble_eq_true rfl, Nat.le_of_ble_eq_true rfl⟩ hP hK 0 rfl rfl rfl hl.1 rfl (Nat.le_of_ble_eq_true rfl) dL_isBoard_615 ⟨Nat.le_of_ble_eq_true rfl, Nat.le_of_ble_eq_true rfl⟩ 618 rfl ?_
          refine z_top (b := .int (iI (v 125))) (congrArg (fun z => Value.int (iI z)) (rfl)) ?_
          refine z_icmp_le C dL_isBoard_618 625 621 (by decide) rfl (by omega) (fun c618 => ?_) (fun c618 => ?_)
          · skip
            refine z_iconst C dL_isBoard_625 626 rfl ?_
            refine z_top (b := .int (iI (bZ (overB v)))) (congrArg (fun z => Value.int (iI z)) (bZ_f (decide_eq_false (fun z => by rw [← e0] at z; omega))).symm) ?_
            exact J626 ls (lv_sub hl [1, 2, 3, 4, 5, 6, 7, 8, 9] rfl)
          · skip
            refine z_iconst C dL_isBoard_621 622 rfl ?_
            refine z_goto C dL_isBoard_622 626 (by decide) ?_
            refine z_top (b := .int (iI (bZ (overB v)))) (congrArg (fun z => Value.int (iI z)) (bZ_t (decide_eq_true (Or.inl c618))).symm) ?_
            exact J626 ls (lv_sub hl [1, 2, 3, 4, 5, 6, 7, 8, 9] rfl)
      · skip
        refine z_il C hl dL_isBoard_38 0 rfl 40 rfl ?_
        refine z_bipush C dL_isBoard_40 (by decide) 42 rfl ?_
        refine z_icmp_ge C dL_isBoard_42 603 45 (by decide) rfl (by omega) (fun c42 => ?_) (fun c42 => ?_)
        · exfalso; omega
        · skip
          have hw := w0.b k (by omega)
          have hbb := w0.bb k (by omega)
          have hw1 := hbb.1
          have ha := atZ_rng w0 (b := k) (by omega)
          refine z_al_n C hl dL_isBoard_45 9 rfl 46 rfl ?_
          refine z_il C hl dL_isBoard_46 0 rfl 48 rfl ?_
          refine z_iconst C dL_isBoard_48 49 rfl ?_
          refine z_VR (r := .int (iI (boaR v k 2))) (rest := []) C (m_boatOf l G tb r x cu h pa o sg qn qb sn v k 2 w0 (by omega) (by omega)) kV_L_14 ⟨Nat.le_of_ble_eq_true rfl, Nat.le_of_ble_eq_true rfl⟩ (gP_rg hP [0, 1, 2] rfl) hK 0 rfl rfl rfl hl.1 rfl (Nat.le_of_ble_eq_true rfl) dL_isBoard_49 ⟨Nat.le_of_ble_eq_true rfl, Nat.le_of_ble_eq_true rfl⟩ 52 rfl ?_
          refine z_top (b := .int (iI (v (74 + 5 * k)))) (congrArg (fun z => Value.int (iI z)) (boa_2 (v := v) (b := k) (by omega))) ?_
          refine z_is C hl dL_isBoard_52 54 rfl (by decide) (lv' := [(10, .int (iI (v (74 + 5 * k)))), (9, .int (iI (k))), (8, .int (iI (mmvK v k))), (7, .int (iI (scoK v 1 k))), (6, .int (iI (scoK v 0 k))), (5, .int (iI (agrK v k))), (4, .int (iI (cntK v 2 k))), (3, .int (iI (cntK v 1 k))), (2, .int (iI (cntK v 0 k))), (1, .int (iI (tideZ v (v 126)))), (0, .ref (tb))]) rfl (fun ls hl => ?_)
          refine z_al_n C hl dL_isBoard_54 10 rfl 55 rfl ?_
          refine z_il C hl dL_isBoard_55 1 rfl 57 rfl ?_
          refine z_iconst C dL_isBoard_57 58 rfl ?_
          refine z_VR (r := .int (iI (boaR v k 3))) (rest := []) C (m_boatOf l G tb r x cu h pa o sg qn qb sn v k 3 w0 (by omega) (by omega)) kV_L_14 ⟨Nat.le_of_ble_eq_true rfl, Nat.le_of_ble_eq_true rfl⟩ (gP_rg hP [0, 1, 2] rfl) hK 0 rfl rfl rfl hl.1 rfl (Nat.le_of_ble_eq_true rfl) dL_isBoard_58 ⟨Nat.le_of_ble_eq_true rfl, Nat.le_of_ble_eq_true rfl⟩ 61 rfl ?_
          refine z_top (b := .int (iI (atZ v k))) (congrArg (fun z => Value.int (iI z)) (boa_3 (v := v) (b := k) (by omega))) ?_
          refine z_is C hl dL_isBoard_61 63 rfl (by decide) (lv' := [(11, .int (iI (atZ v k))), (10, .int (iI (v (74 + 5 * k)))), (9, .int (iI (k))), (8, .int (iI (mmvK v k))), (7, .int (iI (scoK v 1 k))), (6, .int (iI (scoK v 0 k))), (5, .int (iI (agrK v k))), (4, .int (iI (cntK v 2 k))), (3, .int (iI (cntK v 1 k))), (2, .int (iI (cntK v 0 k))), (1, .int (iI (tideZ v (v 126)))), (0, .ref (tb))]) rfl (fun ls hl => ?_)
          refine z_al_n C hl dL_isBoard_63 11 rfl 64 rfl ?_
          refine z_il C hl dL_isBoard_64 2 rfl 66 rfl ?_
          refine z_iconst C dL_isBoard_66 67 rfl ?_
          refine z_VR (r := .int (iI (boaR v k 1))) (rest := []) C (m_boatOf l G tb r x cu h pa o sg qn qb sn v k 1 w0 (by omega) (by omega)) kV_L_14 ⟨Nat.le_of_ble_eq_true rfl, Nat.le_of_ble_eq_true rfl⟩ (gP_rg hP [0, 1, 2] rfl) hK 0 rfl rfl rfl hl.1 rfl (Nat.le_of_ble_eq_true rfl) dL_isBoard_67 ⟨Nat.le_of_ble_eq_true rfl, Nat.le_of_ble_eq_true rfl⟩ 70 rfl ?_
          refine z_top (b := .int (iI (v (73 + 5 * k)))) (congrArg (fun z => Value.int (iI z)) (boa_1 (v := v) (b := k) (by omega))) ?_
          refine z_is C hl dL_isBoard_70 72 rfl (by decide) (lv' := [(12, .int (iI (v (73 + 5 * k)))), (11, .int (iI (atZ v k))), (10, .int (iI (v (74 + 5 * k)))), (9, .int (iI (k))), (8, .int (iI (mmvK v k))), (7, .int (iI (scoK v 1 k))), (6, .int (iI (scoK v 0 k))), (5, .int (iI (agrK v k))), (4, .int (iI (cntK v 2 k))), (3, .int (iI (cntK v 1 k))), (2, .int (iI (cntK v 0 k))), (1, .int (iI (tideZ v (v 126)))), (0, .ref (tb))]) rfl (fun ls hl => ?_)
          refine z_al_n C hl dL_isBoard_72 12 rfl 73 rfl ?_
          refine z_il C hl dL_isBoard_73 3 rfl 75 rfl ?_
          refine z_iconst C dL_isBoard_75 76 rfl ?_
          refine z_VR (r := .int (iI (boaR v k 0))) (rest := []) C (m_boatOf l G tb r x cu h pa o sg qn qb sn v k 0 w0 (by omega) (by omega)) kV_L_14 ⟨Nat.le_of_ble_eq_true rfl, Nat.le_of_ble_eq_true rfl⟩ (gP_rg hP [0, 1, 2] rfl) hK 0 rfl rfl rfl hl.1 rfl (Nat.le_of_ble_eq_true rfl) dL_isBoard_76 ⟨Nat.le_of_ble_eq_true rfl, Nat.le_of_ble_eq_true rfl⟩ 79 rfl ?_
          refine z_top (b := .int (iI (v (72 + 5 * k)))) (congrArg (fun z => Value.int (iI z)) (boa_0 (v := v) (b := k) (by omega))) ?_
          refine z_is C hl dL_isBoard_79 81 rfl (by decide) (lv' := [(13, .int (iI (v (72 + 5 * k)))), (12, .int (iI (v (73 + 5 * k)))), (11, .int (iI (atZ v k))), (10, .int (iI (v (74 + 5 * k)))), (9, .int (iI (k))), (8, .int (iI (mmvK v k))), (7, .int (iI (scoK v 1 k))), (6, .int (iI (scoK v 0 k))), (5, .int (iI (agrK v k))), (4, .int (iI (cntK v 2 k))), (3, .int (iI (cntK v 1 k))), (2, .int (iI (cntK v 0 k))), (1, .int (iI (tideZ v (v 126)))), (0, .ref (tb))]) rfl (fun ls hl => ?_)
          have J108 : ∀ (ls : Array Slot) (hl : lv_has ls 21 [(13, .int (iI (v (72 + 5 * k)))), (12, .int (iI (v (73 + 5 * k)))), (11, .int (iI (atZ v k))), (10, .int (iI (v (74 + 5 * k)))), (9, .int (iI (k))), (8, .int (iI (mmvK v k))), (7, .int (iI (scoK v 1 k))), (6, .int (iI (scoK v 0 k))), (5, .int (iI (agrK v k))), (4, .int (iI (cntK v 2 k))), (3, .int (iI (cntK v 1 k))), (2, .int (iI (cntK v 0 k))), (1, .int (iI (tideZ v (v 126)))), (0, .ref (tb))]), W p l e (rmN 7) s m [.ref (tb)].toArray below meth c s.heap [] 0 0 (MQ below (QR (.int (iI (bZ (true))))) [.ref (tb)].toArray s 0 0 (fun _ => False)) (F0 m 108 ls [.int (iI (bZ (onB v k && floB v k)))]) := by
            intro ls hl
            refine z_is C hl dL_isBoard_108 110 rfl (by decide) (lv' := [(14, .int (iI (bZ (onB v k && floB v k)))), (13, .int (iI (v (72 + 5 * k)))), (12, .int (iI (v (73 + 5 * k)))), (11, .int (iI (atZ v k))), (10, .int (iI (v (74 + 5 * k)))), (9, .int (iI (k))), (8, .int (iI (mmvK v k))), (7, .int (iI (scoK v 1 k))), (6, .int (iI (scoK v 0 k))), (5, .int (iI (agrK v k))), (4, .int (iI (cntK v 2 k))), (3, .int (iI (cntK v 1 k))), (2, .int (iI (cntK v 0 k))), (1, .int (iI (tideZ v (v 126)))), (0, .ref (tb))]) rfl (fun ls hl => ?_)
            refine z_il C hl dL_isBoard_110 4 rfl 112 rfl ?_
            refine z_if_lt C dL_isBoard_112 208 115 (by decide) rfl (by omega) (fun c112 => ?_) (fun c112 => ?_)
            · exfalso; omega
            · skip
              refine z_il C hl dL_isBoard_115 4 rfl 117 rfl ?_
              refine z_iconst C dL_isBoard_117 118 rfl ?_
              refine z_icmp_ge C dL_isBoard_118 208 121 (by decide) rfl (by omega) (fun c118 => ?_) (fun c118 => ?_)
              · exfalso; omega
              · skip
                refine z_il C hl dL_isBoard_121 4 rfl 123 rfl ?_
                refine z_mif_ne C dL_isBoard_123 dL_isBoard_126 dL_isBoard_127 dL_isBoard_130 (by omega) rfl rfl rfl 131 rfl ?_
                refine z_il C hl dL_isBoard_131 3 rfl 133 rfl ?_
                refine z_mif_lt C dL_isBoard_133 dL_isBoard_136 dL_isBoard_137 dL_isBoard_140 (by omega) rfl rfl rfl 141 rfl ?_
                refine z_icmp_ne C dL_isBoard_141 208 144 (by decide) rfl (by have := bZ_rng (decide (v (74 + 5 * k) = 0)); have := bZ_rng (decide (0 ≤ atZ v k)); omega) (fun c141 => ?_) (fun c141 => ?_)
                · exfalso; rw [bZ_if, bZ_if] at c141; (repeat' split at c141) <;> omega
                · skip
                  refine z_il C hl dL_isBoard_144 2 rfl 146 rfl ?_
                  refine z_if_le C dL_isBoard_146 208 149 (by decide) rfl (by omega) (fun c146 => ?_) (fun c146 => ?_)
                  · exfalso; omega
                  · skip
                    refine z_il C hl dL_isBoard_149 2 rfl 151 rfl ?_
                    refine z_iconst C dL_isBoard_151 152 rfl ?_
                    refine z_icmp_ge C dL_isBoard_152 208 155 (by decide) rfl (by omega) (fun c152 => ?_) (fun c152 => ?_)
                    · exfalso; omega
                    · skip
                      refine z_al_n C hl dL_isBoard_155 14 rfl 156 rfl ?_
                      refine z_il C hl dL_isBoard_156 5 rfl 158 rfl ?_
                      refine z_iconst C dL_isBoard_158 159 rfl ?_
                      refine z_VR (r := .int (iI (boaR v k 4))) (rest := []) C (m_boatOf l G tb r x cu h pa o sg qn qb sn v k 4 w0 (by omega) (by omega)) kV_L_14 ⟨Nat.le_of_ble_eq_true rfl, Nat.le_of_ble_eq_true rfl⟩ (gP_rg hP [0, 1, 2] rfl) hK 0 rfl rfl rfl hl.1 rfl (Nat.le_of_ble_eq_true rfl) dL_isBoard_159 ⟨Nat.le_of_ble_eq_true rfl, Nat.le_of_ble_eq_true rfl⟩ 162 rfl ?_
                      refine z_top (b := .int (iI (bZ (onB v k && floB v k)))) (congrArg (fun z => Value.int (iI z)) (boa_4 (v := v) (b := k) (by omega))) ?_
                      refine z_il C hl dL_isBoard_162 0 rfl 164 rfl ?_
                      refine z_mb_eq C dL_isBoard_164 dL_isBoard_167 dL_isBoard_168 dL_isBoard_171 rfl rfl rfl 172 rfl ?_
                      refine z_icmp_ne C dL_isBoard_172 208 175 (by decide) rfl (by have := bZ_rng (onB v k && floB v k); omega) (fun c172 => ?_) (fun c172 => ?_)
                      · exfalso; exact c172 rfl
                      · skip
                        have J204 : ∀ (ls : Array Slot) (hl : lv_has ls 21 [(14, .int (iI (bZ (onB v k && floB v k)))), (13, .int (iI (v (72 + 5 * k)))), (12, .int (iI (v (73 + 5 * k)))), (11, .int (iI (atZ v k))), (10, .int (iI (v (74 + 5 * k)))), (9, .int (iI (k))), (8, .int (iI (mmvK v k))), (7, .int (iI (scoK v 1 k))), (6, .int (iI (scoK v 0 k))), (5, .int (iI (agrK v k))), (4, .int (iI (cntK v 2 k))), (3, .int (iI (cntK v 1 k))), (2, .int (iI (cntK v 0 k))), (1, .int (iI (tideZ v (v 126)))), (0, .ref (tb))]), W p l e (rmN 7) s m [.ref (tb)].toArray below meth c s.heap [] 0 0 (MQ below (QR (.int (iI (bZ (true))))) [.ref (tb)].toArray s 0 0 (fun _ => False)) (F0 m 204 ls []) := by
                          intro ls hl
                          refine z_iconst C dL_isBoard_204 205 rfl ?_
                          refine z_goto C dL_isBoard_205 209 (by decide) ?_
                          refine z_is C hl dL_isBoard_209 211 rfl (by decide) (lv' := [(15, .int (iI (1))), (14, .int (iI (bZ (onB v k && floB v k)))), (13, .int (iI (v (72 + 5 * k)))), (12, .int (iI (v (73 + 5 * k)))), (11, .int (iI (atZ v k))), (10, .int (iI (v (74 + 5 * k)))), (9, .int (iI (k))), (8, .int (iI (mmvK v k))), (7, .int (iI (scoK v 1 k))), (6, .int (iI (scoK v 0 k))), (5, .int (iI (agrK v k))), (4, .int (iI (cntK v 2 k))), (3, .int (iI (cntK v 1 k))), (2, .int (iI (cntK v 0 k))), (1, .int (iI (tideZ v (v 126)))), (0, .ref (tb))]) rfl (fun ls hl => ?_)
                          refine z_iconst C dL_isBoard_211 212 rfl ?_
                          refine z_is C hl dL_isBoard_212 214 rfl (by decide) (lv' := [(16, .int (iI (0))), (15, .int (iI (1))), (14, .int (iI (bZ (onB v k && floB v k)))), (13, .int (iI (v (72 + 5 * k)))), (12, .int (iI (v (73 + 5 * k)))), (11, .int (iI (atZ v k))), (10, .int (iI (v (74 + 5 * k)))), (9, .int (iI (k))), (8, .int (iI (mmvK v k))), (7, .int (iI (scoK v 1 k))), (6, .int (iI (scoK v 0 k))), (5, .int (iI (agrK v k))), (4, .int (iI (cntK v 2 k))), (3, .int (iI (cntK v 1 k))), (2, .int (iI (cntK v 0 k))), (1, .int (iI (tideZ v (v 126)))), (0, .ref (tb))]) rfl (fun ls hl => ?_)
                          refine z_iconst C dL_isBoard_214 215 rfl ?_
                          refine z_top (b := .int (iI (nowK v k 0))) rfl ?_
                          refine z_is C hl dL_isBoard_215 217 rfl (by decide) (lv' := [(17, .int (iI (nowK v k 0))), (16, .int (iI (0))), (15, .int (iI (1))), (14, .int (iI (bZ (onB v k && floB v k)))), (13, .int (iI (v (72 + 5 * k)))), (12, .int (iI (v (73 + 5 * k)))), (11, .int (iI (atZ v k))), (10, .int (iI (v (74 + 5 * k)))), (9, .int (iI (k))), (8, .int (iI (mmvK v k))), (7, .int (iI (scoK v 1 k))), (6, .int (iI (scoK v 0 k))), (5, .int (iI (agrK v k))), (4, .int (iI (cntK v 2 k))), (3, .int (iI (cntK v 1 k))), (2, .int (iI (cntK v 0 k))), (1, .int (iI (tideZ v (v 126)))), (0, .ref (tb))]) rfl (fun ls hl => ?_)
                          refine z_iconst C dL_isBoard_217 218 rfl ?_
                          refine z_is C hl dL_isBoard_218 220 rfl (by decide) (lv' := [(18, .int (iI (0))), (17, .int (iI (nowK v k 0))), (16, .int (iI (0))), (15, .int (iI (1))), (14, .int (iI (bZ (onB v k && floB v k)))), (13, .int (iI (v (72 + 5 * k)))), (12, .int (iI (v (73 + 5 * k)))), (11, .int (iI (atZ v k))), (10, .int (iI (v (74 + 5 * k)))), (9, .int (iI (k))), (8, .int (iI (mmvK v k))), (7, .int (iI (scoK v 1 k))), (6, .int (iI (scoK v 0 k))), (5, .int (iI (agrK v k))), (4, .int (iI (cntK v 2 k))), (3, .int (iI (cntK v 1 k))), (2, .int (iI (cntK v 0 k))), (1, .int (iI (tideZ v (v 126)))), (0, .ref (tb))]) rfl (fun ls hl => ?_)
                          have L220 : ∀ (fu : Nat) (w : Int) (g1 : 0 ≤ w ∧ w ≤ 12) (hm : 12 - w < (fu : Int)) (ls : Array Slot) (hl : lv_has ls 21 [(18, .int (iI (w))), (17, .int (iI (nowK v k w))), (16, .int (iI (0))), (15, .int (iI (1))), (14, .int (iI (bZ (onB v k && floB v k)))), (13, .int (iI (v (72 + 5 * k)))), (12, .int (iI (v (73 + 5 * k)))), (11, .int (iI (atZ v k))), (10, .int (iI (v (74 + 5 * k)))), (9, .int (iI (k))), (8, .int (iI (mmvK v k))), (7, .int (iI (scoK v 1 k))), (6, .int (iI (scoK v 0 k))), (5, .int (iI (agrK v k))), (4, .int (iI (cntK v 2 k))), (3, .int (iI (cntK v 1 k))), (2, .int (iI (cntK v 0 k))), (1, .int (iI (tideZ v (v 126)))), (0, .ref (tb))]), W p l e (rmN 7) s m [.ref (tb)].toArray below meth c s.heap [] 0 0 (MQ below (QR (.int (iI (bZ (true))))) [.ref (tb)].toArray s 0 0 (fun _ => False)) (F0 m 220 ls []) := by
                            intro fu
                            induction fu with
                            | zero => intro w g1 hm ls hl; exfalso; omega
                            | succ fu ih =>
                              intro w g1 hm ls hl
                              have r7 := nowK_rng v k (k := w) (by omega)
                              have ih220 := ih
                              refine z_il C hl dL_isBoard_220 0 rfl 222 rfl ?_
                              refine z_bipush C dL_isBoard_222 (by decide) 224 rfl ?_
                              refine z_icmp_ge C dL_isBoard_224 433 227 (by decide) rfl (by omega) (fun c224 => ?_) (fun c224 => ?_)
                              · skip
                                refine z_il C hl dL_isBoard_433 3 rfl 435 rfl ?_
                                refine z_if_eq C dL_isBoard_435 466 438 (by decide) rfl (by omega) (fun c435 => ?_) (fun c435 => ?_)
                                · exfalso; omega
                                · skip
                                  refine z_il C hl dL_isBoard_438 2 rfl 440 rfl ?_
                                  refine z_if_gt C dL_isBoard_440 466 443 (by decide) rfl (by omega) (fun c440 => ?_) (fun c440 => ?_)
                                  · exfalso; omega
                                  · skip
                                    have J468 : ∀ (ls : Array Slot) (hl : lv_has ls 21 [(17, .int (iI (nowK v k w))), (14, .int (iI (bZ (onB v k && floB v k)))), (13, .int (iI (v (72 + 5 * k)))), (12, .int (iI (v (73 + 5 * k)))), (11, .int (iI (atZ v k))), (10, .int (iI (v (74 + 5 * k)))), (9, .int (iI (k))), (8, .int (iI (mmvK v k))), (7, .int (iI (scoK v 1 k))), (6, .int (iI (scoK v 0 k))), (5, .int (iI (agrK v k))), (4, .int (iI (cntK v 2 k))), (3, .int (iI (cntK v 1 k))), (2, .int (iI (cntK v 0 k))), (1, .int (iI (tideZ v (v 126)))), (0, .ref (tb))]), W p l e (rmN 7) s m [.ref (tb)].toArray below meth c s.heap [] 0 0 (MQ below (QR (.int (iI (bZ (true))))) [.ref (tb)].toArray s 0 0 (fun _ => False)) (F0 m 468 ls []) := by
                                      intro ls hl
                                      refine z_il_n C hl dL_isBoard_468 13 rfl 469 rfl ?_
                                      refine z_il C hl dL_isBoard_469 5 rfl 471 rfl ?_
                                      refine z_mif_ne C dL_isBoard_471 dL_isBoard_474 dL_isBoard_475 dL_isBoard_478 (by omega) rfl rfl rfl 479 rfl ?_
                                      refine z_iadd C dL_isBoard_479 480 rfl (bZ (decide (v (74 + 5 * k) = 0)) + cntK v 0 k) (by omega) ?_
                                      refine z_top (b := .int (iI (cntK v 0 (1 + k)))) (congrArg (fun z => Value.int (iI z)) (by have hq := cntK_s (v := v) (x := 0) (k := k) (by omega); omega)) ?_
                                      refine z_is_n C hl dL_isBoard_480 481 rfl (by decide) (lv' := [(2, .int (iI (cntK v 0 (1 + k)))), (17, .int (iI (nowK v k w))), (14, .int (iI (bZ (onB v k && floB v k)))), (13, .int (iI (v (72 + 5 * k)))), (12, .int (iI (v (73 + 5 * k)))), (11, .int (iI (atZ v k))), (10, .int (iI (v (74 + 5 * k)))), (9, .int (iI (k))), (8, .int (iI (mmvK v k))), (7, .int (iI (scoK v 1 k))), (6, .int (iI (scoK v 0 k))), (5, .int (iI (agrK v k))), (4, .int (iI (cntK v 2 k))), (3, .int (iI (cntK v 1 k))), (1, .int (iI (tideZ v (v 126)))), (0, .ref (tb))]) rfl (fun ls hl => ?_)
                                      refine z_il_n C hl dL_isBoard_481 13 rfl 482 rfl ?_
                                      refine z_il C hl dL_isBoard_482 6 rfl 484 rfl ?_
                                      refine z_iconst C dL_isBoard_484 485 rfl ?_
                                      refine z_micmp_ne C dL_isBoard_485 dL_isBoard_488 dL_isBoard_489 dL_isBoard_492 (by omega) rfl rfl rfl 493 rfl ?_
                                      refine z_iadd C dL_isBoard_493 494 rfl (bZ (decide (v (74 + 5 * k) = 1)) + cntK v 1 k) (by omega) ?_
                                      refine z_top (b := .int (iI (cntK v 1 (1 + k)))) (congrArg (fun z => Value.int (iI z)) (by have hq := cntK_s (v := v) (x := 1) (k := k) (by omega); omega)) ?_
                                      refine z_is_n C hl dL_isBoard_494 495 rfl (by decide) (lv' := [(3, .int (iI (cntK v 1 (1 + k)))), (2, .int (iI (cntK v 0 (1 + k)))), (17, .int (iI (nowK v k w))), (14, .int (iI (bZ (onB v k && floB v k)))), (13, .int (iI (v (72 + 5 * k)))), (12, .int (iI (v (73 + 5 * k)))), (11, .int (iI (atZ v k))), (10, .int (iI (v (74 + 5 * k)))), (9, .int (iI (k))), (8, .int (iI (mmvK v k))), (7, .int (iI (scoK v 1 k))), (6, .int (iI (scoK v 0 k))), (5, .int (iI (agrK v k))), (4, .int (iI (cntK v 2 k))), (1, .int (iI (tideZ v (v 126)))), (0, .ref (tb))]) rfl (fun ls hl => ?_)
                                      refine z_il C hl dL_isBoard_495 13 rfl 497 rfl ?_
                                      refine z_il C hl dL_isBoard_497 7 rfl 499 rfl ?_
                                      refine z_iconst C dL_isBoard_499 500 rfl ?_
                                      refine z_micmp_ne C dL_isBoard_500 dL_isBoard_503 dL_isBoard_504 dL_isBoard_507 (by omega) rfl rfl rfl 508 rfl ?_
                                      refine z_iadd C dL_isBoard_508 509 rfl (bZ (decide (v (74 + 5 * k) = 2)) + cntK v 2 k) (by omega) ?_
                                      refine z_top (b := .int (iI (cntK v 2 (1 + k)))) (congrArg (fun z => Value.int (iI z)) (by have hq := cntK_s (v := v) (x := 2) (k := k) (by omega); omega)) ?_
                                      refine z_is C hl dL_isBoard_509 511 rfl (by decide) (lv' := [(4, .int (iI (cntK v 2 (1 + k)))), (3, .int (iI (cntK v 1 (1 + k)))), (2, .int (iI (cntK v 0 (1 + k)))), (17, .int (iI (nowK v k w))), (14, .int (iI (bZ (onB v k && floB v k)))), (13, .int (iI (v (72 + 5 * k)))), (12, .int (iI (v (73 + 5 * k)))), (11, .int (iI (atZ v k))), (10, .int (iI (v (74 + 5 * k)))), (9, .int (iI (k))), (8, .int (iI (mmvK v k))), (7, .int (iI (scoK v 1 k))), (6, .int (iI (scoK v 0 k))), (5, .int (iI (agrK v k))), (1, .int (iI (tideZ v (v 126)))), (0, .ref (tb))]) rfl (fun ls hl => ?_)
                                      have J531 : ∀ (ls : Array Slot) (hl : lv_has ls 21 [(17, .int (iI (nowK v k w))), (14, .int (iI (bZ (onB v k && floB v k)))), (13, .int (iI (v (72 + 5 * k)))), (12, .int (iI (v (73 + 5 * k)))), (11, .int (iI (atZ v k))), (10, .int (iI (v (74 + 5 * k)))), (9, .int (iI (k))), (8, .int (iI (mmvK v k))), (7, .int (iI (scoK v 1 k))), (6, .int (iI (scoK v 0 k))), (5, .int (iI (agrK v (1 + k)))), (4, .int (iI (cntK v 2 (1 + k)))), (3, .int (iI (cntK v 1 (1 + k)))), (2, .int (iI (cntK v 0 (1 + k)))), (1, .int (iI (tideZ v (v 126)))), (0, .ref (tb))]), W p l e (rmN 7) s m [.ref (tb)].toArray below meth c s.heap [] 0 0 (MQ below (QR (.int (iI (bZ (true))))) [.ref (tb)].toArray s 0 0 (fun _ => False)) (F0 m 531 ls []) := by
                                        intro ls hl
                                        have J553 : ∀ (ls : Array Slot) (hl : lv_has ls 21 [(17, .int (iI (nowK v k w))), (14, .int (iI (bZ (onB v k && floB v k)))), (13, .int (iI (v (72 + 5 * k)))), (12, .int (iI (v (73 + 5 * k)))), (11, .int (iI (atZ v k))), (10, .int (iI (v (74 + 5 * k)))), (9, .int (iI (k))), (8, .int (iI (mmvK v k))), (7, .int (iI (scoK v 1 k))), (6, .int (iI (scoK v 0 (1 + k)))), (5, .int (iI (agrK v (1 + k)))), (4, .int (iI (cntK v 2 (1 + k)))), (3, .int (iI (cntK v 1 (1 + k)))), (2, .int (iI (cntK v 0 (1 + k)))), (1, .int (iI (tideZ v (v 126)))), (0, .ref (tb))]), W p l e (rmN 7) s m [.ref (tb)].toArray below meth c s.heap [] 0 0 (MQ below (QR (.int (iI (bZ (true))))) [.ref (tb)].toArray s 0 0 (fun _ => False)) (F0 m 553 ls []) := by
                                          intro ls hl
                                          have J576 : ∀ (ls : Array Slot) (hl : lv_has ls 21 [(17, .int (iI (nowK v k w))), (14, .int (iI (bZ (onB v k && floB v k)))), (13, .int (iI (v (72 + 5 * k)))), (12, .int (iI (v (73 + 5 * k)))), (11, .int (iI (atZ v k))), (10, .int (iI (v (74 + 5 * k)))), (9, .int (iI (k))), (8, .int (iI (mmvK v k))), (7, .int (iI (scoK v 1 (1 + k)))), (6, .int (iI (scoK v 0 (1 + k)))), (5, .int (iI (agrK v (1 + k)))), (4, .int (iI (cntK v 2 (1 + k)))), (3, .int (iI (cntK v 1 (1 + k)))), (2, .int (iI (cntK v 0 (1 + k)))), (1, .int (iI (tideZ v (v 126)))), (0, .ref (tb))]), W p l e (rmN 7) s m [.ref (tb)].toArray below meth c s.heap [] 0 0 (MQ below (QR (.int (iI (bZ (true))))) [.ref (tb)].toArray s 0 0 (fun _ => False)) (F0 m 576 ls []) := by
                                            intro ls hl
                                            refine z_il C hl dL_isBoard_576 7 rfl 578 rfl ?_
                                            refine z_il C hl dL_isBoard_578 2 rfl 580 rfl ?_
                                            refine z_al_n C hl dL_isBoard_580 15 rfl 581 rfl ?_
                                            refine z_iconst C dL_isBoard_581 582 rfl ?_
                                            refine z_VR (r := .int (iI (cntR v n 0 1))) (rest := [.int (iI (v (72 + 5 * k))), .int (iI (mmvK v k))]) C (m_count l G tb r x cu h pa o sg qn qb sn S g n false v 0 1 w0 (by omega)) kV_L_8 ⟨Nat.le_of_ble_eq_true rfl, Nat.le_of_ble_eq_true rfl⟩ hP hK 0 rfl rfl rfl hl.1 rfl (Nat.le_of_ble_eq_true rfl) dL_isBoard_582 ⟨Nat.le_of_ble_eq_true rfl, Nat.le_of_ble_eq_true rfl⟩ 585 rfl ?_
                                            refine z_top (b := .int (iI ((v 126 % 2)))) (congrArg (fun z => Value.int (iI z)) (rfl)) ?_
                                            refine z_icmp_ne C dL_isBoard_585 593 588 (by decide) rfl (by omega) (fun c585 => ?_) (fun c585 => ?_)
                                            · skip
                                              refine z_iconst C dL_isBoard_593 594 rfl ?_
                                              refine z_iadd C dL_isBoard_594 595 rfl (mmvK v k) (by omega) ?_
                                              refine z_top (b := .int (iI (mmvK v (1 + k)))) (congrArg (fun z => Value.int (iI z)) (mmv_n (by omega) c585)) ?_
                                              refine z_is C hl dL_isBoard_595 597 rfl (by decide) (lv' := [(8, .int (iI (mmvK v (1 + k)))), (17, .int (iI (nowK v k w))), (14, .int (iI (bZ (onB v k && floB v k)))), (13, .int (iI (v (72 + 5 * k)))), (12, .int (iI (v (73 + 5 * k)))), (11, .int (iI (atZ v k))), (10, .int (iI (v (74 + 5 * k)))), (9, .int (iI (k))), (7, .int (iI (scoK v 1 (1 + k)))), (6, .int (iI (scoK v 0 (1 + k)))), (5, .int (iI (agrK v (1 + k)))), (4, .int (iI (cntK v 2 (1 + k)))), (3, .int (iI (cntK v 1 (1 + k)))), (2, .int (iI (cntK v 0 (1 + k)))), (1, .int (iI (tideZ v (v 126)))), (0, .ref (tb))]) rfl (fun ls hl => ?_)
                                              refine z_iinc C hl dL_isBoard_597 600 rfl 7 rfl (z := 1 + k) (by omega) (by decide) (lv' := [(9, .int (iI (1 + k))), (8, .int (iI (mmvK v (1 + k)))), (17, .int (iI (nowK v k w))), (14, .int (iI (bZ (onB v k && floB v k)))), (13, .int (iI (v (72 + 5 * k)))), (12, .int (iI (v (73 + 5 * k)))), (11, .int (iI (atZ v k))), (10, .int (iI (v (74 + 5 * k)))), (7, .int (iI (scoK v 1 (1 + k)))), (6, .int (iI (scoK v 0 (1 + k)))), (5, .int (iI (agrK v (1 + k)))), (4, .int (iI (cntK v 2 (1 + k)))), (3, .int (iI (cntK v 1 (1 + k)))), (2, .int (iI (cntK v 0 (1 + k)))), (1, .int (iI (tideZ v (v 126)))), (0, .ref (tb))]) rfl (fun ls hl => ?_)
                                              refine z_goto C dL_isBoard_600 28 (by decide) ?_
                                              exact ih28 (1 + k) (by omega) (by omega) ls (lv_sub hl [0, 1, 8, 9, 10, 11, 12, 13, 14, 15] rfl)
                                            · skip
                                              refine z_il C hl dL_isBoard_588 0 rfl 590 rfl ?_
                                              refine z_goto C dL_isBoard_590 594 (by decide) ?_
                                              refine z_iadd C dL_isBoard_594 595 rfl (mmvK v k + nowK v k w) (by omega) ?_
                                              refine z_top (b := .int (iI (mmvK v (1 + k)))) (congrArg (fun z => Value.int (iI z)) (show mmvK v k + nowK v k w = mmvK v (1 + k) by rw [show w = 12 by omega]; exact mmv_y (by omega) c585)) ?_
                                              refine z_is C hl dL_isBoard_595 597 rfl (by decide) (lv' := [(8, .int (iI (mmvK v (1 + k)))), (17, .int (iI (nowK v k w))), (14, .int (iI (bZ (onB v k && floB v k)))), (13, .int (iI (v (72 + 5 * k)))), (12, .int (iI (v (73 + 5 * k)))), (11, .int (iI (atZ v k))), (10, .int (iI (v (74 + 5 * k)))), (9, .int (iI (k))), (7, .int (iI (scoK v 1 (1 + k)))), (6, .int (iI (scoK v 0 (1 + k)))), (5, .int (iI (agrK v (1 + k)))), (4, .int (iI (cntK v 2 (1 + k)))), (3, .int (iI (cntK v 1 (1 + k)))), (2, .int (iI (cntK v 0 (1 + k)))), (1, .int (iI (tideZ v (v 126)))), (0, .ref (tb))]) rfl (fun ls hl => ?_)
                                              refine z_iinc C hl dL_isBoard_597 600 rfl 7 rfl (z := 1 + k) (by omega) (by decide) (lv' := [(9, .int (iI (1 + k))), (8, .int (iI (mmvK v (1 + k)))), (17, .int (iI (nowK v k w))), (14, .int (iI (bZ (onB v k && floB v k)))), (13, .int (iI (v (72 + 5 * k)))), (12, .int (iI (v (73 + 5 * k)))), (11, .int (iI (atZ v k))), (10, .int (iI (v (74 + 5 * k)))), (7, .int (iI (scoK v 1 (1 + k)))), (6, .int (iI (scoK v 0 (1 + k)))), (5, .int (iI (agrK v (1 + k)))), (4, .int (iI (cntK v 2 (1 + k)))), (3, .int (iI (cntK v 1 (1 + k)))), (2, .int (iI (cntK v 0 (1 + k)))), (1, .int (iI (tideZ v (v 126)))), (0, .ref (tb))]) rfl (fun ls hl => ?_)
                                              refine z_goto C dL_isBoard_600 28 (by decide) ?_
                                              exact ih28 (1 + k) (by omega) (by omega) ls (lv_sub hl [0, 1, 8, 9, 10, 11, 12, 13, 14, 15] rfl)
                                          refine z_il C hl dL_isBoard_553 8 rfl 555 rfl ?_
                                          refine z_il C hl dL_isBoard_555 5 rfl 557 rfl ?_
                                          refine z_iconst C dL_isBoard_557 558 rfl ?_
                                          refine z_icmp_ne C dL_isBoard_558 572 561 (by decide) rfl (by omega) (fun c558 => ?_) (fun c558 => ?_)
                                          · skip
                                            refine z_iconst C dL_isBoard_572 573 rfl ?_
                                            refine z_iadd C dL_isBoard_573 574 rfl (scoK v 1 k) (by omega) ?_
                                            refine z_top (b := .int (iI (scoK v 1 (1 + k)))) (congrArg (fun z => Value.int (iI z)) (sco_n (by omega) (fun z => by omega))) ?_
                                            refine z_is C hl dL_isBoard_574 576 rfl (by decide) (lv' := [(7, .int (iI (scoK v 1 (1 + k)))), (17, .int (iI (nowK v k w))), (14, .int (iI (bZ (onB v k && floB v k)))), (13, .int (iI (v (72 + 5 * k)))), (12, .int (iI (v (73 + 5 * k)))), (11, .int (iI (atZ v k))), (10, .int (iI (v (74 + 5 * k)))), (9, .int (iI (k))), (8, .int (iI (mmvK v k))), (6, .int (iI (scoK v 0 (1 + k)))), (5, .int (iI (agrK v (1 + k)))), (4, .int (iI (cntK v 2 (1 + k)))), (3, .int (iI (cntK v 1 (1 + k)))), (2, .int (iI (cntK v 0 (1 + k)))), (1, .int (iI (tideZ v (v 126)))), (0, .ref (tb))]) rfl (fun ls hl => ?_)
                                            exact J576 ls (lv_sub hl [1, 2, 3, 4, 5, 6, 7, 8, 0, 9, 10, 11, 12, 13, 14, 15] rfl)
                                          · skip
                                            refine z_il C hl dL_isBoard_561 2 rfl 563 rfl ?_
                                            refine z_iconst C dL_isBoard_563 564 rfl ?_
                                            refine z_icmp_ne C dL_isBoard_564 572 567 (by decide) rfl (by omega) (fun c564 => ?_) (fun c564 => ?_)
                                            · skip
                                              refine z_iconst C dL_isBoard_572 573 rfl ?_
                                              refine z_iadd C dL_isBoard_573 574 rfl (scoK v 1 k) (by omega) ?_
                                              refine z_top (b := .int (iI (scoK v 1 (1 + k)))) (congrArg (fun z => Value.int (iI z)) (sco_n (by omega) (fun z => by omega))) ?_
                                              refine z_is C hl dL_isBoard_574 576 rfl (by decide) (lv' := [(7, .int (iI (scoK v 1 (1 + k)))), (17, .int (iI (nowK v k w))), (14, .int (iI (bZ (onB v k && floB v k)))), (13, .int (iI (v (72 + 5 * k)))), (12, .int (iI (v (73 + 5 * k)))), (11, .int (iI (atZ v k))), (10, .int (iI (v (74 + 5 * k)))), (9, .int (iI (k))), (8, .int (iI (mmvK v k))), (6, .int (iI (scoK v 0 (1 + k)))), (5, .int (iI (agrK v (1 + k)))), (4, .int (iI (cntK v 2 (1 + k)))), (3, .int (iI (cntK v 1 (1 + k)))), (2, .int (iI (cntK v 0 (1 + k)))), (1, .int (iI (tideZ v (v 126)))), (0, .ref (tb))]) rfl (fun ls hl => ?_)
                                              exact J576 ls (lv_sub hl [1, 2, 3, 4, 5, 6, 7, 8, 0, 9, 10, 11, 12, 13, 14, 15] rfl)
                                            · skip
                                              refine z_il C hl dL_isBoard_567 3 rfl 569 rfl ?_
                                              refine z_goto C dL_isBoard_569 573 (by decide) ?_
                                              refine z_iadd C dL_isBoard_573 574 rfl (scoK v 1 k + v (73 + 5 * k)) (by omega) ?_
                                              refine z_top (b := .int (iI (scoK v 1 (1 + k)))) (congrArg (fun z => Value.int (iI z)) (sco_y (by omega) c558 c564)) ?_
                                              refine z_is C hl dL_isBoard_574 576 rfl (by decide) (lv' := [(7, .int (iI (scoK v 1 (1 + k)))), (17, .int (iI (nowK v k w))), (14, .int (iI (bZ (onB v k && floB v k)))), (13, .int (iI (v (72 + 5 * k)))), (12, .int (iI (v (73 + 5 * k)))), (11, .int (iI (atZ v k))), (10, .int (iI (v (74 + 5 * k)))), (9, .int (iI (k))), (8, .int (iI (mmvK v k))), (6, .int (iI (scoK v 0 (1 + k)))), (5, .int (iI (agrK v (1 + k)))), (4, .int (iI (cntK v 2 (1 + k)))), (3, .int (iI (cntK v 1 (1 + k)))), (2, .int (iI (cntK v 0 (1 + k)))), (1, .int (iI (tideZ v (v 126)))), (0, .ref (tb))]) rfl (fun ls hl => ?_)
                                              exact J576 ls (lv_sub hl [1, 2, 3, 4, 5, 6, 7, 8, 0, 9, 10, 11, 12, 13, 14, 15] rfl)
                                        refine z_il C hl dL_isBoard_531 9 rfl 533 rfl ?_
                                        refine z_il C hl dL_isBoard_533 5 rfl 535 rfl ?_
                                        refine z_iconst C dL_isBoard_535 536 rfl ?_
                                        refine z_icmp_ne C dL_isBoard_536 549 539 (by decide) rfl (by omega) (fun c536 => ?_) (fun c536 => ?_)
                                        · skip
                                          refine z_iconst C dL_isBoard_549 550 rfl ?_
                                          refine z_iadd C dL_isBoard_550 551 rfl (scoK v 0 k) (by omega) ?_
                                          refine z_top (b := .int (iI (scoK v 0 (1 + k)))) (congrArg (fun z => Value.int (iI z)) (sco_n (by omega) (fun z => by omega))) ?_
                                          refine z_is C hl dL_isBoard_551 553 rfl (by decide) (lv' := [(6, .int (iI (scoK v 0 (1 + k)))), (17, .int (iI (nowK v k w))), (14, .int (iI (bZ (onB v k && floB v k)))), (13, .int (iI (v (72 + 5 * k)))), (12, .int (iI (v (73 + 5 * k)))), (11, .int (iI (atZ v k))), (10, .int (iI (v (74 + 5 * k)))), (9, .int (iI (k))), (8, .int (iI (mmvK v k))), (7, .int (iI (scoK v 1 k))), (5, .int (iI (agrK v (1 + k)))), (4, .int (iI (cntK v 2 (1 + k)))), (3, .int (iI (cntK v 1 (1 + k)))), (2, .int (iI (cntK v 0 (1 + k)))), (1, .int (iI (tideZ v (v 126)))), (0, .ref (tb))]) rfl (fun ls hl => ?_)
                                          have J576 : ∀ (ls : Array Slot) (hl : lv_has ls 21 [(17, .int (iI (nowK v k w))), (14, .int (iI (bZ (onB v k && floB v k)))), (13, .int (iI (v (72 + 5 * k)))), (12, .int (iI (v (73 + 5 * k)))), (11, .int (iI (atZ v k))), (10, .int (iI (v (74 + 5 * k)))), (9, .int (iI (k))), (8, .int (iI (mmvK v k))), (7, .int (iI (scoK v 1 (1 + k)))), (6, .int (iI (scoK v 0 (1 + k)))), (5, .int (iI (agrK v (1 + k)))), (4, .int (iI (cntK v 2 (1 + k)))), (3, .int (iI (cntK v 1 (1 + k)))), (2, .int (iI (cntK v 0 (1 + k)))), (1, .int (iI (tideZ v (v 126)))), (0, .ref (tb))]), W p l e (rmN 7) s m [.ref (tb)].toArray below meth c s.heap [] 0 0 (MQ below (QR (.int (iI (bZ (true))))) [.ref (tb)].toArray s 0 0 (fun _ => False)) (F0 m 576 ls []) := by
                                            intro ls hl
                                            refine z_il C hl dL_isBoard_576 7 rfl 578 rfl ?_
                                            refine z_il C hl dL_isBoard_578 2 rfl 580 rfl ?_
                                            refine z_al_n C hl dL_isBoard_580 15 rfl 581 rfl ?_
                                            refine z_iconst C dL_isBoard_581 582 rfl ?_
                                            refine z_VR (r := .int (iI (cntR v n 0 1))) (rest := [.int (iI (v (72 + 5 * k))), .int (iI (mmvK v k))]) C (m_count l G tb r x cu h pa o sg qn qb sn S g n false v 0 1 w0 (by omega)) kV_L_8 ⟨Nat.le_of_ble_eq_true rfl, Nat.le_of_ble_eq_true rfl⟩ hP hK 0 rfl rfl rfl hl.1 rfl (Nat.le_of_ble_eq_true rfl) dL_isBoard_582 ⟨Nat.le_of_ble_eq_true rfl, Nat.le_of_ble_eq_true rfl⟩ 585 rfl ?_
                                            refine z_top (b := .int (iI ((v 126 % 2)))) (congrArg (fun z => Value.int (iI z)) (rfl)) ?_
                                            refine z_icmp_ne C dL_isBoard_585 593 588 (by decide) rfl (by omega) (fun c585 => ?_) (fun c585 => ?_)
                                            · skip
                                              refine z_iconst C dL_isBoard_593 594 rfl ?_
                                              refine z_iadd C dL_isBoard_594 595 rfl (mmvK v k) (by omega) ?_
                                              refine z_top (b := .int (iI (mmvK v (1 + k)))) (congrArg (fun z => Value.int (iI z)) (mmv_n (by omega) c585)) ?_
                                              refine z_is C hl dL_isBoard_595 597 rfl (by decide) (lv' := [(8, .int (iI (mmvK v (1 + k)))), (17, .int (iI (nowK v k w))), (14, .int (iI (bZ (onB v k && floB v k)))), (13, .int (iI (v (72 + 5 * k)))), (12, .int (iI (v (73 + 5 * k)))), (11, .int (iI (atZ v k))), (10, .int (iI (v (74 + 5 * k)))), (9, .int (iI (k))), (7, .int (iI (scoK v 1 (1 + k)))), (6, .int (iI (scoK v 0 (1 + k)))), (5, .int (iI (agrK v (1 + k)))), (4, .int (iI (cntK v 2 (1 + k)))), (3, .int (iI (cntK v 1 (1 + k)))), (2, .int (iI (cntK v 0 (1 + k)))), (1, .int (iI (tideZ v (v 126)))), (0, .ref (tb))]) rfl (fun ls hl => ?_)
                                              refine z_iinc C hl dL_isBoard_597 600 rfl 7 rfl (z := 1 + k) (by omega) (by decide) (lv' := [(9, .int (iI (1 + k))), (8, .int (iI (mmvK v (1 + k)))), (17, .int (iI (nowK v k w))), (14, .int (iI (bZ (onB v k && floB v k)))), (13, .int (iI (v (72 + 5 * k)))), (12, .int (iI (v (73 + 5 * k)))), (11, .int (iI (atZ v k))), (10, .int (iI (v (74 + 5 * k)))), (7, .int (iI (scoK v 1 (1 + k)))), (6, .int (iI (scoK v 0 (1 + k)))), (5, .int (iI (agrK v (1 + k)))), (4, .int (iI (cntK v 2 (1 + k)))), (3, .int (iI (cntK v 1 (1 + k)))), (2, .int (iI (cntK v 0 (1 + k)))), (1, .int (iI (tideZ v (v 126)))), (0, .ref (tb))]) rfl (fun ls hl => ?_)
                                              refine z_goto C dL_isBoard_600 28 (by decide) ?_
                                              exact ih28 (1 + k) (by omega) (by omega) ls (lv_sub hl [0, 1, 8, 9, 10, 11, 12, 13, 14, 15] rfl)
                                            · skip
                                              refine z_il C hl dL_isBoard_588 0 rfl 590 rfl ?_
                                              refine z_goto C dL_isBoard_590 594 (by decide) ?_
                                              refine z_iadd C dL_isBoard_594 595 rfl (mmvK v k + nowK v k w) (by omega) ?_
                                              refine z_top (b := .int (iI (mmvK v (1 + k)))) (congrArg (fun z => Value.int (iI z)) (show mmvK v k + nowK v k w = mmvK v (1 + k) by rw [show w = 12 by omega]; exact mmv_y (by omega) c585)) ?_
                                              refine z_is C hl dL_isBoard_595 597 rfl (by decide) (lv' := [(8, .int (iI (mmvK v (1 + k)))), (17, .int (iI (nowK v k w))), (14, .int (iI (bZ (onB v k && floB v k)))), (13, .int (iI (v (72 + 5 * k)))), (12, .int (iI (v (73 + 5 * k)))), (11, .int (iI (atZ v k))), (10, .int (iI (v (74 + 5 * k)))), (9, .int (iI (k))), (7, .int (iI (scoK v 1 (1 + k)))), (6, .int (iI (scoK v 0 (1 + k)))), (5, .int (iI (agrK v (1 + k)))), (4, .int (iI (cntK v 2 (1 + k)))), (3, .int (iI (cntK v 1 (1 + k)))), (2, .int (iI (cntK v 0 (1 + k)))), (1, .int (iI (tideZ v (v 126)))), (0, .ref (tb))]) rfl (fun ls hl => ?_)
                                              refine z_iinc C hl dL_isBoard_597 600 rfl 7 rfl (z := 1 + k) (by omega) (by decide) (lv' := [(9, .int (iI (1 + k))), (8, .int (iI (mmvK v (1 + k)))), (17, .int (iI (nowK v k w))), (14, .int (iI (bZ (onB v k && floB v k)))), (13, .int (iI (v (72 + 5 * k)))), (12, .int (iI (v (73 + 5 * k)))), (11, .int (iI (atZ v k))), (10, .int (iI (v (74 + 5 * k)))), (7, .int (iI (scoK v 1 (1 + k)))), (6, .int (iI (scoK v 0 (1 + k)))), (5, .int (iI (agrK v (1 + k)))), (4, .int (iI (cntK v 2 (1 + k)))), (3, .int (iI (cntK v 1 (1 + k)))), (2, .int (iI (cntK v 0 (1 + k)))), (1, .int (iI (tideZ v (v 126)))), (0, .ref (tb))]) rfl (fun ls hl => ?_)
                                              refine z_goto C dL_isBoard_600 28 (by decide) ?_
                                              exact ih28 (1 + k) (by omega) (by omega) ls (lv_sub hl [0, 1, 8, 9, 10, 11, 12, 13, 14, 15] rfl)
                                          exact J553 ls (lv_sub hl [1, 2, 3, 4, 5, 6, 7, 8, 9, 0, 10, 11, 12, 13, 14, 15] rfl)
                                        · skip
                                          refine z_il C hl dL_isBoard_539 2 rfl 541 rfl ?_
                                          refine z_if_ne C dL_isBoard_541 549 544 (by decide) rfl (by omega) (fun c541 => ?_) (fun c541 => ?_)
                                          · skip
                                            refine z_iconst C dL_isBoard_549 550 rfl ?_
                                            refine z_iadd C dL_isBoard_550 551 rfl (scoK v 0 k) (by omega) ?_
                                            refine z_top (b := .int (iI (scoK v 0 (1 + k)))) (congrArg (fun z => Value.int (iI z)) (sco_n (by omega) (fun z => by omega))) ?_
                                            refine z_is C hl dL_isBoard_551 553 rfl (by decide) (lv' := [(6, .int (iI (scoK v 0 (1 + k)))), (17, .int (iI (nowK v k w))), (14, .int (iI (bZ (onB v k && floB v k)))), (13, .int (iI (v (72 + 5 * k)))), (12, .int (iI (v (73 + 5 * k)))), (11, .int (iI (atZ v k))), (10, .int (iI (v (74 + 5 * k)))), (9, .int (iI (k))), (8, .int (iI (mmvK v k))), (7, .int (iI (scoK v 1 k))), (5, .int (iI (agrK v (1 + k)))), (4, .int (iI (cntK v 2 (1 + k)))), (3, .int (iI (cntK v 1 (1 + k)))), (2, .int (iI (cntK v 0 (1 + k)))), (1, .int (iI (tideZ v (v 126)))), (0, .ref (tb))]) rfl (fun ls hl => ?_)
                                            have J576 : ∀ (ls : Array Slot) (hl : lv_has ls 21 [(17, .int (iI (nowK v k w))), (14, .int (iI (bZ (onB v k && floB v k)))), (13, .int (iI (v (72 + 5 * k)))), (12, .int (iI (v (73 + 5 * k)))), (11, .int (iI (atZ v k))), (10, .int (iI (v (74 + 5 * k)))), (9, .int (iI (k))), (8, .int (iI (mmvK v k))), (7, .int (iI (scoK v 1 (1 + k)))), (6, .int (iI (scoK v 0 (1 + k)))), (5, .int (iI (agrK v (1 + k)))), (4, .int (iI (cntK v 2 (1 + k)))), (3, .int (iI (cntK v 1 (1 + k)))), (2, .int (iI (cntK v 0 (1 + k)))), (1, .int (iI (tideZ v (v 126)))), (0, .ref (tb))]), W p l e (rmN 7) s m [.ref (tb)].toArray below meth c s.heap [] 0 0 (MQ below (QR (.int (iI (bZ (true))))) [.ref (tb)].toArray s 0 0 (fun _ => False)) (F0 m 576 ls []) := by
                                              intro ls hl
                                              refine z_il C hl dL_isBoard_576 7 rfl 578 rfl ?_
                                              refine z_il C hl dL_isBoard_578 2 rfl 580 rfl ?_
                                              refine z_al_n C hl dL_isBoard_580 15 rfl 581 rfl ?_
                                              refine z_iconst C dL_isBoard_581 582 rfl ?_
                                              refine z_VR (r := .int (iI (cntR v n 0 1))) (rest := [.int (iI (v (72 + 5 * k))), .int (iI (mmvK v k))]) C (m_count l G tb r x cu h pa o sg qn qb sn S g n false v 0 1 w0 (by omega)) kV_L_8 ⟨Nat.le_of_ble_eq_true rfl, Nat.le_of_ble_eq_true rfl⟩ hP hK 0 rfl rfl rfl hl.1 rfl (Nat.le_of_ble_eq_true rfl) dL_isBoard_582 ⟨Nat.le_of_ble_eq_true rfl, Nat.le_of_ble_eq_true rfl⟩ 585 rfl ?_
                                              refine z_top (b := .int (iI ((v 126 % 2)))) (congrArg (fun z => Value.int (iI z)) (rfl)) ?_
                                              refine z_icmp_ne C dL_isBoard_585 593 588 (by decide) rfl (by omega) (fun c585 => ?_) (fun c585 => ?_)
                                              · skip
                                                refine z_iconst C dL_isBoard_593 594 rfl ?_
                                                refine z_iadd C dL_isBoard_594 595 rfl (mmvK v k) (by omega) ?_
                                                refine z_top (b := .int (iI (mmvK v (1 + k)))) (congrArg (fun z => Value.int (iI z)) (mmv_n (by omega) c585)) ?_
                                                refine z_is C hl dL_isBoard_595 597 rfl (by decide) (lv' := [(8, .int (iI (mmvK v (1 + k)))), (17, .int (iI (nowK v k w))), (14, .int (iI (bZ (onB v k && floB v k)))), (13, .int (iI (v (72 + 5 * k)))), (12, .int (iI (v (73 + 5 * k)))), (11, .int (iI (atZ v k))), (10, .int (iI (v (74 + 5 * k)))), (9, .int (iI (k))), (7, .int (iI (scoK v 1 (1 + k)))), (6, .int (iI (scoK v 0 (1 + k)))), (5, .int (iI (agrK v (1 + k)))), (4, .int (iI (cntK v 2 (1 + k)))), (3, .int (iI (cntK v 1 (1 + k)))), (2, .int (iI (cntK v 0 (1 + k)))), (1, .int (iI (tideZ v (v 126)))), (0, .ref (tb))]) rfl (fun ls hl => ?_)
                                                refine z_iinc C hl dL_isBoard_597 600 rfl 7 rfl (z := 1 + k) (by omega) (by decide) (lv' := [(9, .int (iI (1 + k))), (8, .int (iI (mmvK v (1 + k)))), (17, .int (iI (nowK v k w))), (14, .int (iI (bZ (onB v k && floB v k)))), (13, .int (iI (v (72 + 5 * k)))), (12, .int (iI (v (73 + 5 * k)))), (11, .int (iI (atZ v k))), (10, .int (iI (v (74 + 5 * k)))), (7, .int (iI (scoK v 1 (1 + k)))), (6, .int (iI (scoK v 0 (1 + k)))), (5, .int (iI (agrK v (1 + k)))), (4, .int (iI (cntK v 2 (1 + k)))), (3, .int (iI (cntK v 1 (1 + k)))), (2, .int (iI (cntK v 0 (1 + k)))), (1, .int (iI (tideZ v (v 126)))), (0, .ref (tb))]) rfl (fun ls hl => ?_)
                                                refine z_goto C dL_isBoard_600 28 (by decide) ?_
                                                exact ih28 (1 + k) (by omega) (by omega) ls (lv_sub hl [0, 1, 8, 9, 10, 11, 12, 13, 14, 15] rfl)
                                              · skip
                                                refine z_il C hl dL_isBoard_588 0 rfl 590 rfl ?_
                                                refine z_goto C dL_isBoard_590 594 (by decide) ?_
                                                refine z_iadd C dL_isBoard_594 595 rfl (mmvK v k + nowK v k w) (by omega) ?_
                                                refine z_top (b := .int (iI (mmvK v (1 + k)))) (congrArg (fun z => Value.int (iI z)) (show mmvK v k + nowK v k w = mmvK v (1 + k) by rw [show w = 12 by omega]; exact mmv_y (by omega) c585)) ?_
                                                refine z_is C hl dL_isBoard_595 597 rfl (by decide) (lv' := [(8, .int (iI (mmvK v (1 + k)))), (17, .int (iI (nowK v k w))), (14, .int (iI (bZ (onB v k && floB v k)))), (13, .int (iI (v (72 + 5 * k)))), (12, .int (iI (v (73 + 5 * k)))), (11, .int (iI (atZ v k))), (10, .int (iI (v (74 + 5 * k)))), (9, .int (iI (k))), (7, .int (iI (scoK v 1 (1 + k)))), (6, .int (iI (scoK v 0 (1 + k)))), (5, .int (iI (agrK v (1 + k)))), (4, .int (iI (cntK v 2 (1 + k)))), (3, .int (iI (cntK v 1 (1 + k)))), (2, .int (iI (cntK v 0 (1 + k)))), (1, .int (iI (tideZ v (v 126)))), (0, .ref (tb))]) rfl (fun ls hl => ?_)
                                                refine z_iinc C hl dL_isBoard_597 600 rfl 7 rfl (z := 1 + k) (by omega) (by decide) (lv' := [(9, .int (iI (1 + k))), (8, .int (iI (mmvK v (1 + k)))), (17, .int (iI (nowK v k w))), (14, .int (iI (bZ (onB v k && floB v k)))), (13, .int (iI (v (72 + 5 * k)))), (12, .int (iI (v (73 + 5 * k)))), (11, .int (iI (atZ v k))), (10, .int (iI (v (74 + 5 * k)))), (7, .int (iI (scoK v 1 (1 + k)))), (6, .int (iI (scoK v 0 (1 + k)))), (5, .int (iI (agrK v (1 + k)))), (4, .int (iI (cntK v 2 (1 + k)))), (3, .int (iI (cntK v 1 (1 + k)))), (2, .int (iI (cntK v 0 (1 + k)))), (1, .int (iI (tideZ v (v 126)))), (0, .ref (tb))]) rfl (fun ls hl => ?_)
                                                refine z_goto C dL_isBoard_600 28 (by decide) ?_
                                                exact ih28 (1 + k) (by omega) (by omega) ls (lv_sub hl [0, 1, 8, 9, 10, 11, 12, 13, 14, 15] rfl)
                                            exact J553 ls (lv_sub hl [1, 2, 3, 4, 5, 6, 7, 8, 9, 0, 10, 11, 12, 13, 14, 15] rfl)
                                          · skip
                                            refine z_il C hl dL_isBoard_544 3 rfl 546 rfl ?_
                                            refine z_goto C dL_isBoard_546 550 (by decide) ?_
                                            refine z_iadd C dL_isBoard_550 551 rfl (scoK v 0 k + v (73 + 5 * k)) (by omega) ?_
                                            refine z_top (b := .int (iI (scoK v 0 (1 + k)))) (congrArg (fun z => Value.int (iI z)) (sco_y (by omega) c536 c541)) ?_
                                            refine z_is C hl dL_isBoard_551 553 rfl (by decide) (lv' := [(6, .int (iI (scoK v 0 (1 + k)))), (17, .int (iI (nowK v k w))), (14, .int (iI (bZ (onB v k && floB v k)))), (13, .int (iI (v (72 + 5 * k)))), (12, .int (iI (v (73 + 5 * k)))), (11, .int (iI (atZ v k))), (10, .int (iI (v (74 + 5 * k)))), (9, .int (iI (k))), (8, .int (iI (mmvK v k))), (7, .int (iI (scoK v 1 k))), (5, .int (iI (agrK v (1 + k)))), (4, .int (iI (cntK v 2 (1 + k)))), (3, .int (iI (cntK v 1 (1 + k)))), (2, .int (iI (cntK v 0 (1 + k)))), (1, .int (iI (tideZ v (v 126)))), (0, .ref (tb))]) rfl (fun ls hl => ?_)
                                            have J576 : ∀ (ls : Array Slot) (hl : lv_has ls 21 [(17, .int (iI (nowK v k w))), (14, .int (iI (bZ (onB v k && floB v k)))), (13, .int (iI (v (72 + 5 * k)))), (12, .int (iI (v (73 + 5 * k)))), (11, .int (iI (atZ v k))), (10, .int (iI (v (74 + 5 * k)))), (9, .int (iI (k))), (8, .int (iI (mmvK v k))), (7, .int (iI (scoK v 1 (1 + k)))), (6, .int (iI (scoK v 0 (1 + k)))), (5, .int (iI (agrK v (1 + k)))), (4, .int (iI (cntK v 2 (1 + k)))), (3, .int (iI (cntK v 1 (1 + k)))), (2, .int (iI (cntK v 0 (1 + k)))), (1, .int (iI (tideZ v (v 126)))), (0, .ref (tb))]), W p l e (rmN 7) s m [.ref (tb)].toArray below meth c s.heap [] 0 0 (MQ below (QR (.int (iI (bZ (true))))) [.ref (tb)].toArray s 0 0 (fun _ => False)) (F0 m 576 ls []) := by
                                              intro ls hl
                                              refine z_il C hl dL_isBoard_576 7 rfl 578 rfl ?_
                                              refine z_il C hl dL_isBoard_578 2 rfl 580 rfl ?_
                                              refine z_al_n C hl dL_isBoard_580 15 rfl 581 rfl ?_
                                              refine z_iconst C dL_isBoard_581 582 rfl ?_
                                              refine z_VR (r := .int (iI (cntR v n 0 1))) (rest := [.int (iI (v (72 + 5 * k))), .int (iI (mmvK v k))]) C (m_count l G tb r x cu h pa o sg qn qb sn S g n false v 0 1 w0 (by omega)) kV_L_8 ⟨Nat.le_of_ble_eq_true rfl, Nat.le_of_ble_eq_true rfl⟩ hP hK 0 rfl rfl rfl hl.1 rfl (Nat.le_of_ble_eq_true rfl) dL_isBoard_582 ⟨Nat.le_of_ble_eq_true rfl, Nat.le_of_ble_eq_true rfl⟩ 585 rfl ?_
                                              refine z_top (b := .int (iI ((v 126 % 2)))) (congrArg (fun z => Value.int (iI z)) (rfl)) ?_
                                              refine z_icmp_ne C dL_isBoard_585 593 588 (by decide) rfl (by omega) (fun c585 => ?_) (fun c585 => ?_)
                                              · skip
                                                refine z_iconst C dL_isBoard_593 594 rfl ?_
                                                refine z_iadd C dL_isBoard_594 595 rfl (mmvK v k) (by omega) ?_
                                                refine z_top (b := .int (iI (mmvK v (1 + k)))) (congrArg (fun z => Value.int (iI z)) (mmv_n (by omega) c585)) ?_
                                                refine z_is C hl dL_isBoard_595 597 rfl (by decide) (lv' := [(8, .int (iI (mmvK v (1 + k)))), (17, .int (iI (nowK v k w))), (14, .int (iI (bZ (onB v k && floB v k)))), (13, .int (iI (v (72 + 5 * k)))), (12, .int (iI (v (73 + 5 * k)))), (11, .int (iI (atZ v k))), (10, .int (iI (v (74 + 5 * k)))), (9, .int (iI (k))), (7, .int (iI (scoK v 1 (1 + k)))), (6, .int (iI (scoK v 0 (1 + k)))), (5, .int (iI (agrK v (1 + k)))), (4, .int (iI (cntK v 2 (1 + k)))), (3, .int (iI (cntK v 1 (1 + k)))), (2, .int (iI (cntK v 0 (1 + k)))), (1, .int (iI (tideZ v (v 126)))), (0, .ref (tb))]) rfl (fun ls hl => ?_)
                                                refine z_iinc C hl dL_isBoard_597 600 rfl 7 rfl (z := 1 + k) (by omega) (by decide) (lv' := [(9, .int (iI (1 + k))), (8, .int (iI (mmvK v (1 + k)))), (17, .int (iI (nowK v k w))), (14, .int (iI (bZ (onB v k && floB v k)))), (13, .int (iI (v (72 + 5 * k)))), (12, .int (iI (v (73 + 5 * k)))), (11, .int (iI (atZ v k))), (10, .int (iI (v (74 + 5 * k)))), (7, .int (iI (scoK v 1 (1 + k)))), (6, .int (iI (scoK v 0 (1 + k)))), (5, .int (iI (agrK v (1 + k)))), (4, .int (iI (cntK v 2 (1 + k)))), (3, .int (iI (cntK v 1 (1 + k)))), (2, .int (iI (cntK v 0 (1 + k)))), (1, .int (iI (tideZ v (v 126)))), (0, .ref (tb))]) rfl (fun ls hl => ?_)
                                                refine z_goto C dL_isBoard_600 28 (by decide) ?_
                                                exact ih28 (1 + k) (by omega) (by omega) ls (lv_sub hl [0, 1, 8, 9, 10, 11, 12, 13, 14, 15] rfl)
                                              · skip
                                                refine z_il C hl dL_isBoard_588 0 rfl 590 rfl ?_
                                                refine z_goto C dL_isBoard_590 594 (by decide) ?_
                                                refine z_iadd C dL_isBoard_594 595 rfl (mmvK v k + nowK v k w) (by omega) ?_
                                                refine z_top (b := .int (iI (mmvK v (1 + k)))) (congrArg (fun z => Value.int (iI z)) (show mmvK v k + nowK v k w = mmvK v (1 + k) by rw [show w = 12 by omega]; exact mmv_y (by omega) c585)) ?_
                                                refine z_is C hl dL_isBoard_595 597 rfl (by decide) (lv' := [(8, .int (iI (mmvK v (1 + k)))), (17, .int (iI (nowK v k w))), (14, .int (iI (bZ (onB v k && floB v k)))), (13, .int (iI (v (72 + 5 * k)))), (12, .int (iI (v (73 + 5 * k)))), (11, .int (iI (atZ v k))), (10, .int (iI (v (74 + 5 * k)))), (9, .int (iI (k))), (7, .int (iI (scoK v 1 (1 + k)))), (6, .int (iI (scoK v 0 (1 + k)))), (5, .int (iI (agrK v (1 + k)))), (4, .int (iI (cntK v 2 (1 + k)))), (3, .int (iI (cntK v 1 (1 + k)))), (2, .int (iI (cntK v 0 (1 + k)))), (1, .int (iI (tideZ v (v 126)))), (0, .ref (tb))]) rfl (fun ls hl => ?_)
                                                refine z_iinc C hl dL_isBoard_597 600 rfl 7 rfl (z := 1 + k) (by omega) (by decide) (lv' := [(9, .int (iI (1 + k))), (8, .int (iI (mmvK v (1 + k)))), (17, .int (iI (nowK v k w))), (14, .int (iI (bZ (onB v k && floB v k)))), (13, .int (iI (v (72 + 5 * k)))), (12, .int (iI (v (73 + 5 * k)))), (11, .int (iI (atZ v k))), (10, .int (iI (v (74 + 5 * k)))), (7, .int (iI (scoK v 1 (1 + k)))), (6, .int (iI (scoK v 0 (1 + k)))), (5, .int (iI (agrK v (1 + k)))), (4, .int (iI (cntK v 2 (1 + k)))), (3, .int (iI (cntK v 1 (1 + k)))), (2, .int (iI (cntK v 0 (1 + k)))), (1, .int (iI (tideZ v (v 126)))), (0, .ref (tb))]) rfl (fun ls hl => ?_)
                                                refine z_goto C dL_isBoard_600 28 (by decide) ?_
                                                exact ih28 (1 + k) (by omega) (by omega) ls (lv_sub hl [0, 1, 8, 9, 10, 11, 12, 13, 14, 15] rfl)
                                            exact J553 ls (lv_sub hl [1, 2, 3, 4, 5, 6, 7, 8, 9, 0, 10, 11, 12, 13, 14, 15] rfl)
                                      refine z_il C hl dL_isBoard_511 13 rfl 513 rfl ?_
                                      refine z_il C hl dL_isBoard_513 8 rfl 515 rfl ?_
                                      refine z_if_ne C dL_isBoard_515 527 518 (by decide) rfl (by omega) (fun c515 => ?_) (fun c515 => ?_)
                                      · skip
                                        refine z_iconst C dL_isBoard_527 528 rfl ?_
                                        refine z_iadd C dL_isBoard_528 529 rfl (agrK v k) (by omega) ?_
                                        refine z_top (b := .int (iI (agrK v (1 + k)))) (congrArg (fun z => Value.int (iI z)) (agr_n1 (by omega) c515)) ?_
                                        refine z_is C hl dL_isBoard_529 531 rfl (by decide) (lv' := [(5, .int (iI (agrK v (1 + k)))), (4, .int (iI (cntK v 2 (1 + k)))), (3, .int (iI (cntK v 1 (1 + k)))), (2, .int (iI (cntK v 0 (1 + k)))), (17, .int (iI (nowK v k w))), (14, .int (iI (bZ (onB v k && floB v k)))), (13, .int (iI (v (72 + 5 * k)))), (12, .int (iI (v (73 + 5 * k)))), (11, .int (iI (atZ v k))), (10, .int (iI (v (74 + 5 * k)))), (9, .int (iI (k))), (8, .int (iI (mmvK v k))), (7, .int (iI (scoK v 1 k))), (6, .int (iI (scoK v 0 k))), (1, .int (iI (tideZ v (v 126)))), (0, .ref (tb))]) rfl (fun ls hl => ?_)
                                        have J553 : ∀ (ls : Array Slot) (hl : lv_has ls 21 [(17, .int (iI (nowK v k w))), (14, .int (iI (bZ (onB v k && floB v k)))), (13, .int (iI (v (72 + 5 * k)))), (12, .int (iI (v (73 + 5 * k)))), (11, .int (iI (atZ v k))), (10, .int (iI (v (74 + 5 * k)))), (9, .int (iI (k))), (8, .int (iI (mmvK v k))), (7, .int (iI (scoK v 1 k))), (6, .int (iI (scoK v 0 (1 + k)))), (5, .int (iI (agrK v (1 + k)))), (4, .int (iI (cntK v 2 (1 + k)))), (3, .int (iI (cntK v 1 (1 + k)))), (2, .int (iI (cntK v 0 (1 + k)))), (1, .int (iI (tideZ v (v 126)))), (0, .ref (tb))]), W p l e (rmN 7) s m [.ref (tb)].toArray below meth c s.heap [] 0 0 (MQ below (QR (.int (iI (bZ (true))))) [.ref (tb)].toArray s 0 0 (fun _ => False)) (F0 m 553 ls []) := by
                                          intro ls hl
                                          have J576 : ∀ (ls : Array Slot) (hl : lv_has ls 21 [(17, .int (iI (nowK v k w))), (14, .int (iI (bZ (onB v k && floB v k)))), (13, .int (iI (v (72 + 5 * k)))), (12, .int (iI (v (73 + 5 * k)))), (11, .int (iI (atZ v k))), (10, .int (iI (v (74 + 5 * k)))), (9, .int (iI (k))), (8, .int (iI (mmvK v k))), (7, .int (iI (scoK v 1 (1 + k)))), (6, .int (iI (scoK v 0 (1 + k)))), (5, .int (iI (agrK v (1 + k)))), (4, .int (iI (cntK v 2 (1 + k)))), (3, .int (iI (cntK v 1 (1 + k)))), (2, .int (iI (cntK v 0 (1 + k)))), (1, .int (iI (tideZ v (v 126)))), (0, .ref (tb))]), W p l e (rmN 7) s m [.ref (tb)].toArray below meth c s.heap [] 0 0 (MQ below (QR (.int (iI (bZ (true))))) [.ref (tb)].toArray s 0 0 (fun _ => False)) (F0 m 576 ls []) := by
                                            intro ls hl
                                            refine z_il C hl dL_isBoard_576 7 rfl 578 rfl ?_
                                            refine z_il C hl dL_isBoard_578 2 rfl 580 rfl ?_
                                            refine z_al_n C hl dL_isBoard_580 15 rfl 581 rfl ?_
                                            refine z_iconst C dL_isBoard_581 582 rfl ?_
                                            refine z_VR (r := .int (iI (cntR v n 0 1))) (rest := [.int (iI (v (72 + 5 * k))), .int (iI (mmvK v k))]) C (m_count l G tb r x cu h pa o sg qn qb sn S g n false v 0 1 w0 (by omega)) kV_L_8 ⟨Nat.le_of_ble_eq_true rfl, Nat.le_of_ble_eq_true rfl⟩ hP hK 0 rfl rfl rfl hl.1 rfl (Nat.le_of_ble_eq_true rfl) dL_isBoard_582 ⟨Nat.le_of_ble_eq_true rfl, Nat.le_of_ble_eq_true rfl⟩ 585 rfl ?_
                                            refine z_top (b := .int (iI ((v 126 % 2)))) (congrArg (fun z => Value.int (iI z)) (rfl)) ?_
                                            refine z_icmp_ne C dL_isBoard_585 593 588 (by decide) rfl (by omega) (fun c585 => ?_) (fun c585 => ?_)
                                            · skip
                                              refine z_iconst C dL_isBoard_593 594 rfl ?_
                                              refine z_iadd C dL_isBoard_594 595 rfl (mmvK v k) (by omega) ?_
                                              refine z_top (b := .int (iI (mmvK v (1 + k)))) (congrArg (fun z => Value.int (iI z)) (mmv_n (by omega) c585)) ?_
                                              refine z_is C hl dL_isBoard_595 597 rfl (by decide) (lv' := [(8, .int (iI (mmvK v (1 + k)))), (17, .int (iI (nowK v k w))), (14, .int (iI (bZ (onB v k && floB v k)))), (13, .int (iI (v (72 + 5 * k)))), (12, .int (iI (v (73 + 5 * k)))), (11, .int (iI (atZ v k))), (10, .int (iI (v (74 + 5 * k)))), (9, .int (iI (k))), (7, .int (iI (scoK v 1 (1 + k)))), (6, .int (iI (scoK v 0 (1 + k)))), (5, .int (iI (agrK v (1 + k)))), (4, .int (iI (cntK v 2 (1 + k)))), (3, .int (iI (cntK v 1 (1 + k)))), (2, .int (iI (cntK v 0 (1 + k)))), (1, .int (iI (tideZ v (v 126)))), (0, .ref (tb))]) rfl (fun ls hl => ?_)
                                              refine z_iinc C hl dL_isBoard_597 600 rfl 7 rfl (z := 1 + k) (by omega) (by decide) (lv' := [(9, .int (iI (1 + k))), (8, .int (iI (mmvK v (1 + k)))), (17, .int (iI (nowK v k w))), (14, .int (iI (bZ (onB v k && floB v k)))), (13, .int (iI (v (72 + 5 * k)))), (12, .int (iI (v (73 + 5 * k)))), (11, .int (iI (atZ v k))), (10, .int (iI (v (74 + 5 * k)))), (7, .int (iI (scoK v 1 (1 + k)))), (6, .int (iI (scoK v 0 (1 + k)))), (5, .int (iI (agrK v (1 + k)))), (4, .int (iI (cntK v 2 (1 + k)))), (3, .int (iI (cntK v 1 (1 + k)))), (2, .int (iI (cntK v 0 (1 + k)))), (1, .int (iI (tideZ v (v 126)))), (0, .ref (tb))]) rfl (fun ls hl => ?_)
                                              refine z_goto C dL_isBoard_600 28 (by decide) ?_
                                              exact ih28 (1 + k) (by omega) (by omega) ls (lv_sub hl [0, 1, 8, 9, 10, 11, 12, 13, 14, 15] rfl)
                                            · skip
                                              refine z_il C hl dL_isBoard_588 0 rfl 590 rfl ?_
                                              refine z_goto C dL_isBoard_590 594 (by decide) ?_
                                              refine z_iadd C dL_isBoard_594 595 rfl (mmvK v k + nowK v k w) (by omega) ?_
                                              refine z_top (b := .int (iI (mmvK v (1 + k)))) (congrArg (fun z => Value.int (iI z)) (show mmvK v k + nowK v k w = mmvK v (1 + k) by rw [show w = 12 by omega]; exact mmv_y (by omega) c585)) ?_
                                              refine z_is C hl dL_isBoard_595 597 rfl (by decide) (lv' := [(8, .int (iI (mmvK v (1 + k)))), (17, .int (iI (nowK v k w))), (14, .int (iI (bZ (onB v k && floB v k)))), (13, .int (iI (v (72 + 5 * k)))), (12, .int (iI (v (73 + 5 * k)))), (11, .int (iI (atZ v k))), (10, .int (iI (v (74 + 5 * k)))), (9, .int (iI (k))), (7, .int (iI (scoK v 1 (1 + k)))), (6, .int (iI (scoK v 0 (1 + k)))), (5, .int (iI (agrK v (1 + k)))), (4, .int (iI (cntK v 2 (1 + k)))), (3, .int (iI (cntK v 1 (1 + k)))), (2, .int (iI (cntK v 0 (1 + k)))), (1, .int (iI (tideZ v (v 126)))), (0, .ref (tb))]) rfl (fun ls hl => ?_)
                                              refine z_iinc C hl dL_isBoard_597 600 rfl 7 rfl (z := 1 + k) (by omega) (by decide) (lv' := [(9, .int (iI (1 + k))), (8, .int (iI (mmvK v (1 + k)))), (17, .int (iI (nowK v k w))), (14, .int (iI (bZ (onB v k && floB v k)))), (13, .int (iI (v (72 + 5 * k)))), (12, .int (iI (v (73 + 5 * k)))), (11, .int (iI (atZ v k))), (10, .int (iI (v (74 + 5 * k)))), (7, .int (iI (scoK v 1 (1 + k)))), (6, .int (iI (scoK v 0 (1 + k)))), (5, .int (iI (agrK v (1 + k)))), (4, .int (iI (cntK v 2 (1 + k)))), (3, .int (iI (cntK v 1 (1 + k)))), (2, .int (iI (cntK v 0 (1 + k)))), (1, .int (iI (tideZ v (v 126)))), (0, .ref (tb))]) rfl (fun ls hl => ?_)
                                              refine z_goto C dL_isBoard_600 28 (by decide) ?_
                                              exact ih28 (1 + k) (by omega) (by omega) ls (lv_sub hl [0, 1, 8, 9, 10, 11, 12, 13, 14, 15] rfl)
                                          refine z_il C hl dL_isBoard_553 8 rfl 555 rfl ?_
                                          refine z_il C hl dL_isBoard_555 5 rfl 557 rfl ?_
                                          refine z_iconst C dL_isBoard_557 558 rfl ?_
                                          refine z_icmp_ne C dL_isBoard_558 572 561 (by decide) rfl (by omega) (fun c558 => ?_) (fun c558 => ?_)
                                          · skip
                                            refine z_iconst C dL_isBoard_572 573 rfl ?_
                                            refine z_iadd C dL_isBoard_573 574 rfl (scoK v 1 k) (by omega) ?_
                                            refine z_top (b := .int (iI (scoK v 1 (1 + k)))) (congrArg (fun z => Value.int (iI z)) (sco_n (by omega) (fun z => by omega))) ?_
                                            refine z_is C hl dL_isBoard_574 576 rfl (by decide) (lv' := [(7, .int (iI (scoK v 1 (1 + k)))), (17, .int (iI (nowK v k w))), (14, .int (iI (bZ (onB v k && floB v k)))), (13, .int (iI (v (72 + 5 * k)))), (12, .int (iI (v (73 + 5 * k)))), (11, .int (iI (atZ v k))), (10, .int (iI (v (74 + 5 * k)))), (9, .int (iI (k))), (8, .int (iI (mmvK v k))), (6, .int (iI (scoK v 0 (1 + k)))), (5, .int (iI (agrK v (1 + k)))), (4, .int (iI (cntK v 2 (1 + k)))), (3, .int (iI (cntK v 1 (1 + k)))), (2, .int (iI (cntK v 0 (1 + k)))), (1, .int (iI (tideZ v (v 126)))), (0, .ref (tb))]) rfl (fun ls hl => ?_)
                                            exact J576 ls (lv_sub hl [1, 2, 3, 4, 5, 6, 7, 8, 0, 9, 10, 11, 12, 13, 14, 15] rfl)
                                          · skip
                                            refine z_il C hl dL_isBoard_561 2 rfl 563 rfl ?_
                                            refine z_iconst C dL_isBoard_563 564 rfl ?_
                                            refine z_icmp_ne C dL_isBoard_564 572 567 (by decide) rfl (by omega) (fun c564 => ?_) (fun c564 => ?_)
                                            · skip
                                              refine z_iconst C dL_isBoard_572 573 rfl ?_
                                              refine z_iadd C dL_isBoard_573 574 rfl (scoK v 1 k) (by omega) ?_
                                              refine z_top (b := .int (iI (scoK v 1 (1 + k)))) (congrArg (fun z => Value.int (iI z)) (sco_n (by omega) (fun z => by omega))) ?_
                                              refine z_is C hl dL_isBoard_574 576 rfl (by decide) (lv' := [(7, .int (iI (scoK v 1 (1 + k)))), (17, .int (iI (nowK v k w))), (14, .int (iI (bZ (onB v k && floB v k)))), (13, .int (iI (v (72 + 5 * k)))), (12, .int (iI (v (73 + 5 * k)))), (11, .int (iI (atZ v k))), (10, .int (iI (v (74 + 5 * k)))), (9, .int (iI (k))), (8, .int (iI (mmvK v k))), (6, .int (iI (scoK v 0 (1 + k)))), (5, .int (iI (agrK v (1 + k)))), (4, .int (iI (cntK v 2 (1 + k)))), (3, .int (iI (cntK v 1 (1 + k)))), (2, .int (iI (cntK v 0 (1 + k)))), (1, .int (iI (tideZ v (v 126)))), (0, .ref (tb))]) rfl (fun ls hl => ?_)
                                              exact J576 ls (lv_sub hl [1, 2, 3, 4, 5, 6, 7, 8, 0, 9, 10, 11, 12, 13, 14, 15] rfl)
                                            · skip
                                              refine z_il C hl dL_isBoard_567 3 rfl 569 rfl ?_
                                              refine z_goto C dL_isBoard_569 573 (by decide) ?_
                                              refine z_iadd C dL_isBoard_573 574 rfl (scoK v 1 k + v (73 + 5 * k)) (by omega) ?_
                                              refine z_top (b := .int (iI (scoK v 1 (1 + k)))) (congrArg (fun z => Value.int (iI z)) (sco_y (by omega) c558 c564)) ?_
                                              refine z_is C hl dL_isBoard_574 576 rfl (by decide) (lv' := [(7, .int (iI (scoK v 1 (1 + k)))), (17, .int (iI (nowK v k w))), (14, .int (iI (bZ (onB v k && floB v k)))), (13, .int (iI (v (72 + 5 * k)))), (12, .int (iI (v (73 + 5 * k)))), (11, .int (iI (atZ v k))), (10, .int (iI (v (74 + 5 * k)))), (9, .int (iI (k))), (8, .int (iI (mmvK v k))), (6, .int (iI (scoK v 0 (1 + k)))), (5, .int (iI (agrK v (1 + k)))), (4, .int (iI (cntK v 2 (1 + k)))), (3, .int (iI (cntK v 1 (1 + k)))), (2, .int (iI (cntK v 0 (1 + k)))), (1, .int (iI (tideZ v (v 126)))), (0, .ref (tb))]) rfl (fun ls hl => ?_)
                                              exact J576 ls (lv_sub hl [1, 2, 3, 4, 5, 6, 7, 8, 0, 9, 10, 11, 12, 13, 14, 15] rfl)
                                        exact J531 ls (lv_sub hl [4, 5, 6, 7, 8, 9, 10, 11, 12, 13, 0, 1, 2, 3, 14, 15] rfl)
                                      · skip
                                        refine z_il C hl dL_isBoard_518 4 rfl 520 rfl ?_
                                        refine z_ifb_ne C dL_isBoard_520 527 523 (by decide) rfl (fun c520 => ?_) (fun c520 => ?_)
                                        · skip
                                          refine z_iconst C dL_isBoard_527 528 rfl ?_
                                          refine z_iadd C dL_isBoard_528 529 rfl (agrK v k) (by omega) ?_
                                          refine z_top (b := .int (iI (agrK v (1 + k)))) (congrArg (fun z => Value.int (iI z)) (agr_n2 (by omega) c520)) ?_
                                          refine z_is C hl dL_isBoard_529 531 rfl (by decide) (lv' := [(5, .int (iI (agrK v (1 + k)))), (4, .int (iI (cntK v 2 (1 + k)))), (3, .int (iI (cntK v 1 (1 + k)))), (2, .int (iI (cntK v 0 (1 + k)))), (17, .int (iI (nowK v k w))), (14, .int (iI (bZ (onB v k && floB v k)))), (13, .int (iI (v (72 + 5 * k)))), (12, .int (iI (v (73 + 5 * k)))), (11, .int (iI (atZ v k))), (10, .int (iI (v (74 + 5 * k)))), (9, .int (iI (k))), (8, .int (iI (mmvK v k))), (7, .int (iI (scoK v 1 k))), (6, .int (iI (scoK v 0 k))), (1, .int (iI (tideZ v (v 126)))), (0, .ref (tb))]) rfl (fun ls hl => ?_)
                                          have J553 : ∀ (ls : Array Slot) (hl : lv_has ls 21 [(17, .int (iI (nowK v k w))), (14, .int (iI (bZ (onB v k && floB v k)))), (13, .int (iI (v (72 + 5 * k)))), (12, .int (iI (v (73 + 5 * k)))), (11, .int (iI (atZ v k))), (10, .int (iI (v (74 + 5 * k)))), (9, .int (iI (k))), (8, .int (iI (mmvK v k))), (7, .int (iI (scoK v 1 k))), (6, .int (iI (scoK v 0 (1 + k)))), (5, .int (iI (agrK v (1 + k)))), (4, .int (iI (cntK v 2 (1 + k)))), (3, .int (iI (cntK v 1 (1 + k)))), (2, .int (iI (cntK v 0 (1 + k)))), (1, .int (iI (tideZ v (v 126)))), (0, .ref (tb))]), W p l e (rmN 7) s m [.ref (tb)].toArray below meth c s.heap [] 0 0 (MQ below (QR (.int (iI (bZ (true))))) [.ref (tb)].toArray s 0 0 (fun _ => False)) (F0 m 553 ls []) := by
                                            intro ls hl
                                            have J576 : ∀ (ls : Array Slot) (hl : lv_has ls 21 [(17, .int (iI (nowK v k w))), (14, .int (iI (bZ (onB v k && floB v k)))), (13, .int (iI (v (72 + 5 * k)))), (12, .int (iI (v (73 + 5 * k)))), (11, .int (iI (atZ v k))), (10, .int (iI (v (74 + 5 * k)))), (9, .int (iI (k))), (8, .int (iI (mmvK v k))), (7, .int (iI (scoK v 1 (1 + k)))), (6, .int (iI (scoK v 0 (1 + k)))), (5, .int (iI (agrK v (1 + k)))), (4, .int (iI (cntK v 2 (1 + k)))), (3, .int (iI (cntK v 1 (1 + k)))), (2, .int (iI (cntK v 0 (1 + k)))), (1, .int (iI (tideZ v (v 126)))), (0, .ref (tb))]), W p l e (rmN 7) s m [.ref (tb)].toArray below meth c s.heap [] 0 0 (MQ below (QR (.int (iI (bZ (true))))) [.ref (tb)].toArray s 0 0 (fun _ => False)) (F0 m 576 ls []) := by
                                              intro ls hl
                                              refine z_il C hl dL_isBoard_576 7 rfl 578 rfl ?_
                                              refine z_il C hl dL_isBoard_578 2 rfl 580 rfl ?_
                                              refine z_al_n C hl dL_isBoard_580 15 rfl 581 rfl ?_
                                              refine z_iconst C dL_isBoard_581 582 rfl ?_
                                              refine z_VR (r := .int (iI (cntR v n 0 1))) (rest := [.int (iI (v (72 + 5 * k))), .int (iI (mmvK v k))]) C (m_count l G tb r x cu h pa o sg qn qb sn S g n false v 0 1 w0 (by omega)) kV_L_8 ⟨Nat.le_of_ble_eq_true rfl, Nat.le_of_ble_eq_true rfl⟩ hP hK 0 rfl rfl rfl hl.1 rfl (Nat.le_of_ble_eq_true rfl) dL_isBoard_582 ⟨Nat.le_of_ble_eq_true rfl, Nat.le_of_ble_eq_true rfl⟩ 585 rfl ?_
                                              refine z_top (b := .int (iI ((v 126 % 2)))) (congrArg (fun z => Value.int (iI z)) (rfl)) ?_
                                              refine z_icmp_ne C dL_isBoard_585 593 588 (by decide) rfl (by omega) (fun c585 => ?_) (fun c585 => ?_)
                                              · skip
                                                refine z_iconst C dL_isBoard_593 594 rfl ?_
                                                refine z_iadd C dL_isBoard_594 595 rfl (mmvK v k) (by omega) ?_
                                                refine z_top (b := .int (iI (mmvK v (1 + k)))) (congrArg (fun z => Value.int (iI z)) (mmv_n (by omega) c585)) ?_
                                                refine z_is C hl dL_isBoard_595 597 rfl (by decide) (lv' := [(8, .int (iI (mmvK v (1 + k)))), (17, .int (iI (nowK v k w))), (14, .int (iI (bZ (onB v k && floB v k)))), (13, .int (iI (v (72 + 5 * k)))), (12, .int (iI (v (73 + 5 * k)))), (11, .int (iI (atZ v k))), (10, .int (iI (v (74 + 5 * k)))), (9, .int (iI (k))), (7, .int (iI (scoK v 1 (1 + k)))), (6, .int (iI (scoK v 0 (1 + k)))), (5, .int (iI (agrK v (1 + k)))), (4, .int (iI (cntK v 2 (1 + k)))), (3, .int (iI (cntK v 1 (1 + k)))), (2, .int (iI (cntK v 0 (1 + k)))), (1, .int (iI (tideZ v (v 126)))), (0, .ref (tb))]) rfl (fun ls hl => ?_)
                                                refine z_iinc C hl dL_isBoard_597 600 rfl 7 rfl (z := 1 + k) (by omega) (by decide) (lv' := [(9, .int (iI (1 + k))), (8, .int (iI (mmvK v (1 + k)))), (17, .int (iI (nowK v k w))), (14, .int (iI (bZ (onB v k && floB v k)))), (13, .int (iI (v (72 + 5 * k)))), (12, .int (iI (v (73 + 5 * k)))), (11, .int (iI (atZ v k))), (10, .int (iI (v (74 + 5 * k)))), (7, .int (iI (scoK v 1 (1 + k)))), (6, .int (iI (scoK v 0 (1 + k)))), (5, .int (iI (agrK v (1 + k)))), (4, .int (iI (cntK v 2 (1 + k)))), (3, .int (iI (cntK v 1 (1 + k)))), (2, .int (iI (cntK v 0 (1 + k)))), (1, .int (iI (tideZ v (v 126)))), (0, .ref (tb))]) rfl (fun ls hl => ?_)
                                                refine z_goto C dL_isBoard_600 28 (by decide) ?_
                                                exact ih28 (1 + k) (by omega) (by omega) ls (lv_sub hl [0, 1, 8, 9, 10, 11, 12, 13, 14, 15] rfl)
                                              · skip
                                                refine z_il C hl dL_isBoard_588 0 rfl 590 rfl ?_
                                                refine z_goto C dL_isBoard_590 594 (by decide) ?_
                                                refine z_iadd C dL_isBoard_594 595 rfl (mmvK v k + nowK v k w) (by omega) ?_
                                                refine z_top (b := .int (iI (mmvK v (1 + k)))) (congrArg (fun z => Value.int (iI z)) (show mmvK v k + nowK v k w = mmvK v (1 + k) by rw [show w = 12 by omega]; exact mmv_y (by omega) c585)) ?_
                                                refine z_is C hl dL_isBoard_595 597 rfl (by decide) (lv' := [(8, .int (iI (mmvK v (1 + k)))), (17, .int (iI (nowK v k w))), (14, .int (iI (bZ (onB v k && floB v k)))), (13, .int (iI (v (72 + 5 * k)))), (12, .int (iI (v (73 + 5 * k)))), (11, .int (iI (atZ v k))), (10, .int (iI (v (74 + 5 * k)))), (9, .int (iI (k))), (7, .int (iI (scoK v 1 (1 + k)))), (6, .int (iI (scoK v 0 (1 + k)))), (5, .int (iI (agrK v (1 + k)))), (4, .int (iI (cntK v 2 (1 + k)))), (3, .int (iI (cntK v 1 (1 + k)))), (2, .int (iI (cntK v 0 (1 + k)))), (1, .int (iI (tideZ v (v 126)))), (0, .ref (tb))]) rfl (fun ls hl => ?_)
                                                refine z_iinc C hl dL_isBoard_597 600 rfl 7 rfl (z := 1 + k) (by omega) (by decide) (lv' := [(9, .int (iI (1 + k))), (8, .int (iI (mmvK v (1 + k)))), (17, .int (iI (nowK v k w))), (14, .int (iI (bZ (onB v k && floB v k)))), (13, .int (iI (v (72 + 5 * k)))), (12, .int (iI (v (73 + 5 * k)))), (11, .int (iI (atZ v k))), (10, .int (iI (v (74 + 5 * k)))), (7, .int (iI (scoK v 1 (1 + k)))), (6, .int (iI (scoK v 0 (1 + k)))), (5, .int (iI (agrK v (1 + k)))), (4, .int (iI (cntK v 2 (1 + k)))), (3, .int (iI (cntK v 1 (1 + k)))), (2, .int (iI (cntK v 0 (1 + k)))), (1, .int (iI (tideZ v (v 126)))), (0, .ref (tb))]) rfl (fun ls hl => ?_)
                                                refine z_goto C dL_isBoard_600 28 (by decide) ?_
                                                exact ih28 (1 + k) (by omega) (by omega) ls (lv_sub hl [0, 1, 8, 9, 10, 11, 12, 13, 14, 15] rfl)
                                            refine z_il C hl dL_isBoard_553 8 rfl 555 rfl ?_
                                            refine z_il C hl dL_isBoard_555 5 rfl 557 rfl ?_
                                            refine z_iconst C dL_isBoard_557 558 rfl ?_
                                            refine z_icmp_ne C dL_isBoard_558 572 561 (by decide) rfl (by omega) (fun c558 => ?_) (fun c558 => ?_)
                                            · skip
                                              refine z_iconst C dL_isBoard_572 573 rfl ?_
                                              refine z_iadd C dL_isBoard_573 574 rfl (scoK v 1 k) (by omega) ?_
                                              refine z_top (b := .int (iI (scoK v 1 (1 + k)))) (congrArg (fun z => Value.int (iI z)) (sco_n (by omega) (fun z => by omega))) ?_
                                              refine z_is C hl dL_isBoard_574 576 rfl (by decide) (lv' := [(7, .int (iI (scoK v 1 (1 + k)))), (17, .int (iI (nowK v k w))), (14, .int (iI (bZ (onB v k && floB v k)))), (13, .int (iI (v (72 + 5 * k)))), (12, .int (iI (v (73 + 5 * k)))), (11, .int (iI (atZ v k))), (10, .int (iI (v (74 + 5 * k)))), (9, .int (iI (k))), (8, .int (iI (mmvK v k))), (6, .int (iI (scoK v 0 (1 + k)))), (5, .int (iI (agrK v (1 + k)))), (4, .int (iI (cntK v 2 (1 + k)))), (3, .int (iI (cntK v 1 (1 + k)))), (2, .int (iI (cntK v 0 (1 + k)))), (1, .int (iI (tideZ v (v 126)))), (0, .ref (tb))]) rfl (fun ls hl => ?_)
                                              exact J576 ls (lv_sub hl [1, 2, 3, 4, 5, 6, 7, 8, 0, 9, 10, 11, 12, 13, 14, 15] rfl)
                                            · skip
                                              refine z_il C hl dL_isBoard_561 2 rfl 563 rfl ?_
                                              refine z_iconst C dL_isBoard_563 564 rfl ?_
                                              refine z_icmp_ne C dL_isBoard_564 572 567 (by decide) rfl (by omega) (fun c564 => ?_) (fun c564 => ?_)
                                              · skip
                                                refine z_iconst C dL_isBoard_572 573 rfl ?_
                                                refine z_iadd C dL_isBoard_573 574 rfl (scoK v 1 k) (by omega) ?_
                                                refine z_top (b := .int (iI (scoK v 1 (1 + k)))) (congrArg (fun z => Value.int (iI z)) (sco_n (by omega) (fun z => by omega))) ?_
                                                refine z_is C hl dL_isBoard_574 576 rfl (by decide) (lv' := [(7, .int (iI (scoK v 1 (1 + k)))), (17, .int (iI (nowK v k w))), (14, .int (iI (bZ (onB v k && floB v k)))), (13, .int (iI (v (72 + 5 * k)))), (12, .int (iI (v (73 + 5 * k)))), (11, .int (iI (atZ v k))), (10, .int (iI (v (74 + 5 * k)))), (9, .int (iI (k))), (8, .int (iI (mmvK v k))), (6, .int (iI (scoK v 0 (1 + k)))), (5, .int (iI (agrK v (1 + k)))), (4, .int (iI (cntK v 2 (1 + k)))), (3, .int (iI (cntK v 1 (1 + k)))), (2, .int (iI (cntK v 0 (1 + k)))), (1, .int (iI (tideZ v (v 126)))), (0, .ref (tb))]) rfl (fun ls hl => ?_)
                                                exact J576 ls (lv_sub hl [1, 2, 3, 4, 5, 6, 7, 8, 0, 9, 10, 11, 12, 13, 14, 15] rfl)
                                              · skip
                                                refine z_il C hl dL_isBoard_567 3 rfl 569 rfl ?_
                                                refine z_goto C dL_isBoard_569 573 (by decide) ?_
                                                refine z_iadd C dL_isBoard_573 574 rfl (scoK v 1 k + v (73 + 5 * k)) (by omega) ?_
                                                refine z_top (b := .int (iI (scoK v 1 (1 + k)))) (congrArg (fun z => Value.int (iI z)) (sco_y (by omega) c558 c564)) ?_
                                                refine z_is C hl dL_isBoard_574 576 rfl (by decide) (lv' := [(7, .int (iI (scoK v 1 (1 + k)))), (17, .int (iI (nowK v k w))), (14, .int (iI (bZ (onB v k && floB v k)))), (13, .int (iI (v (72 + 5 * k)))), (12, .int (iI (v (73 + 5 * k)))), (11, .int (iI (atZ v k))), (10, .int (iI (v (74 + 5 * k)))), (9, .int (iI (k))), (8, .int (iI (mmvK v k))), (6, .int (iI (scoK v 0 (1 + k)))), (5, .int (iI (agrK v (1 + k)))), (4, .int (iI (cntK v 2 (1 + k)))), (3, .int (iI (cntK v 1 (1 + k)))), (2, .int (iI (cntK v 0 (1 + k)))), (1, .int (iI (tideZ v (v 126)))), (0, .ref (tb))]) rfl (fun ls hl => ?_)
                                                exact J576 ls (lv_sub hl [1, 2, 3, 4, 5, 6, 7, 8, 0, 9, 10, 11, 12, 13, 14, 15] rfl)
                                          exact J531 ls (lv_sub hl [4, 5, 6, 7, 8, 9, 10, 11, 12, 13, 0, 1, 2, 3, 14, 15] rfl)
                                        · skip
                                          refine z_iconst C dL_isBoard_523 524 rfl ?_
                                          refine z_goto C dL_isBoard_524 528 (by decide) ?_
                                          refine z_iadd C dL_isBoard_528 529 rfl (1 + agrK v k) (by omega) ?_
                                          refine z_top (b := .int (iI (agrK v (1 + k)))) (congrArg (fun z => Value.int (iI z)) (agr_y (by omega) c515 c520)) ?_
                                          refine z_is C hl dL_isBoard_529 531 rfl (by decide) (lv' := [(5, .int (iI (agrK v (1 + k)))), (4, .int (iI (cntK v 2 (1 + k)))), (3, .int (iI (cntK v 1 (1 + k)))), (2, .int (iI (cntK v 0 (1 + k)))), (17, .int (iI (nowK v k w))), (14, .int (iI (bZ (onB v k && floB v k)))), (13, .int (iI (v (72 + 5 * k)))), (12, .int (iI (v (73 + 5 * k)))), (11, .int (iI (atZ v k))), (10, .int (iI (v (74 + 5 * k)))), (9, .int (iI (k))), (8, .int (iI (mmvK v k))), (7, .int (iI (scoK v 1 k))), (6, .int (iI (scoK v 0 k))), (1, .int (iI (tideZ v (v 126)))), (0, .ref (tb))]) rfl (fun ls hl => ?_)
                                          have J553 : ∀ (ls : Array Slot) (hl : lv_has ls 21 [(17, .int (iI (nowK v k w))), (14, .int (iI (bZ (onB v k && floB v k)))), (13, .int (iI (v (72 + 5 * k)))), (12, .int (iI (v (73 + 5 * k)))), (11, .int (iI (atZ v k))), (10, .int (iI (v (74 + 5 * k)))), (9, .int (iI (k))), (8, .int (iI (mmvK v k))), (7, .int (iI (scoK v 1 k))), (6, .int (iI (scoK v 0 (1 + k)))), (5, .int (iI (agrK v (1 + k)))), (4, .int (iI (cntK v 2 (1 + k)))), (3, .int (iI (cntK v 1 (1 + k)))), (2, .int (iI (cntK v 0 (1 + k)))), (1, .int (iI (tideZ v (v 126)))), (0, .ref (tb))]), W p l e (rmN 7) s m [.ref (tb)].toArray below meth c s.heap [] 0 0 (MQ below (QR (.int (iI (bZ (true))))) [.ref (tb)].toArray s 0 0 (fun _ => False)) (F0 m 553 ls []) := by
                                            intro ls hl
                                            have J576 : ∀ (ls : Array Slot) (hl : lv_has ls 21 [(17, .int (iI (nowK v k w))), (14, .int (iI (bZ (onB v k && floB v k)))), (13, .int (iI (v (72 + 5 * k)))), (12, .int (iI (v (73 + 5 * k)))), (11, .int (iI (atZ v k))), (10, .int (iI (v (74 + 5 * k)))), (9, .int (iI (k))), (8, .int (iI (mmvK v k))), (7, .int (iI (scoK v 1 (1 + k)))), (6, .int (iI (scoK v 0 (1 + k)))), (5, .int (iI (agrK v (1 + k)))), (4, .int (iI (cntK v 2 (1 + k)))), (3, .int (iI (cntK v 1 (1 + k)))), (2, .int (iI (cntK v 0 (1 + k)))), (1, .int (iI (tideZ v (v 126)))), (0, .ref (tb))]), W p l e (rmN 7) s m [.ref (tb)].toArray below meth c s.heap [] 0 0 (MQ below (QR (.int (iI (bZ (true))))) [.ref (tb)].toArray s 0 0 (fun _ => False)) (F0 m 576 ls []) := by
                                              intro ls hl
                                              refine z_il C hl dL_isBoard_576 7 rfl 578 rfl ?_
                                              refine z_il C hl dL_isBoard_578 2 rfl 580 rfl ?_
                                              refine z_al_n C hl dL_isBoard_580 15 rfl 581 rfl ?_
                                              refine z_iconst C dL_isBoard_581 582 rfl ?_
                                              refine z_VR (r := .int (iI (cntR v n 0 1))) (rest := [.int (iI (v (72 + 5 * k))), .int (iI (mmvK v k))]) C (m_count l G tb r x cu h pa o sg qn qb sn S g n false v 0 1 w0 (by omega)) kV_L_8 ⟨Nat.le_of_ble_eq_true rfl, Nat.le_of_ble_eq_true rfl⟩ hP hK 0 rfl rfl rfl hl.1 rfl (Nat.le_of_ble_eq_true rfl) dL_isBoard_582 ⟨Nat.le_of_ble_eq_true rfl, Nat.le_of_ble_eq_true rfl⟩ 585 rfl ?_
                                              refine z_top (b := .int (iI ((v 126 % 2)))) (congrArg (fun z => Value.int (iI z)) (rfl)) ?_
                                              refine z_icmp_ne C dL_isBoard_585 593 588 (by decide) rfl (by omega) (fun c585 => ?_) (fun c585 => ?_)
                                              · skip
                                                refine z_iconst C dL_isBoard_593 594 rfl ?_
                                                refine z_iadd C dL_isBoard_594 595 rfl (mmvK v k) (by omega) ?_
                                                refine z_top (b := .int (iI (mmvK v (1 + k)))) (congrArg (fun z => Value.int (iI z)) (mmv_n (by omega) c585)) ?_
                                                refine z_is C hl dL_isBoard_595 597 rfl (by decide) (lv' := [(8, .int (iI (mmvK v (1 + k)))), (17, .int (iI (nowK v k w))), (14, .int (iI (bZ (onB v k && floB v k)))), (13, .int (iI (v (72 + 5 * k)))), (12, .int (iI (v (73 + 5 * k)))), (11, .int (iI (atZ v k))), (10, .int (iI (v (74 + 5 * k)))), (9, .int (iI (k))), (7, .int (iI (scoK v 1 (1 + k)))), (6, .int (iI (scoK v 0 (1 + k)))), (5, .int (iI (agrK v (1 + k)))), (4, .int (iI (cntK v 2 (1 + k)))), (3, .int (iI (cntK v 1 (1 + k)))), (2, .int (iI (cntK v 0 (1 + k)))), (1, .int (iI (tideZ v (v 126)))), (0, .ref (tb))]) rfl (fun ls hl => ?_)
                                                refine z_iinc C hl dL_isBoard_597 600 rfl 7 rfl (z := 1 + k) (by omega) (by decide) (lv' := [(9, .int (iI (1 + k))), (8, .int (iI (mmvK v (1 + k)))), (17, .int (iI (nowK v k w))), (14, .int (iI (bZ (onB v k && floB v k)))), (13, .int (iI (v (72 + 5 * k)))), (12, .int (iI (v (73 + 5 * k)))), (11, .int (iI (atZ v k))), (10, .int (iI (v (74 + 5 * k)))), (7, .int (iI (scoK v 1 (1 + k)))), (6, .int (iI (scoK v 0 (1 + k)))), (5, .int (iI (agrK v (1 + k)))), (4, .int (iI (cntK v 2 (1 + k)))), (3, .int (iI (cntK v 1 (1 + k)))), (2, .int (iI (cntK v 0 (1 + k)))), (1, .int (iI (tideZ v (v 126)))), (0, .ref (tb))]) rfl (fun ls hl => ?_)
                                                refine z_goto C dL_isBoard_600 28 (by decide) ?_
                                                exact ih28 (1 + k) (by omega) (by omega) ls (lv_sub hl [0, 1, 8, 9, 10, 11, 12, 13, 14, 15] rfl)
                                              · skip
                                                refine z_il C hl dL_isBoard_588 0 rfl 590 rfl ?_
                                                refine z_goto C dL_isBoard_590 594 (by decide) ?_
                                                refine z_iadd C dL_isBoard_594 595 rfl (mmvK v k + nowK v k w) (by omega) ?_
                                                refine z_top (b := .int (iI (mmvK v (1 + k)))) (congrArg (fun z => Value.int (iI z)) (show mmvK v k + nowK v k w = mmvK v (1 + k) by rw [show w = 12 by omega]; exact mmv_y (by omega) c585)) ?_
                                                refine z_is C hl dL_isBoard_595 597 rfl (by decide) (lv' := [(8, .int (iI (mmvK v (1 + k)))), (17, .int (iI (nowK v k w))), (14, .int (iI (bZ (onB v k && floB v k)))), (13, .int (iI (v (72 + 5 * k)))), (12, .int (iI (v (73 + 5 * k)))), (11, .int (iI (atZ v k))), (10, .int (iI (v (74 + 5 * k)))), (9, .int (iI (k))), (7, .int (iI (scoK v 1 (1 + k)))), (6, .int (iI (scoK v 0 (1 + k)))), (5, .int (iI (agrK v (1 + k)))), (4, .int (iI (cntK v 2 (1 + k)))), (3, .int (iI (cntK v 1 (1 + k)))), (2, .int (iI (cntK v 0 (1 + k)))), (1, .int (iI (tideZ v (v 126)))), (0, .ref (tb))]) rfl (fun ls hl => ?_)
                                                refine z_iinc C hl dL_isBoard_597 600 rfl 7 rfl (z := 1 + k) (by omega) (by decide) (lv' := [(9, .int (iI (1 + k))), (8, .int (iI (mmvK v (1 + k)))), (17, .int (iI (nowK v k w))), (14, .int (iI (bZ (onB v k && floB v k)))), (13, .int (iI (v (72 + 5 * k)))), (12, .int (iI (v (73 + 5 * k)))), (11, .int (iI (atZ v k))), (10, .int (iI (v (74 + 5 * k)))), (7, .int (iI (scoK v 1 (1 + k)))), (6, .int (iI (scoK v 0 (1 + k)))), (5, .int (iI (agrK v (1 + k)))), (4, .int (iI (cntK v 2 (1 + k)))), (3, .int (iI (cntK v 1 (1 + k)))), (2, .int (iI (cntK v 0 (1 + k)))), (1, .int (iI (tideZ v (v 126)))), (0, .ref (tb))]) rfl (fun ls hl => ?_)
                                                refine z_goto C dL_isBoard_600 28 (by decide) ?_
                                                exact ih28 (1 + k) (by omega) (by omega) ls (lv_sub hl [0, 1, 8, 9, 10, 11, 12, 13, 14, 15] rfl)
                                            refine z_il C hl dL_isBoard_553 8 rfl 555 rfl ?_
                                            refine z_il C hl dL_isBoard_555 5 rfl 557 rfl ?_
                                            refine z_iconst C dL_isBoard_557 558 rfl ?_
                                            refine z_icmp_ne C dL_isBoard_558 572 561 (by decide) rfl (by omega) (fun c558 => ?_) (fun c558 => ?_)
                                            · skip
                                              refine z_iconst C dL_isBoard_572 573 rfl ?_
                                              refine z_iadd C dL_isBoard_573 574 rfl (scoK v 1 k) (by omega) ?_
                                              refine z_top (b := .int (iI (scoK v 1 (1 + k)))) (congrArg (fun z => Value.int (iI z)) (sco_n (by omega) (fun z => by omega))) ?_
                                              refine z_is C hl dL_isBoard_574 576 rfl (by decide) (lv' := [(7, .int (iI (scoK v 1 (1 + k)))), (17, .int (iI (nowK v k w))), (14, .int (iI (bZ (onB v k && floB v k)))), (13, .int (iI (v (72 + 5 * k)))), (12, .int (iI (v (73 + 5 * k)))), (11, .int (iI (atZ v k))), (10, .int (iI (v (74 + 5 * k)))), (9, .int (iI (k))), (8, .int (iI (mmvK v k))), (6, .int (iI (scoK v 0 (1 + k)))), (5, .int (iI (agrK v (1 + k)))), (4, .int (iI (cntK v 2 (1 + k)))), (3, .int (iI (cntK v 1 (1 + k)))), (2, .int (iI (cntK v 0 (1 + k)))), (1, .int (iI (tideZ v (v 126)))), (0, .ref (tb))]) rfl (fun ls hl => ?_)
                                              exact J576 ls (lv_sub hl [1, 2, 3, 4, 5, 6, 7, 8, 0, 9, 10, 11, 12, 13, 14, 15] rfl)
                                            · skip
                                              refine z_il C hl dL_isBoard_561 2 rfl 563 rfl ?_
                                              refine z_iconst C dL_isBoard_563 564 rfl ?_
                                              refine z_icmp_ne C dL_isBoard_564 572 567 (by decide) rfl (by omega) (fun c564 => ?_) (fun c564 => ?_)
                                              · skip
                                                refine z_iconst C dL_isBoard_572 573 rfl ?_
                                                refine z_iadd C dL_isBoard_573 574 rfl (scoK v 1 k) (by omega) ?_
                                                refine z_top (b := .int (iI (scoK v 1 (1 + k)))) (congrArg (fun z => Value.int (iI z)) (sco_n (by omega) (fun z => by omega))) ?_
                                                refine z_is C hl dL_isBoard_574 576 rfl (by decide) (lv' := [(7, .int (iI (scoK v 1 (1 + k)))), (17, .int (iI (nowK v k w))), (14, .int (iI (bZ (onB v k && floB v k)))), (13, .int (iI (v (72 + 5 * k)))), (12, .int (iI (v (73 + 5 * k)))), (11, .int (iI (atZ v k))), (10, .int (iI (v (74 + 5 * k)))), (9, .int (iI (k))), (8, .int (iI (mmvK v k))), (6, .int (iI (scoK v 0 (1 + k)))), (5, .int (iI (agrK v (1 + k)))), (4, .int (iI (cntK v 2 (1 + k)))), (3, .int (iI (cntK v 1 (1 + k)))), (2, .int (iI (cntK v 0 (1 + k)))), (1, .int (iI (tideZ v (v 126)))), (0, .ref (tb))]) rfl (fun ls hl => ?_)
                                                exact J576 ls (lv_sub hl [1, 2, 3, 4, 5, 6, 7, 8, 0, 9, 10, 11, 12, 13, 14, 15] rfl)
                                              · skip
                                                refine z_il C hl dL_isBoard_567 3 rfl 569 rfl ?_
                                                refine z_goto C dL_isBoard_569 573 (by decide) ?_
                                                refine z_iadd C dL_isBoard_573 574 rfl (scoK v 1 k + v (73 + 5 * k)) (by omega) ?_
                                                refine z_top (b := .int (iI (scoK v 1 (1 + k)))) (congrArg (fun z => Value.int (iI z)) (sco_y (by omega) c558 c564)) ?_
                                                refine z_is C hl dL_isBoard_574 576 rfl (by decide) (lv' := [(7, .int (iI (scoK v 1 (1 + k)))), (17, .int (iI (nowK v k w))), (14, .int (iI (bZ (onB v k && floB v k)))), (13, .int (iI (v (72 + 5 * k)))), (12, .int (iI (v (73 + 5 * k)))), (11, .int (iI (atZ v k))), (10, .int (iI (v (74 + 5 * k)))), (9, .int (iI (k))), (8, .int (iI (mmvK v k))), (6, .int (iI (scoK v 0 (1 + k)))), (5, .int (iI (agrK v (1 + k)))), (4, .int (iI (cntK v 2 (1 + k)))), (3, .int (iI (cntK v 1 (1 + k)))), (2, .int (iI (cntK v 0 (1 + k)))), (1, .int (iI (tideZ v (v 126)))), (0, .ref (tb))]) rfl (fun ls hl => ?_)
                                                exact J576 ls (lv_sub hl [1, 2, 3, 4, 5, 6, 7, 8, 0, 9, 10, 11, 12, 13, 14, 15] rfl)
                                          exact J531 ls (lv_sub hl [4, 5, 6, 7, 8, 9, 10, 11, 12, 13, 0, 1, 2, 3, 14, 15] rfl)
                                    refine z_il C hl dL_isBoard_443 5 rfl 445 rfl ?_
                                    refine z_al_n C hl dL_isBoard_445 18 rfl 446 rfl ?_
                                    refine z_iconst C dL_isBoard_446 447 rfl ?_
                                    refine z_VR (r := .int (iI (cntR v n 0 1))) (rest := [.int (iI (v (72 + 5 * k)))]) C (m_count l G tb r x cu h pa o sg qn qb sn S g n false v 0 1 w0 (by omega)) kV_L_8 ⟨Nat.le_of_ble_eq_true rfl, Nat.le_of_ble_eq_true rfl⟩ hP hK 0 rfl rfl rfl hl.1 rfl (Nat.le_of_ble_eq_true rfl) dL_isBoard_447 ⟨Nat.le_of_ble_eq_true rfl, Nat.le_of_ble_eq_true rfl⟩ 450 rfl ?_
                                    refine z_top (b := .int (iI ((v 126 % 2)))) (congrArg (fun z => Value.int (iI z)) (rfl)) ?_
                                    refine z_icmp_ne C dL_isBoard_450 468 453 (by decide) rfl (by omega) (fun c450 => ?_) (fun c450 => ?_)
                                    · skip
                                      exact J468 ls (lv_sub hl [1, 4, 5, 6, 7, 8, 9, 10, 11, 12, 13, 14, 15, 16, 17, 18] rfl)
                                    · skip
                                      refine z_al_n C hl dL_isBoard_453 18 rfl 454 rfl ?_
                                      refine z_il C hl dL_isBoard_454 9 rfl 456 rfl ?_
                                      refine z_bipush C dL_isBoard_456 (by decide) 458 rfl ?_
                                      refine z_VR (r := .int (iI (boaR v k 6))) (rest := []) C (m_boatOf l G tb r x cu h pa o sg qn qb sn v k 6 w0 (by omega) (by omega)) kV_L_14 ⟨Nat.le_of_ble_eq_true rfl, Nat.le_of_ble_eq_true rfl⟩ (gP_rg hP [0, 1, 2] rfl) hK 0 rfl rfl rfl hl.1 rfl (Nat.le_of_ble_eq_true rfl) dL_isBoard_458 ⟨Nat.le_of_ble_eq_true rfl, Nat.le_of_ble_eq_true rfl⟩ 461 rfl ?_
                                      refine z_top (b := .int (iI (mvsZ v k))) (congrArg (fun z => Value.int (iI z)) (boa_6 (v := v) (b := k) (by omega))) ?_
                                      have rm458 := mvsZ_rng v k
                                      refine z_il C hl dL_isBoard_461 1 rfl 463 rfl ?_
                                      refine z_icmp_eq C dL_isBoard_463 468 466 (by decide) rfl (by omega) (fun c463 => ?_) (fun c463 => ?_)
                                      · skip
                                        exact J468 ls (lv_sub hl [1, 4, 5, 6, 7, 8, 9, 10, 11, 12, 13, 14, 15, 16, 17, 18] rfl)
                                      · exfalso; exact c463 (by rw [mvs_now c450, show w = 12 by omega])
                              · skip
                                refine z_al_n C hl dL_isBoard_227 18 rfl 228 rfl ?_
                                refine z_il C hl dL_isBoard_228 9 rfl 230 rfl ?_
                                refine z_il C hl dL_isBoard_230 0 rfl 232 rfl ?_
                                refine z_iconst C dL_isBoard_232 233 rfl ?_
                                refine z_idiv C dL_isBoard_233 234 rfl (by omega) ((w / 3)) (rfl) ?_
                                refine z_il C hl dL_isBoard_234 0 rfl 236 rfl ?_
                                refine z_iconst C dL_isBoard_236 237 rfl ?_
                                refine z_irem C dL_isBoard_237 238 rfl (by omega) ((w % 3)) (rfl) ?_
                                refine z_iconst C dL_isBoard_238 239 rfl ?_
                                refine z_iadd C dL_isBoard_239 240 rfl (1 + (w % 3)) (by omega) ?_
                                refine z_top (b := .int (iI ((w % 3 + 1)))) (congrArg (fun z => Value.int (iI z)) (by omega)) ?_
                                refine z_VR (r := .int (iI (whyR v k (w / 3) (w % 3 + 1)))) (rest := []) C (m_why l G tb r x cu h pa o sg qn qb sn v k (w / 3) (w % 3 + 1) w0 (by omega) (by omega) (by omega)) kV_L_21 ⟨Nat.le_of_ble_eq_true rfl, Nat.le_of_ble_eq_true rfl⟩ (gP_rg hP [0, 1, 2] rfl) hK 0 rfl rfl rfl hl.1 rfl (Nat.le_of_ble_eq_true rfl) dL_isBoard_240 ⟨Nat.le_of_ble_eq_true rfl, Nat.le_of_ble_eq_true rfl⟩ 243 rfl ?_
                                refine z_top (b := .int (iI (reaZ v k (w / 3) (w % 3 + 1) false))) (congrArg (fun z => Value.int (iI z)) (why_is (v := v) (b := k) (d := (w / 3)) (n := (w % 3 + 1)) (by omega) (by omega) (by omega))) ?_
                                have rz240 := reaZ_rng v k (w / 3) (w % 3 + 1) false
                                refine z_is C hl dL_isBoard_243 245 rfl (by decide) (lv' := [(19, .int (iI (reaZ v k (w / 3) (w % 3 + 1) false))), (18, .int (iI (w))), (17, .int (iI (nowK v k w))), (16, .int (iI (0))), (15, .int (iI (1))), (14, .int (iI (bZ (onB v k && floB v k)))), (13, .int (iI (v (72 + 5 * k)))), (12, .int (iI (v (73 + 5 * k)))), (11, .int (iI (atZ v k))), (10, .int (iI (v (74 + 5 * k)))), (9, .int (iI (k))), (8, .int (iI (mmvK v k))), (7, .int (iI (scoK v 1 k))), (6, .int (iI (scoK v 0 k))), (5, .int (iI (agrK v k))), (4, .int (iI (cntK v 2 k))), (3, .int (iI (cntK v 1 k))), (2, .int (iI (cntK v 0 k))), (1, .int (iI (tideZ v (v 126)))), (0, .ref (tb))]) rfl (fun ls hl => ?_)
                                refine z_il C hl dL_isBoard_245 2 rfl 247 rfl ?_
                                refine z_il C hl dL_isBoard_247 0 rfl 249 rfl ?_
                                refine z_mif_ne C dL_isBoard_249 dL_isBoard_252 dL_isBoard_253 dL_isBoard_256 (by omega) rfl rfl rfl 257 rfl ?_
                                refine z_iadd C dL_isBoard_257 258 rfl (bZ (decide (reaZ v k (w / 3) (w % 3 + 1) false = 0)) + nowK v k w) (by omega) ?_
                                refine z_top (b := .int (iI (nowK v k (1 + w)))) (congrArg (fun z => Value.int (iI z)) (by have hq := nowK_s (v := v) (b := k) (w := w) (by omega); omega)) ?_
                                refine z_is C hl dL_isBoard_258 260 rfl (by decide) (lv' := [(17, .int (iI (nowK v k (1 + w)))), (19, .int (iI (reaZ v k (w / 3) (w % 3 + 1) false))), (18, .int (iI (w))), (16, .int (iI (0))), (15, .int (iI (1))), (14, .int (iI (bZ (onB v k && floB v k)))), (13, .int (iI (v (72 + 5 * k)))), (12, .int (iI (v (73 + 5 * k)))), (11, .int (iI (atZ v k))), (10, .int (iI (v (74 + 5 * k)))), (9, .int (iI (k))), (8, .int (iI (mmvK v k))), (7, .int (iI (scoK v 1 k))), (6, .int (iI (scoK v 0 k))), (5, .int (iI (agrK v k))), (4, .int (iI (cntK v 2 k))), (3, .int (iI (cntK v 1 k))), (2, .int (iI (cntK v 0 k))), (1, .int (iI (tideZ v (v 126)))), (0, .ref (tb))]) rfl (fun ls hl => ?_)
                                have J369 : ∀ (ls : Array Slot) (hl : lv_has ls 21 [(19, .int (iI (reaZ v k (w / 3) (w % 3 + 1) false))), (17, .int (iI (nowK v k (1 + w)))), (18, .int (iI (w))), (16, .int (iI (0))), (15, .int (iI (1))), (14, .int (iI (bZ (onB v k && floB v k)))), (13, .int (iI (v (72 + 5 * k)))), (12, .int (iI (v (73 + 5 * k)))), (11, .int (iI (atZ v k))), (10, .int (iI (v (74 + 5 * k)))), (9, .int (iI (k))), (8, .int (iI (mmvK v k))), (7, .int (iI (scoK v 1 k))), (6, .int (iI (scoK v 0 k))), (5, .int (iI (agrK v k))), (4, .int (iI (cntK v 2 k))), (3, .int (iI (cntK v 1 k))), (2, .int (iI (cntK v 0 k))), (1, .int (iI (tideZ v (v 126)))), (0, .ref (tb))]), W p l e (rmN 7) s m [.ref (tb)].toArray below meth c s.heap [] 0 0 (MQ below (QR (.int (iI (bZ (true))))) [.ref (tb)].toArray s 0 0 (fun _ => False)) (F0 m 369 ls [.int (iI (1))]) := by
                                  intro ls hl
                                  refine z_is C hl dL_isBoard_369 371 rfl (by decide) (lv' := [(20, .int (iI (1))), (19, .int (iI (reaZ v k (w / 3) (w % 3 + 1) false))), (17, .int (iI (nowK v k (1 + w)))), (18, .int (iI (w))), (16, .int (iI (0))), (15, .int (iI (1))), (14, .int (iI (bZ (onB v k && floB v k)))), (13, .int (iI (v (72 + 5 * k)))), (12, .int (iI (v (73 + 5 * k)))), (11, .int (iI (atZ v k))), (10, .int (iI (v (74 + 5 * k)))), (9, .int (iI (k))), (8, .int (iI (mmvK v k))), (7, .int (iI (scoK v 1 k))), (6, .int (iI (scoK v 0 k))), (5, .int (iI (agrK v k))), (4, .int (iI (cntK v 2 k))), (3, .int (iI (cntK v 1 k))), (2, .int (iI (cntK v 0 k))), (1, .int (iI (tideZ v (v 126)))), (0, .ref (tb))]) rfl (fun ls hl => ?_)
                                  have J406 : ∀ (ls : Array Slot) (hl : lv_has ls 21 [(20, .int (iI (1))), (19, .int (iI (reaZ v k (w / 3) (w % 3 + 1) false))), (17, .int (iI (nowK v k (1 + w)))), (18, .int (iI (w))), (15, .int (iI (1))), (14, .int (iI (bZ (onB v k && floB v k)))), (13, .int (iI (v (72 + 5 * k)))), (12, .int (iI (v (73 + 5 * k)))), (11, .int (iI (atZ v k))), (10, .int (iI (v (74 + 5 * k)))), (9, .int (iI (k))), (8, .int (iI (mmvK v k))), (7, .int (iI (scoK v 1 k))), (6, .int (iI (scoK v 0 k))), (5, .int (iI (agrK v k))), (4, .int (iI (cntK v 2 k))), (3, .int (iI (cntK v 1 k))), (2, .int (iI (cntK v 0 k))), (1, .int (iI (tideZ v (v 126)))), (0, .ref (tb))]), W p l e (rmN 7) s m [.ref (tb)].toArray below meth c s.heap [] 0 0 (MQ below (QR (.int (iI (bZ (true))))) [.ref (tb)].toArray s 0 0 (fun _ => False)) (F0 m 406 ls [.int (iI (0))]) := by
                                    intro ls hl
                                    refine z_iconst C dL_isBoard_406 407 rfl ?_
                                    refine z_iadd C dL_isBoard_407 408 rfl (0) (by omega) ?_
                                    refine z_is C hl dL_isBoard_408 410 rfl (by decide) (lv' := [(16, .int (iI (0))), (20, .int (iI (1))), (19, .int (iI (reaZ v k (w / 3) (w % 3 + 1) false))), (17, .int (iI (nowK v k (1 + w)))), (18, .int (iI (w))), (15, .int (iI (1))), (14, .int (iI (bZ (onB v k && floB v k)))), (13, .int (iI (v (72 + 5 * k)))), (12, .int (iI (v (73 + 5 * k)))), (11, .int (iI (atZ v k))), (10, .int (iI (v (74 + 5 * k)))), (9, .int (iI (k))), (8, .int (iI (mmvK v k))), (7, .int (iI (scoK v 1 k))), (6, .int (iI (scoK v 0 k))), (5, .int (iI (agrK v k))), (4, .int (iI (cntK v 2 k))), (3, .int (iI (cntK v 1 k))), (2, .int (iI (cntK v 0 k))), (1, .int (iI (tideZ v (v 126)))), (0, .ref (tb))]) rfl (fun ls hl => ?_)
                                    refine z_il C hl dL_isBoard_410 5 rfl 412 rfl ?_
                                    refine z_if_eq C dL_isBoard_412 424 415 (by decide) rfl (by omega) (fun c412 => ?_) (fun c412 => ?_)
                                    · exfalso; omega
                                    · skip
                                      refine z_il C hl dL_isBoard_415 1 rfl 417 rfl ?_
                                      refine z_if_eq C dL_isBoard_417 424 420 (by decide) rfl (by omega) (fun c417 => ?_) (fun c417 => ?_)
                                      · exfalso; omega
                                      · skip
                                        refine z_iconst C dL_isBoard_420 421 rfl ?_
                                        refine z_goto C dL_isBoard_421 425 (by decide) ?_
                                        refine z_is C hl dL_isBoard_425 427 rfl (by decide) (lv' := [(15, .int (iI (1))), (16, .int (iI (0))), (20, .int (iI (1))), (19, .int (iI (reaZ v k (w / 3) (w % 3 + 1) false))), (17, .int (iI (nowK v k (1 + w)))), (18, .int (iI (w))), (14, .int (iI (bZ (onB v k && floB v k)))), (13, .int (iI (v (72 + 5 * k)))), (12, .int (iI (v (73 + 5 * k)))), (11, .int (iI (atZ v k))), (10, .int (iI (v (74 + 5 * k)))), (9, .int (iI (k))), (8, .int (iI (mmvK v k))), (7, .int (iI (scoK v 1 k))), (6, .int (iI (scoK v 0 k))), (5, .int (iI (agrK v k))), (4, .int (iI (cntK v 2 k))), (3, .int (iI (cntK v 1 k))), (2, .int (iI (cntK v 0 k))), (1, .int (iI (tideZ v (v 126)))), (0, .ref (tb))]) rfl (fun ls hl => ?_)
                                        refine z_iinc C hl dL_isBoard_427 430 rfl 5 rfl (z := 1 + w) (by omega) (by decide) (lv' := [(18, .int (iI (1 + w))), (15, .int (iI (1))), (16, .int (iI (0))), (20, .int (iI (1))), (19, .int (iI (reaZ v k (w / 3) (w % 3 + 1) false))), (17, .int (iI (nowK v k (1 + w)))), (14, .int (iI (bZ (onB v k && floB v k)))), (13, .int (iI (v (72 + 5 * k)))), (12, .int (iI (v (73 + 5 * k)))), (11, .int (iI (atZ v k))), (10, .int (iI (v (74 + 5 * k)))), (9, .int (iI (k))), (8, .int (iI (mmvK v k))), (7, .int (iI (scoK v 1 k))), (6, .int (iI (scoK v 0 k))), (5, .int (iI (agrK v k))), (4, .int (iI (cntK v 2 k))), (3, .int (iI (cntK v 1 k))), (2, .int (iI (cntK v 0 k))), (1, .int (iI (tideZ v (v 126)))), (0, .ref (tb))]) rfl (fun ls hl => ?_)
                                        refine z_goto C dL_isBoard_430 220 (by decide) ?_
                                        exact ih220 (1 + w) (by omega) (by omega) ls (lv_sub hl [0, 5, 2, 1, 6, 7, 8, 9, 10, 11, 12, 13, 14, 15, 16, 17, 18, 19, 20] rfl)
                                  refine z_il C hl dL_isBoard_371 4 rfl 373 rfl ?_
                                  refine z_il C hl dL_isBoard_373 3 rfl 375 rfl ?_
                                  refine z_iconst C dL_isBoard_375 376 rfl ?_
                                  refine z_irem C dL_isBoard_376 377 rfl (by omega) ((w % 3)) (rfl) ?_
                                  refine z_if_le C dL_isBoard_377 406 380 (by decide) rfl (by omega) (fun c377 => ?_) (fun c377 => ?_)
                                  · skip
                                    exact J406 ls (lv_sub hl [0, 1, 2, 3, 5, 6, 7, 8, 9, 10, 11, 12, 13, 14, 15, 16, 17, 18, 19, 20] rfl)
                                  · skip
                                    refine z_il C hl dL_isBoard_380 1 rfl 382 rfl ?_
                                    refine z_if_ne C dL_isBoard_382 406 385 (by decide) rfl (by omega) (fun c382 => ?_) (fun c382 => ?_)
                                    · skip
                                      exact J406 ls (lv_sub hl [0, 1, 2, 3, 5, 6, 7, 8, 9, 10, 11, 12, 13, 14, 15, 16, 17, 18, 19, 20] rfl)
                                    · skip
                                      refine z_al_n C hl dL_isBoard_385 20 rfl 386 rfl ?_
                                      refine z_il C hl dL_isBoard_386 11 rfl 388 rfl ?_
                                      refine z_il C hl dL_isBoard_388 3 rfl 390 rfl ?_
                                      refine z_iconst C dL_isBoard_390 391 rfl ?_
                                      refine z_idiv C dL_isBoard_391 392 rfl (by omega) ((w / 3)) (rfl) ?_
                                      refine z_il C hl dL_isBoard_392 3 rfl 394 rfl ?_
                                      refine z_iconst C dL_isBoard_394 395 rfl ?_
                                      refine z_irem C dL_isBoard_395 396 rfl (by omega) ((w % 3)) (rfl) ?_
                                      refine z_VR (r := .int (iI (whyR v k (w / 3) (w % 3)))) (rest := [.int (iI (0))]) C (m_why l G tb r x cu h pa o sg qn qb sn v k (w / 3) (w % 3) w0 (by omega) (by omega) (by omega)) kV_L_21 ⟨Nat.le_of_ble_eq_true rfl, Nat.le_of_ble_eq_true rfl⟩ (gP_rg hP [0, 1, 2] rfl) hK 0 rfl rfl rfl hl.1 rfl (Nat.le_of_ble_eq_true rfl) dL_isBoard_396 ⟨Nat.le_of_ble_eq_true rfl, Nat.le_of_ble_eq_true rfl⟩ 399 rfl ?_
                                      refine z_top (b := .int (iI (reaZ v k (w / 3) (w % 3) false))) (congrArg (fun z => Value.int (iI z)) (why_is (v := v) (b := k) (d := (w / 3)) (n := (w % 3)) (by omega) (by omega) (by omega))) ?_
                                      have rz396 := reaZ_rng v k (w / 3) (w % 3) false
                                      refine z_if_eq C dL_isBoard_399 406 402 (by decide) rfl (by omega) (fun c399 => ?_) (fun c399 => ?_)
                                      · skip
                                        exact J406 ls (lv_sub hl [0, 1, 2, 3, 5, 6, 7, 8, 9, 10, 11, 12, 13, 14, 15, 16, 17, 18, 19, 20] rfl)
                                      · exfalso; exact c399 (rea_le w0 (by omega) (by omega) c382)
                                refine z_al_n C hl dL_isBoard_260 19 rfl 261 rfl ?_
                                refine z_bipush C dL_isBoard_261 (by decide) 263 rfl ?_
                                refine z_VR (r := .int (iI (cntR v n 0 11))) (rest := []) C (m_count l G tb r x cu h pa o sg qn qb sn S g n false v 0 11 w0 (by omega)) kV_L_8 ⟨Nat.le_of_ble_eq_true rfl, Nat.le_of_ble_eq_true rfl⟩ hP hK 0 rfl rfl rfl hl.1 rfl (Nat.le_of_ble_eq_true rfl) dL_isBoard_263 ⟨Nat.le_of_ble_eq_true rfl, Nat.le_of_ble_eq_true rfl⟩ 266 rfl ?_
                                refine z_top (b := .int (iI (bZ (overB v)))) (congrArg (fun z => Value.int (iI z)) (rfl)) ?_
                                refine z_iconst C dL_isBoard_266 267 rfl ?_
                                refine z_icmp_ne C dL_isBoard_267 284 270 (by decide) rfl (by have := bZ_rng (overB v); omega) (fun c267 => ?_) (fun c267 => ?_)
                                · skip
                                  have ho : overB v = false := by cases hb : overB v with | false => rfl | true => exact absurd (bZ_t hb) c267
                                  refine z_il C hl dL_isBoard_284 9 rfl 286 rfl ?_
                                  refine z_if_eq C dL_isBoard_286 303 289 (by decide) rfl (by omega) (fun c286 => ?_) (fun c286 => ?_)
                                  · skip
                                    refine z_il C hl dL_isBoard_303 6 rfl 305 rfl ?_
                                    refine z_al_n C hl dL_isBoard_305 19 rfl 306 rfl ?_
                                    refine z_iconst C dL_isBoard_306 307 rfl ?_
                                    refine z_VR (r := .int (iI (cntR v n 0 1))) (rest := [.int (iI (v (72 + 5 * k)))]) C (m_count l G tb r x cu h pa o sg qn qb sn S g n false v 0 1 w0 (by omega)) kV_L_8 ⟨Nat.le_of_ble_eq_true rfl, Nat.le_of_ble_eq_true rfl⟩ hP hK 0 rfl rfl rfl hl.1 rfl (Nat.le_of_ble_eq_true rfl) dL_isBoard_307 ⟨Nat.le_of_ble_eq_true rfl, Nat.le_of_ble_eq_true rfl⟩ 310 rfl ?_
                                    refine z_top (b := .int (iI ((v 126 % 2)))) (congrArg (fun z => Value.int (iI z)) (rfl)) ?_
                                    refine z_icmp_eq C dL_isBoard_310 327 313 (by decide) rfl (by omega) (fun c310 => ?_) (fun c310 => ?_)
                                    · skip
                                      refine z_il C hl dL_isBoard_327 5 rfl 329 rfl ?_
                                      refine z_ifb_ne C dL_isBoard_329 346 332 (by decide) rfl (fun c329 => ?_) (fun c329 => ?_)
                                      · skip
                                        refine z_il C hl dL_isBoard_346 1 rfl 348 rfl ?_
                                        refine z_if_eq C dL_isBoard_348 364 351 (by decide) rfl (by omega) (fun c348 => ?_) (fun c348 => ?_)
                                        · skip
                                          refine z_iconst C dL_isBoard_364 365 rfl ?_
                                          refine z_goto C dL_isBoard_365 369 (by decide) ?_
                                          exact J369 ls (lv_sub hl [1, 0, 2, 3, 4, 5, 6, 7, 8, 9, 10, 11, 12, 13, 14, 15, 16, 17, 18, 19] rfl)
                                        · skip
                                          have h5 := rea_5 (d := w / 3) (n := w % 3 + 1) ho c286 c310 c329
                                          refine z_il C hl dL_isBoard_351 1 rfl 353 rfl ?_
                                          refine z_iconst C dL_isBoard_353 354 rfl ?_
                                          refine z_icmp_le C dL_isBoard_354 368 357 (by decide) rfl (by omega) (fun c354 => ?_) (fun c354 => ?_)
                                          · exfalso; omega
                                          · skip
                                            refine z_il C hl dL_isBoard_357 1 rfl 359 rfl ?_
                                            refine z_bipush C dL_isBoard_359 (by decide) 361 rfl ?_
                                            refine z_icmp_ge C dL_isBoard_361 368 364 (by decide) rfl (by omega) (fun c361 => ?_) (fun c361 => ?_)
                                            · exfalso; omega
                                            · skip
                                              refine z_iconst C dL_isBoard_364 365 rfl ?_
                                              refine z_goto C dL_isBoard_365 369 (by decide) ?_
                                              exact J369 ls (lv_sub hl [1, 0, 2, 3, 4, 5, 6, 7, 8, 9, 10, 11, 12, 13, 14, 15, 16, 17, 18, 19] rfl)
                                      · skip
                                        refine z_il C hl dL_isBoard_332 1 rfl 334 rfl ?_
                                        refine z_iconst C dL_isBoard_334 335 rfl ?_
                                        refine z_icmp_ne C dL_isBoard_335 342 338 (by decide) rfl (by omega) (fun c335 => ?_) (fun c335 => ?_)
                                        · exact absurd (rea_4 ho c286 c310 c329) c335
                                        · skip
                                          refine z_iconst C dL_isBoard_338 339 rfl ?_
                                          refine z_goto C dL_isBoard_339 369 (by decide) ?_
                                          exact J369 ls (lv_sub hl [1, 0, 2, 3, 4, 5, 6, 7, 8, 9, 10, 11, 12, 13, 14, 15, 16, 17, 18, 19] rfl)
                                    · skip
                                      refine z_il C hl dL_isBoard_313 1 rfl 315 rfl ?_
                                      refine z_iconst C dL_isBoard_315 316 rfl ?_
                                      refine z_icmp_ne C dL_isBoard_316 323 319 (by decide) rfl (by omega) (fun c316 => ?_) (fun c316 => ?_)
                                      · exact absurd (rea_3 ho c286 c310) c316
                                      · skip
                                        refine z_iconst C dL_isBoard_319 320 rfl ?_
                                        refine z_goto C dL_isBoard_320 369 (by decide) ?_
                                        exact J369 ls (lv_sub hl [1, 0, 2, 3, 4, 5, 6, 7, 8, 9, 10, 11, 12, 13, 14, 15, 16, 17, 18, 19] rfl)
                                  · skip
                                    refine z_il C hl dL_isBoard_289 1 rfl 291 rfl ?_
                                    refine z_iconst C dL_isBoard_291 292 rfl ?_
                                    refine z_icmp_ne C dL_isBoard_292 299 295 (by decide) rfl (by omega) (fun c292 => ?_) (fun c292 => ?_)
                                    · exact absurd (rea_2 ho c286) c292
                                    · skip
                                      refine z_iconst C dL_isBoard_295 296 rfl ?_
                                      refine z_goto C dL_isBoard_296 369 (by decide) ?_
                                      exact J369 ls (lv_sub hl [1, 0, 2, 3, 4, 5, 6, 7, 8, 9, 10, 11, 12, 13, 14, 15, 16, 17, 18, 19] rfl)
                                · skip
                                  have ho : overB v = true := bZ_eq1.mp c267
                                  refine z_il C hl dL_isBoard_270 1 rfl 272 rfl ?_
                                  refine z_iconst C dL_isBoard_272 273 rfl ?_
                                  refine z_icmp_ne C dL_isBoard_273 280 276 (by decide) rfl (by omega) (fun c273 => ?_) (fun c273 => ?_)
                                  · exact absurd (rea_1 ho) c273
                                  · skip
                                    refine z_iconst C dL_isBoard_276 277 rfl ?_
                                    refine z_goto C dL_isBoard_277 369 (by decide) ?_
                                    exact J369 ls (lv_sub hl [1, 0, 2, 3, 4, 5, 6, 7, 8, 9, 10, 11, 12, 13, 14, 15, 16, 17, 18, 19] rfl)
                          exact L220 (Int.toNat (12 - 0) + 1) 0 (by omega) (by omega) ls (lv_sub hl [0, 1, 2, 3, 4, 5, 6, 7, 8, 9, 10, 11, 12, 13, 14, 15, 16, 17, 18] rfl)
                        refine z_il C hl dL_isBoard_175 4 rfl 177 rfl ?_
                        refine z_if_ne C dL_isBoard_177 204 180 (by decide) rfl (by omega) (fun c177 => ?_) (fun c177 => ?_)
                        · skip
                          exact J204 ls (lv_sub hl [0, 1, 2, 3, 4, 5, 6, 7, 8, 9, 10, 11, 12, 13, 14] rfl)
                        · skip
                          refine z_al_n C hl dL_isBoard_180 14 rfl 181 rfl ?_
                          refine z_il C hl dL_isBoard_181 3 rfl 183 rfl ?_
                          refine z_iconst C dL_isBoard_183 184 rfl ?_
                          refine z_VR (r := .int (iI (celR v (atZ v k) 3))) (rest := []) C (m_cellOf l G tb r x cu h pa o sg qn qb sn v (atZ v k) 3 w0 (by omega) (by omega)) kV_L_18 ⟨Nat.le_of_ble_eq_true rfl, Nat.le_of_ble_eq_true rfl⟩ (gP_rg hP [0, 2] rfl) hK 0 rfl rfl rfl hl.1 rfl (Nat.le_of_ble_eq_true rfl) dL_isBoard_184 ⟨Nat.le_of_ble_eq_true rfl, Nat.le_of_ble_eq_true rfl⟩ 187 rfl ?_
                          refine z_top (b := .int (iI (batZ v (atZ v k)))) (congrArg (fun z => Value.int (iI z)) (cel_3 (v := v) (c := (atZ v k)) (by omega))) ?_
                          have rb184 := batZ_rng w0 (atZ v k)
                          refine z_il C hl dL_isBoard_187 5 rfl 189 rfl ?_
                          refine z_icmp_ne C dL_isBoard_189 208 192 (by decide) rfl (by omega) (fun c189 => ?_) (fun c189 => ?_)
                          · exfalso; exact c189 (by rw [atZ_on c177]; exact bat_own i (by omega) c177)
                          · skip
                            refine z_il C hl dL_isBoard_192 3 rfl 194 rfl ?_
                            refine z_if_eq C dL_isBoard_194 208 197 (by decide) rfl (by omega) (fun c194 => ?_) (fun c194 => ?_)
                            · exfalso; omega
                            · skip
                              refine z_il C hl dL_isBoard_197 3 rfl 199 rfl ?_
                              refine z_bipush C dL_isBoard_199 (by decide) 201 rfl ?_
                              refine z_icmp_eq C dL_isBoard_201 208 204 (by decide) rfl (by omega) (fun c201 => ?_) (fun c201 => ?_)
                              · exfalso; omega
                              · skip
                                exact J204 ls (lv_sub hl [0, 1, 2, 3, 4, 5, 6, 7, 8, 9, 10, 11, 12, 13, 14] rfl)
          refine z_il C hl dL_isBoard_81 3 rfl 83 rfl ?_
          refine z_if_ne C dL_isBoard_83 107 86 (by decide) rfl (by omega) (fun c83 => ?_) (fun c83 => ?_)
          · skip
            refine z_iconst C dL_isBoard_107 108 rfl ?_
            refine z_top (b := .int (iI (bZ (onB v k && floB v k)))) (congrArg (fun z => Value.int (iI z)) (bZ_f (flo_off c83)).symm) ?_
            exact J108 ls (lv_sub hl [0, 1, 2, 3, 4, 5, 6, 7, 8, 9, 10, 11, 12, 13] rfl)
          · skip
            refine z_il C hl dL_isBoard_86 2 rfl 88 rfl ?_
            refine z_if_lt C dL_isBoard_88 107 91 (by decide) rfl (by omega) (fun c88 => ?_) (fun c88 => ?_)
            · skip
              refine z_iconst C dL_isBoard_107 108 rfl ?_
              refine z_top (b := .int (iI (bZ (onB v k && floB v k)))) (congrArg (fun z => Value.int (iI z)) (bZ_f (by exfalso; omega)).symm) ?_
              exact J108 ls (lv_sub hl [0, 1, 2, 3, 4, 5, 6, 7, 8, 9, 10, 11, 12, 13] rfl)
            · skip
              refine z_al_n C hl dL_isBoard_91 13 rfl 92 rfl ?_
              refine z_il C hl dL_isBoard_92 2 rfl 94 rfl ?_
              refine z_iconst C dL_isBoard_94 95 rfl ?_
              refine z_VR (r := .int (iI (celR v (atZ v k) 2))) (rest := []) C (m_cellOf l G tb r x cu h pa o sg qn qb sn v (atZ v k) 2 w0 (by omega) (by omega)) kV_L_18 ⟨Nat.le_of_ble_eq_true rfl, Nat.le_of_ble_eq_true rfl⟩ (gP_rg hP [0, 2] rfl) hK 0 rfl rfl rfl hl.1 rfl (Nat.le_of_ble_eq_true rfl) dL_isBoard_95 ⟨Nat.le_of_ble_eq_true rfl, Nat.le_of_ble_eq_true rfl⟩ 98 rfl ?_
              refine z_top (b := .int (iI (watZ v (atZ v k)))) (congrArg (fun z => Value.int (iI z)) (cel_2 (v := v) (c := (atZ v k)) (by omega))) ?_
              have rw95 := wat_is v (atZ v k)
              have rh95 := w0.h (atZ v k) (by omega)
              have rt95 := tide_lim w0 (v 126)
              refine z_il C hl dL_isBoard_98 1 rfl 100 rfl ?_
              refine z_icmp_lt C dL_isBoard_100 107 103 (by decide) rfl (by omega) (fun c100 => ?_) (fun c100 => ?_)
              · skip
                refine z_iconst C dL_isBoard_107 108 rfl ?_
                refine z_top (b := .int (iI (bZ (onB v k && floB v k)))) (congrArg (fun z => Value.int (iI z)) (bZ_f (by cases hfl : (onB v k && floB v k) with | false => rfl | true => exact absurd ((flo_wat hw1 c83).mp hfl) (by rw [← atZ_on c83]; omega))).symm) ?_
                exact J108 ls (lv_sub hl [0, 1, 2, 3, 4, 5, 6, 7, 8, 9, 10, 11, 12, 13] rfl)
              · skip
                refine z_iconst C dL_isBoard_103 104 rfl ?_
                refine z_goto C dL_isBoard_104 108 (by decide) ?_
                refine z_top (b := .int (iI (bZ (onB v k && floB v k)))) (congrArg (fun z => Value.int (iI z)) (bZ_t ((flo_wat hw1 c83).mpr (by rw [← atZ_on c83]; omega))).symm) ?_
                exact J108 ls (lv_sub hl [0, 1, 2, 3, 4, 5, 6, 7, 8, 9, 10, 11, 12, 13] rfl)
  exact L28 (Int.toNat (v 127 - 0) + 1) 0 (by omega) (by omega) ls (lv_sub hl [0, 1, 2, 3, 4, 5, 6, 7, 8, 9] rfl)
