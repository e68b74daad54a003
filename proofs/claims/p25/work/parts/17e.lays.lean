set_option maxHeartbeats 16000000 in
set_option maxRecDepth 100000 in
theorem m_lwLay0 (l : Launch) (G : gT) (tb r x cu h pa o sg : Nat) (qn qb sn : Nat → Nat) (S : Nat → Nat → Nat) (u v : Int → Int) (g : Nat → Int → Int) (n : Int) (vv ww : Int32) (i : Ia v) (hn9 : 0 ≤ n ∧ n ≤ 4) (ht0 : v 126 = 0) (hv : vv &&& iI 3 = iI 0) (hD : gD ([[tbO tb qn qb r x h o], [(r, .inr (3, [.ref (qn 0)]))], stW G qn v, stW G qb u, hiW G h pa sn n S g false, [orO G o sg 0]] : List va_W).flatten) : MW l G yL_lays cL_lays 14 (some .boolean) 7 [.ref (tb), .int (vv), .int (ww)] [[tbO tb qn qb r x h o], [(r, .inr (3, [.ref (qn 0)]))], stW G qn v, stW G qb u, hiW G h pa sn n S g false, [orO G o sg 0]] [[tbO tb qn qb r x h o], [(r, .inr (3, [.ref (qn 0)]))], stW G qn (layV v (lowZ ww 36) (lowZ (ww >>> (iI (6) &&& 31)) 4) (bZ (decide (lwK ww = 0)))), stW G qb v, hiW G h pa sn (actN (layR v (lowZ ww 36) (lowZ (ww >>> (iI (6) &&& 31)) 4) (bZ (decide (lwK ww = 0)))) n) (actS (layR v (lowZ ww 36) (lowZ (ww >>> (iI (6) &&& 31)) 4) (bZ (decide (lwK ww = 0)))) n S) (actG (layR v (lowZ ww 36) (lowZ (ww >>> (iI (6) &&& 31)) 4) (bZ (decide (lwK ww = 0)))) n g v) false, [orO G o sg 0]] ZT (some (.int (iI (bZ (true))))) := by
  refine enterW (own := RL) (by decide +kernel) rfl (Nat.le_of_ble_eq_true rfl) hD ?_
  intro p e s m below meth c C hW hK hZ ls hl
  have hl : lv_has ls 14 [(0, .ref (tb)), (1, .int (vv)), (2, .int (ww))] := hl
  have w0 := i.w
  have hn := w0.n
  have ht := w0.t
  have hs := w0.s
  have hp := perZ_rng w0
  have hz := i.h
  have rk := lwK_rng ww
  have rp := lwP_rng ww
  have rv := val_rng ww
  refine z_il_n C hl dL_lays_0 2 rfl 1 rfl ?_
  refine z_bipush C dL_lays_1 (by decide) 3 rfl ?_
  refine z_SR (r := .int (iI (lowZ ww 36))) (rest := []) C (m_low l G (ww) 36 (by omega)) kS_L_59 ⟨Nat.le_of_ble_eq_true rfl, Nat.le_of_ble_eq_true rfl⟩ (gP_nil) hK rfl hl.1 rfl (Nat.le_of_ble_eq_true rfl) dL_lays_3 ⟨Nat.le_of_ble_eq_true rfl, Nat.le_of_ble_eq_true rfl⟩ 6 rfl ?_
  have rl3 := lowZ_rng (ww) (n := 36) (by omega)
  have ra := lowZ_rng ww (n := 36) (by omega)
  refine z_is_n C hl dL_lays_6 7 rfl (by decide) (lv' := [(3, .int (iI (lowZ ww 36))), (0, .ref (tb)), (1, .int (vv)), (2, .int (ww))]) rfl (fun ls hl => ?_)
  refine z_il_n C hl dL_lays_7 3 rfl 8 rfl ?_
  refine z_bipush C dL_lays_8 (by decide) 10 rfl ?_
  refine z_ishr C dL_lays_10 11 rfl ?_
  refine z_iconst C dL_lays_11 12 rfl ?_
  refine z_SR (r := .int (iI (lowZ (ww >>> ((iI (6)) &&& 31)) 4))) (rest := []) C (m_low l G (ww >>> ((iI (6)) &&& 31)) 4 (by omega)) kS_L_59 ⟨Nat.le_of_ble_eq_true rfl, Nat.le_of_ble_eq_true rfl⟩ (gP_nil) hK rfl hl.1 rfl (Nat.le_of_ble_eq_true rfl) dL_lays_12 ⟨Nat.le_of_ble_eq_true rfl, Nat.le_of_ble_eq_true rfl⟩ 15 rfl ?_
  have rl12 := lowZ_rng (ww >>> ((iI (6)) &&& 31)) (n := 4) (by omega)
  refine z_is C hl dL_lays_15 17 rfl (by decide) (lv' := [(4, .int (iI (lowZ (ww >>> ((iI (6)) &&& 31)) 4))), (3, .int (iI (lowZ ww 36))), (0, .ref (tb)), (1, .int (vv)), (2, .int (ww))]) rfl (fun ls hl => ?_)
  refine z_il_n C hl dL_lays_17 4 rfl 18 rfl ?_
  refine z_bipush C dL_lays_18 (by decide) 20 rfl ?_
  refine z_ishr C dL_lays_20 21 rfl ?_
  refine z_iconst C dL_lays_21 22 rfl ?_
  refine z_iand C dL_lays_22 23 rfl ?_
  refine z_top (b := .int (iI (lwK ww))) (congrArg Value.int (and_ex _ 2 3 (by decide))) ?_
  refine z_mif_ne C dL_lays_23 dL_lays_26 dL_lays_27 dL_lays_30 (by omega) rfl rfl rfl 31 rfl ?_
  refine z_is C hl dL_lays_31 33 rfl (by decide) (lv' := [(5, .int (iI (bZ (decide (lwK ww = 0))))), (4, .int (iI (lowZ (ww >>> ((iI (6)) &&& 31)) 4))), (3, .int (iI (lowZ ww 36))), (0, .ref (tb)), (1, .int (vv)), (2, .int (ww))]) rfl (fun ls hl => ?_)
  refine z_il_n C hl dL_lays_33 2 rfl 34 rfl ?_
  refine z_if_eq C dL_lays_34 43 37 (by decide) rfl (by omega) (fun c34 => ?_) (fun c34 => ?_)
  · skip
    refine z_iconst C dL_lays_43 44 rfl ?_
    refine z_goto C dL_lays_44 48 (by decide) ?_
    refine z_is C hl dL_lays_48 50 rfl (by decide) (lv' := [(6, .int (iI (1))), (5, .int (iI (bZ (decide (lwK ww = 0))))), (4, .int (iI (lowZ (ww >>> ((iI (6)) &&& 31)) 4))), (3, .int (iI (lowZ ww 36))), (0, .ref (tb)), (1, .int (vv)), (2, .int (ww))]) rfl (fun ls hl => ?_)
    refine z_il_n C hl dL_lays_50 5 rfl 51 rfl ?_
    refine z_iconst C dL_lays_51 52 rfl ?_
    refine z_iand C dL_lays_52 53 rfl ?_
    refine z_top (b := .int (iI (0))) (congrArg Value.int hv) ?_
    refine z_swIn C dL_lays_53 (by omega) (by omega) 27 80 rfl (by decide) ?_
    refine z_al_n C hl dL_lays_80 4 rfl 81 rfl ?_
    refine z_il_n C hl dL_lays_81 3 rfl 82 rfl ?_
    refine z_iconst C dL_lays_82 83 rfl ?_
    refine z_VR (r := .int (iI (celR v (lowZ ww 36) 0))) (rest := []) C (m_cellOf l G tb r x cu h pa o sg qn qb sn v (lowZ ww 36) 0 w0 (by omega) (by omega)) kV_L_18 ⟨Nat.le_of_ble_eq_true rfl, Nat.le_of_ble_eq_true rfl⟩ (gP_rg hW.1 [0, 2] rfl) hK 0 rfl rfl rfl hl.1 rfl (Nat.le_of_ble_eq_true rfl) dL_lays_83 ⟨Nat.le_of_ble_eq_true rfl, Nat.le_of_ble_eq_true rfl⟩ 86 rfl ?_
    refine z_top (b := .int (iI (v (lowZ ww 36)))) (congrArg (fun z => Value.int (iI z)) (cel_0 (v := v) (c := (lowZ ww 36)) (by omega))) ?_
    have rh83 := w0.h (lowZ ww 36) (by omega)
    refine z_is C hl dL_lays_86 88 rfl (by decide) (lv' := [(7, .int (iI (v (lowZ ww 36)))), (6, .int (iI (1))), (5, .int (iI (bZ (decide (lwK ww = 0))))), (4, .int (iI (lowZ (ww >>> ((iI (6)) &&& 31)) 4))), (3, .int (iI (lowZ ww 36))), (0, .ref (tb)), (1, .int (vv)), (2, .int (ww))]) rfl (fun ls hl => ?_)
    refine z_il C hl dL_lays_88 0 rfl 90 rfl ?_
    refine z_il C hl dL_lays_90 3 rfl 92 rfl ?_
    refine z_icmp_ne C dL_lays_92 118 95 (by decide) rfl (by omega) (fun c92 => ?_) (fun c92 => ?_)
    · skip
      refine z_iconst C dL_lays_118 119 rfl ?_
      refine z_is C hl dL_lays_119 121 rfl (by decide) (lv' := [(8, .int (iI (0))), (7, .int (iI (v (lowZ ww 36)))), (6, .int (iI (1))), (5, .int (iI (bZ (decide (lwK ww = 0))))), (4, .int (iI (lowZ (ww >>> ((iI (6)) &&& 31)) 4))), (3, .int (iI (lowZ ww 36))), (0, .ref (tb)), (1, .int (vv)), (2, .int (ww))]) rfl (fun ls hl => ?_)
      refine z_al_n C hl dL_lays_121 6 rfl 122 rfl ?_
      refine z_il_n C hl dL_lays_122 5 rfl 123 rfl ?_
      refine z_il C hl dL_lays_123 4 rfl 125 rfl ?_
      refine z_il C hl dL_lays_125 3 rfl 127 rfl ?_
      refine z_VWi (r := .int (iI (layR v (lowZ ww 36) (lowZ (ww >>> ((iI (6)) &&& 31)) 4) (bZ (decide (lwK ww = 0)))))) (rest := []) C (m_sand l G tb r x cu h pa o sg qn qb sn S g n false u v (lowZ ww 36) (lowZ (ww >>> ((iI (6)) &&& 31)) 4) (decide (lwK ww = 0)) (by omega) w0 (by omega) (by omega) (gD_rg hW.2.1 [0, 1, 2, 3, 4] (by decide) rfl)) kV_L_62 ⟨Nat.le_of_ble_eq_true rfl, Nat.le_of_ble_eq_true rfl⟩ hW hK [0, 1, 2, 3, 4] rfl ((sameA_eq rfl (sameA_eq rfl (sameA_eq rfl (sameA_eq rfl (sameA_cons (hi_permA _ _) sameA_nil)))))) 0 rfl rfl rfl hl.1 rfl (Nat.le_of_ble_eq_true rfl) dL_lays_127 ⟨Nat.le_of_ble_eq_true rfl, Nat.le_of_ble_eq_true rfl⟩ 130 rfl (rs' := [[tbO tb qn qb r x h o], [(r, .inr (3, [.ref (qn 0)]))], stW G qn (layV v (lowZ ww 36) (lowZ (ww >>> ((iI (6)) &&& 31)) 4) (bZ (decide (lwK ww = 0)))), stW G qb v, hiW G h pa sn (actN (layR v (lowZ ww 36) (lowZ (ww >>> ((iI (6)) &&& 31)) 4) (bZ (decide (lwK ww = 0)))) n) (actS (layR v (lowZ ww 36) (lowZ (ww >>> ((iI (6)) &&& 31)) 4) (bZ (decide (lwK ww = 0)))) n S) (actG (layR v (lowZ ww 36) (lowZ (ww >>> ((iI (6)) &&& 31)) 4) (bZ (decide (lwK ww = 0)))) n g v) false, [orO G o sg 0]]) rfl (fun H locs hW hkeep => ?_)
      have rly := layR_rng w0 (lowZ ww 36) (lowZ (ww >>> ((iI (6)) &&& 31)) 4) (bZ (decide (lwK ww = 0)))
      refine z_il C hl dL_lays_130 2 rfl 132 rfl ?_
      refine z_if_eq C dL_lays_132 140 135 (by decide) rfl (by omega) (fun c132 => ?_) (fun c132 => ?_)
      · exfalso; omega
      · skip
        refine z_bipush C dL_lays_135 (by decide) 137 rfl ?_
        refine z_goto C dL_lays_137 152 (by decide) ?_
        refine z_icmp_ne C dL_lays_152 175 155 (by decide) rfl (by omega) (fun c152 => ?_) (fun c152 => ?_)
        · exfalso; unfold layR at c152; (repeat' split at c152) <;> first | omega | (rw [bZ_if] at *; omega)
        · skip
          refine z_il C hl dL_lays_155 2 rfl 157 rfl ?_
          refine z_if_ne C dL_lays_157 171 160 (by decide) rfl (by omega) (fun c157 => ?_) (fun c157 => ?_)
          · skip
            refine z_iconst C dL_lays_171 172 rfl ?_
            refine z_goto C dL_lays_172 176 (by decide) ?_
            exact z_wz C hW dL_lays_176 (rfl) rfl
          · exfalso; omega
    · skip
      refine z_al_n C hl dL_lays_95 5 rfl 96 rfl ?_
      refine z_il_n C hl dL_lays_96 4 rfl 97 rfl ?_
      refine z_iconst C dL_lays_97 98 rfl ?_
      refine z_VR (r := .int (iI (celR v (lowZ ww 36) 1))) (rest := []) C (m_cellOf l G tb r x cu h pa o sg qn qb sn v (lowZ ww 36) 1 w0 (by omega) (by omega)) kV_L_18 ⟨Nat.le_of_ble_eq_true rfl, Nat.le_of_ble_eq_true rfl⟩ (gP_rg hW.1 [0, 2] rfl) hK 0 rfl rfl rfl hl.1 rfl (Nat.le_of_ble_eq_true rfl) dL_lays_98 ⟨Nat.le_of_ble_eq_true rfl, Nat.le_of_ble_eq_true rfl⟩ 101 rfl ?_
      refine z_top (b := .int (iI (v (36 + lowZ ww 36)))) (congrArg (fun z => Value.int (iI z)) (cel_1 (v := v) (c := (lowZ ww 36)) (by omega))) ?_
      have rr98 := w0.r (lowZ ww 36) (by omega)
      refine z_il C hl dL_lays_101 2 rfl 103 rfl ?_
      refine z_mb_eq C dL_lays_103 dL_lays_106 dL_lays_107 dL_lays_110 rfl rfl rfl 111 rfl ?_
      refine z_micmp_ne C dL_lays_111 dL_lays_114 dL_lays_115 dL_lays_118 (by have := bZ_rng (decide (lwK ww = 0)); omega) rfl rfl rfl 119 rfl ?_
      refine z_is C hl dL_lays_119 121 rfl (by decide) (lv' := [(8, .int (iI (bZ (decide (v (36 + lowZ ww 36) = bZ (decide (lwK ww = 0))))))), (7, .int (iI (v (lowZ ww 36)))), (6, .int (iI (1))), (5, .int (iI (bZ (decide (lwK ww = 0))))), (4, .int (iI (lowZ (ww >>> ((iI (6)) &&& 31)) 4))), (3, .int (iI (lowZ ww 36))), (0, .ref (tb)), (1, .int (vv)), (2, .int (ww))]) rfl (fun ls hl => ?_)
      refine z_al_n C hl dL_lays_121 6 rfl 122 rfl ?_
      refine z_il_n C hl dL_lays_122 5 rfl 123 rfl ?_
      refine z_il C hl dL_lays_123 4 rfl 125 rfl ?_
      refine z_il C hl dL_lays_125 3 rfl 127 rfl ?_
      refine z_VWi (r := .int (iI (layR v (lowZ ww 36) (lowZ (ww >>> ((iI (6)) &&& 31)) 4) (bZ (decide (lwK ww = 0)))))) (rest := []) C (m_sand l G tb r x cu h pa o sg qn qb sn S g n false u v (lowZ ww 36) (lowZ (ww >>> ((iI (6)) &&& 31)) 4) (decide (lwK ww = 0)) (by omega) w0 (by omega) (by omega) (gD_rg hW.2.1 [0, 1, 2, 3, 4] (by decide) rfl)) kV_L_62 ⟨Nat.le_of_ble_eq_true rfl, Nat.le_of_ble_eq_true rfl⟩ hW hK [0, 1, 2, 3, 4] rfl ((sameA_eq rfl (sameA_eq rfl (sameA_eq rfl (sameA_eq rfl (sameA_cons (hi_permA _ _) sameA_nil)))))) 0 rfl rfl rfl hl.1 rfl (Nat.le_of_ble_eq_true rfl) dL_lays_127 ⟨Nat.le_of_ble_eq_true rfl, Nat.le_of_ble_eq_true rfl⟩ 130 rfl (rs' := [[tbO tb qn qb r x h o], [(r, .inr (3, [.ref (qn 0)]))], stW G qn (layV v (lowZ ww 36) (lowZ (ww >>> ((iI (6)) &&& 31)) 4) (bZ (decide (lwK ww = 0)))), stW G qb v, hiW G h pa sn (actN (layR v (lowZ ww 36) (lowZ (ww >>> ((iI (6)) &&& 31)) 4) (bZ (decide (lwK ww = 0)))) n) (actS (layR v (lowZ ww 36) (lowZ (ww >>> ((iI (6)) &&& 31)) 4) (bZ (decide (lwK ww = 0)))) n S) (actG (layR v (lowZ ww 36) (lowZ (ww >>> ((iI (6)) &&& 31)) 4) (bZ (decide (lwK ww = 0)))) n g v) false, [orO G o sg 0]]) rfl (fun H locs hW hkeep => ?_)
      have rly := layR_rng w0 (lowZ ww 36) (lowZ (ww >>> ((iI (6)) &&& 31)) 4) (bZ (decide (lwK ww = 0)))
      refine z_il C hl dL_lays_130 2 rfl 132 rfl ?_
      refine z_if_eq C dL_lays_132 140 135 (by decide) rfl (by omega) (fun c132 => ?_) (fun c132 => ?_)
      · exfalso; omega
      · skip
        refine z_bipush C dL_lays_135 (by decide) 137 rfl ?_
        refine z_goto C dL_lays_137 152 (by decide) ?_
        refine z_icmp_ne C dL_lays_152 175 155 (by decide) rfl (by omega) (fun c152 => ?_) (fun c152 => ?_)
        · exfalso; unfold layR at c152; (repeat' split at c152) <;> first | omega | (rw [bZ_if] at *; omega)
        · skip
          refine z_il C hl dL_lays_155 2 rfl 157 rfl ?_
          refine z_if_ne C dL_lays_157 171 160 (by decide) rfl (by omega) (fun c157 => ?_) (fun c157 => ?_)
          · skip
            refine z_iconst C dL_lays_171 172 rfl ?_
            refine z_goto C dL_lays_172 176 (by decide) ?_
            exact z_wz C hW dL_lays_176 (rfl) rfl
          · exfalso; omega
  · skip
    refine z_il_n C hl dL_lays_37 2 rfl 38 rfl ?_
    refine z_bipush C dL_lays_38 (by decide) 40 rfl ?_
    refine z_icmp_ne C dL_lays_40 47 43 (by decide) rfl (by omega) (fun c40 => ?_) (fun c40 => ?_)
    · skip
      refine z_iconst C dL_lays_47 48 rfl ?_
      refine z_is C hl dL_lays_48 50 rfl (by decide) (lv' := [(6, .int (iI (0))), (5, .int (iI (bZ (decide (lwK ww = 0))))), (4, .int (iI (lowZ (ww >>> ((iI (6)) &&& 31)) 4))), (3, .int (iI (lowZ ww 36))), (0, .ref (tb)), (1, .int (vv)), (2, .int (ww))]) rfl (fun ls hl => ?_)
      refine z_il_n C hl dL_lays_50 5 rfl 51 rfl ?_
      refine z_iconst C dL_lays_51 52 rfl ?_
      refine z_iand C dL_lays_52 53 rfl ?_
      refine z_top (b := .int (iI (0))) (congrArg Value.int hv) ?_
      refine z_swIn C dL_lays_53 (by omega) (by omega) 27 80 rfl (by decide) ?_
      refine z_al_n C hl dL_lays_80 4 rfl 81 rfl ?_
      refine z_il_n C hl dL_lays_81 3 rfl 82 rfl ?_
      refine z_iconst C dL_lays_82 83 rfl ?_
      refine z_VR (r := .int (iI (celR v (lowZ ww 36) 0))) (rest := []) C (m_cellOf l G tb r x cu h pa o sg qn qb sn v (lowZ ww 36) 0 w0 (by omega) (by omega)) kV_L_18 ⟨Nat.le_of_ble_eq_true rfl, Nat.le_of_ble_eq_true rfl⟩ (gP_rg hW.1 [0, 2] rfl) hK 0 rfl rfl rfl hl.1 rfl (Nat.le_of_ble_eq_true rfl) dL_lays_83 ⟨Nat.le_of_ble_eq_true rfl, Nat.le_of_ble_eq_true rfl⟩ 86 rfl ?_
      refine z_top (b := .int (iI (v (lowZ ww 36)))) (congrArg (fun z => Value.int (iI z)) (cel_0 (v := v) (c := (lowZ ww 36)) (by omega))) ?_
      have rh83 := w0.h (lowZ ww 36) (by omega)
      refine z_is C hl dL_lays_86 88 rfl (by decide) (lv' := [(7, .int (iI (v (lowZ ww 36)))), (6, .int (iI (0))), (5, .int (iI (bZ (decide (lwK ww = 0))))), (4, .int (iI (lowZ (ww >>> ((iI (6)) &&& 31)) 4))), (3, .int (iI (lowZ ww 36))), (0, .ref (tb)), (1, .int (vv)), (2, .int (ww))]) rfl (fun ls hl => ?_)
      refine z_il C hl dL_lays_88 0 rfl 90 rfl ?_
      refine z_il C hl dL_lays_90 3 rfl 92 rfl ?_
      refine z_icmp_ne C dL_lays_92 118 95 (by decide) rfl (by omega) (fun c92 => ?_) (fun c92 => ?_)
      · skip
        refine z_iconst C dL_lays_118 119 rfl ?_
        refine z_is C hl dL_lays_119 121 rfl (by decide) (lv' := [(8, .int (iI (0))), (7, .int (iI (v (lowZ ww 36)))), (6, .int (iI (0))), (5, .int (iI (bZ (decide (lwK ww = 0))))), (4, .int (iI (lowZ (ww >>> ((iI (6)) &&& 31)) 4))), (3, .int (iI (lowZ ww 36))), (0, .ref (tb)), (1, .int (vv)), (2, .int (ww))]) rfl (fun ls hl => ?_)
        refine z_al_n C hl dL_lays_121 6 rfl 122 rfl ?_
        refine z_il_n C hl dL_lays_122 5 rfl 123 rfl ?_
        refine z_il C hl dL_lays_123 4 rfl 125 rfl ?_
        refine z_il C hl dL_lays_125 3 rfl 127 rfl ?_
        refine z_VWi (r := .int (iI (layR v (lowZ ww 36) (lowZ (ww >>> ((iI (6)) &&& 31)) 4) (bZ (decide (lwK ww = 0)))))) (rest := []) C (m_sand l G tb r x cu h pa o sg qn qb sn S g n false u v (lowZ ww 36) (lowZ (ww >>> ((iI (6)) &&& 31)) 4) (decide (lwK ww = 0)) (by omega) w0 (by omega) (by omega) (gD_rg hW.2.1 [0, 1, 2, 3, 4] (by decide) rfl)) kV_L_62 ⟨Nat.le_of_ble_eq_true rfl, Nat.le_of_ble_eq_true rfl⟩ hW hK [0, 1, 2, 3, 4] rfl ((sameA_eq rfl (sameA_eq rfl (sameA_eq rfl (sameA_eq rfl (sameA_cons (hi_permA _ _) sameA_nil)))))) 0 rfl rfl rfl hl.1 rfl (Nat.le_of_ble_eq_true rfl) dL_lays_127 ⟨Nat.le_of_ble_eq_true rfl, Nat.le_of_ble_eq_true rfl⟩ 130 rfl (rs' := [[tbO tb qn qb r x h o], [(r, .inr (3, [.ref (qn 0)]))], stW G qn (layV v (lowZ ww 36) (lowZ (ww >>> ((iI (6)) &&& 31)) 4) (bZ (decide (lwK ww = 0)))), stW G qb v, hiW G h pa sn (actN (layR v (lowZ ww 36) (lowZ (ww >>> ((iI (6)) &&& 31)) 4) (bZ (decide (lwK ww = 0)))) n) (actS (layR v (lowZ ww 36) (lowZ (ww >>> ((iI (6)) &&& 31)) 4) (bZ (decide (lwK ww = 0)))) n S) (actG (layR v (lowZ ww 36) (lowZ (ww >>> ((iI (6)) &&& 31)) 4) (bZ (decide (lwK ww = 0)))) n g v) false, [orO G o sg 0]]) rfl (fun H locs hW hkeep => ?_)
        have rly := layR_rng w0 (lowZ ww 36) (lowZ (ww >>> ((iI (6)) &&& 31)) 4) (bZ (decide (lwK ww = 0)))
        refine z_il C hl dL_lays_130 2 rfl 132 rfl ?_
        refine z_if_eq C dL_lays_132 140 135 (by decide) rfl (by omega) (fun c132 => ?_) (fun c132 => ?_)
        · skip
          refine z_il C hl dL_lays_140 0 rfl 142 rfl ?_
          refine z_if_eq C dL_lays_142 150 145 (by decide) rfl (by omega) (fun c142 => ?_) (fun c142 => ?_)
          · skip
            refine z_il C hl dL_lays_150 1 rfl 152 rfl ?_
            refine z_icmp_ne C dL_lays_152 175 155 (by decide) rfl (by omega) (fun c152 => ?_) (fun c152 => ?_)
            · exfalso; unfold layR at c152; (repeat' split at c152) <;> first | omega | (rw [bZ_if] at *; omega)
            · skip
              refine z_il C hl dL_lays_155 2 rfl 157 rfl ?_
              refine z_if_ne C dL_lays_157 171 160 (by decide) rfl (by omega) (fun c157 => ?_) (fun c157 => ?_)
              · exfalso; omega
              · skip
                refine z_al_n C hl dL_lays_160 6 rfl 161 rfl ?_
                refine z_il_n C hl dL_lays_161 5 rfl 162 rfl ?_
                refine z_iconst C dL_lays_162 163 rfl ?_
                refine z_VR (r := .int (iI (celR (layV v (lowZ ww 36) (lowZ (ww >>> ((iI (6)) &&& 31)) 4) (bZ (decide (lwK ww = 0)))) (lowZ ww 36) 0))) (rest := []) C (m_cellOf l G tb r x cu h pa o sg qn qb sn (layV v (lowZ ww 36) (lowZ (ww >>> ((iI (6)) &&& 31)) 4) (bZ (decide (lwK ww = 0)))) (lowZ ww 36) 0 (w0.lay (lowZ ww 36) (lowZ (ww >>> ((iI (6)) &&& 31)) 4) (bZ (decide (lwK ww = 0))) (bZ_rng _)) (by omega) (by omega)) kV_L_18 ⟨Nat.le_of_ble_eq_true rfl, Nat.le_of_ble_eq_true rfl⟩ (gP_rg hW.1 [0, 2] rfl) hK 0 rfl rfl rfl hl.1 rfl (Nat.le_of_ble_eq_true rfl) dL_lays_163 ⟨Nat.le_of_ble_eq_true rfl, Nat.le_of_ble_eq_true rfl⟩ 166 rfl ?_
                refine z_top (b := .int (iI (((layV v (lowZ ww 36) (lowZ (ww >>> ((iI (6)) &&& 31)) 4) (bZ (decide (lwK ww = 0)))) (lowZ ww 36))))) (congrArg (fun z => Value.int (iI z)) (cel_0 (v := (layV v (lowZ ww 36) (lowZ (ww >>> ((iI (6)) &&& 31)) 4) (bZ (decide (lwK ww = 0))))) (c := (lowZ ww 36)) (by omega))) ?_
                have rh163 := (w0.lay (lowZ ww 36) (lowZ (ww >>> ((iI (6)) &&& 31)) 4) (bZ (decide (lwK ww = 0))) (bZ_rng _)).h (lowZ ww 36) (by omega)
                refine z_il C hl dL_lays_166 4 rfl 168 rfl ?_
                refine z_icmp_ne C dL_lays_168 175 171 (by decide) rfl (by omega) (fun c168 => ?_) (fun c168 => ?_)
                · exfalso; exact c168 (lay_h (by omega) (by omega) ht0 w0)
                · skip
                  refine z_iconst C dL_lays_171 172 rfl ?_
                  refine z_goto C dL_lays_172 176 (by decide) ?_
                  exact z_wz C hW dL_lays_176 (rfl) rfl
          · exfalso; omega
        · exfalso; omega
      · skip
        refine z_al_n C hl dL_lays_95 5 rfl 96 rfl ?_
        refine z_il_n C hl dL_lays_96 4 rfl 97 rfl ?_
        refine z_iconst C dL_lays_97 98 rfl ?_
        refine z_VR (r := .int (iI (celR v (lowZ ww 36) 1))) (rest := []) C (m_cellOf l G tb r x cu h pa o sg qn qb sn v (lowZ ww 36) 1 w0 (by omega) (by omega)) kV_L_18 ⟨Nat.le_of_ble_eq_true rfl, Nat.le_of_ble_eq_true rfl⟩ (gP_rg hW.1 [0, 2] rfl) hK 0 rfl rfl rfl hl.1 rfl (Nat.le_of_ble_eq_true rfl) dL_lays_98 ⟨Nat.le_of_ble_eq_true rfl, Nat.le_of_ble_eq_true rfl⟩ 101 rfl ?_
        refine z_top (b := .int (iI (v (36 + lowZ ww 36)))) (congrArg (fun z => Value.int (iI z)) (cel_1 (v := v) (c := (lowZ ww 36)) (by omega))) ?_
        have rr98 := w0.r (lowZ ww 36) (by omega)
        refine z_il C hl dL_lays_101 2 rfl 103 rfl ?_
        refine z_mb_eq C dL_lays_103 dL_lays_106 dL_lays_107 dL_lays_110 rfl rfl rfl 111 rfl ?_
        refine z_micmp_ne C dL_lays_111 dL_lays_114 dL_lays_115 dL_lays_118 (by have := bZ_rng (decide (lwK ww = 0)); omega) rfl rfl rfl 119 rfl ?_
        refine z_is C hl dL_lays_119 121 rfl (by decide) (lv' := [(8, .int (iI (bZ (decide (v (36 + lowZ ww 36) = bZ (decide (lwK ww = 0))))))), (7, .int (iI (v (lowZ ww 36)))), (6, .int (iI (0))), (5, .int (iI (bZ (decide (lwK ww = 0))))), (4, .int (iI (lowZ (ww >>> ((iI (6)) &&& 31)) 4))), (3, .int (iI (lowZ ww 36))), (0, .ref (tb)), (1, .int (vv)), (2, .int (ww))]) rfl (fun ls hl => ?_)
        refine z_al_n C hl dL_lays_121 6 rfl 122 rfl ?_
        refine z_il_n C hl dL_lays_122 5 rfl 123 rfl ?_
        refine z_il C hl dL_lays_123 4 rfl 125 rfl ?_
        refine z_il C hl dL_lays_125 3 rfl 127 rfl ?_
        refine z_VWi (r := .int (iI (layR v (lowZ ww 36) (lowZ (ww >>> ((iI (6)) &&& 31)) 4) (bZ (decide (lwK ww = 0)))))) (rest := []) C (m_sand l G tb r x cu h pa o sg qn qb sn S g n false u v (lowZ ww 36) (lowZ (ww >>> ((iI (6)) &&& 31)) 4) (decide (lwK ww = 0)) (by omega) w0 (by omega) (by omega) (gD_rg hW.2.1 [0, 1, 2, 3, 4] (by decide) rfl)) kV_L_62 ⟨Nat.le_of_ble_eq_true rfl, Nat.le_of_ble_eq_true rfl⟩ hW hK [0, 1, 2, 3, 4] rfl ((sameA_eq rfl (sameA_eq rfl (sameA_eq rfl (sameA_eq rfl (sameA_cons (hi_permA _ _) sameA_nil)))))) 0 rfl rfl rfl hl.1 rfl (Nat.le_of_ble_eq_true rfl) dL_lays_127 ⟨Nat.le_of_ble_eq_true rfl, Nat.le_of_ble_eq_true rfl⟩ 130 rfl (rs' := [[tbO tb qn qb r x h o], [(r, .inr (3, [.ref (qn 0)]))], stW G qn (layV v (lowZ ww 36) (lowZ (ww >>> ((iI (6)) &&& 31)) 4) (bZ (decide (lwK ww = 0)))), stW G qb v, hiW G h pa sn (actN (layR v (lowZ ww 36) (lowZ (ww >>> ((iI (6)) &&& 31)) 4) (bZ (decide (lwK ww = 0)))) n) (actS (layR v (lowZ ww 36) (lowZ (ww >>> ((iI (6)) &&& 31)) 4) (bZ (decide (lwK ww = 0)))) n S) (actG (layR v (lowZ ww 36) (lowZ (ww >>> ((iI (6)) &&& 31)) 4) (bZ (decide (lwK ww = 0)))) n g v) false, [orO G o sg 0]]) rfl (fun H locs hW hkeep => ?_)
        have rly := layR_rng w0 (lowZ ww 36) (lowZ (ww >>> ((iI (6)) &&& 31)) 4) (bZ (decide (lwK ww = 0)))
        refine z_il C hl dL_lays_130 2 rfl 132 rfl ?_
        refine z_if_eq C dL_lays_132 140 135 (by decide) rfl (by omega) (fun c132 => ?_) (fun c132 => ?_)
        · skip
          refine z_il C hl dL_lays_140 0 rfl 142 rfl ?_
          refine z_ifb_eq C dL_lays_142 150 145 (by decide) rfl (fun c142 => ?_) (fun c142 => ?_)
          · skip
            simp only [decide_eq_true_eq, decide_eq_false_iff_not] at c142
            refine z_il C hl dL_lays_150 1 rfl 152 rfl ?_
            refine z_icmp_ne C dL_lays_152 175 155 (by decide) rfl (by omega) (fun c152 => ?_) (fun c152 => ?_)
            · exfalso; unfold layR at c152; (repeat' split at c152) <;> first | omega | (rw [bZ_if] at *; omega)
            · skip
              refine z_il C hl dL_lays_155 2 rfl 157 rfl ?_
              refine z_if_ne C dL_lays_157 171 160 (by decide) rfl (by omega) (fun c157 => ?_) (fun c157 => ?_)
              · exfalso; omega
              · skip
                refine z_al_n C hl dL_lays_160 6 rfl 161 rfl ?_
                refine z_il_n C hl dL_lays_161 5 rfl 162 rfl ?_
                refine z_iconst C dL_lays_162 163 rfl ?_
                refine z_VR (r := .int (iI (celR (layV v (lowZ ww 36) (lowZ (ww >>> ((iI (6)) &&& 31)) 4) (bZ (decide (lwK ww = 0)))) (lowZ ww 36) 0))) (rest := []) C (m_cellOf l G tb r x cu h pa o sg qn qb sn (layV v (lowZ ww 36) (lowZ (ww >>> ((iI (6)) &&& 31)) 4) (bZ (decide (lwK ww = 0)))) (lowZ ww 36) 0 (w0.lay (lowZ ww 36) (lowZ (ww >>> ((iI (6)) &&& 31)) 4) (bZ (decide (lwK ww = 0))) (bZ_rng _)) (by omega) (by omega)) kV_L_18 ⟨Nat.le_of_ble_eq_true rfl, Nat.le_of_ble_eq_true rfl⟩ (gP_rg hW.1 [0, 2] rfl) hK 0 rfl rfl rfl hl.1 rfl (Nat.le_of_ble_eq_true rfl) dL_lays_163 ⟨Nat.le_of_ble_eq_true rfl, Nat.le_of_ble_eq_true rfl⟩ 166 rfl ?_
                refine z_top (b := .int (iI (((layV v (lowZ ww 36) (lowZ (ww >>> ((iI (6)) &&& 31)) 4) (bZ (decide (lwK ww = 0)))) (lowZ ww 36))))) (congrArg (fun z => Value.int (iI z)) (cel_0 (v := (layV v (lowZ ww 36) (lowZ (ww >>> ((iI (6)) &&& 31)) 4) (bZ (decide (lwK ww = 0))))) (c := (lowZ ww 36)) (by omega))) ?_
                have rh163 := (w0.lay (lowZ ww 36) (lowZ (ww >>> ((iI (6)) &&& 31)) 4) (bZ (decide (lwK ww = 0))) (bZ_rng _)).h (lowZ ww 36) (by omega)
                refine z_il C hl dL_lays_166 4 rfl 168 rfl ?_
                refine z_icmp_ne C dL_lays_168 175 171 (by decide) rfl (by omega) (fun c168 => ?_) (fun c168 => ?_)
                · exfalso; exact c168 (lay_h (by omega) (by omega) ht0 w0)
                · skip
                  refine z_iconst C dL_lays_171 172 rfl ?_
                  refine z_goto C dL_lays_172 176 (by decide) ?_
                  exact z_wz C hW dL_lays_176 (rfl) rfl
          · skip
            simp only [decide_eq_true_eq, decide_eq_false_iff_not] at c142
            refine z_bipush C dL_lays_145 (by decide) 147 rfl ?_
            refine z_goto C dL_lays_147 152 (by decide) ?_
            refine z_icmp_ne C dL_lays_152 175 155 (by decide) rfl (by omega) (fun c152 => ?_) (fun c152 => ?_)
            · exfalso; unfold layR at c152; (repeat' split at c152) <;> first | omega | (rw [bZ_if] at *; omega)
            · skip
              refine z_il C hl dL_lays_155 2 rfl 157 rfl ?_
              refine z_if_ne C dL_lays_157 171 160 (by decide) rfl (by omega) (fun c157 => ?_) (fun c157 => ?_)
              · exfalso; omega
              · skip
                refine z_al_n C hl dL_lays_160 6 rfl 161 rfl ?_
                refine z_il_n C hl dL_lays_161 5 rfl 162 rfl ?_
                refine z_iconst C dL_lays_162 163 rfl ?_
                refine z_VR (r := .int (iI (celR (layV v (lowZ ww 36) (lowZ (ww >>> ((iI (6)) &&& 31)) 4) (bZ (decide (lwK ww = 0)))) (lowZ ww 36) 0))) (rest := []) C (m_cellOf l G tb r x cu h pa o sg qn qb sn (layV v (lowZ ww 36) (lowZ (ww >>> ((iI (6)) &&& 31)) 4) (bZ (decide (lwK ww = 0)))) (lowZ ww 36) 0 (w0.lay (lowZ ww 36) (lowZ (ww >>> ((iI (6)) &&& 31)) 4) (bZ (decide (lwK ww = 0))) (bZ_rng _)) (by omega) (by omega)) kV_L_18 ⟨Nat.le_of_ble_eq_true rfl, Nat.le_of_ble_eq_true rfl⟩ (gP_rg hW.1 [0, 2] rfl) hK 0 rfl rfl rfl hl.1 rfl (Nat.le_of_ble_eq_true rfl) dL_lays_163 ⟨Nat.le_of_ble_eq_true rfl, Nat.le_of_ble_eq_true rfl⟩ 166 rfl ?_
                refine z_top (b := .int (iI (((layV v (lowZ ww 36) (lowZ (ww >>> ((iI (6)) &&& 31)) 4) (bZ (decide (lwK ww = 0)))) (lowZ ww 36))))) (congrArg (fun z => Value.int (iI z)) (cel_0 (v := (layV v (lowZ ww 36) (lowZ (ww >>> ((iI (6)) &&& 31)) 4) (bZ (decide (lwK ww = 0))))) (c := (lowZ ww 36)) (by omega))) ?_
                have rh163 := (w0.lay (lowZ ww 36) (lowZ (ww >>> ((iI (6)) &&& 31)) 4) (bZ (decide (lwK ww = 0))) (bZ_rng _)).h (lowZ ww 36) (by omega)
                refine z_il C hl dL_lays_166 4 rfl 168 rfl ?_
                refine z_icmp_ne C dL_lays_168 175 171 (by decide) rfl (by omega) (fun c168 => ?_) (fun c168 => ?_)
                · exfalso; exact c168 (lay_h (by omega) (by omega) ht0 w0)
                · skip
                  refine z_iconst C dL_lays_171 172 rfl ?_
                  refine z_goto C dL_lays_172 176 (by decide) ?_
                  exact z_wz C hW dL_lays_176 (rfl) rfl
        · exfalso; omega
    · skip
      refine z_iconst C dL_lays_43 44 rfl ?_
      refine z_goto C dL_lays_44 48 (by decide) ?_
      refine z_is C hl dL_lays_48 50 rfl (by decide) (lv' := [(6, .int (iI (1))), (5, .int (iI (bZ (decide (lwK ww = 0))))), (4, .int (iI (lowZ (ww >>> ((iI (6)) &&& 31)) 4))), (3, .int (iI (lowZ ww 36))), (0, .ref (tb)), (1, .int (vv)), (2, .int (ww))]) rfl (fun ls hl => ?_)
      refine z_il_n C hl dL_lays_50 5 rfl 51 rfl ?_
      refine z_iconst C dL_lays_51 52 rfl ?_
      refine z_iand C dL_lays_52 53 rfl ?_
      refine z_top (b := .int (iI (0))) (congrArg Value.int hv) ?_
      refine z_swIn C dL_lays_53 (by omega) (by omega) 27 80 rfl (by decide) ?_
      refine z_al_n C hl dL_lays_80 4 rfl 81 rfl ?_
      refine z_il_n C hl dL_lays_81 3 rfl 82 rfl ?_
      refine z_iconst C dL_lays_82 83 rfl ?_
      refine z_VR (r := .int (iI (celR v (lowZ ww 36) 0))) (rest := []) C (m_cellOf l G tb r x cu h pa o sg qn qb sn v (lowZ ww 36) 0 w0 (by omega) (by omega)) kV_L_18 ⟨Nat.le_of_ble_eq_true rfl, Nat.le_of_ble_eq_true rfl⟩ (gP_rg hW.1 [0, 2] rfl) hK 0 rfl rfl rfl hl.1 rfl (Nat.le_of_ble_eq_true rfl) dL_lays_83 ⟨Nat.le_of_ble_eq_true rfl, Nat.le_of_ble_eq_true rfl⟩ 86 rfl ?_
      refine z_top (b := .int (iI (v (lowZ ww 36)))) (congrArg (fun z => Value.int (iI z)) (cel_0 (v := v) (c := (lowZ ww 36)) (by omega))) ?_
      have rh83 := w0.h (lowZ ww 36) (by omega)
      refine z_is C hl dL_lays_86 88 rfl (by decide) (lv' := [(7, .int (iI (v (lowZ ww 36)))), (6, .int (iI (1))), (5, .int (iI (bZ (decide (lwK ww = 0))))), (4, .int (iI (lowZ (ww >>> ((iI (6)) &&& 31)) 4))), (3, .int (iI (lowZ ww 36))), (0, .ref (tb)), (1, .int (vv)), (2, .int (ww))]) rfl (fun ls hl => ?_)
      refine z_il C hl dL_lays_88 0 rfl 90 rfl ?_
      refine z_il C hl dL_lays_90 3 rfl 92 rfl ?_
      refine z_icmp_ne C dL_lays_92 118 95 (by decide) rfl (by omega) (fun c92 => ?_) (fun c92 => ?_)
      · skip
        refine z_iconst C dL_lays_118 119 rfl ?_
        refine z_is C hl dL_lays_119 121 rfl (by decide) (lv' := [(8, .int (iI (0))), (7, .int (iI (v (lowZ ww 36)))), (6, .int (iI (1))), (5, .int (iI (bZ (decide (lwK ww = 0))))), (4, .int (iI (lowZ (ww >>> ((iI (6)) &&& 31)) 4))), (3, .int (iI (lowZ ww 36))), (0, .ref (tb)), (1, .int (vv)), (2, .int (ww))]) rfl (fun ls hl => ?_)
        refine z_al_n C hl dL_lays_121 6 rfl 122 rfl ?_
        refine z_il_n C hl dL_lays_122 5 rfl 123 rfl ?_
        refine z_il C hl dL_lays_123 4 rfl 125 rfl ?_
        refine z_il C hl dL_lays_125 3 rfl 127 rfl ?_
        refine z_VWi (r := .int (iI (layR v (lowZ ww 36) (lowZ (ww >>> ((iI (6)) &&& 31)) 4) (bZ (decide (lwK ww = 0)))))) (rest := []) C (m_sand l G tb r x cu h pa o sg qn qb sn S g n false u v (lowZ ww 36) (lowZ (ww >>> ((iI (6)) &&& 31)) 4) (decide (lwK ww = 0)) (by omega) w0 (by omega) (by omega) (gD_rg hW.2.1 [0, 1, 2, 3, 4] (by decide) rfl)) kV_L_62 ⟨Nat.le_of_ble_eq_true rfl, Nat.le_of_ble_eq_true rfl⟩ hW hK [0, 1, 2, 3, 4] rfl ((sameA_eq rfl (sameA_eq rfl (sameA_eq rfl (sameA_eq rfl (sameA_cons (hi_permA _ _) sameA_nil)))))) 0 rfl rfl rfl hl.1 rfl (Nat.le_of_ble_eq_true rfl) dL_lays_127 ⟨Nat.le_of_ble_eq_true rfl, Nat.le_of_ble_eq_true rfl⟩ 130 rfl (rs' := [[tbO tb qn qb r x h o], [(r, .inr (3, [.ref (qn 0)]))], stW G qn (layV v (lowZ ww 36) (lowZ (ww >>> ((iI (6)) &&& 31)) 4) (bZ (decide (lwK ww = 0)))), stW G qb v, hiW G h pa sn (actN (layR v (lowZ ww 36) (lowZ (ww >>> ((iI (6)) &&& 31)) 4) (bZ (decide (lwK ww = 0)))) n) (actS (layR v (lowZ ww 36) (lowZ (ww >>> ((iI (6)) &&& 31)) 4) (bZ (decide (lwK ww = 0)))) n S) (actG (layR v (lowZ ww 36) (lowZ (ww >>> ((iI (6)) &&& 31)) 4) (bZ (decide (lwK ww = 0)))) n g v) false, [orO G o sg 0]]) rfl (fun H locs hW hkeep => ?_)
        have rly := layR_rng w0 (lowZ ww 36) (lowZ (ww >>> ((iI (6)) &&& 31)) 4) (bZ (decide (lwK ww = 0)))
        refine z_il C hl dL_lays_130 2 rfl 132 rfl ?_
        refine z_if_eq C dL_lays_132 140 135 (by decide) rfl (by omega) (fun c132 => ?_) (fun c132 => ?_)
        · exfalso; omega
        · skip
          refine z_bipush C dL_lays_135 (by decide) 137 rfl ?_
          refine z_goto C dL_lays_137 152 (by decide) ?_
          refine z_icmp_ne C dL_lays_152 175 155 (by decide) rfl (by omega) (fun c152 => ?_) (fun c152 => ?_)
          · exfalso; unfold layR at c152; (repeat' split at c152) <;> first | omega | (rw [bZ_if] at *; omega)
          · skip
            refine z_il C hl dL_lays_155 2 rfl 157 rfl ?_
            refine z_if_ne C dL_lays_157 171 160 (by decide) rfl (by omega) (fun c157 => ?_) (fun c157 => ?_)
            · skip
              refine z_iconst C dL_lays_171 172 rfl ?_
              refine z_goto C dL_lays_172 176 (by decide) ?_
              exact z_wz C hW dL_lays_176 (rfl) rfl
            · exfalso; omega
      · skip
        refine z_al_n C hl dL_lays_95 5 rfl 96 rfl ?_
        refine z_il_n C hl dL_lays_96 4 rfl 97 rfl ?_
        refine z_iconst C dL_lays_97 98 rfl ?_
        refine z_VR (r := .int (iI (celR v (lowZ ww 36) 1))) (rest := []) C (m_cellOf l G tb r x cu h pa o sg qn qb sn v (lowZ ww 36) 1 w0 (by omega) (by omega)) kV_L_18 ⟨Nat.le_of_ble_eq_true rfl, Nat.le_of_ble_eq_true rfl⟩ (gP_rg hW.1 [0, 2] rfl) hK 0 rfl rfl rfl hl.1 rfl (Nat.le_of_ble_eq_true rfl) dL_lays_98 ⟨Nat.le_of_ble_eq_true rfl, Nat.le_of_ble_eq_true rfl⟩ 101 rfl ?_
        refine z_top (b := .int (iI (v (36 + lowZ ww 36)))) (congrArg (fun z => Value.int (iI z)) (cel_1 (v := v) (c := (lowZ ww 36)) (by omega))) ?_
        have rr98 := w0.r (lowZ ww 36) (by omega)
        refine z_il C hl dL_lays_101 2 rfl 103 rfl ?_
        refine z_mb_eq C dL_lays_103 dL_lays_106 dL_lays_107 dL_lays_110 rfl rfl rfl 111 rfl ?_
        refine z_micmp_ne C dL_lays_111 dL_lays_114 dL_lays_115 dL_lays_118 (by have := bZ_rng (decide (lwK ww = 0)); omega) rfl rfl rfl 119 rfl ?_
        refine z_is C hl dL_lays_119 121 rfl (by decide) (lv' := [(8, .int (iI (bZ (decide (v (36 + lowZ ww 36) = bZ (decide (lwK ww = 0))))))), (7, .int (iI (v (lowZ ww 36)))), (6, .int (iI (1))), (5, .int (iI (bZ (decide (lwK ww = 0))))), (4, .int (iI (lowZ (ww >>> ((iI (6)) &&& 31)) 4))), (3, .int (iI (lowZ ww 36))), (0, .ref (tb)), (1, .int (vv)), (2, .int (ww))]) rfl (fun ls hl => ?_)
        refine z_al_n C hl dL_lays_121 6 rfl 122 rfl ?_
        refine z_il_n C hl dL_lays_122 5 rfl 123 rfl ?_
        refine z_il C hl dL_lays_123 4 rfl 125 rfl ?_
        refine z_il C hl dL_lays_125 3 rfl 127 rfl ?_
        refine z_VWi (r := .int (iI (layR v (lowZ ww 36) (lowZ (ww >>> ((iI (6)) &&& 31)) 4) (bZ (decide (lwK ww = 0)))))) (rest := []) C (m_sand l G tb r x cu h pa o sg qn qb sn S g n false u v (lowZ ww 36) (lowZ (ww >>> ((iI (6)) &&& 31)) 4) (decide (lwK ww = 0)) (by omega) w0 (by omega) (by omega) (gD_rg hW.2.1 [0, 1, 2, 3, 4] (by decide) rfl)) kV_L_62 ⟨Nat.le_of_ble_eq_true rfl, Nat.le_of_ble_eq_true rfl⟩ hW hK [0, 1, 2, 3, 4] rfl ((sameA_eq rfl (sameA_eq rfl (sameA_eq rfl (sameA_eq rfl (sameA_cons (hi_permA _ _) sameA_nil)))))) 0 rfl rfl rfl hl.1 rfl (Nat.le_of_ble_eq_true rfl) dL_lays_127 ⟨Nat.le_of_ble_eq_true rfl, Nat.le_of_ble_eq_true rfl⟩ 130 rfl (rs' := [[tbO tb qn qb r x h o], [(r, .inr (3, [.ref (qn 0)]))], stW G qn (layV v (lowZ ww 36) (lowZ (ww >>> ((iI (6)) &&& 31)) 4) (bZ (decide (lwK ww = 0)))), stW G qb v, hiW G h pa sn (actN (layR v (lowZ ww 36) (lowZ (ww >>> ((iI (6)) &&& 31)) 4) (bZ (decide (lwK ww = 0)))) n) (actS (layR v (lowZ ww 36) (lowZ (ww >>> ((iI (6)) &&& 31)) 4) (bZ (decide (lwK ww = 0)))) n S) (actG (layR v (lowZ ww 36) (lowZ (ww >>> ((iI (6)) &&& 31)) 4) (bZ (decide (lwK ww = 0)))) n g v) false, [orO G o sg 0]]) rfl (fun H locs hW hkeep => ?_)
        have rly := layR_rng w0 (lowZ ww 36) (lowZ (ww >>> ((iI (6)) &&& 31)) 4) (bZ (decide (lwK ww = 0)))
        refine z_il C hl dL_lays_130 2 rfl 132 rfl ?_
        refine z_if_eq C dL_lays_132 140 135 (by decide) rfl (by omega) (fun c132 => ?_) (fun c132 => ?_)
        · exfalso; omega
        · skip
          refine z_bipush C dL_lays_135 (by decide) 137 rfl ?_
          refine z_goto C dL_lays_137 152 (by decide) ?_
          refine z_icmp_ne C dL_lays_152 175 155 (by decide) rfl (by omega) (fun c152 => ?_) (fun c152 => ?_)
          · exfalso; unfold layR at c152; (repeat' split at c152) <;> first | omega | (rw [bZ_if] at *; omega)
          · skip
            refine z_il C hl dL_lays_155 2 rfl 157 rfl ?_
            refine z_if_ne C dL_lays_157 171 160 (by decide) rfl (by omega) (fun c157 => ?_) (fun c157 => ?_)
            · skip
              refine z_iconst C dL_lays_171 172 rfl ?_
              refine z_goto C dL_lays_172 176 (by decide) ?_
              exact z_wz C hW dL_lays_176 (rfl) rfl
            · exfalso; omega

set_option maxHeartbeats 16000000 in
set_option maxRecDepth 100000 in
theorem m_lwLay1 (l : Launch) (G : gT) (tb r x cu h pa o sg : Nat) (qn qb sn : Nat → Nat) (S : Nat → Nat → Nat) (u v : Int → Int) (g : Nat → Int → Int) (n : Int) (vv ww : Int32) (i : Ia v) (hn9 : 0 ≤ n ∧ n ≤ 4) (ht0 : v 126 = 0) (hv : vv &&& iI 3 = iI 1) (hD : gD ([[tbO tb qn qb r x h o], [(r, .inr (3, [.ref (qn 0)]))], stW G qn v, stW G qb u, hiW G h pa sn n S g false, [orO G o sg 0]] : List va_W).flatten) : MW l G yL_lays cL_lays 14 (some .boolean) 7 [.ref (tb), .int (vv), .int (ww)] [[tbO tb qn qb r x h o], [(r, .inr (3, [.ref (qn 0)]))], stW G qn v, stW G qb u, hiW G h pa sn n S g false, [orO G o sg 0]] [[tbO tb qn qb r x h o], [(r, .inr (3, [.ref (qn 0)]))], stW G qn (layV v (lowZ ww 36) (lowZ (ww >>> (iI (6) &&& 31)) 4) (bZ (decide (lwK ww = 0)))), stW G qb v, hiW G h pa sn (actN (layR v (lowZ ww 36) (lowZ (ww >>> (iI (6) &&& 31)) 4) (bZ (decide (lwK ww = 0)))) n) (actS (layR v (lowZ ww 36) (lowZ (ww >>> (iI (6) &&& 31)) 4) (bZ (decide (lwK ww = 0)))) n S) (actG (layR v (lowZ ww 36) (lowZ (ww >>> (iI (6) &&& 31)) 4) (bZ (decide (lwK ww = 0)))) n g v) false, [orO G o sg 0]] ZT (some (.int (iI (bZ (true))))) := by
  refine enterW (own := RL) (by decide +kernel) rfl (Nat.le_of_ble_eq_true rfl) hD ?_
  intro p e s m below meth c C hW hK hZ ls hl
  have hl : lv_has ls 14 [(0, .ref (tb)), (1, .int (vv)), (2, .int (ww))] := hl
  have w0 := i.w
  have hn := w0.n
  have ht := w0.t
  have hs := w0.s
  have hp := perZ_rng w0
  have hz := i.h
  have rk := lwK_rng ww
  have rp := lwP_rng ww
  have rv := val_rng ww
  refine z_il_n C hl dL_lays_0 2 rfl 1 rfl ?_
  refine z_bipush C dL_lays_1 (by decide) 3 rfl ?_
  refine z_SR (r := .int (iI (lowZ ww 36))) (rest := []) C (m_low l G (ww) 36 (by omega)) kS_L_59 ⟨Nat.le_of_ble_eq_true rfl, Nat.le_of_ble_eq_true rfl⟩ (gP_nil) hK rfl hl.1 rfl (Nat.le_of_ble_eq_true rfl) dL_lays_3 ⟨Nat.le_of_ble_eq_true rfl, Nat.le_of_ble_eq_true rfl⟩ 6 rfl ?_
  have rl3 := lowZ_rng (ww) (n := 36) (by omega)
  have ra := lowZ_rng ww (n := 36) (by omega)
  refine z_is_n C hl dL_lays_6 7 rfl (by decide) (lv' := [(3, .int (iI (lowZ ww 36))), (0, .ref (tb)), (1, .int (vv)), (2, .int (ww))]) rfl (fun ls hl => ?_)
  refine z_il_n C hl dL_lays_7 3 rfl 8 rfl ?_
  refine z_bipush C dL_lays_8 (by decide) 10 rfl ?_
  refine z_ishr C dL_lays_10 11 rfl ?_
  refine z_iconst C dL_lays_11 12 rfl ?_
  refine z_SR (r := .int (iI (lowZ (ww >>> ((iI (6)) &&& 31)) 4))) (rest := []) C (m_low l G (ww >>> ((iI (6)) &&& 31)) 4 (by omega)) kS_L_59 ⟨Nat.le_of_ble_eq_true rfl, Nat.le_of_ble_eq_true rfl⟩ (gP_nil) hK rfl hl.1 rfl (Nat.le_of_ble_eq_true rfl) dL_lays_12 ⟨Nat.le_of_ble_eq_true rfl, Nat.le_of_ble_eq_true rfl⟩ 15 rfl ?_
  have rl12 := lowZ_rng (ww >>> ((iI (6)) &&& 31)) (n := 4) (by omega)
  refine z_is C hl dL_lays_15 17 rfl (by decide) (lv' := [(4, .int (iI (lowZ (ww >>> ((iI (6)) &&& 31)) 4))), (3, .int (iI (lowZ ww 36))), (0, .ref (tb)), (1, .int (vv)), (2, .int (ww))]) rfl (fun ls hl => ?_)
  refine z_il_n C hl dL_lays_17 4 rfl 18 rfl ?_
  refine z_bipush C dL_lays_18 (by decide) 20 rfl ?_
  refine z_ishr C dL_lays_20 21 rfl ?_
  refine z_iconst C dL_lays_21 22 rfl ?_
  refine z_iand C dL_lays_22 23 rfl ?_
  refine z_top (b := .int (iI (lwK ww))) (congrArg Value.int (and_ex _ 2 3 (by decide))) ?_
  refine z_mif_ne C dL_lays_23 dL_lays_26 dL_lays_27 dL_lays_30 (by omega) rfl rfl rfl 31 rfl ?_
  refine z_is C hl dL_lays_31 33 rfl (by decide) (lv' := [(5, .int (iI (bZ (decide (lwK ww = 0))))), (4, .int (iI (lowZ (ww >>> ((iI (6)) &&& 31)) 4))), (3, .int (iI (lowZ ww 36))), (0, .ref (tb)), (1, .int (vv)), (2, .int (ww))]) rfl (fun ls hl => ?_)
  refine z_il_n C hl dL_lays_33 2 rfl 34 rfl ?_
  refine z_if_eq C dL_lays_34 43 37 (by decide) rfl (by omega) (fun c34 => ?_) (fun c34 => ?_)
  · skip
    refine z_iconst C dL_lays_43 44 rfl ?_
    refine z_goto C dL_lays_44 48 (by decide) ?_
    refine z_is C hl dL_lays_48 50 rfl (by decide) (lv' := [(6, .int (iI (1))), (5, .int (iI (bZ (decide (lwK ww = 0))))), (4, .int (iI (lowZ (ww >>> ((iI (6)) &&& 31)) 4))), (3, .int (iI (lowZ ww 36))), (0, .ref (tb)), (1, .int (vv)), (2, .int (ww))]) rfl (fun ls hl => ?_)
    refine z_il_n C hl dL_lays_50 5 rfl 51 rfl ?_
    refine z_iconst C dL_lays_51 52 rfl ?_
    refine z_iand C dL_lays_52 53 rfl ?_
    refine z_top (b := .int (iI (1))) (congrArg Value.int hv) ?_
    refine z_swIn C dL_lays_53 (by omega) (by omega) 27 80 rfl (by decide) ?_
    refine z_al_n C hl dL_lays_80 4 rfl 81 rfl ?_
    refine z_il_n C hl dL_lays_81 3 rfl 82 rfl ?_
    refine z_iconst C dL_lays_82 83 rfl ?_
    refine z_VR (r := .int (iI (celR v (lowZ ww 36) 0))) (rest := []) C (m_cellOf l G tb r x cu h pa o sg qn qb sn v (lowZ ww 36) 0 w0 (by omega) (by omega)) kV_L_18 ⟨Nat.le_of_ble_eq_true rfl, Nat.le_of_ble_eq_true rfl⟩ (gP_rg hW.1 [0, 2] rfl) hK 0 rfl rfl rfl hl.1 rfl (Nat.le_of_ble_eq_true rfl) dL_lays_83 ⟨Nat.le_of_ble_eq_true rfl, Nat.le_of_ble_eq_true rfl⟩ 86 rfl ?_
    refine z_top (b := .int (iI (v (lowZ ww 36)))) (congrArg (fun z => Value.int (iI z)) (cel_0 (v := v) (c := (lowZ ww 36)) (by omega))) ?_
    have rh83 := w0.h (lowZ ww 36) (by omega)
    refine z_is C hl dL_lays_86 88 rfl (by decide) (lv' := [(7, .int (iI (v (lowZ ww 36)))), (6, .int (iI (1))), (5, .int (iI (bZ (decide (lwK ww = 0))))), (4, .int (iI (lowZ (ww >>> ((iI (6)) &&& 31)) 4))), (3, .int (iI (lowZ ww 36))), (0, .ref (tb)), (1, .int (vv)), (2, .int (ww))]) rfl (fun ls hl => ?_)
    refine z_il C hl dL_lays_88 0 rfl 90 rfl ?_
    refine z_il C hl dL_lays_90 3 rfl 92 rfl ?_
    refine z_icmp_ne C dL_lays_92 118 95 (by decide) rfl (by omega) (fun c92 => ?_) (fun c92 => ?_)
    · skip
      refine z_iconst C dL_lays_118 119 rfl ?_
      refine z_is C hl dL_lays_119 121 rfl (by decide) (lv' := [(8, .int (iI (0))), (7, .int (iI (v (lowZ ww 36)))), (6, .int (iI (1))), (5, .int (iI (bZ (decide (lwK ww = 0))))), (4, .int (iI (lowZ (ww >>> ((iI (6)) &&& 31)) 4))), (3, .int (iI (lowZ ww 36))), (0, .ref (tb)), (1, .int (vv)), (2, .int (ww))]) rfl (fun ls hl => ?_)
      refine z_al_n C hl dL_lays_121 6 rfl 122 rfl ?_
      refine z_il_n C hl dL_lays_122 5 rfl 123 rfl ?_
      refine z_il C hl dL_lays_123 4 rfl 125 rfl ?_
      refine z_il C hl dL_lays_125 3 rfl 127 rfl ?_
      refine z_VWi (r := .int (iI (layR v (lowZ ww 36) (lowZ (ww >>> ((iI (6)) &&& 31)) 4) (bZ (decide (lwK ww = 0)))))) (rest := []) C (m_sand l G tb r x cu h pa o sg qn qb sn S g n false u v (lowZ ww 36) (lowZ (ww >>> ((iI (6)) &&& 31)) 4) (decide (lwK ww = 0)) (by omega) w0 (by omega) (by omega) (gD_rg hW.2.1 [0, 1, 2, 3, 4] (by decide) rfl)) kV_L_62 ⟨Nat.le_of_ble_eq_true rfl, Nat.le_of_ble_eq_true rfl⟩ hW hK [0, 1, 2, 3, 4] rfl ((sameA_eq rfl (sameA_eq rfl (sameA_eq rfl (sameA_eq rfl (sameA_cons (hi_permA _ _) sameA_nil)))))) 0 rfl rfl rfl hl.1 rfl (Nat.le_of_ble_eq_true rfl) dL_lays_127 ⟨Nat.le_of_ble_eq_true rfl, Nat.le_of_ble_eq_true rfl⟩ 130 rfl (rs' := [[tbO tb qn qb r x h o], [(r, .inr (3, [.ref (qn 0)]))], stW G qn (layV v (lowZ ww 36) (lowZ (ww >>> ((iI (6)) &&& 31)) 4) (bZ (decide (lwK ww = 0)))), stW G qb v, hiW G h pa sn (actN (layR v (lowZ ww 36) (lowZ (ww >>> ((iI (6)) &&& 31)) 4) (bZ (decide (lwK ww = 0)))) n) (actS (layR v (lowZ ww 36) (lowZ (ww >>> ((iI (6)) &&& 31)) 4) (bZ (decide (lwK ww = 0)))) n S) (actG (layR v (lowZ ww 36) (lowZ (ww >>> ((iI (6)) &&& 31)) 4) (bZ (decide (lwK ww = 0)))) n g v) false, [orO G o sg 0]]) rfl (fun H locs hW hkeep => ?_)
      have rly := layR_rng w0 (lowZ ww 36) (lowZ (ww >>> ((iI (6)) &&& 31)) 4) (bZ (decide (lwK ww = 0)))
      refine z_il C hl dL_lays_130 2 rfl 132 rfl ?_
      refine z_if_eq C dL_lays_132 140 135 (by decide) rfl (by omega) (fun c132 => ?_) (fun c132 => ?_)
      · exfalso; omega
      · skip
        refine z_bipush C dL_lays_135 (by decide) 137 rfl ?_
        refine z_goto C dL_lays_137 152 (by decide) ?_
        refine z_icmp_ne C dL_lays_152 175 155 (by decide) rfl (by omega) (fun c152 => ?_) (fun c152 => ?_)
        · exfalso; unfold layR at c152; (repeat' split at c152) <;> first | omega | (rw [bZ_if] at *; omega)
        · skip
          refine z_il C hl dL_lays_155 2 rfl 157 rfl ?_
          refine z_if_ne C dL_lays_157 171 160 (by decide) rfl (by omega) (fun c157 => ?_) (fun c157 => ?_)
          · skip
            refine z_iconst C dL_lays_171 172 rfl ?_
            refine z_goto C dL_lays_172 176 (by decide) ?_
            exact z_wz C hW dL_lays_176 (rfl) rfl
          · exfalso; omega
    · skip
      refine z_al_n C hl dL_lays_95 5 rfl 96 rfl ?_
      refine z_il_n C hl dL_lays_96 4 rfl 97 rfl ?_
      refine z_iconst C dL_lays_97 98 rfl ?_
      refine z_VR (r := .int (iI (celR v (lowZ ww 36) 1))) (rest := []) C (m_cellOf l G tb r x cu h pa o sg qn qb sn v (lowZ ww 36) 1 w0 (by omega) (by omega)) kV_L_18 ⟨Nat.le_of_ble_eq_true rfl, Nat.le_of_ble_eq_true rfl⟩ (gP_rg hW.1 [0, 2] rfl) hK 0 rfl rfl rfl hl.1 rfl (Nat.le_of_ble_eq_true rfl) dL_lays_98 ⟨Nat.le_of_ble_eq_true rfl, Nat.le_of_ble_eq_true rfl⟩ 101 rfl ?_
      refine z_top (b := .int (iI (v (36 + lowZ ww 36)))) (congrArg (fun z => Value.int (iI z)) (cel_1 (v := v) (c := (lowZ ww 36)) (by omega))) ?_
      have rr98 := w0.r (lowZ ww 36) (by omega)
      refine z_il C hl dL_lays_101 2 rfl 103 rfl ?_
      refine z_mb_eq C dL_lays_103 dL_lays_106 dL_lays_107 dL_lays_110 rfl rfl rfl 111 rfl ?_
      refine z_micmp_ne C dL_lays_111 dL_lays_114 dL_lays_115 dL_lays_118 (by have := bZ_rng (decide (lwK ww = 0)); omega) rfl rfl rfl 119 rfl ?_
      refine z_is C hl dL_lays_119 121 rfl (by decide) (lv' := [(8, .int (iI (bZ (decide (v (36 + lowZ ww 36) = bZ (decide (lwK ww = 0))))))), (7, .int (iI (v (lowZ ww 36)))), (6, .int (iI (1))), (5, .int (iI (bZ (decide (lwK ww = 0))))), (4, .int (iI (lowZ (ww >>> ((iI (6)) &&& 31)) 4))), (3, .int (iI (lowZ ww 36))), (0, .ref (tb)), (1, .int (vv)), (2, .int (ww))]) rfl (fun ls hl => ?_)
      refine z_al_n C hl dL_lays_121 6 rfl 122 rfl ?_
      refine z_il_n C hl dL_lays_122 5 rfl 123 rfl ?_
      refine z_il C hl dL_lays_123 4 rfl 125 rfl ?_
      refine z_il C hl dL_lays_125 3 rfl 127 rfl ?_
      refine z_VWi (r := .int (iI (layR v (lowZ ww 36) (lowZ (ww >>> ((iI (6)) &&& 31)) 4) (bZ (decide (lwK ww = 0)))))) (rest := []) C (m_sand l G tb r x cu h pa o sg qn qb sn S g n false u v (lowZ ww 36) (lowZ (ww >>> ((iI (6)) &&& 31)) 4) (decide (lwK ww = 0)) (by omega) w0 (by omega) (by omega) (gD_rg hW.2.1 [0, 1, 2, 3, 4] (by decide) rfl)) kV_L_62 ⟨Nat.le_of_ble_eq_true rfl, Nat.le_of_ble_eq_true rfl⟩ hW hK [0, 1, 2, 3, 4] rfl ((sameA_eq rfl (sameA_eq rfl (sameA_eq rfl (sameA_eq rfl (sameA_cons (hi_permA _ _) sameA_nil)))))) 0 rfl rfl rfl hl.1 rfl (Nat.le_of_ble_eq_true rfl) dL_lays_127 ⟨Nat.le_of_ble_eq_true rfl, Nat.le_of_ble_eq_true rfl⟩ 130 rfl (rs' := [[tbO tb qn qb r x h o], [(r, .inr (3, [.ref (qn 0)]))], stW G qn (layV v (lowZ ww 36) (lowZ (ww >>> ((iI (6)) &&& 31)) 4) (bZ (decide (lwK ww = 0)))), stW G qb v, hiW G h pa sn (actN (layR v (lowZ ww 36) (lowZ (ww >>> ((iI (6)) &&& 31)) 4) (bZ (decide (lwK ww = 0)))) n) (actS (layR v (lowZ ww 36) (lowZ (ww >>> ((iI (6)) &&& 31)) 4) (bZ (decide (lwK ww = 0)))) n S) (actG (layR v (lowZ ww 36) (lowZ (ww >>> ((iI (6)) &&& 31)) 4) (bZ (decide (lwK ww = 0)))) n g v) false, [orO G o sg 0]]) rfl (fun H locs hW hkeep => ?_)
      have rly := layR_rng w0 (lowZ ww 36) (lowZ (ww >>> ((iI (6)) &&& 31)) 4) (bZ (decide (lwK ww = 0)))
      refine z_il C hl dL_lays_130 2 rfl 132 rfl ?_
      refine z_if_eq C dL_lays_132 140 135 (by decide) rfl (by omega) (fun c132 => ?_) (fun c132 => ?_)
      · exfalso; omega
      · skip
        refine z_bipush C dL_lays_135 (by decide) 137 rfl ?_
        refine z_goto C dL_lays_137 152 (by decide) ?_
        refine z_icmp_ne C dL_lays_152 175 155 (by decide) rfl (by omega) (fun c152 => ?_) (fun c152 => ?_)
        · exfalso; unfold layR at c152; (repeat' split at c152) <;> first | omega | (rw [bZ_if] at *; omega)
        · skip
          refine z_il C hl dL_lays_155 2 rfl 157 rfl ?_
          refine z_if_ne C dL_lays_157 171 160 (by decide) rfl (by omega) (fun c157 => ?_) (fun c157 => ?_)
          · skip
            refine z_iconst C dL_lays_171 172 rfl ?_
            refine z_goto C dL_lays_172 176 (by decide) ?_
            exact z_wz C hW dL_lays_176 (rfl) rfl
          · exfalso; omega
  · skip
    refine z_il_n C hl dL_lays_37 2 rfl 38 rfl ?_
    refine z_bipush C dL_lays_38 (by decide) 40 rfl ?_
    refine z_icmp_ne C dL_lays_40 47 43 (by decide) rfl (by omega) (fun c40 => ?_) (fun c40 => ?_)
    · skip
      refine z_iconst C dL_lays_47 48 rfl ?_
      refine z_is C hl dL_lays_48 50 rfl (by decide) (lv' := [(6, .int (iI (0))), (5, .int (iI (bZ (decide (lwK ww = 0))))), (4, .int (iI (lowZ (ww >>> ((iI (6)) &&& 31)) 4))), (3, .int (iI (lowZ ww 36))), (0, .ref (tb)), (1, .int (vv)), (2, .int (ww))]) rfl (fun ls hl => ?_)
      refine z_il_n C hl dL_lays_50 5 rfl 51 rfl ?_
      refine z_iconst C dL_lays_51 52 rfl ?_
      refine z_iand C dL_lays_52 53 rfl ?_
      refine z_top (b := .int (iI (1))) (congrArg Value.int hv) ?_
      refine z_swIn C dL_lays_53 (by omega) (by omega) 27 80 rfl (by decide) ?_
      refine z_al_n C hl dL_lays_80 4 rfl 81 rfl ?_
      refine z_il_n C hl dL_lays_81 3 rfl 82 rfl ?_
      refine z_iconst C dL_lays_82 83 rfl ?_
      refine z_VR (r := .int (iI (celR v (lowZ ww 36) 0))) (rest := []) C (m_cellOf l G tb r x cu h pa o sg qn qb sn v (lowZ ww 36) 0 w0 (by omega) (by omega)) kV_L_18 ⟨Nat.le_of_ble_eq_true rfl, Nat.le_of_ble_eq_true rfl⟩ (gP_rg hW.1 [0, 2] rfl) hK 0 rfl rfl rfl hl.1 rfl (Nat.le_of_ble_eq_true rfl) dL_lays_83 ⟨Nat.le_of_ble_eq_true rfl, Nat.le_of_ble_eq_true rfl⟩ 86 rfl ?_
      refine z_top (b := .int (iI (v (lowZ ww 36)))) (congrArg (fun z => Value.int (iI z)) (cel_0 (v := v) (c := (lowZ ww 36)) (by omega))) ?_
      have rh83 := w0.h (lowZ ww 36) (by omega)
      refine z_is C hl dL_lays_86 88 rfl (by decide) (lv' := [(7, .int (iI (v (lowZ ww 36)))), (6, .int (iI (0))), (5, .int (iI (bZ (decide (lwK ww = 0))))), (4, .int (iI (lowZ (ww >>> ((iI (6)) &&& 31)) 4))), (3, .int (iI (lowZ ww 36))), (0, .ref (tb)), (1, .int (vv)), (2, .int (ww))]) rfl (fun ls hl => ?_)
      refine z_il C hl dL_lays_88 0 rfl 90 rfl ?_
      refine z_il C hl dL_lays_90 3 rfl 92 rfl ?_
      refine z_icmp_ne C dL_lays_92 118 95 (by decide) rfl (by omega) (fun c92 => ?_) (fun c92 => ?_)
      · skip
        refine z_iconst C dL_lays_118 119 rfl ?_
        refine z_is C hl dL_lays_119 121 rfl (by decide) (lv' := [(8, .int (iI (0))), (7, .int (iI (v (lowZ ww 36)))), (6, .int (iI (0))), (5, .int (iI (bZ (decide (lwK ww = 0))))), (4, .int (iI (lowZ (ww >>> ((iI (6)) &&& 31)) 4))), (3, .int (iI (lowZ ww 36))), (0, .ref (tb)), (1, .int (vv)), (2, .int (ww))]) rfl (fun ls hl => ?_)
        refine z_al_n C hl dL_lays_121 6 rfl 122 rfl ?_
        refine z_il_n C hl dL_lays_122 5 rfl 123 rfl ?_
        refine z_il C hl dL_lays_123 4 rfl 125 rfl ?_
        refine z_il C hl dL_lays_125 3 rfl 127 rfl ?_
        refine z_VWi (r := .int (iI (layR v (lowZ ww 36) (lowZ (ww >>> ((iI (6)) &&& 31)) 4) (bZ (decide (lwK ww = 0)))))) (rest := []) C (m_sand l G tb r x cu h pa o sg qn qb sn S g n false u v (lowZ ww 36) (lowZ (ww >>> ((iI (6)) &&& 31)) 4) (decide (lwK ww = 0)) (by omega) w0 (by omega) (by omega) (gD_rg hW.2.1 [0, 1, 2, 3, 4] (by decide) rfl)) kV_L_62 ⟨Nat.le_of_ble_eq_true rfl, Nat.le_of_ble_eq_true rfl⟩ hW hK [0, 1, 2, 3, 4] rfl ((sameA_eq rfl (sameA_eq rfl (sameA_eq rfl (sameA_eq rfl (sameA_cons (hi_permA _ _) sameA_nil)))))) 0 rfl rfl rfl hl.1 rfl (Nat.le_of_ble_eq_true rfl) dL_lays_127 ⟨Nat.le_of_ble_eq_true rfl, Nat.le_of_ble_eq_true rfl⟩ 130 rfl (rs' := [[tbO tb qn qb r x h o], [(r, .inr (3, [.ref (qn 0)]))], stW G qn (layV v (lowZ ww 36) (lowZ (ww >>> ((iI (6)) &&& 31)) 4) (bZ (decide (lwK ww = 0)))), stW G qb v, hiW G h pa sn (actN (layR v (lowZ ww 36) (lowZ (ww >>> ((iI (6)) &&& 31)) 4) (bZ (decide (lwK ww = 0)))) n) (actS (layR v (lowZ ww 36) (lowZ (ww >>> ((iI (6)) &&& 31)) 4) (bZ (decide (lwK ww = 0)))) n S) (actG (layR v (lowZ ww 36) (lowZ (ww >>> ((iI (6)) &&& 31)) 4) (bZ (decide (lwK ww = 0)))) n g v) false, [orO G o sg 0]]) rfl (fun H locs hW hkeep => ?_)
        have rly := layR_rng w0 (lowZ ww 36) (lowZ (ww >>> ((iI (6)) &&& 31)) 4) (bZ (decide (lwK ww = 0)))
        refine z_il C hl dL_lays_130 2 rfl 132 rfl ?_
        refine z_if_eq C dL_lays_132 140 135 (by decide) rfl (by omega) (fun c132 => ?_) (fun c132 => ?_)
        · skip
          refine z_il C hl dL_lays_140 0 rfl 142 rfl ?_
          refine z_if_eq C dL_lays_142 150 145 (by decide) rfl (by omega) (fun c142 => ?_) (fun c142 => ?_)
          · skip
            refine z_il C hl dL_lays_150 1 rfl 152 rfl ?_
            refine z_icmp_ne C dL_lays_152 175 155 (by decide) rfl (by omega) (fun c152 => ?_) (fun c152 => ?_)
            · exfalso; unfold layR at c152; (repeat' split at c152) <;> first | omega | (rw [bZ_if] at *; omega)
            · skip
              refine z_il C hl dL_lays_155 2 rfl 157 rfl ?_
              refine z_if_ne C dL_lays_157 171 160 (by decide) rfl (by omega) (fun c157 => ?_) (fun c157 => ?_)
              · exfalso; omega
              · skip
                refine z_al_n C hl dL_lays_160 6 rfl 161 rfl ?_
                refine z_il_n C hl dL_lays_161 5 rfl 162 rfl ?_
                refine z_iconst C dL_lays_162 163 rfl ?_
                refine z_VR (r := .int (iI (celR (layV v (lowZ ww 36) (lowZ (ww >>> ((iI (6)) &&& 31)) 4) (bZ (decide (lwK ww = 0)))) (lowZ ww 36) 0))) (rest := []) C (m_cellOf l G tb r x cu h pa o sg qn qb sn (layV v (lowZ ww 36) (lowZ (ww >>> ((iI (6)) &&& 31)) 4) (bZ (decide (lwK ww = 0)))) (lowZ ww 36) 0 (w0.lay (lowZ ww 36) (lowZ (ww >>> ((iI (6)) &&& 31)) 4) (bZ (decide (lwK ww = 0))) (bZ_rng _)) (by omega) (by omega)) kV_L_18 ⟨Nat.le_of_ble_eq_true rfl, Nat.le_of_ble_eq_true rfl⟩ (gP_rg hW.1 [0, 2] rfl) hK 0 rfl rfl rfl hl.1 rfl (Nat.le_of_ble_eq_true rfl) dL_lays_163 ⟨Nat.le_of_ble_eq_true rfl, Nat.le_of_ble_eq_true rfl⟩ 166 rfl ?_
                refine z_top (b := .int (iI (((layV v (lowZ ww 36) (lowZ (ww >>> ((iI (6)) &&& 31)) 4) (bZ (decide (lwK ww = 0)))) (lowZ ww 36))))) (congrArg (fun z => Value.int (iI z)) (cel_0 (v := (layV v (lowZ ww 36) (lowZ (ww >>> ((iI (6)) &&& 31)) 4) (bZ (decide (lwK ww = 0))))) (c := (lowZ ww 36)) (by omega))) ?_
                have rh163 := (w0.lay (lowZ ww 36) (lowZ (ww >>> ((iI (6)) &&& 31)) 4) (bZ (decide (lwK ww = 0))) (bZ_rng _)).h (lowZ ww 36) (by omega)
                refine z_il C hl dL_lays_166 4 rfl 168 rfl ?_
                refine z_icmp_ne C dL_lays_168 175 171 (by decide) rfl (by omega) (fun c168 => ?_) (fun c168 => ?_)
                · exfalso; exact c168 (lay_h (by omega) (by omega) ht0 w0)
                · skip
                  refine z_iconst C dL_lays_171 172 rfl ?_
                  refine z_goto C dL_lays_172 176 (by decide) ?_
                  exact z_wz C hW dL_lays_176 (rfl) rfl
          · exfalso; omega
        · exfalso; omega
      · skip
        refine z_al_n C hl dL_lays_95 5 rfl 96 rfl ?_
        refine z_il_n C hl dL_lays_96 4 rfl 97 rfl ?_
        refine z_iconst C dL_lays_97 98 rfl ?_
        refine z_VR (r := .int (iI (celR v (lowZ ww 36) 1))) (rest := []) C (m_cellOf l G tb r x cu h pa o sg qn qb sn v (lowZ ww 36) 1 w0 (by omega) (by omega)) kV_L_18 ⟨Nat.le_of_ble_eq_true rfl, Nat.le_of_ble_eq_true rfl⟩ (gP_rg hW.1 [0, 2] rfl) hK 0 rfl rfl rfl hl.1 rfl (Nat.le_of_ble_eq_true rfl) dL_lays_98 ⟨Nat.le_of_ble_eq_true rfl, Nat.le_of_ble_eq_true rfl⟩ 101 rfl ?_
        refine z_top (b := .int (iI (v (36 + lowZ ww 36)))) (congrArg (fun z => Value.int (iI z)) (cel_1 (v := v) (c := (lowZ ww 36)) (by omega))) ?_
        have rr98 := w0.r (lowZ ww 36) (by omega)
        refine z_il C hl dL_lays_101 2 rfl 103 rfl ?_
        refine z_mb_eq C dL_lays_103 dL_lays_106 dL_lays_107 dL_lays_110 rfl rfl rfl 111 rfl ?_
        refine z_micmp_ne C dL_lays_111 dL_lays_114 dL_lays_115 dL_lays_118 (by have := bZ_rng (decide (lwK ww = 0)); omega) rfl rfl rfl 119 rfl ?_
        refine z_is C hl dL_lays_119 121 rfl (by decide) (lv' := [(8, .int (iI (bZ (decide (v (36 + lowZ ww 36) = bZ (decide (lwK ww = 0))))))), (7, .int (iI (v (lowZ ww 36)))), (6, .int (iI (0))), (5, .int (iI (bZ (decide (lwK ww = 0))))), (4, .int (iI (lowZ (ww >>> ((iI (6)) &&& 31)) 4))), (3, .int (iI (lowZ ww 36))), (0, .ref (tb)), (1, .int (vv)), (2, .int (ww))]) rfl (fun ls hl => ?_)
        refine z_al_n C hl dL_lays_121 6 rfl 122 rfl ?_
        refine z_il_n C hl dL_lays_122 5 rfl 123 rfl ?_
        refine z_il C hl dL_lays_123 4 rfl 125 rfl ?_
        refine z_il C hl dL_lays_125 3 rfl 127 rfl ?_
        refine z_VWi (r := .int (iI (layR v (lowZ ww 36) (lowZ (ww >>> ((iI (6)) &&& 31)) 4) (bZ (decide (lwK ww = 0)))))) (rest := []) C (m_sand l G tb r x cu h pa o sg qn qb sn S g n false u v (lowZ ww 36) (lowZ (ww >>> ((iI (6)) &&& 31)) 4) (decide (lwK ww = 0)) (by omega) w0 (by omega) (by omega) (gD_rg hW.2.1 [0, 1, 2, 3, 4] (by decide) rfl)) kV_L_62 ⟨Nat.le_of_ble_eq_true rfl, Nat.le_of_ble_eq_true rfl⟩ hW hK [0, 1, 2, 3, 4] rfl ((sameA_eq rfl (sameA_eq rfl (sameA_eq rfl (sameA_eq rfl (sameA_cons (hi_permA _ _) sameA_nil)))))) 0 rfl rfl rfl hl.1 rfl (Nat.le_of_ble_eq_true rfl) dL_lays_127 ⟨Nat.le_of_ble_eq_true rfl, Nat.le_of_ble_eq_true rfl⟩ 130 rfl (rs' := [[tbO tb qn qb r x h o], [(r, .inr (3, [.ref (qn 0)]))], stW G qn (layV v (lowZ ww 36) (lowZ (ww >>> ((iI (6)) &&& 31)) 4) (bZ (decide (lwK ww = 0)))), stW G qb v, hiW G h pa sn (actN (layR v (lowZ ww 36) (lowZ (ww >>> ((iI (6)) &&& 31)) 4) (bZ (decide (lwK ww = 0)))) n) (actS (layR v (lowZ ww 36) (lowZ (ww >>> ((iI (6)) &&& 31)) 4) (bZ (decide (lwK ww = 0)))) n S) (actG (layR v (lowZ ww 36) (lowZ (ww >>> ((iI (6)) &&& 31)) 4) (bZ (decide (lwK ww = 0)))) n g v) false, [orO G o sg 0]]) rfl (fun H locs hW hkeep => ?_)
        have rly := layR_rng w0 (lowZ ww 36) (lowZ (ww >>> ((iI (6)) &&& 31)) 4) (bZ (decide (lwK ww = 0)))
        refine z_il C hl dL_lays_130 2 rfl 132 rfl ?_
        refine z_if_eq C dL_lays_132 140 135 (by decide) rfl (by omega) (fun c132 => ?_) (fun c132 => ?_)
        · skip
          refine z_il C hl dL_lays_140 0 rfl 142 rfl ?_
          refine z_ifb_eq C dL_lays_142 150 145 (by decide) rfl (fun c142 => ?_) (fun c142 => ?_)
          · skip
            simp only [decide_eq_true_eq, decide_eq_false_iff_not] at c142
            refine z_il C hl dL_lays_150 1 rfl 152 rfl ?_
            refine z_icmp_ne C dL_lays_152 175 155 (by decide) rfl (by omega) (fun c152 => ?_) (fun c152 => ?_)
            · exfalso; unfold layR at c152; (repeat' split at c152) <;> first | omega | (rw [bZ_if] at *; omega)
            · skip
              refine z_il C hl dL_lays_155 2 rfl 157 rfl ?_
              refine z_if_ne C dL_lays_157 171 160 (by decide) rfl (by omega) (fun c157 => ?_) (fun c157 => ?_)
              · exfalso; omega
              · skip
                refine z_al_n C hl dL_lays_160 6 rfl 161 rfl ?_
                refine z_il_n C hl dL_lays_161 5 rfl 162 rfl ?_
                refine z_iconst C dL_lays_162 163 rfl ?_
                refine z_VR (r := .int (iI (celR (layV v (lowZ ww 36) (lowZ (ww >>> ((iI (6)) &&& 31)) 4) (bZ (decide (lwK ww = 0)))) (lowZ ww 36) 0))) (rest := []) C (m_cellOf l G tb r x cu h pa o sg qn qb sn (layV v (lowZ ww 36) (lowZ (ww >>> ((iI (6)) &&& 31)) 4) (bZ (decide (lwK ww = 0)))) (lowZ ww 36) 0 (w0.lay (lowZ ww 36) (lowZ (ww >>> ((iI (6)) &&& 31)) 4) (bZ (decide (lwK ww = 0))) (bZ_rng _)) (by omega) (by omega)) kV_L_18 ⟨Nat.le_of_ble_eq_true rfl, Nat.le_of_ble_eq_true rfl⟩ (gP_rg hW.1 [0, 2] rfl) hK 0 rfl rfl rfl hl.1 rfl (Nat.le_of_ble_eq_true rfl) dL_lays_163 ⟨Nat.le_of_ble_eq_true rfl, Nat.le_of_ble_eq_true rfl⟩ 166 rfl ?_
                refine z_top (b := .int (iI (((layV v (lowZ ww 36) (lowZ (ww >>> ((iI (6)) &&& 31)) 4) (bZ (decide (lwK ww = 0)))) (lowZ ww 36))))) (congrArg (fun z => Value.int (iI z)) (cel_0 (v := (layV v (lowZ ww 36) (lowZ (ww >>> ((iI (6)) &&& 31)) 4) (bZ (decide (lwK ww = 0))))) (c := (lowZ ww 36)) (by omega))) ?_
                have rh163 := (w0.lay (lowZ ww 36) (lowZ (ww >>> ((iI (6)) &&& 31)) 4) (bZ (decide (lwK ww = 0))) (bZ_rng _)).h (lowZ ww 36) (by omega)
                refine z_il C hl dL_lays_166 4 rfl 168 rfl ?_
                refine z_icmp_ne C dL_lays_168 175 171 (by decide) rfl (by omega) (fun c168 => ?_) (fun c168 => ?_)
                · exfalso; exact c168 (lay_h (by omega) (by omega) ht0 w0)
                · skip
                  refine z_iconst C dL_lays_171 172 rfl ?_
                  refine z_goto C dL_lays_172 176 (by decide) ?_
                  exact z_wz C hW dL_lays_176 (rfl) rfl
          · skip
            simp only [decide_eq_true_eq, decide_eq_false_iff_not] at c142
            refine z_bipush C dL_lays_145 (by decide) 147 rfl ?_
            refine z_goto C dL_lays_147 152 (by decide) ?_
            refine z_icmp_ne C dL_lays_152 175 155 (by decide) rfl (by omega) (fun c152 => ?_) (fun c152 => ?_)
            · exfalso; unfold layR at c152; (repeat' split at c152) <;> first | omega | (rw [bZ_if] at *; omega)
            · skip
              refine z_il C hl dL_lays_155 2 rfl 157 rfl ?_
              refine z_if_ne C dL_lays_157 171 160 (by decide) rfl (by omega) (fun c157 => ?_) (fun c157 => ?_)
              · exfalso; omega
              · skip
                refine z_al_n C hl dL_lays_160 6 rfl 161 rfl ?_
                refine z_il_n C hl dL_lays_161 5 rfl 162 rfl ?_
                refine z_iconst C dL_lays_162 163 rfl ?_
                refine z_VR (r := .int (iI (celR (layV v (lowZ ww 36) (lowZ (ww >>> ((iI (6)) &&& 31)) 4) (bZ (decide (lwK ww = 0)))) (lowZ ww 36) 0))) (rest := []) C (m_cellOf l G tb r x cu h pa o sg qn qb sn (layV v (lowZ ww 36) (lowZ (ww >>> ((iI (6)) &&& 31)) 4) (bZ (decide (lwK ww = 0)))) (lowZ ww 36) 0 (w0.lay (lowZ ww 36) (lowZ (ww >>> ((iI (6)) &&& 31)) 4) (bZ (decide (lwK ww = 0))) (bZ_rng _)) (by omega) (by omega)) kV_L_18 ⟨Nat.le_of_ble_eq_true rfl, Nat.le_of_ble_eq_true rfl⟩ (gP_rg hW.1 [0, 2] rfl) hK 0 rfl rfl rfl hl.1 rfl (Nat.le_of_ble_eq_true rfl) dL_lays_163 ⟨Nat.le_of_ble_eq_true rfl, Nat.le_of_ble_eq_true rfl⟩ 166 rfl ?_
                refine z_top (b := .int (iI (((layV v (lowZ ww 36) (lowZ (ww >>> ((iI (6)) &&& 31)) 4) (bZ (decide (lwK ww = 0)))) (lowZ ww 36))))) (congrArg (fun z => Value.int (iI z)) (cel_0 (v := (layV v (lowZ ww 36) (lowZ (ww >>> ((iI (6)) &&& 31)) 4) (bZ (decide (lwK ww = 0))))) (c := (lowZ ww 36)) (by omega))) ?_
                have rh163 := (w0.lay (lowZ ww 36) (lowZ (ww >>> ((iI (6)) &&& 31)) 4) (bZ (decide (lwK ww = 0))) (bZ_rng _)).h (lowZ ww 36) (by omega)
                refine z_il C hl dL_lays_166 4 rfl 168 rfl ?_
                refine z_icmp_ne C dL_lays_168 175 171 (by decide) rfl (by omega) (fun c168 => ?_) (fun c168 => ?_)
                · exfalso; exact c168 (lay_h (by omega) (by omega) ht0 w0)
                · skip
                  refine z_iconst C dL_lays_171 172 rfl ?_
                  refine z_goto C dL_lays_172 176 (by decide) ?_
                  exact z_wz C hW dL_lays_176 (rfl) rfl
        · exfalso; omega
    · skip
      refine z_iconst C dL_lays_43 44 rfl ?_
      refine z_goto C dL_lays_44 48 (by decide) ?_
      refine z_is C hl dL_lays_48 50 rfl (by decide) (lv' := [(6, .int (iI (1))), (5, .int (iI (bZ (decide (lwK ww = 0))))), (4, .int (iI (lowZ (ww >>> ((iI (6)) &&& 31)) 4))), (3, .int (iI (lowZ ww 36))), (0, .ref (tb)), (1, .int (vv)), (2, .int (ww))]) rfl (fun ls hl => ?_)
      refine z_il_n C hl dL_lays_50 5 rfl 51 rfl ?_
      refine z_iconst C dL_lays_51 52 rfl ?_
      refine z_iand C dL_lays_52 53 rfl ?_
      refine z_top (b := .int (iI (1))) (congrArg Value.int hv) ?_
      refine z_swIn C dL_lays_53 (by omega) (by omega) 27 80 rfl (by decide) ?_
      refine z_al_n C hl dL_lays_80 4 rfl 81 rfl ?_
      refine z_il_n C hl dL_lays_81 3 rfl 82 rfl ?_
      refine z_iconst C dL_lays_82 83 rfl ?_
      refine z_VR (r := .int (iI (celR v (lowZ ww 36) 0))) (rest := []) C (m_cellOf l G tb r x cu h pa o sg qn qb sn v (lowZ ww 36) 0 w0 (by omega) (by omega)) kV_L_18 ⟨Nat.le_of_ble_eq_true rfl, Nat.le_of_ble_eq_true rfl⟩ (gP_rg hW.1 [0, 2] rfl) hK 0 rfl rfl rfl hl.1 rfl (Nat.le_of_ble_eq_true rfl) dL_lays_83 ⟨Nat.le_of_ble_eq_true rfl, Nat.le_of_ble_eq_true rfl⟩ 86 rfl ?_
      refine z_top (b := .int (iI (v (lowZ ww 36)))) (congrArg (fun z => Value.int (iI z)) (cel_0 (v := v) (c := (lowZ ww 36)) (by omega))) ?_
      have rh83 := w0.h (lowZ ww 36) (by omega)
      refine z_is C hl dL_lays_86 88 rfl (by decide) (lv' := [(7, .int (iI (v (lowZ ww 36)))), (6, .int (iI (1))), (5, .int (iI (bZ (decide (lwK ww = 0))))), (4, .int (iI (lowZ (ww >>> ((iI (6)) &&& 31)) 4))), (3, .int (iI (lowZ ww 36))), (0, .ref (tb)), (1, .int (vv)), (2, .int (ww))]) rfl (fun ls hl => ?_)
      refine z_il C hl dL_lays_88 0 rfl 90 rfl ?_
      refine z_il C hl dL_lays_90 3 rfl 92 rfl ?_
      refine z_icmp_ne C dL_lays_92 118 95 (by decide) rfl (by omega) (fun c92 => ?_) (fun c92 => ?_)
      · skip
        refine z_iconst C dL_lays_118 119 rfl ?_
        refine z_is C hl dL_lays_119 121 rfl (by decide) (lv' := [(8, .int (iI (0))), (7, .int (iI (v (lowZ ww 36)))), (6, .int (iI (1))), (5, .int (iI (bZ (decide (lwK ww = 0))))), (4, .int (iI (lowZ (ww >>> ((iI (6)) &&& 31)) 4))), (3, .int (iI (lowZ ww 36))), (0, .ref (tb)), (1, .int (vv)), (2, .int (ww))]) rfl (fun ls hl => ?_)
        refine z_al_n C hl dL_lays_121 6 rfl 122 rfl ?_
        refine z_il_n C hl dL_lays_122 5 rfl 123 rfl ?_
        refine z_il C hl dL_lays_123 4 rfl 125 rfl ?_
        refine z_il C hl dL_lays_125 3 rfl 127 rfl ?_
        refine z_VWi (r := .int (iI (layR v (lowZ ww 36) (lowZ (ww >>> ((iI (6)) &&& 31)) 4) (bZ (decide (lwK ww = 0)))))) (rest := []) C (m_sand l G tb r x cu h pa o sg qn qb sn S g n false u v (lowZ ww 36) (lowZ (ww >>> ((iI (6)) &&& 31)) 4) (decide (lwK ww = 0)) (by omega) w0 (by omega) (by omega) (gD_rg hW.2.1 [0, 1, 2, 3, 4] (by decide) rfl)) kV_L_62 ⟨Nat.le_of_ble_eq_true rfl, Nat.le_of_ble_eq_true rfl⟩ hW hK [0, 1, 2, 3, 4] rfl ((sameA_eq rfl (sameA_eq rfl (sameA_eq rfl (sameA_eq rfl (sameA_cons (hi_permA _ _) sameA_nil)))))) 0 rfl rfl rfl hl.1 rfl (Nat.le_of_ble_eq_true rfl) dL_lays_127 ⟨Nat.le_of_ble_eq_true rfl, Nat.le_of_ble_eq_true rfl⟩ 130 rfl (rs' := [[tbO tb qn qb r x h o], [(r, .inr (3, [.ref (qn 0)]))], stW G qn (layV v (lowZ ww 36) (lowZ (ww >>> ((iI (6)) &&& 31)) 4) (bZ (decide (lwK ww = 0)))), stW G qb v, hiW G h pa sn (actN (layR v (lowZ ww 36) (lowZ (ww >>> ((iI (6)) &&& 31)) 4) (bZ (decide (lwK ww = 0)))) n) (actS (layR v (lowZ ww 36) (lowZ (ww >>> ((iI (6)) &&& 31)) 4) (bZ (decide (lwK ww = 0)))) n S) (actG (layR v (lowZ ww 36) (lowZ (ww >>> ((iI (6)) &&& 31)) 4) (bZ (decide (lwK ww = 0)))) n g v) false, [orO G o sg 0]]) rfl (fun H locs hW hkeep => ?_)
        have rly := layR_rng w0 (lowZ ww 36) (lowZ (ww >>> ((iI (6)) &&& 31)) 4) (bZ (decide (lwK ww = 0)))
        refine z_il C hl dL_lays_130 2 rfl 132 rfl ?_
        refine z_if_eq C dL_lays_132 140 135 (by decide) rfl (by omega) (fun c132 => ?_) (fun c132 => ?_)
        · exfalso; omega
        · skip
          refine z_bipush C dL_lays_135 (by decide) 137 rfl ?_
          refine z_goto C dL_lays_137 152 (by decide) ?_
          refine z_icmp_ne C dL_lays_152 175 155 (by decide) rfl (by omega) (fun c152 => ?_) (fun c152 => ?_)
          · exfalso; unfold layR at c152; (repeat' split at c152) <;> first | omega | (rw [bZ_if] at *; omega)
          · skip
            refine z_il C hl dL_lays_155 2 rfl 157 rfl ?_
            refine z_if_ne C dL_lays_157 171 160 (by decide) rfl (by omega) (fun c157 => ?_) (fun c157 => ?_)
            · skip
              refine z_iconst C dL_lays_171 172 rfl ?_
              refine z_goto C dL_lays_172 176 (by decide) ?_
              exact z_wz C hW dL_lays_176 (rfl) rfl
            · exfalso; omega
      · skip
        refine z_al_n C hl dL_lays_95 5 rfl 96 rfl ?_
        refine z_il_n C hl dL_lays_96 4 rfl 97 rfl ?_
        refine z_iconst C dL_lays_97 98 rfl ?_
        refine z_VR (r := .int (iI (celR v (lowZ ww 36) 1))) (rest := []) C (m_cellOf l G tb r x cu h pa o sg qn qb sn v (lowZ ww 36) 1 w0 (by omega) (by omega)) kV_L_18 ⟨Nat.le_of_ble_eq_true rfl, Nat.le_of_ble_eq_true rfl⟩ (gP_rg hW.1 [0, 2] rfl) hK 0 rfl rfl rfl hl.1 rfl (Nat.le_of_ble_eq_true rfl) dL_lays_98 ⟨Nat.le_of_ble_eq_true rfl, Nat.le_of_ble_eq_true rfl⟩ 101 rfl ?_
        refine z_top (b := .int (iI (v (36 + lowZ ww 36)))) (congrArg (fun z => Value.int (iI z)) (cel_1 (v := v) (c := (lowZ ww 36)) (by omega))) ?_
        have rr98 := w0.r (lowZ ww 36) (by omega)
        refine z_il C hl dL_lays_101 2 rfl 103 rfl ?_
        refine z_mb_eq C dL_lays_103 dL_lays_106 dL_lays_107 dL_lays_110 rfl rfl rfl 111 rfl ?_
        refine z_micmp_ne C dL_lays_111 dL_lays_114 dL_lays_115 dL_lays_118 (by have := bZ_rng (decide (lwK ww = 0)); omega) rfl rfl rfl 119 rfl ?_
        refine z_is C hl dL_lays_119 121 rfl (by decide) (lv' := [(8, .int (iI (bZ (decide (v (36 + lowZ ww 36) = bZ (decide (lwK ww = 0))))))), (7, .int (iI (v (lowZ ww 36)))), (6, .int (iI (1))), (5, .int (iI (bZ (decide (lwK ww = 0))))), (4, .int (iI (lowZ (ww >>> ((iI (6)) &&& 31)) 4))), (3, .int (iI (lowZ ww 36))), (0, .ref (tb)), (1, .int (vv)), (2, .int (ww))]) rfl (fun ls hl => ?_)
        refine z_al_n C hl dL_lays_121 6 rfl 122 rfl ?_
        refine z_il_n C hl dL_lays_122 5 rfl 123 rfl ?_
        refine z_il C hl dL_lays_123 4 rfl 125 rfl ?_
        refine z_il C hl dL_lays_125 3 rfl 127 rfl ?_
        refine z_VWi (r := .int (iI (layR v (lowZ ww 36) (lowZ (ww >>> ((iI (6)) &&& 31)) 4) (bZ (decide (lwK ww = 0)))))) (rest := []) C (m_sand l G tb r x cu h pa o sg qn qb sn S g n false u v (lowZ ww 36) (lowZ (ww >>> ((iI (6)) &&& 31)) 4) (decide (lwK ww = 0)) (by omega) w0 (by omega) (by omega) (gD_rg hW.2.1 [0, 1, 2, 3, 4] (by decide) rfl)) kV_L_62 ⟨Nat.le_of_ble_eq_true rfl, Nat.le_of_ble_eq_true rfl⟩ hW hK [0, 1, 2, 3, 4] rfl ((sameA_eq rfl (sameA_eq rfl (sameA_eq rfl (sameA_eq rfl (sameA_cons (hi_permA _ _) sameA_nil)))))) 0 rfl rfl rfl hl.1 rfl (Nat.le_of_ble_eq_true rfl) dL_lays_127 ⟨Nat.le_of_ble_eq_true rfl, Nat.le_of_ble_eq_true rfl⟩ 130 rfl (rs' := [[tbO tb qn qb r x h o], [(r, .inr (3, [.ref (qn 0)]))], stW G qn (layV v (lowZ ww 36) (lowZ (ww >>> ((iI (6)) &&& 31)) 4) (bZ (decide (lwK ww = 0)))), stW G qb v, hiW G h pa sn (actN (layR v (lowZ ww 36) (lowZ (ww >>> ((iI (6)) &&& 31)) 4) (bZ (decide (lwK ww = 0)))) n) (actS (layR v (lowZ ww 36) (lowZ (ww >>> ((iI (6)) &&& 31)) 4) (bZ (decide (lwK ww = 0)))) n S) (actG (layR v (lowZ ww 36) (lowZ (ww >>> ((iI (6)) &&& 31)) 4) (bZ (decide (lwK ww = 0)))) n g v) false, [orO G o sg 0]]) rfl (fun H locs hW hkeep => ?_)
        have rly := layR_rng w0 (lowZ ww 36) (lowZ (ww >>> ((iI (6)) &&& 31)) 4) (bZ (decide (lwK ww = 0)))
        refine z_il C hl dL_lays_130 2 rfl 132 rfl ?_
        refine z_if_eq C dL_lays_132 140 135 (by decide) rfl (by omega) (fun c132 => ?_) (fun c132 => ?_)
        · exfalso; omega
        · skip
          refine z_bipush C dL_lays_135 (by decide) 137 rfl ?_
          refine z_goto C dL_lays_137 152 (by decide) ?_
          refine z_icmp_ne C dL_lays_152 175 155 (by decide) rfl (by omega) (fun c152 => ?_) (fun c152 => ?_)
          · exfalso; unfold layR at c152; (repeat' split at c152) <;> first | omega | (rw [bZ_if] at *; omega)
          · skip
            refine z_il C hl dL_lays_155 2 rfl 157 rfl ?_
            refine z_if_ne C dL_lays_157 171 160 (by decide) rfl (by omega) (fun c157 => ?_) (fun c157 => ?_)
            · skip
              refine z_iconst C dL_lays_171 172 rfl ?_
              refine z_goto C dL_lays_172 176 (by decide) ?_
              exact z_wz C hW dL_lays_176 (rfl) rfl
            · exfalso; omega

set_option maxHeartbeats 16000000 in
set_option maxRecDepth 100000 in
theorem m_lwLay2 (l : Launch) (G : gT) (tb r x cu h pa o sg : Nat) (qn qb sn : Nat → Nat) (S : Nat → Nat → Nat) (u v : Int → Int) (g : Nat → Int → Int) (n : Int) (vv ww : Int32) (i : Ia v) (hn9 : 0 ≤ n ∧ n ≤ 4) (ht0 : v 126 = 0) (hv : vv &&& iI 3 = iI 2) (hD : gD ([[tbO tb qn qb r x h o], [(r, .inr (3, [.ref (qn 0)]))], stW G qn v, stW G qb u, hiW G h pa sn n S g false, [orO G o sg 0]] : List va_W).flatten) : MW l G yL_lays cL_lays 14 (some .boolean) 7 [.ref (tb), .int (vv), .int (ww)] [[tbO tb qn qb r x h o], [(r, .inr (3, [.ref (qn 0)]))], stW G qn v, stW G qb u, hiW G h pa sn n S g false, [orO G o sg 0]] [[tbO tb qn qb r x h o], [(r, .inr (3, [.ref (qn 0)]))], stW G qn (addV v (lwP ww) (1 + lowZ (ww >>> (iI (13) &&& 31)) 2) (lowZ ww 36)), stW G qb v, hiW G h pa sn (actN (addR v (lwP ww) (1 + lowZ (ww >>> (iI (13) &&& 31)) 2) (lowZ ww 36)) n) (actS (addR v (lwP ww) (1 + lowZ (ww >>> (iI (13) &&& 31)) 2) (lowZ ww 36)) n S) (actG (addR v (lwP ww) (1 + lowZ (ww >>> (iI (13) &&& 31)) 2) (lowZ ww 36)) n g v) false, [orO G o sg 0]] ZT (some (.int (iI (bZ (true))))) := by
  refine enterW (own := RL) (by decide +kernel) rfl (Nat.le_of_ble_eq_true rfl) hD ?_
  intro p e s m below meth c C hW hK hZ ls hl
  have hl : lv_has ls 14 [(0, .ref (tb)), (1, .int (vv)), (2, .int (ww))] := hl
  have w0 := i.w
  have hn := w0.n
  have ht := w0.t
  have hs := w0.s
  have hp := perZ_rng w0
  have hz := i.h
  have rk := lwK_rng ww
  have rp := lwP_rng ww
  have rv := val_rng ww
  refine z_il_n C hl dL_lays_0 2 rfl 1 rfl ?_
  refine z_bipush C dL_lays_1 (by decide) 3 rfl ?_
  refine z_SR (r := .int (iI (lowZ ww 36))) (rest := []) C (m_low l G (ww) 36 (by omega)) kS_L_59 ⟨Nat.le_of_ble_eq_true rfl, Nat.le_of_ble_eq_true rfl⟩ (gP_nil) hK rfl hl.1 rfl (Nat.le_of_ble_eq_true rfl) dL_lays_3 ⟨Nat.le_of_ble_eq_true rfl, Nat.le_of_ble_eq_true rfl⟩ 6 rfl ?_
  have rl3 := lowZ_rng (ww) (n := 36) (by omega)
  have ra := lowZ_rng ww (n := 36) (by omega)
  refine z_is_n C hl dL_lays_6 7 rfl (by decide) (lv' := [(3, .int (iI (lowZ ww 36))), (0, .ref (tb)), (1, .int (vv)), (2, .int (ww))]) rfl (fun ls hl => ?_)
  refine z_il_n C hl dL_lays_7 3 rfl 8 rfl ?_
  refine z_bipush C dL_lays_8 (by decide) 10 rfl ?_
  refine z_ishr C dL_lays_10 11 rfl ?_
  refine z_iconst C dL_lays_11 12 rfl ?_
  refine z_SR (r := .int (iI (lowZ (ww >>> ((iI (6)) &&& 31)) 4))) (rest := []) C (m_low l G (ww >>> ((iI (6)) &&& 31)) 4 (by omega)) kS_L_59 ⟨Nat.le_of_ble_eq_true rfl, Nat.le_of_ble_eq_true rfl⟩ (gP_nil) hK rfl hl.1 rfl (Nat.le_of_ble_eq_true rfl) dL_lays_12 ⟨Nat.le_of_ble_eq_true rfl, Nat.le_of_ble_eq_true rfl⟩ 15 rfl ?_
  have rl12 := lowZ_rng (ww >>> ((iI (6)) &&& 31)) (n := 4) (by omega)
  refine z_is C hl dL_lays_15 17 rfl (by decide) (lv' := [(4, .int (iI (lowZ (ww >>> ((iI (6)) &&& 31)) 4))), (3, .int (iI (lowZ ww 36))), (0, .ref (tb)), (1, .int (vv)), (2, .int (ww))]) rfl (fun ls hl => ?_)
  refine z_il_n C hl dL_lays_17 4 rfl 18 rfl ?_
  refine z_bipush C dL_lays_18 (by decide) 20 rfl ?_
  refine z_ishr C dL_lays_20 21 rfl ?_
  refine z_iconst C dL_lays_21 22 rfl ?_
  refine z_iand C dL_lays_22 23 rfl ?_
  refine z_top (b := .int (iI (lwK ww))) (congrArg Value.int (and_ex _ 2 3 (by decide))) ?_
  refine z_mif_ne C dL_lays_23 dL_lays_26 dL_lays_27 dL_lays_30 (by omega) rfl rfl rfl 31 rfl ?_
  refine z_is C hl dL_lays_31 33 rfl (by decide) (lv' := [(5, .int (iI (bZ (decide (lwK ww = 0))))), (4, .int (iI (lowZ (ww >>> ((iI (6)) &&& 31)) 4))), (3, .int (iI (lowZ ww 36))), (0, .ref (tb)), (1, .int (vv)), (2, .int (ww))]) rfl (fun ls hl => ?_)
  refine z_il_n C hl dL_lays_33 2 rfl 34 rfl ?_
  refine z_if_eq C dL_lays_34 43 37 (by decide) rfl (by omega) (fun c34 => ?_) (fun c34 => ?_)
  · skip
    refine z_iconst C dL_lays_43 44 rfl ?_
    refine z_goto C dL_lays_44 48 (by decide) ?_
    refine z_is C hl dL_lays_48 50 rfl (by decide) (lv' := [(6, .int (iI (1))), (5, .int (iI (bZ (decide (lwK ww = 0))))), (4, .int (iI (lowZ (ww >>> ((iI (6)) &&& 31)) 4))), (3, .int (iI (lowZ ww 36))), (0, .ref (tb)), (1, .int (vv)), (2, .int (ww))]) rfl (fun ls hl => ?_)
    refine z_il_n C hl dL_lays_50 5 rfl 51 rfl ?_
    refine z_iconst C dL_lays_51 52 rfl ?_
    refine z_iand C dL_lays_52 53 rfl ?_
    refine z_top (b := .int (iI (2))) (congrArg Value.int hv) ?_
    refine z_swIn C dL_lays_53 (by omega) (by omega) 124 177 rfl (by decide) ?_
    refine z_al_n C hl dL_lays_177 4 rfl 178 rfl ?_
    refine z_iconst C dL_lays_178 179 rfl ?_
    refine z_VR (r := .int (iI (cntR v n 0 5))) (rest := []) C (m_count l G tb r x cu h pa o sg qn qb sn S g n false v 0 5 w0 (by omega)) kV_L_8 ⟨Nat.le_of_ble_eq_true rfl, Nat.le_of_ble_eq_true rfl⟩ (gP_rg hW.1 [0, 1, 2, 4, 5] rfl) hK 0 rfl rfl rfl hl.1 rfl (Nat.le_of_ble_eq_true rfl) dL_lays_179 ⟨Nat.le_of_ble_eq_true rfl, Nat.le_of_ble_eq_true rfl⟩ 182 rfl ?_
    refine z_top (b := .int (iI (v 127))) (congrArg (fun z => Value.int (iI z)) (rfl)) ?_
    refine z_is C hl dL_lays_182 184 rfl (by decide) (lv' := [(9, .int (iI (v 127))), (6, .int (iI (1))), (5, .int (iI (bZ (decide (lwK ww = 0))))), (4, .int (iI (lowZ (ww >>> ((iI (6)) &&& 31)) 4))), (3, .int (iI (lowZ ww 36))), (0, .ref (tb)), (1, .int (vv)), (2, .int (ww))]) rfl (fun ls hl => ?_)
    refine z_al_n C hl dL_lays_184 5 rfl 185 rfl ?_
    refine z_il_n C hl dL_lays_185 4 rfl 186 rfl ?_
    refine z_iconst C dL_lays_186 187 rfl ?_
    refine z_VR (r := .int (iI (celR v (lowZ ww 36) 3))) (rest := []) C (m_cellOf l G tb r x cu h pa o sg qn qb sn v (lowZ ww 36) 3 w0 (by omega) (by omega)) kV_L_18 ⟨Nat.le_of_ble_eq_true rfl, Nat.le_of_ble_eq_true rfl⟩ (gP_rg hW.1 [0, 2] rfl) hK 0 rfl rfl rfl hl.1 rfl (Nat.le_of_ble_eq_true rfl) dL_lays_187 ⟨Nat.le_of_ble_eq_true rfl, Nat.le_of_ble_eq_true rfl⟩ 190 rfl ?_
    refine z_top (b := .int (iI (batZ v (lowZ ww 36)))) (congrArg (fun z => Value.int (iI z)) (cel_3 (v := v) (c := (lowZ ww 36)) (by omega))) ?_
    have rb187 := batZ_rng w0 (lowZ ww 36)
    refine z_mif_lt C dL_lays_190 dL_lays_193 dL_lays_194 dL_lays_197 (by omega) rfl rfl rfl 198 rfl ?_
    refine z_is C hl dL_lays_198 200 rfl (by decide) (lv' := [(10, .int (iI (bZ (decide (0 ≤ batZ v (lowZ ww 36)))))), (9, .int (iI (v 127))), (6, .int (iI (1))), (5, .int (iI (bZ (decide (lwK ww = 0))))), (4, .int (iI (lowZ (ww >>> ((iI (6)) &&& 31)) 4))), (3, .int (iI (lowZ ww 36))), (0, .ref (tb)), (1, .int (vv)), (2, .int (ww))]) rfl (fun ls hl => ?_)
    refine z_al_n C hl dL_lays_200 6 rfl 201 rfl ?_
    refine z_il_n C hl dL_lays_201 8 rfl 202 rfl ?_
    refine z_bipush C dL_lays_202 (by decide) 204 rfl ?_
    refine z_ishr C dL_lays_204 205 rfl ?_
    refine z_iconst C dL_lays_205 206 rfl ?_
    refine z_iand C dL_lays_206 207 rfl ?_
    refine z_top (b := .int (iI (lwP ww))) (congrArg Value.int (and_ex _ 1 1 (by decide))) ?_
    refine z_iconst C dL_lays_207 208 rfl ?_
    refine z_il_n C hl dL_lays_208 8 rfl 209 rfl ?_
    refine z_bipush C dL_lays_209 (by decide) 211 rfl ?_
    refine z_ishr C dL_lays_211 212 rfl ?_
    refine z_iconst C dL_lays_212 213 rfl ?_
    refine z_SR (r := .int (iI (lowZ (ww >>> ((iI (13)) &&& 31)) 2))) (rest := [.int (iI (1)), .int (iI (lwP ww)), .ref (tb)]) C (m_low l G (ww >>> ((iI (13)) &&& 31)) 2 (by omega)) kS_L_59 ⟨Nat.le_of_ble_eq_true rfl, Nat.le_of_ble_eq_true rfl⟩ (gP_nil) hK rfl hl.1 rfl (Nat.le_of_ble_eq_true rfl) dL_lays_213 ⟨Nat.le_of_ble_eq_true rfl, Nat.le_of_ble_eq_true rfl⟩ 216 rfl ?_
    have rl213 := lowZ_rng (ww >>> ((iI (13)) &&& 31)) (n := 2) (by omega)
    refine z_iadd C dL_lays_216 217 rfl (1 + lowZ (ww >>> ((iI (13)) &&& 31)) 2) (by omega) ?_
    refine z_il_n C hl dL_lays_217 5 rfl 218 rfl ?_
    refine z_VWi (r := .int (iI (addR v (lwP ww) (1 + lowZ (ww >>> ((iI (13)) &&& 31)) 2) (lowZ ww 36)))) (rest := []) C (m_boat l G tb r x cu h pa o sg qn qb sn S g n false u v (lwP ww) (1 + lowZ (ww >>> ((iI (13)) &&& 31)) 2) (lowZ ww 36) (by omega) w0 (by omega) (by omega) (by omega) (gD_rg hW.2.1 [0, 1, 2, 3, 4] (by decide) rfl)) kV_L_66 ⟨Nat.le_of_ble_eq_true rfl, Nat.le_of_ble_eq_true rfl⟩ hW hK [0, 1, 2, 3, 4] rfl ((sameA_eq rfl (sameA_eq rfl (sameA_eq rfl (sameA_eq rfl (sameA_cons (hi_permA _ _) sameA_nil)))))) 0 rfl rfl rfl hl.1 rfl (Nat.le_of_ble_eq_true rfl) dL_lays_218 ⟨Nat.le_of_ble_eq_true rfl, Nat.le_of_ble_eq_true rfl⟩ 221 rfl (rs' := [[tbO tb qn qb r x h o], [(r, .inr (3, [.ref (qn 0)]))], stW G qn (addV v (lwP ww) (1 + lowZ (ww >>> ((iI (13)) &&& 31)) 2) (lowZ ww 36)), stW G qb v, hiW G h pa sn (actN (addR v (lwP ww) (1 + lowZ (ww >>> ((iI (13)) &&& 31)) 2) (lowZ ww 36)) n) (actS (addR v (lwP ww) (1 + lowZ (ww >>> ((iI (13)) &&& 31)) 2) (lowZ ww 36)) n S) (actG (addR v (lwP ww) (1 + lowZ (ww >>> ((iI (13)) &&& 31)) 2) (lowZ ww 36)) n g v) false, [orO G o sg 0]]) rfl (fun H locs hW hkeep => ?_)
    have rad := addR_rng w0 (lwP ww) (1 + lowZ (ww >>> ((iI (13)) &&& 31)) 2) (lowZ ww 36)
    refine z_il C hl dL_lays_221 2 rfl 223 rfl ?_
    refine z_if_ne C dL_lays_223 231 226 (by decide) rfl (by omega) (fun c223 => ?_) (fun c223 => ?_)
    · skip
      refine z_bipush C dL_lays_231 (by decide) 233 rfl ?_
      refine z_goto C dL_lays_233 250 (by decide) ?_
      refine z_icmp_ne C dL_lays_250 257 253 (by decide) rfl (by omega) (fun c250 => ?_) (fun c250 => ?_)
      · exfalso; unfold addR at c250; (repeat' split at c250) <;> omega
      · skip
        refine z_iconst C dL_lays_253 254 rfl ?_
        refine z_goto C dL_lays_254 258 (by decide) ?_
        exact z_wz C hW dL_lays_258 (rfl) rfl
    · exfalso; omega
  · skip
    refine z_il_n C hl dL_lays_37 2 rfl 38 rfl ?_
    refine z_bipush C dL_lays_38 (by decide) 40 rfl ?_
    refine z_icmp_ne C dL_lays_40 47 43 (by decide) rfl (by omega) (fun c40 => ?_) (fun c40 => ?_)
    · skip
      refine z_iconst C dL_lays_47 48 rfl ?_
      refine z_is C hl dL_lays_48 50 rfl (by decide) (lv' := [(6, .int (iI (0))), (5, .int (iI (bZ (decide (lwK ww = 0))))), (4, .int (iI (lowZ (ww >>> ((iI (6)) &&& 31)) 4))), (3, .int (iI (lowZ ww 36))), (0, .ref (tb)), (1, .int (vv)), (2, .int (ww))]) rfl (fun ls hl => ?_)
      refine z_il_n C hl dL_lays_50 5 rfl 51 rfl ?_
      refine z_iconst C dL_lays_51 52 rfl ?_
      refine z_iand C dL_lays_52 53 rfl ?_
      refine z_top (b := .int (iI (2))) (congrArg Value.int hv) ?_
      refine z_swIn C dL_lays_53 (by omega) (by omega) 124 177 rfl (by decide) ?_
      refine z_al_n C hl dL_lays_177 4 rfl 178 rfl ?_
      refine z_iconst C dL_lays_178 179 rfl ?_
      refine z_VR (r := .int (iI (cntR v n 0 5))) (rest := []) C (m_count l G tb r x cu h pa o sg qn qb sn S g n false v 0 5 w0 (by omega)) kV_L_8 ⟨Nat.le_of_ble_eq_true rfl, Nat.le_of_ble_eq_true rfl⟩ (gP_rg hW.1 [0, 1, 2, 4, 5] rfl) hK 0 rfl rfl rfl hl.1 rfl (Nat.le_of_ble_eq_true rfl) dL_lays_179 ⟨Nat.le_of_ble_eq_true rfl, Nat.le_of_ble_eq_true rfl⟩ 182 rfl ?_
      refine z_top (b := .int (iI (v 127))) (congrArg (fun z => Value.int (iI z)) (rfl)) ?_
      refine z_is C hl dL_lays_182 184 rfl (by decide) (lv' := [(9, .int (iI (v 127))), (6, .int (iI (0))), (5, .int (iI (bZ (decide (lwK ww = 0))))), (4, .int (iI (lowZ (ww >>> ((iI (6)) &&& 31)) 4))), (3, .int (iI (lowZ ww 36))), (0, .ref (tb)), (1, .int (vv)), (2, .int (ww))]) rfl (fun ls hl => ?_)
      refine z_al_n C hl dL_lays_184 5 rfl 185 rfl ?_
      refine z_il_n C hl dL_lays_185 4 rfl 186 rfl ?_
      refine z_iconst C dL_lays_186 187 rfl ?_
      refine z_VR (r := .int (iI (celR v (lowZ ww 36) 3))) (rest := []) C (m_cellOf l G tb r x cu h pa o sg qn qb sn v (lowZ ww 36) 3 w0 (by omega) (by omega)) kV_L_18 ⟨Nat.le_of_ble_eq_true rfl, Nat.le_of_ble_eq_true rfl⟩ (gP_rg hW.1 [0, 2] rfl) hK 0 rfl rfl rfl hl.1 rfl (Nat.le_of_ble_eq_true rfl) dL_lays_187 ⟨Nat.le_of_ble_eq_true rfl, Nat.le_of_ble_eq_true rfl⟩ 190 rfl ?_
      refine z_top (b := .int (iI (batZ v (lowZ ww 36)))) (congrArg (fun z => Value.int (iI z)) (cel_3 (v := v) (c := (lowZ ww 36)) (by omega))) ?_
      have rb187 := batZ_rng w0 (lowZ ww 36)
      refine z_mif_lt C dL_lays_190 dL_lays_193 dL_lays_194 dL_lays_197 (by omega) rfl rfl rfl 198 rfl ?_
      refine z_is C hl dL_lays_198 200 rfl (by decide) (lv' := [(10, .int (iI (bZ (decide (0 ≤ batZ v (lowZ ww 36)))))), (9, .int (iI (v 127))), (6, .int (iI (0))), (5, .int (iI (bZ (decide (lwK ww = 0))))), (4, .int (iI (lowZ (ww >>> ((iI (6)) &&& 31)) 4))), (3, .int (iI (lowZ ww 36))), (0, .ref (tb)), (1, .int (vv)), (2, .int (ww))]) rfl (fun ls hl => ?_)
      refine z_al_n C hl dL_lays_200 6 rfl 201 rfl ?_
      refine z_il_n C hl dL_lays_201 8 rfl 202 rfl ?_
      refine z_bipush C dL_lays_202 (by decide) 204 rfl ?_
      refine z_ishr C dL_lays_204 205 rfl ?_
      refine z_iconst C dL_lays_205 206 rfl ?_
      refine z_iand C dL_lays_206 207 rfl ?_
      refine z_top (b := .int (iI (lwP ww))) (congrArg Value.int (and_ex _ 1 1 (by decide))) ?_
      refine z_iconst C dL_lays_207 208 rfl ?_
      refine z_il_n C hl dL_lays_208 8 rfl 209 rfl ?_
      refine z_bipush C dL_lays_209 (by decide) 211 rfl ?_
      refine z_ishr C dL_lays_211 212 rfl ?_
      refine z_iconst C dL_lays_212 213 rfl ?_
      refine z_SR (r := .int (iI (lowZ (ww >>> ((iI (13)) &&& 31)) 2))) (rest := [.int (iI (1)), .int (iI (lwP ww)), .ref (tb)]) C (m_low l G (ww >>> ((iI (13)) &&& 31)) 2 (by omega)) kS_L_59 ⟨Nat.le_of_ble_eq_true rfl, Nat.le_of_ble_eq_true rfl⟩ (gP_nil) hK rfl hl.1 rfl (Nat.le_of_ble_eq_true rfl) dL_lays_213 ⟨Nat.le_of_ble_eq_true rfl, Nat.le_of_ble_eq_true rfl⟩ 216 rfl ?_
      have rl213 := lowZ_rng (ww >>> ((iI (13)) &&& 31)) (n := 2) (by omega)
      refine z_iadd C dL_lays_216 217 rfl (1 + lowZ (ww >>> ((iI (13)) &&& 31)) 2) (by omega) ?_
      refine z_il_n C hl dL_lays_217 5 rfl 218 rfl ?_
      refine z_VWi (r := .int (iI (addR v (lwP ww) (1 + lowZ (ww >>> ((iI (13)) &&& 31)) 2) (lowZ ww 36)))) (rest := []) C (m_boat l G tb r x cu h pa o sg qn qb sn S g n false u v (lwP ww) (1 + lowZ (ww >>> ((iI (13)) &&& 31)) 2) (lowZ ww 36) (by omega) w0 (by omega) (by omega) (by omega) (gD_rg hW.2.1 [0, 1, 2, 3, 4] (by decide) rfl)) kV_L_66 ⟨Nat.le_of_ble_eq_true rfl, Nat.le_of_ble_eq_true rfl⟩ hW hK [0, 1, 2, 3, 4] rfl ((sameA_eq rfl (sameA_eq rfl (sameA_eq rfl (sameA_eq rfl (sameA_cons (hi_permA _ _) sameA_nil)))))) 0 rfl rfl rfl hl.1 rfl (Nat.le_of_ble_eq_true rfl) dL_lays_218 ⟨Nat.le_of_ble_eq_true rfl, Nat.le_of_ble_eq_true rfl⟩ 221 rfl (rs' := [[tbO tb qn qb r x h o], [(r, .inr (3, [.ref (qn 0)]))], stW G qn (addV v (lwP ww) (1 + lowZ (ww >>> ((iI (13)) &&& 31)) 2) (lowZ ww 36)), stW G qb v, hiW G h pa sn (actN (addR v (lwP ww) (1 + lowZ (ww >>> ((iI (13)) &&& 31)) 2) (lowZ ww 36)) n) (actS (addR v (lwP ww) (1 + lowZ (ww >>> ((iI (13)) &&& 31)) 2) (lowZ ww 36)) n S) (actG (addR v (lwP ww) (1 + lowZ (ww >>> ((iI (13)) &&& 31)) 2) (lowZ ww 36)) n g v) false, [orO G o sg 0]]) rfl (fun H locs hW hkeep => ?_)
      have rad := addR_rng w0 (lwP ww) (1 + lowZ (ww >>> ((iI (13)) &&& 31)) 2) (lowZ ww 36)
      refine z_il C hl dL_lays_221 2 rfl 223 rfl ?_
      refine z_if_ne C dL_lays_223 231 226 (by decide) rfl (by omega) (fun c223 => ?_) (fun c223 => ?_)
      · exfalso; omega
      · skip
        refine z_il C hl dL_lays_226 0 rfl 228 rfl ?_
        refine z_ifb_eq C dL_lays_228 236 231 (by decide) rfl (fun c228 => ?_) (fun c228 => ?_)
        · skip
          simp only [decide_eq_true_eq, decide_eq_false_iff_not] at c228
          refine z_il C hl dL_lays_236 1 rfl 238 rfl ?_
          refine z_bipush C dL_lays_238 (by decide) 240 rfl ?_
          refine z_icmp_ne C dL_lays_240 248 243 (by decide) rfl (by omega) (fun c240 => ?_) (fun c240 => ?_)
          · skip
            refine z_il C hl dL_lays_248 1 rfl 250 rfl ?_
            refine z_icmp_ne C dL_lays_250 257 253 (by decide) rfl (by omega) (fun c250 => ?_) (fun c250 => ?_)
            · exfalso; unfold addR at c250; (repeat' split at c250) <;> omega
            · skip
              refine z_iconst C dL_lays_253 254 rfl ?_
              refine z_goto C dL_lays_254 258 (by decide) ?_
              exact z_wz C hW dL_lays_258 (rfl) rfl
          · skip
            refine z_bipush C dL_lays_243 (by decide) 245 rfl ?_
            refine z_goto C dL_lays_245 250 (by decide) ?_
            refine z_icmp_ne C dL_lays_250 257 253 (by decide) rfl (by omega) (fun c250 => ?_) (fun c250 => ?_)
            · exfalso; unfold addR at c250; (repeat' split at c250) <;> omega
            · skip
              refine z_iconst C dL_lays_253 254 rfl ?_
              refine z_goto C dL_lays_254 258 (by decide) ?_
              exact z_wz C hW dL_lays_258 (rfl) rfl
        · skip
          simp only [decide_eq_true_eq, decide_eq_false_iff_not] at c228
          refine z_bipush C dL_lays_231 (by decide) 233 rfl ?_
          refine z_goto C dL_lays_233 250 (by decide) ?_
          refine z_icmp_ne C dL_lays_250 257 253 (by decide) rfl (by omega) (fun c250 => ?_) (fun c250 => ?_)
          · exfalso; unfold addR at c250; (repeat' split at c250) <;> omega
          · skip
            refine z_iconst C dL_lays_253 254 rfl ?_
            refine z_goto C dL_lays_254 258 (by decide) ?_
            exact z_wz C hW dL_lays_258 (rfl) rfl
    · skip
      refine z_iconst C dL_lays_43 44 rfl ?_
      refine z_goto C dL_lays_44 48 (by decide) ?_
      refine z_is C hl dL_lays_48 50 rfl (by decide) (lv' := [(6, .int (iI (1))), (5, .int (iI (bZ (decide (lwK ww = 0))))), (4, .int (iI (lowZ (ww >>> ((iI (6)) &&& 31)) 4))), (3, .int (iI (lowZ ww 36))), (0, .ref (tb)), (1, .int (vv)), (2, .int (ww))]) rfl (fun ls hl => ?_)
      refine z_il_n C hl dL_lays_50 5 rfl 51 rfl ?_
      refine z_iconst C dL_lays_51 52 rfl ?_
      refine z_iand C dL_lays_52 53 rfl ?_
      refine z_top (b := .int (iI (2))) (congrArg Value.int hv) ?_
      refine z_swIn C dL_lays_53 (by omega) (by omega) 124 177 rfl (by decide) ?_
      refine z_al_n C hl dL_lays_177 4 rfl 178 rfl ?_
      refine z_iconst C dL_lays_178 179 rfl ?_
      refine z_VR (r := .int (iI (cntR v n 0 5))) (rest := []) C (m_count l G tb r x cu h pa o sg qn qb sn S g n false v 0 5 w0 (by omega)) kV_L_8 ⟨Nat.le_of_ble_eq_true rfl, Nat.le_of_ble_eq_true rfl⟩ (gP_rg hW.1 [0, 1, 2, 4, 5] rfl) hK 0 rfl rfl rfl hl.1 rfl (Nat.le_of_ble_eq_true rfl) dL_lays_179 ⟨Nat.le_of_ble_eq_true rfl, Nat.le_of_ble_eq_true rfl⟩ 182 rfl ?_
      refine z_top (b := .int (iI (v 127))) (congrArg (fun z => Value.int (iI z)) (rfl)) ?_
      refine z_is C hl dL_lays_182 184 rfl (by decide) (lv' := [(9, .int (iI (v 127))), (6, .int (iI (1))), (5, .int (iI (bZ (decide (lwK ww = 0))))), (4, .int (iI (lowZ (ww >>> ((iI (6)) &&& 31)) 4))), (3, .int (iI (lowZ ww 36))), (0, .ref (tb)), (1, .int (vv)), (2, .int (ww))]) rfl (fun ls hl => ?_)
      refine z_al_n C hl dL_lays_184 5 rfl 185 rfl ?_
      refine z_il_n C hl dL_lays_185 4 rfl 186 rfl ?_
      refine z_iconst C dL_lays_186 187 rfl ?_
      refine z_VR (r := .int (iI (celR v (lowZ ww 36) 3))) (rest := []) C (m_cellOf l G tb r x cu h pa o sg qn qb sn v (lowZ ww 36) 3 w0 (by omega) (by omega)) kV_L_18 ⟨Nat.le_of_ble_eq_true rfl, Nat.le_of_ble_eq_true rfl⟩ (gP_rg hW.1 [0, 2] rfl) hK 0 rfl rfl rfl hl.1 rfl (Nat.le_of_ble_eq_true rfl) dL_lays_187 ⟨Nat.le_of_ble_eq_true rfl, Nat.le_of_ble_eq_true rfl⟩ 190 rfl ?_
      refine z_top (b := .int (iI (batZ v (lowZ ww 36)))) (congrArg (fun z => Value.int (iI z)) (cel_3 (v := v) (c := (lowZ ww 36)) (by omega))) ?_
      have rb187 := batZ_rng w0 (lowZ ww 36)
      refine z_mif_lt C dL_lays_190 dL_lays_193 dL_lays_194 dL_lays_197 (by omega) rfl rfl rfl 198 rfl ?_
      refine z_is C hl dL_lays_198 200 rfl (by decide) (lv' := [(10, .int (iI (bZ (decide (0 ≤ batZ v (lowZ ww 36)))))), (9, .int (iI (v 127))), (6, .int (iI (1))), (5, .int (iI (bZ (decide (lwK ww = 0))))), (4, .int (iI (lowZ (ww >>> ((iI (6)) &&& 31)) 4))), (3, .int (iI (lowZ ww 36))), (0, .ref (tb)), (1, .int (vv)), (2, .int (ww))]) rfl (fun ls hl => ?_)
      refine z_al_n C hl dL_lays_200 6 rfl 201 rfl ?_
      refine z_il_n C hl dL_lays_201 8 rfl 202 rfl ?_
      refine z_bipush C dL_lays_202 (by decide) 204 rfl ?_
      refine z_ishr C dL_lays_204 205 rfl ?_
      refine z_iconst C dL_lays_205 206 rfl ?_
      refine z_iand C dL_lays_206 207 rfl ?_
      refine z_top (b := .int (iI (lwP ww))) (congrArg Value.int (and_ex _ 1 1 (by decide))) ?_
      refine z_iconst C dL_lays_207 208 rfl ?_
      refine z_il_n C hl dL_lays_208 8 rfl 209 rfl ?_
      refine z_bipush C dL_lays_209 (by decide) 211 rfl ?_
      refine z_ishr C dL_lays_211 212 rfl ?_
      refine z_iconst C dL_lays_212 213 rfl ?_
      refine z_SR (r := .int (iI (lowZ (ww >>> ((iI (13)) &&& 31)) 2))) (rest := [.int (iI (1)), .int (iI (lwP ww)), .ref (tb)]) C (m_low l G (ww >>> ((iI (13)) &&& 31)) 2 (by omega)) kS_L_59 ⟨Nat.le_of_ble_eq_true rfl, Nat.le_of_ble_eq_true rfl⟩ (gP_nil) hK rfl hl.1 rfl (Nat.le_of_ble_eq_true rfl) dL_lays_213 ⟨Nat.le_of_ble_eq_true rfl, Nat.le_of_ble_eq_true rfl⟩ 216 rfl ?_
      have rl213 := lowZ_rng (ww >>> ((iI (13)) &&& 31)) (n := 2) (by omega)
      refine z_iadd C dL_lays_216 217 rfl (1 + lowZ (ww >>> ((iI (13)) &&& 31)) 2) (by omega) ?_
      refine z_il_n C hl dL_lays_217 5 rfl 218 rfl ?_
      refine z_VWi (r := .int (iI (addR v (lwP ww) (1 + lowZ (ww >>> ((iI (13)) &&& 31)) 2) (lowZ ww 36)))) (rest := []) C (m_boat l G tb r x cu h pa o sg qn qb sn S g n false u v (lwP ww) (1 + lowZ (ww >>> ((iI (13)) &&& 31)) 2) (lowZ ww 36) (by omega) w0 (by omega) (by omega) (by omega) (gD_rg hW.2.1 [0, 1, 2, 3, 4] (by decide) rfl)) kV_L_66 ⟨Nat.le_of_ble_eq_true rfl, Nat.le_of_ble_eq_true rfl⟩ hW hK [0, 1, 2, 3, 4] rfl ((sameA_eq rfl (sameA_eq rfl (sameA_eq rfl (sameA_eq rfl (sameA_cons (hi_permA _ _) sameA_nil)))))) 0 rfl rfl rfl hl.1 rfl (Nat.le_of_ble_eq_true rfl) dL_lays_218 ⟨Nat.le_of_ble_eq_true rfl, Nat.le_of_ble_eq_true rfl⟩ 221 rfl (rs' := [[tbO tb qn qb r x h o], [(r, .inr (3, [.ref (qn 0)]))], stW G qn (addV v (lwP ww) (1 + lowZ (ww >>> ((iI (13)) &&& 31)) 2) (lowZ ww 36)), stW G qb v, hiW G h pa sn (actN (addR v (lwP ww) (1 + lowZ (ww >>> ((iI (13)) &&& 31)) 2) (lowZ ww 36)) n) (actS (addR v (lwP ww) (1 + lowZ (ww >>> ((iI (13)) &&& 31)) 2) (lowZ ww 36)) n S) (actG (addR v (lwP ww) (1 + lowZ (ww >>> ((iI (13)) &&& 31)) 2) (lowZ ww 36)) n g v) false, [orO G o sg 0]]) rfl (fun H locs hW hkeep => ?_)
      have rad := addR_rng w0 (lwP ww) (1 + lowZ (ww >>> ((iI (13)) &&& 31)) 2) (lowZ ww 36)
      refine z_il C hl dL_lays_221 2 rfl 223 rfl ?_
      refine z_if_ne C dL_lays_223 231 226 (by decide) rfl (by omega) (fun c223 => ?_) (fun c223 => ?_)
      · skip
        refine z_bipush C dL_lays_231 (by decide) 233 rfl ?_
        refine z_goto C dL_lays_233 250 (by decide) ?_
        refine z_icmp_ne C dL_lays_250 257 253 (by decide) rfl (by omega) (fun c250 => ?_) (fun c250 => ?_)
        · exfalso; unfold addR at c250; (repeat' split at c250) <;> omega
        · skip
          refine z_iconst C dL_lays_253 254 rfl ?_
          refine z_goto C dL_lays_254 258 (by decide) ?_
          exact z_wz C hW dL_lays_258 (rfl) rfl
      · exfalso; omega

set_option maxHeartbeats 16000000 in
set_option maxRecDepth 100000 in
theorem m_lwLay3 (l : Launch) (G : gT) (E : eT) (tb r x cu h pa o sg : Nat) (qn qb sn : Nat → Nat) (S : Nat → Nat → Nat) (u v : Int → Int) (g : Nat → Int → Int) (n : Int) (vv ww : Int32) (i : Ia v) (hn9 : 0 ≤ n ∧ n ≤ 4) (ht0 : v 126 = 0) (hv : vv &&& iI 3 = iI 3) (hD : gD ([[tbO tb qn qb r x h o], [(r, .inr (3, [.ref (qn 0)]))], stW G qn v, stW G qb u, hiW G h pa sn n S g false, [orO G o sg 0]] : List va_W).flatten) : MW l G yL_lays cL_lays 14 (some .boolean) 7 [.ref (tb), .int (vv), .int (ww)] [[tbO tb qn qb r x h o], [(r, .inr (3, [.ref (qn 0)]))], stW G qn v, stW G qb u, hiW G h pa sn n S g false, [orO G o sg 0]] [[tbO tb qn qb r x h o], [(r, .inr (3, [.ref (qn 0)]))], stW G qn (chsV v (lowZ ww 4) (valW ww)), stW G qb v, hiW G h pa sn (actN (chsR v (lowZ ww 4) (valW ww)) n) (actS (chsR v (lowZ ww 4) (valW ww)) n S) (actG (chsR v (lowZ ww 4) (valW ww)) n g v) false, [orO G o sg 0]] (ZW E [[tbO tb qn qb r x h o], [(r, .inr (3, [.ref (qn 0)]))], stW G qn v, stW G qb u, hiW G h pa sn n S g false, [orO G o sg 0]]) (some (.int (iI (bZ (true))))) := by
  refine enterW (own := RL) (by decide +kernel) rfl (Nat.le_of_ble_eq_true rfl) hD ?_
  intro p e s m below meth c C hW hK hZ ls hl
  have hl : lv_has ls 14 [(0, .ref (tb)), (1, .int (vv)), (2, .int (ww))] := hl
  have w0 := i.w
  have hn := w0.n
  have ht := w0.t
  have hs := w0.s
  have hp := perZ_rng w0
  have hz := i.h
  have rk := lwK_rng ww
  have rp := lwP_rng ww
  have rv := val_rng ww
  refine z_il_n C hl dL_lays_0 2 rfl 1 rfl ?_
  refine z_bipush C dL_lays_1 (by decide) 3 rfl ?_
  refine z_SR (r := .int (iI (lowZ ww 36))) (rest := []) C (m_low l G (ww) 36 (by omega)) kS_L_59 ⟨Nat.le_of_ble_eq_true rfl, Nat.le_of_ble_eq_true rfl⟩ (gP_nil) hK rfl hl.1 rfl (Nat.le_of_ble_eq_true rfl) dL_lays_3 ⟨Nat.le_of_ble_eq_true rfl, Nat.le_of_ble_eq_true rfl⟩ 6 rfl ?_
  have rl3 := lowZ_rng (ww) (n := 36) (by omega)
  have ra := lowZ_rng ww (n := 36) (by omega)
  refine z_is_n C hl dL_lays_6 7 rfl (by decide) (lv' := [(3, .int (iI (lowZ ww 36))), (0, .ref (tb)), (1, .int (vv)), (2, .int (ww))]) rfl (fun ls hl => ?_)
  refine z_il_n C hl dL_lays_7 3 rfl 8 rfl ?_
  refine z_bipush C dL_lays_8 (by decide) 10 rfl ?_
  refine z_ishr C dL_lays_10 11 rfl ?_
  refine z_iconst C dL_lays_11 12 rfl ?_
  refine z_SR (r := .int (iI (lowZ (ww >>> ((iI (6)) &&& 31)) 4))) (rest := []) C (m_low l G (ww >>> ((iI (6)) &&& 31)) 4 (by omega)) kS_L_59 ⟨Nat.le_of_ble_eq_true rfl, Nat.le_of_ble_eq_true rfl⟩ (gP_nil) hK rfl hl.1 rfl (Nat.le_of_ble_eq_true rfl) dL_lays_12 ⟨Nat.le_of_ble_eq_true rfl, Nat.le_of_ble_eq_true rfl⟩ 15 rfl ?_
  have rl12 := lowZ_rng (ww >>> ((iI (6)) &&& 31)) (n := 4) (by omega)
  refine z_is C hl dL_lays_15 17 rfl (by decide) (lv' := [(4, .int (iI (lowZ (ww >>> ((iI (6)) &&& 31)) 4))), (3, .int (iI (lowZ ww 36))), (0, .ref (tb)), (1, .int (vv)), (2, .int (ww))]) rfl (fun ls hl => ?_)
  refine z_il_n C hl dL_lays_17 4 rfl 18 rfl ?_
  refine z_bipush C dL_lays_18 (by decide) 20 rfl ?_
  refine z_ishr C dL_lays_20 21 rfl ?_
  refine z_iconst C dL_lays_21 22 rfl ?_
  refine z_iand C dL_lays_22 23 rfl ?_
  refine z_top (b := .int (iI (lwK ww))) (congrArg Value.int (and_ex _ 2 3 (by decide))) ?_
  refine z_mif_ne C dL_lays_23 dL_lays_26 dL_lays_27 dL_lays_30 (by omega) rfl rfl rfl 31 rfl ?_
  refine z_is C hl dL_lays_31 33 rfl (by decide) (lv' := [(5, .int (iI (bZ (decide (lwK ww = 0))))), (4, .int (iI (lowZ (ww >>> ((iI (6)) &&& 31)) 4))), (3, .int (iI (lowZ ww 36))), (0, .ref (tb)), (1, .int (vv)), (2, .int (ww))]) rfl (fun ls hl => ?_)
  have J50 : ∀ (H : Heap) (locs : List Loc) (hW : Wd G (adr ([[tbO tb qn qb r x h o], [(r, .inr (3, [.ref (qn 0)]))], stW G qn v, stW G qb u, hiW G h pa sn n S g false, [orO G o sg 0]] : List va_W).flatten) [[tbO tb qn qb r x h o], [(r, .inr (3, [.ref (qn 0)]))], stW G qn v, stW G qb u, hiW G h pa sn n S g false, [orO G o sg 0]] s.heap H locs) (ls : Array Slot) (hl : lv_has ls 14 [(5, .int (iI (bZ (decide (lwK ww = 0))))), (4, .int (iI (lowZ (ww >>> ((iI (6)) &&& 31)) 4))), (3, .int (iI (lowZ ww 36))), (0, .ref (tb)), (1, .int (vv)), (2, .int (ww))]), W p l e (rmN 7) s m [.ref (tb), .int (vv), .int (ww)].toArray below meth c H locs 0 0 (MQ below (QW G [[tbO tb qn qb r x h o], [(r, .inr (3, [.ref (qn 0)]))], stW G qn v, stW G qb u, hiW G h pa sn n S g false, [orO G o sg 0]] [[tbO tb qn qb r x h o], [(r, .inr (3, [.ref (qn 0)]))], stW G qn (chsV v (lowZ ww 4) (valW ww)), stW G qb v, hiW G h pa sn (actN (chsR v (lowZ ww 4) (valW ww)) n) (actS (chsR v (lowZ ww 4) (valW ww)) n S) (actG (chsR v (lowZ ww 4) (valW ww)) n g v) false, [orO G o sg 0]] (some (.int (iI (bZ (true)))))) [.ref (tb), .int (vv), .int (ww)].toArray s 0 0 (adr ([[tbO tb qn qb r x h o], [(r, .inr (3, [.ref (qn 0)]))], stW G qn v, stW G qb u, hiW G h pa sn n S g false, [orO G o sg 0]] : List va_W).flatten)) (F0 m 50 ls []) := by
    intro H locs hW ls hl
    refine z_il_n C hl dL_lays_50 4 rfl 51 rfl ?_
    refine z_iconst C dL_lays_51 52 rfl ?_
    refine z_iand C dL_lays_52 53 rfl ?_
    refine z_top (b := .int (iI (3))) (congrArg Value.int hv) ?_
    refine z_swOut C dL_lays_53 (by omega) (by omega) 259 (by decide) ?_
    refine z_il_n C hl dL_lays_259 5 rfl 260 rfl ?_
    refine z_iconst C dL_lays_260 261 rfl ?_
    refine z_SR (r := .int (iI (lowZ ww 4))) (rest := []) C (m_low l G (ww) 4 (by omega)) kS_L_59 ⟨Nat.le_of_ble_eq_true rfl, Nat.le_of_ble_eq_true rfl⟩ (gP_nil) hK rfl hl.1 rfl (Nat.le_of_ble_eq_true rfl) dL_lays_261 ⟨Nat.le_of_ble_eq_true rfl, Nat.le_of_ble_eq_true rfl⟩ 264 rfl ?_
    have rl261 := lowZ_rng (ww) (n := 4) (by omega)
    refine z_is C hl dL_lays_264 266 rfl (by decide) (lv' := [(11, .int (iI (lowZ ww 4))), (5, .int (iI (bZ (decide (lwK ww = 0))))), (4, .int (iI (lowZ (ww >>> ((iI (6)) &&& 31)) 4))), (3, .int (iI (lowZ ww 36))), (0, .ref (tb)), (1, .int (vv)), (2, .int (ww))]) rfl (fun ls hl => ?_)
    have J332 : ∀ (H : Heap) (locs : List Loc) (hW : Wd G (adr ([[tbO tb qn qb r x h o], [(r, .inr (3, [.ref (qn 0)]))], stW G qn v, stW G qb u, hiW G h pa sn n S g false, [orO G o sg 0]] : List va_W).flatten) [[tbO tb qn qb r x h o], [(r, .inr (3, [.ref (qn 0)]))], stW G qn v, stW G qb u, hiW G h pa sn n S g false, [orO G o sg 0]] s.heap H locs) (ls : Array Slot) (hl : lv_has ls 14 [(12, .int (iI (valW ww))), (11, .int (iI (lowZ ww 4))), (0, .ref (tb))]), W p l e (rmN 7) s m [.ref (tb), .int (vv), .int (ww)].toArray below meth c H locs 0 0 (MQ below (QW G [[tbO tb qn qb r x h o], [(r, .inr (3, [.ref (qn 0)]))], stW G qn v, stW G qb u, hiW G h pa sn n S g false, [orO G o sg 0]] [[tbO tb qn qb r x h o], [(r, .inr (3, [.ref (qn 0)]))], stW G qn (chsV v (lowZ ww 4) (valW ww)), stW G qb v, hiW G h pa sn (actN (chsR v (lowZ ww 4) (valW ww)) n) (actS (chsR v (lowZ ww 4) (valW ww)) n S) (actG (chsR v (lowZ ww 4) (valW ww)) n g v) false, [orO G o sg 0]] (some (.int (iI (bZ (true)))))) [.ref (tb), .int (vv), .int (ww)].toArray s 0 0 (adr ([[tbO tb qn qb r x h o], [(r, .inr (3, [.ref (qn 0)]))], stW G qn v, stW G qb u, hiW G h pa sn n S g false, [orO G o sg 0]] : List va_W).flatten)) (F0 m 332 ls []) := by
      intro H locs hW ls hl
      refine z_al_n C hl dL_lays_332 2 rfl 333 rfl ?_
      refine z_bipush C dL_lays_333 (by decide) 335 rfl ?_
      refine z_il C hl dL_lays_335 1 rfl 337 rfl ?_
      refine z_iadd C dL_lays_337 338 rfl (15 + lowZ ww 4) (by omega) ?_
      refine z_VR (r := .int (iI (cntR v n 0 (15 + lowZ ww 4)))) (rest := []) C (m_count l G tb r x cu h pa o sg qn qb sn S g n false v 0 (15 + lowZ ww 4) w0 (by omega)) kV_L_8 ⟨Nat.le_of_ble_eq_true rfl, Nat.le_of_ble_eq_true rfl⟩ (gP_rg hW.1 [0, 1, 2, 4, 5] rfl) hK 0 rfl rfl rfl hl.1 rfl (Nat.le_of_ble_eq_true rfl) dL_lays_338 ⟨Nat.le_of_ble_eq_true rfl, Nat.le_of_ble_eq_true rfl⟩ 341 rfl ?_
      refine z_top (b := .int (iI (setZ v (lowZ ww 4)))) (congrArg (fun z => Value.int (iI z)) (cnt_set (v := v) (w := (lowZ ww 4)) (by omega))) ?_
      have rs338 := set_rng w0 (k := (lowZ ww 4))
      refine z_is C hl dL_lays_341 343 rfl (by decide) (lv' := [(13, .int (iI (setZ v (lowZ ww 4)))), (12, .int (iI (valW ww))), (11, .int (iI (lowZ ww 4))), (0, .ref (tb))]) rfl (fun ls hl => ?_)
      refine z_al_n C hl dL_lays_343 3 rfl 344 rfl ?_
      refine z_il C hl dL_lays_344 2 rfl 346 rfl ?_
      refine z_il C hl dL_lays_346 1 rfl 348 rfl ?_
      refine z_VWzi (r := .int (iI (chsR v (lowZ ww 4) (valW ww)))) (rest := []) C (m_set l G tb r x cu h pa o sg qn qb sn S g n false u v E (lowZ ww 4) (valW ww) (by omega) w0 (by omega) (by omega) (gD_rg hW.2.1 [0, 1, 2, 3, 4] (by decide) rfl)) kV_L_69 ⟨Nat.le_of_ble_eq_true rfl, Nat.le_of_ble_eq_true rfl⟩ hW hK [0, 1, 2, 3, 4] rfl ((sameA_eq rfl (sameA_eq rfl (sameA_eq rfl (sameA_eq rfl (sameA_cons (hi_permA _ _) sameA_nil)))))) zw_blind (zw_of hZ hW.2.2.2 (hW.in [0, 1, 2, 3, 4] rfl)) 0 rfl rfl rfl hl.1 rfl (Nat.le_of_ble_eq_true rfl) dL_lays_348 ⟨Nat.le_of_ble_eq_true rfl, Nat.le_of_ble_eq_true rfl⟩ 351 rfl (rs' := [[tbO tb qn qb r x h o], [(r, .inr (3, [.ref (qn 0)]))], stW G qn (chsV v (lowZ ww 4) (valW ww)), stW G qb v, hiW G h pa sn (actN (chsR v (lowZ ww 4) (valW ww)) n) (actS (chsR v (lowZ ww 4) (valW ww)) n S) (actG (chsR v (lowZ ww 4) (valW ww)) n g v) false, [orO G o sg 0]]) rfl (fun H locs hW hkeep => ?_)
      have rch := chsR_rng w0 (lowZ ww 4) (valW ww)
      refine z_il C hl dL_lays_351 0 rfl 353 rfl ?_
      refine z_il C hl dL_lays_353 1 rfl 355 rfl ?_
      refine z_icmp_ne C dL_lays_355 363 358 (by decide) rfl (by omega) (fun c355 => ?_) (fun c355 => ?_)
      · skip
        refine z_il C hl dL_lays_363 0 rfl 365 rfl ?_
        refine z_icmp_ne C dL_lays_365 386 368 (by decide) rfl (by omega) (fun c365 => ?_) (fun c365 => ?_)
        · exfalso; unfold chsR at c365; (repeat' split at c365) <;> omega
        · skip
          refine z_al_n C hl dL_lays_368 3 rfl 369 rfl ?_
          refine z_bipush C dL_lays_369 (by decide) 371 rfl ?_
          refine z_il C hl dL_lays_371 2 rfl 373 rfl ?_
          refine z_iadd C dL_lays_373 374 rfl (15 + lowZ ww 4) (by omega) ?_
          refine z_VR (r := .int (iI (cntR (chsV v (lowZ ww 4) (valW ww)) (actN (chsR v (lowZ ww 4) (valW ww)) n) 0 (15 + lowZ ww 4)))) (rest := []) C (m_count l G tb r x cu h pa o sg qn qb sn (actS (chsR v (lowZ ww 4) (valW ww)) n S) (actG (chsR v (lowZ ww 4) (valW ww)) n g v) (actN (chsR v (lowZ ww 4) (valW ww)) n) false (chsV v (lowZ ww 4) (valW ww)) 0 (15 + lowZ ww 4) (w0.chs (lowZ ww 4) (valW ww)) (by omega)) kV_L_8 ⟨Nat.le_of_ble_eq_true rfl, Nat.le_of_ble_eq_true rfl⟩ (gP_rg hW.1 [0, 1, 2, 4, 5] rfl) hK 0 rfl rfl rfl hl.1 rfl (Nat.le_of_ble_eq_true rfl) dL_lays_374 ⟨Nat.le_of_ble_eq_true rfl, Nat.le_of_ble_eq_true rfl⟩ 377 rfl ?_
          refine z_top (b := .int (iI (setZ (chsV v (lowZ ww 4) (valW ww)) (lowZ ww 4)))) (congrArg (fun z => Value.int (iI z)) (cnt_set (v := (chsV v (lowZ ww 4) (valW ww))) (w := (lowZ ww 4)) (by omega))) ?_
          have rs374 := set_rng (w0.chs (lowZ ww 4) (valW ww)) (k := (lowZ ww 4))
          refine z_il C hl dL_lays_377 1 rfl 379 rfl ?_
          refine z_icmp_ne C dL_lays_379 386 382 (by decide) rfl (by omega) (fun c379 => ?_) (fun c379 => ?_)
          · exfalso; exact c379 (chs_set w0 (by omega) rv.1 ht0)
          · skip
            refine z_iconst C dL_lays_382 383 rfl ?_
            refine z_goto C dL_lays_383 387 (by decide) ?_
            exact z_wz C hW dL_lays_387 (rfl) rfl
      · skip
        refine z_bipush C dL_lays_358 (by decide) 360 rfl ?_
        refine z_goto C dL_lays_360 365 (by decide) ?_
        refine z_icmp_ne C dL_lays_365 386 368 (by decide) rfl (by omega) (fun c365 => ?_) (fun c365 => ?_)
        · exfalso; unfold chsR at c365; (repeat' split at c365) <;> omega
        · skip
          refine z_al_n C hl dL_lays_368 3 rfl 369 rfl ?_
          refine z_bipush C dL_lays_369 (by decide) 371 rfl ?_
          refine z_il C hl dL_lays_371 2 rfl 373 rfl ?_
          refine z_iadd C dL_lays_373 374 rfl (15 + lowZ ww 4) (by omega) ?_
          refine z_VR (r := .int (iI (cntR (chsV v (lowZ ww 4) (valW ww)) (actN (chsR v (lowZ ww 4) (valW ww)) n) 0 (15 + lowZ ww 4)))) (rest := []) C (m_count l G tb r x cu h pa o sg qn qb sn (actS (chsR v (lowZ ww 4) (valW ww)) n S) (actG (chsR v (lowZ ww 4) (valW ww)) n g v) (actN (chsR v (lowZ ww 4) (valW ww)) n) false (chsV v (lowZ ww 4) (valW ww)) 0 (15 + lowZ ww 4) (w0.chs (lowZ ww 4) (valW ww)) (by omega)) kV_L_8 ⟨Nat.le_of_ble_eq_true rfl, Nat.le_of_ble_eq_true rfl⟩ (gP_rg hW.1 [0, 1, 2, 4, 5] rfl) hK 0 rfl rfl rfl hl.1 rfl (Nat.le_of_ble_eq_true rfl) dL_lays_374 ⟨Nat.le_of_ble_eq_true rfl, Nat.le_of_ble_eq_true rfl⟩ 377 rfl ?_
          refine z_top (b := .int (iI (setZ (chsV v (lowZ ww 4) (valW ww)) (lowZ ww 4)))) (congrArg (fun z => Value.int (iI z)) (cnt_set (v := (chsV v (lowZ ww 4) (valW ww))) (w := (lowZ ww 4)) (by omega))) ?_
          have rs374 := set_rng (w0.chs (lowZ ww 4) (valW ww)) (k := (lowZ ww 4))
          refine z_il C hl dL_lays_377 1 rfl 379 rfl ?_
          refine z_icmp_ne C dL_lays_379 386 382 (by decide) rfl (by omega) (fun c379 => ?_) (fun c379 => ?_)
          · exfalso; exact c379 (chs_set w0 (by omega) rv.1 ht0)
          · skip
            refine z_iconst C dL_lays_382 383 rfl ?_
            refine z_goto C dL_lays_383 387 (by decide) ?_
            exact z_wz C hW dL_lays_387 (rfl) rfl
    refine z_il C hl dL_lays_266 0 rfl 268 rfl ?_
    refine z_if_ne C dL_lays_268 283 271 (by decide) rfl (by omega) (fun c268 => ?_) (fun c268 => ?_)
    · skip
      refine z_il C hl dL_lays_283 0 rfl 285 rfl ?_
      refine z_iconst C dL_lays_285 286 rfl ?_
      refine z_icmp_ne C dL_lays_286 301 289 (by decide) rfl (by omega) (fun c286 => ?_) (fun c286 => ?_)
      · skip
        refine z_il C hl dL_lays_301 0 rfl 303 rfl ?_
        refine z_iconst C dL_lays_303 304 rfl ?_
        refine z_icmp_ne C dL_lays_304 319 307 (by decide) rfl (by omega) (fun c304 => ?_) (fun c304 => ?_)
        · skip
          refine z_bipush C dL_lays_319 (by decide) 321 rfl ?_
          refine z_il_n C hl dL_lays_321 6 rfl 322 rfl ?_
          refine z_iconst C dL_lays_322 323 rfl ?_
          refine z_ishr C dL_lays_323 324 rfl ?_
          refine z_bipush C dL_lays_324 (by decide) 326 rfl ?_
          refine z_SR (r := .int (iI (lowZ (ww >>> ((iI (2)) &&& 31)) 40))) (rest := [.int (iI (20))]) C (m_low l G (ww >>> ((iI (2)) &&& 31)) 40 (by omega)) kS_L_59 ⟨Nat.le_of_ble_eq_true rfl, Nat.le_of_ble_eq_true rfl⟩ (gP_nil) hK rfl hl.1 rfl (Nat.le_of_ble_eq_true rfl) dL_lays_326 ⟨Nat.le_of_ble_eq_true rfl, Nat.le_of_ble_eq_true rfl⟩ 329 rfl ?_
          have rl326 := lowZ_rng (ww >>> ((iI (2)) &&& 31)) (n := 40) (by omega)
          refine z_iadd C dL_lays_329 330 rfl (20 + lowZ (ww >>> ((iI (2)) &&& 31)) 40) (by omega) ?_
          refine z_top (b := .int (iI (valW ww))) (congrArg (fun z => Value.int (iI z)) (by unfold valW; (repeat' split) <;> omega)) ?_
          refine z_is C hl dL_lays_330 332 rfl (by decide) (lv' := [(12, .int (iI (valW ww))), (11, .int (iI (lowZ ww 4))), (5, .int (iI (bZ (decide (lwK ww = 0))))), (4, .int (iI (lowZ (ww >>> ((iI (6)) &&& 31)) 4))), (3, .int (iI (lowZ ww 36))), (0, .ref (tb)), (1, .int (vv)), (2, .int (ww))]) rfl (fun ls hl => ?_)
          exact J332 _ _ hW ls (lv_sub hl [0, 1, 5] rfl)
        · skip
          refine z_iconst C dL_lays_307 308 rfl ?_
          refine z_il_n C hl dL_lays_308 6 rfl 309 rfl ?_
          refine z_iconst C dL_lays_309 310 rfl ?_
          refine z_ishr C dL_lays_310 311 rfl ?_
          refine z_iconst C dL_lays_311 312 rfl ?_
          refine z_SR (r := .int (iI (lowZ (ww >>> ((iI (2)) &&& 31)) 3))) (rest := [.int (iI (1))]) C (m_low l G (ww >>> ((iI (2)) &&& 31)) 3 (by omega)) kS_L_59 ⟨Nat.le_of_ble_eq_true rfl, Nat.le_of_ble_eq_true rfl⟩ (gP_nil) hK rfl hl.1 rfl (Nat.le_of_ble_eq_true rfl) dL_lays_312 ⟨Nat.le_of_ble_eq_true rfl, Nat.le_of_ble_eq_true rfl⟩ 315 rfl ?_
          have rl312 := lowZ_rng (ww >>> ((iI (2)) &&& 31)) (n := 3) (by omega)
          refine z_iadd C dL_lays_315 316 rfl (1 + lowZ (ww >>> ((iI (2)) &&& 31)) 3) (by omega) ?_
          refine z_goto C dL_lays_316 330 (by decide) ?_
          refine z_top (b := .int (iI (valW ww))) (congrArg (fun z => Value.int (iI z)) (by unfold valW; (repeat' split) <;> omega)) ?_
          refine z_is C hl dL_lays_330 332 rfl (by decide) (lv' := [(12, .int (iI (valW ww))), (11, .int (iI (lowZ ww 4))), (5, .int (iI (bZ (decide (lwK ww = 0))))), (4, .int (iI (lowZ (ww >>> ((iI (6)) &&& 31)) 4))), (3, .int (iI (lowZ ww 36))), (0, .ref (tb)), (1, .int (vv)), (2, .int (ww))]) rfl (fun ls hl => ?_)
          exact J332 _ _ hW ls (lv_sub hl [0, 1, 5] rfl)
      · skip
        refine z_iconst C dL_lays_289 290 rfl ?_
        refine z_il_n C hl dL_lays_290 6 rfl 291 rfl ?_
        refine z_iconst C dL_lays_291 292 rfl ?_
        refine z_ishr C dL_lays_292 293 rfl ?_
        refine z_iconst C dL_lays_293 294 rfl ?_
        refine z_SR (r := .int (iI (lowZ (ww >>> ((iI (2)) &&& 31)) 4))) (rest := [.int (iI (1))]) C (m_low l G (ww >>> ((iI (2)) &&& 31)) 4 (by omega)) kS_L_59 ⟨Nat.le_of_ble_eq_true rfl, Nat.le_of_ble_eq_true rfl⟩ (gP_nil) hK rfl hl.1 rfl (Nat.le_of_ble_eq_true rfl) dL_lays_294 ⟨Nat.le_of_ble_eq_true rfl, Nat.le_of_ble_eq_true rfl⟩ 297 rfl ?_
        have rl294 := lowZ_rng (ww >>> ((iI (2)) &&& 31)) (n := 4) (by omega)
        refine z_iadd C dL_lays_297 298 rfl (1 + lowZ (ww >>> ((iI (2)) &&& 31)) 4) (by omega) ?_
        refine z_goto C dL_lays_298 330 (by decide) ?_
        refine z_top (b := .int (iI (valW ww))) (congrArg (fun z => Value.int (iI z)) (by unfold valW; (repeat' split) <;> omega)) ?_
        refine z_is C hl dL_lays_330 332 rfl (by decide) (lv' := [(12, .int (iI (valW ww))), (11, .int (iI (lowZ ww 4))), (5, .int (iI (bZ (decide (lwK ww = 0))))), (4, .int (iI (lowZ (ww >>> ((iI (6)) &&& 31)) 4))), (3, .int (iI (lowZ ww 36))), (0, .ref (tb)), (1, .int (vv)), (2, .int (ww))]) rfl (fun ls hl => ?_)
        exact J332 _ _ hW ls (lv_sub hl [0, 1, 5] rfl)
    · skip
      refine z_iconst C dL_lays_271 272 rfl ?_
      refine z_il_n C hl dL_lays_272 6 rfl 273 rfl ?_
      refine z_iconst C dL_lays_273 274 rfl ?_
      refine z_ishr C dL_lays_274 275 rfl ?_
      refine z_iconst C dL_lays_275 276 rfl ?_
      refine z_SR (r := .int (iI (lowZ (ww >>> ((iI (2)) &&& 31)) 3))) (rest := [.int (iI (1))]) C (m_low l G (ww >>> ((iI (2)) &&& 31)) 3 (by omega)) kS_L_59 ⟨Nat.le_of_ble_eq_true rfl, Nat.le_of_ble_eq_true rfl⟩ (gP_nil) hK rfl hl.1 rfl (Nat.le_of_ble_eq_true rfl) dL_lays_276 ⟨Nat.le_of_ble_eq_true rfl, Nat.le_of_ble_eq_true rfl⟩ 279 rfl ?_
      have rl276 := lowZ_rng (ww >>> ((iI (2)) &&& 31)) (n := 3) (by omega)
      refine z_iadd C dL_lays_279 280 rfl (1 + lowZ (ww >>> ((iI (2)) &&& 31)) 3) (by omega) ?_
      refine z_goto C dL_lays_280 330 (by decide) ?_
      refine z_top (b := .int (iI (valW ww))) (congrArg (fun z => Value.int (iI z)) (by unfold valW; (repeat' split) <;> omega)) ?_
      refine z_is C hl dL_lays_330 332 rfl (by decide) (lv' := [(12, .int (iI (valW ww))), (11, .int (iI (lowZ ww 4))), (5, .int (iI (bZ (decide (lwK ww = 0))))), (4, .int (iI (lowZ (ww >>> ((iI (6)) &&& 31)) 4))), (3, .int (iI (lowZ ww 36))), (0, .ref (tb)), (1, .int (vv)), (2, .int (ww))]) rfl (fun ls hl => ?_)
      exact J332 _ _ hW ls (lv_sub hl [0, 1, 5] rfl)
  refine z_il_n C hl dL_lays_33 2 rfl 34 rfl ?_
  refine z_if_eq C dL_lays_34 43 37 (by decide) rfl (by omega) (fun c34 => ?_) (fun c34 => ?_)
  · skip
    refine z_iconst C dL_lays_43 44 rfl ?_
    refine z_goto C dL_lays_44 48 (by decide) ?_
    refine z_is C hl dL_lays_48 50 rfl (by decide) (lv' := [(6, .int (iI (1))), (5, .int (iI (bZ (decide (lwK ww = 0))))), (4, .int (iI (lowZ (ww >>> ((iI (6)) &&& 31)) 4))), (3, .int (iI (lowZ ww 36))), (0, .ref (tb)), (1, .int (vv)), (2, .int (ww))]) rfl (fun ls hl => ?_)
    exact J50 _ _ hW ls (lv_sub hl [1, 2, 3, 4, 5, 6] rfl)
  · skip
    refine z_il_n C hl dL_lays_37 2 rfl 38 rfl ?_
    refine z_bipush C dL_lays_38 (by decide) 40 rfl ?_
    refine z_icmp_ne C dL_lays_40 47 43 (by decide) rfl (by omega) (fun c40 => ?_) (fun c40 => ?_)
    · skip
      refine z_iconst C dL_lays_47 48 rfl ?_
      refine z_is C hl dL_lays_48 50 rfl (by decide) (lv' := [(6, .int (iI (0))), (5, .int (iI (bZ (decide (lwK ww = 0))))), (4, .int (iI (lowZ (ww >>> ((iI (6)) &&& 31)) 4))), (3, .int (iI (lowZ ww 36))), (0, .ref (tb)), (1, .int (vv)), (2, .int (ww))]) rfl (fun ls hl => ?_)
      exact J50 _ _ hW ls (lv_sub hl [1, 2, 3, 4, 5, 6] rfl)
    · skip
      refine z_iconst C dL_lays_43 44 rfl ?_
      refine z_goto C dL_lays_44 48 (by decide) ?_
      refine z_is C hl dL_lays_48 50 rfl (by decide) (lv' := [(6, .int (iI (1))), (5, .int (iI (bZ (decide (lwK ww = 0))))), (4, .int (iI (lowZ (ww >>> ((iI (6)) &&& 31)) 4))), (3, .int (iI (lowZ ww 36))), (0, .ref (tb)), (1, .int (vv)), (2, .int (ww))]) rfl (fun ls hl => ?_)
      exact J50 _ _ hW ls (lv_sub hl [1, 2, 3, 4, 5, 6] rfl)
