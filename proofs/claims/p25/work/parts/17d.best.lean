set_option maxHeartbeats 16000000 in
set_option maxRecDepth 100000 in
theorem m_lwBest (l : Launch) (G : gT) (tb r x cu h pa o sg : Nat) (qn qb sn : Nat → Nat) (S : Nat → Nat → Nat) (v u : Int → Int) (g : Nat → Int → Int) (n : Int) (k : sK) (i : Ia v) (hn9 : 0 ≤ n ∧ n ≤ 4) (hD : gD ([[tbO tb qn qb r x h o], stW G qn v, stW G qb u, [(r, .inr (3, [.ref (qn 0)]))], [sxA x cu qn k.1], [arL G cu 5 k.2], hiW G h pa sn n S g false, stW G sn v0Z, [orO G o sg 0], [arC G sg 60 (fun _ => 0)]] : List va_W).flatten) : ME l G yL_isBest cL_isBest 12 (some .boolean) 7 [.ref (tb)] [[tbO tb qn qb r x h o], stW G qn v, stW G qb u, [(r, .inr (3, [.ref (qn 0)]))], [sxA x cu qn k.1], [arL G cu 5 k.2], hiW G h pa sn n S g false, stW G sn v0Z, [orO G o sg 0], [arC G sg 60 (fun _ => 0)]] (fun z : wT => lwR G tb r x cu h pa o sg qn qb sn z.1 v z.2.1 z.2.2.1 z.2.2.2.1 z.2.2.2.2) (fun z : wT => 0 ≤ z.2.2.2.1 ∧ z.2.2.2.1 ≤ 4) ZT (.int (iI (bZ (true)))) := by
  refine enterE (own := RL) (by decide +kernel) rfl (Nat.le_of_ble_eq_true rfl) hD ?_
  intro p e s m below meth c C hW hK hZ ls hl
  have hl : lv_has ls 12 [(0, .ref (tb))] := hl
  have w0 := i.w
  have hn := w0.n
  have ht := w0.t
  have hs := w0.s
  have hp := perZ_rng w0
  have hz := i.h
  refine z_al_n C hl dL_isBest_0 0 rfl 1 rfl ?_
  refine z_VWi (r := .int (iI (besR v))) (rest := []) C (m_best l G tb r x cu h pa o sg qn qb sn v k w0 (gD_rg hW.2.1 [0, 3, 4, 5, 1] (by decide) rfl)) kV_L_53 ⟨Nat.le_of_ble_eq_true rfl, Nat.le_of_ble_eq_true rfl⟩ hW hK [0, 3, 4, 5, 1] rfl (sameA_of rfl) 0 rfl rfl rfl hl.1 rfl (Nat.le_of_ble_eq_true rfl) dL_isBest_1 ⟨Nat.le_of_ble_eq_true rfl, Nat.le_of_ble_eq_true rfl⟩ 4 rfl (rs' := [[tbO tb qn qb r x h o], stW G qn v, stW G qb u, [(r, .inr (3, [.ref (qn 0)]))], [sxA x cu qn (besK v k).1], [arL G cu 5 (besK v k).2], hiW G h pa sn n S g false, stW G sn v0Z, [orO G o sg 0], [arC G sg 60 (fun _ => 0)]]) rfl (fun H locs hW hkeep => ?_)
  have rb1 := besR_rng w0
  refine z_is_n C hl dL_isBest_4 5 rfl (by decide) (lv' := [(1, .int (iI (besR v))), (0, .ref (tb))]) rfl (fun ls hl => ?_)
  refine z_al_n C hl dL_isBest_5 1 rfl 6 rfl ?_
  refine z_bipush C dL_isBest_6 (by decide) 8 rfl ?_
  refine z_VR (r := .int (iI (cntR v n 0 11))) (rest := []) C (m_count l G tb r x cu h pa o sg qn qb sn S g n false v 0 11 w0 (by omega)) kV_L_8 ⟨Nat.le_of_ble_eq_true rfl, Nat.le_of_ble_eq_true rfl⟩ (gP_rg hW.1 [0, 3, 1, 6, 8] rfl) hK 0 rfl rfl rfl hl.1 rfl (Nat.le_of_ble_eq_true rfl) dL_isBest_8 ⟨Nat.le_of_ble_eq_true rfl, Nat.le_of_ble_eq_true rfl⟩ 11 rfl ?_
  refine z_top (b := .int (iI (bZ (overB v)))) (congrArg (fun z => Value.int (iI z)) (rfl)) ?_
  refine z_iconst C dL_isBest_11 12 rfl ?_
  refine z_icmp_ne C dL_isBest_12 27 15 (by decide) rfl (by have := bZ_rng (overB v); omega) (fun c12 => ?_) (fun c12 => ?_)
  · skip
    have ho : overB v = false := by cases hb : overB v with | false => rfl | true => exact absurd (bZ_t hb) c12
    refine z_bipush C dL_isBest_27 (by decide) 29 rfl ?_
    refine z_top (b := .int (iI ((bstN v (Int.toNat 0)).2))) rfl ?_
    refine z_is_n C hl dL_isBest_29 30 rfl (by decide) (lv' := [(2, .int (iI (((bstN v (Int.toNat 0)).2)))), (1, .int (iI (besR v))), (0, .ref (tb))]) rfl (fun ls hl => ?_)
    refine z_iconst C dL_isBest_30 31 rfl ?_
    refine z_top (b := .int (iI ((bstN v (Int.toNat 0)).1))) rfl ?_
    refine z_is_n C hl dL_isBest_31 32 rfl (by decide) (lv' := [(3, .int (iI (((bstN v (Int.toNat 0)).1)))), (2, .int (iI (((bstN v (Int.toNat 0)).2)))), (1, .int (iI (besR v))), (0, .ref (tb))]) rfl (fun ls hl => ?_)
    refine z_iconst C dL_isBest_32 33 rfl ?_
    refine z_is C hl dL_isBest_33 35 rfl (by decide) (lv' := [(4, .int (iI (0))), (3, .int (iI (((bstN v (Int.toNat 0)).1)))), (2, .int (iI (((bstN v (Int.toNat 0)).2)))), (1, .int (iI (besR v))), (0, .ref (tb))]) rfl (fun ls hl => ?_)
    have L35 : ∀ (fu : Nat) (j : Int) (S1 : Nat → Nat → Nat) (u1 : Int → Int) (g1 : Nat → Int → Int) (n1 : Int) (k1 : sK) (h1 : 0 ≤ j ∧ j ≤ 12 * v 127) (hn1 : 0 ≤ n1 ∧ n1 ≤ 4) (H : Heap) (locs : List Loc) (hW : Wd G (adr ([[tbO tb qn qb r x h o], stW G qn v, stW G qb u, [(r, .inr (3, [.ref (qn 0)]))], [sxA x cu qn k.1], [arL G cu 5 k.2], hiW G h pa sn n S g false, stW G sn v0Z, [orO G o sg 0], [arC G sg 60 (fun _ => 0)]] : List va_W).flatten) [[tbO tb qn qb r x h o], stW G qn v, stW G qb u1, [(r, .inr (3, [.ref (qn 0)]))], [sxA x cu qn k1.1], [arL G cu 5 k1.2], hiW G h pa sn n1 S1 g1 false, stW G sn v0Z, [orO G o sg 0], [arC G sg 60 (fun _ => 0)]] s.heap H locs) (hm : 12 * v 127 - j < (fu : Int)) (ls : Array Slot) (hl : lv_has ls 12 [(4, .int (iI (j))), (3, .int (iI (((bstN v (Int.toNat j)).1)))), (2, .int (iI (((bstN v (Int.toNat j)).2)))), (1, .int (iI (besR v))), (0, .ref (tb))]), W p l e (rmN 7) s m [.ref (tb)].toArray below meth c H locs 0 0 (MQ below (QE G [[tbO tb qn qb r x h o], stW G qn v, stW G qb u, [(r, .inr (3, [.ref (qn 0)]))], [sxA x cu qn k.1], [arL G cu 5 k.2], hiW G h pa sn n S g false, stW G sn v0Z, [orO G o sg 0], [arC G sg 60 (fun _ => 0)]] (fun z : wT => lwR G tb r x cu h pa o sg qn qb sn z.1 v z.2.1 z.2.2.1 z.2.2.2.1 z.2.2.2.2) (fun z : wT => 0 ≤ z.2.2.2.1 ∧ z.2.2.2.1 ≤ 4) (.int (iI (bZ (true))))) [.ref (tb)].toArray s 0 0 (adr ([[tbO tb qn qb r x h o], stW G qn v, stW G qb u, [(r, .inr (3, [.ref (qn 0)]))], [sxA x cu qn k.1], [arL G cu 5 k.2], hiW G h pa sn n S g false, stW G sn v0Z, [orO G o sg 0], [arC G sg 60 (fun _ => 0)]] : List va_W).flatten)) (F0 m 35 ls []) := by
      intro fu
      induction fu with
      | zero => intro j S1 u1 g1 n1 k1 h1 hn1 H locs hW hm ls hl; exfalso; omega
      | succ fu ih =>
        intro j S1 u1 g1 n1 k1 h1 hn1 H locs hW hm ls hl
        have rb1 := bst_rng w0 (Int.toNat j) (by omega)
        have ih35 := ih
        refine z_il C hl dL_isBest_35 0 rfl 37 rfl ?_
        refine z_bipush C dL_isBest_37 (by decide) 39 rfl ?_
        refine z_al_n C hl dL_isBest_39 4 rfl 40 rfl ?_
        refine z_iconst C dL_isBest_40 41 rfl ?_
        refine z_VR (r := .int (iI (cntR v n1 0 5))) (rest := [.int (iI (12)), .int (iI (j))]) C (m_count l G tb r x cu h pa o sg qn qb sn S1 g1 n1 false v 0 5 w0 (by omega)) kV_L_8 ⟨Nat.le_of_ble_eq_true rfl, Nat.le_of_ble_eq_true rfl⟩ (gP_rg hW.1 [0, 3, 1, 6, 8] rfl) hK 0 rfl rfl rfl hl.1 rfl (Nat.le_of_ble_eq_true rfl) dL_isBest_41 ⟨Nat.le_of_ble_eq_true rfl, Nat.le_of_ble_eq_true rfl⟩ 44 rfl ?_
        refine z_top (b := .int (iI (v 127))) (congrArg (fun z => Value.int (iI z)) (rfl)) ?_
        refine z_imul C dL_isBest_44 45 rfl (12 * v 127) (by omega) ?_
        refine z_icmp_ge C dL_isBest_45 240 48 (by decide) rfl (by omega) (fun c45 => ?_) (fun c45 => ?_)
        · skip
          have ej : j = 12 * v 127 := by omega
          refine z_il_n C hl dL_isBest_240 3 rfl 241 rfl ?_
          refine z_il_n C hl dL_isBest_241 2 rfl 242 rfl ?_
          refine z_icmp_ne C dL_isBest_242 249 245 (by decide) rfl (by omega) (fun c242 => ?_) (fun c242 => ?_)
          · exfalso; exact c242 (by rw [bes_is ho, ej])
          · skip
            refine z_iconst C dL_isBest_245 246 rfl ?_
            refine z_goto C dL_isBest_246 250 (by decide) ?_
            exact z_ez C hW dL_isBest_250 (S1, u1, g1, n1, k1) (show 0 ≤ n1 ∧ n1 ≤ 4 by omega) rfl
        · skip
          have he := err_is (v := v) (b := j / 12) (d := j / 3 % 4) (n := j % 3 + 1) (by omega) (by omega) (by omega)
          have rwz := worZ_rng w0 (j / 3 % 4) (j % 3 + 1) (b := j / 12) (by omega)
          refine z_il C hl dL_isBest_48 0 rfl 50 rfl ?_
          refine z_bipush C dL_isBest_50 (by decide) 52 rfl ?_
          refine z_icmp_ge C dL_isBest_52 240 55 (by decide) rfl (by omega) (fun c52 => ?_) (fun c52 => ?_)
          · exfalso; omega
          · skip
            refine z_il C hl dL_isBest_55 0 rfl 57 rfl ?_
            refine z_bipush C dL_isBest_57 (by decide) 59 rfl ?_
            refine z_idiv C dL_isBest_59 60 rfl (by omega) ((j / 12)) (rfl) ?_
            refine z_is C hl dL_isBest_60 62 rfl (by decide) (lv' := [(5, .int (iI ((j / 12)))), (4, .int (iI (j))), (3, .int (iI (((bstN v (Int.toNat j)).1)))), (2, .int (iI (((bstN v (Int.toNat j)).2)))), (1, .int (iI (besR v))), (0, .ref (tb))]) rfl (fun ls hl => ?_)
            refine z_il C hl dL_isBest_62 1 rfl 64 rfl ?_
            refine z_iconst C dL_isBest_64 65 rfl ?_
            refine z_idiv C dL_isBest_65 66 rfl (by omega) ((j / 3)) (rfl) ?_
            refine z_iconst C dL_isBest_66 67 rfl ?_
            refine z_irem C dL_isBest_67 68 rfl (by omega) (((j / 3) % 4)) (rfl) ?_
            refine z_is C hl dL_isBest_68 70 rfl (by decide) (lv' := [(6, .int (iI (((j / 3) % 4)))), (5, .int (iI ((j / 12)))), (4, .int (iI (j))), (3, .int (iI (((bstN v (Int.toNat j)).1)))), (2, .int (iI (((bstN v (Int.toNat j)).2)))), (1, .int (iI (besR v))), (0, .ref (tb))]) rfl (fun ls hl => ?_)
            refine z_il C hl dL_isBest_70 2 rfl 72 rfl ?_
            refine z_iconst C dL_isBest_72 73 rfl ?_
            refine z_irem C dL_isBest_73 74 rfl (by omega) ((j % 3)) (rfl) ?_
            refine z_iconst C dL_isBest_74 75 rfl ?_
            refine z_iadd C dL_isBest_75 76 rfl (1 + (j % 3)) (by omega) ?_
            refine z_top (b := .int (iI ((j % 3 + 1)))) (congrArg (fun z => Value.int (iI z)) (by omega)) ?_
            refine z_is C hl dL_isBest_76 78 rfl (by decide) (lv' := [(7, .int (iI ((j % 3 + 1)))), (6, .int (iI (((j / 3) % 4)))), (5, .int (iI ((j / 12)))), (4, .int (iI (j))), (3, .int (iI (((bstN v (Int.toNat j)).1)))), (2, .int (iI (((bstN v (Int.toNat j)).2)))), (1, .int (iI (besR v))), (0, .ref (tb))]) rfl (fun ls hl => ?_)
            refine z_al_n C hl dL_isBest_78 7 rfl 79 rfl ?_
            refine z_il C hl dL_isBest_79 2 rfl 81 rfl ?_
            refine z_il C hl dL_isBest_81 1 rfl 83 rfl ?_
            refine z_il C hl dL_isBest_83 0 rfl 85 rfl ?_
            refine z_VWi (r := .int (iI (saiR v (j / 12) ((j / 3) % 4) (j % 3 + 1)))) (rest := []) C (m_move l G tb r x cu h pa o sg qn qb sn S1 g1 n1 false u1 v (j / 12) ((j / 3) % 4) (j % 3 + 1) (by omega) w0 (by omega) (by omega) (by omega) (gD_rg hW.2.1 [0, 3, 1, 2, 6] (by decide) rfl)) kV_L_45 ⟨Nat.le_of_ble_eq_true rfl, Nat.le_of_ble_eq_true rfl⟩ hW hK [0, 3, 1, 2, 6] rfl ((sameA_eq rfl (sameA_eq rfl (sameA_eq rfl (sameA_eq rfl (sameA_cons (hi_permA _ _) sameA_nil)))))) 0 rfl rfl rfl hl.1 rfl (Nat.le_of_ble_eq_true rfl) dL_isBest_85 ⟨Nat.le_of_ble_eq_true rfl, Nat.le_of_ble_eq_true rfl⟩ 88 rfl (rs' := [[tbO tb qn qb r x h o], stW G qn (saiV v (j / 12) ((j / 3) % 4) (j % 3 + 1)), stW G qb v, [(r, .inr (3, [.ref (qn 0)]))], [sxA x cu qn k1.1], [arL G cu 5 k1.2], hiW G h pa sn (actN (saiR v (j / 12) ((j / 3) % 4) (j % 3 + 1)) n1) (actS (saiR v (j / 12) ((j / 3) % 4) (j % 3 + 1)) n1 S1) (actG (saiR v (j / 12) ((j / 3) % 4) (j % 3 + 1)) n1 g1 v) false, stW G sn v0Z, [orO G o sg 0], [arC G sg 60 (fun _ => 0)]]) rfl (fun H locs hW hkeep => ?_)
            have rsr := saiR_rng w0 (j / 12) ((j / 3) % 4) (j % 3 + 1)
            have rac := act_rng (r := saiR v (j / 12) ((j / 3) % 4) (j % 3 + 1)) hn1
            refine z_is C hl dL_isBest_88 90 rfl (by decide) (lv' := [(8, .int (iI (saiR v (j / 12) ((j / 3) % 4) (j % 3 + 1)))), (7, .int (iI ((j % 3 + 1)))), (6, .int (iI (((j / 3) % 4)))), (5, .int (iI ((j / 12)))), (4, .int (iI (j))), (3, .int (iI (((bstN v (Int.toNat j)).1)))), (2, .int (iI (((bstN v (Int.toNat j)).2)))), (1, .int (iI (besR v))), (0, .ref (tb))]) rfl (fun ls hl => ?_)
            refine z_il C hl dL_isBest_90 0 rfl 92 rfl ?_
            refine z_if_lt C dL_isBest_92 234 95 (by decide) rfl (by omega) (fun c92 => ?_) (fun c92 => ?_)
            · skip
              skip
              have hng := sai_neg w0 he c92
              rw [hng.2] at hW
              rw [show bstN v (Int.toNat j) = bstN v (Int.toNat (1 + j)) from (bst_n (v := v) (k := j) (by omega) (by rw [hng.1]; omega)).symm] at hl
              refine z_iinc C hl dL_isBest_234 237 rfl 4 rfl (z := 1 + j) (by omega) (by decide) (lv' := [(4, .int (iI (1 + j))), (8, .int (iI (saiR v (j / 12) ((j / 3) % 4) (j % 3 + 1)))), (7, .int (iI ((j % 3 + 1)))), (6, .int (iI (((j / 3) % 4)))), (5, .int (iI ((j / 12)))), (3, .int (iI (((bstN v (Int.toNat (1 + j))).1)))), (2, .int (iI (((bstN v (Int.toNat (1 + j))).2)))), (1, .int (iI (besR v))), (0, .ref (tb))]) rfl (fun ls hl => ?_)
              refine z_goto C dL_isBest_237 35 (by decide) ?_
              exact ih35 (1 + j) (actS (saiR v (j / 12) ((j / 3) % 4) (j % 3 + 1)) n1 S1) v (actG (saiR v (j / 12) ((j / 3) % 4) (j % 3 + 1)) n1 g1 v) (actN (saiR v (j / 12) ((j / 3) % 4) (j % 3 + 1)) n1) k1 (by omega) (by omega) _ _ hW (by omega) ls (lv_sub hl [0, 5, 6, 7, 8] rfl)
            · skip
              have hr0 := sai_pos he c92
              have hst := sai_stp w0 he hr0
              have i2 := i.sai (j / 12) ((j / 3) % 4) (j % 3 + 1)
              have hwb := i2.w.b (j / 12) (by omega)
              have hwc := i2.w.bb (j / 12) (by omega)
              refine z_al_n C hl dL_isBest_95 8 rfl 96 rfl ?_
              refine z_il C hl dL_isBest_96 3 rfl 98 rfl ?_
              refine z_iconst C dL_isBest_98 99 rfl ?_
              refine z_VR (r := .int (iI (boaR (saiV v (j / 12) ((j / 3) % 4) (j % 3 + 1)) (j / 12) 2))) (rest := []) C (m_boatOf l G tb r x cu h pa o sg qn qb sn (saiV v (j / 12) ((j / 3) % 4) (j % 3 + 1)) (j / 12) 2 (w0.sai (j / 12) ((j / 3) % 4) (j % 3 + 1)) (by omega) (by omega)) kV_L_14 ⟨Nat.le_of_ble_eq_true rfl, Nat.le_of_ble_eq_true rfl⟩ (gP_rg hW.1 [0, 3, 1] rfl) hK 0 rfl rfl rfl hl.1 rfl (Nat.le_of_ble_eq_true rfl) dL_isBest_99 ⟨Nat.le_of_ble_eq_true rfl, Nat.le_of_ble_eq_true rfl⟩ 102 rfl ?_
              refine z_top (b := .int (iI (((saiV v (j / 12) ((j / 3) % 4) (j % 3 + 1)) (74 + 5 * (j / 12)))))) (congrArg (fun z => Value.int (iI z)) (boa_2 (v := (saiV v (j / 12) ((j / 3) % 4) (j % 3 + 1))) (b := (j / 12)) (by omega))) ?_
              refine z_iconst C dL_isBest_102 103 rfl ?_
              refine z_micmp_ne C dL_isBest_103 dL_isBest_106 dL_isBest_107 dL_isBest_110 (by omega) rfl rfl rfl 111 rfl ?_
              refine z_is C hl dL_isBest_111 113 rfl (by decide) (lv' := [(9, .int (iI (bZ (decide (((saiV v (j / 12) ((j / 3) % 4) (j % 3 + 1)) (74 + 5 * (j / 12))) = 1))))), (8, .int (iI (saiR v (j / 12) ((j / 3) % 4) (j % 3 + 1)))), (7, .int (iI ((j % 3 + 1)))), (6, .int (iI (((j / 3) % 4)))), (5, .int (iI ((j / 12)))), (4, .int (iI (j))), (3, .int (iI (((bstN v (Int.toNat j)).1)))), (2, .int (iI (((bstN v (Int.toNat j)).2)))), (1, .int (iI (besR v))), (0, .ref (tb))]) rfl (fun ls hl => ?_)
              have J187 : ∀ (k2 : sK) (H : Heap) (locs : List Loc) (hW : Wd G (adr ([[tbO tb qn qb r x h o], stW G qn v, stW G qb u, [(r, .inr (3, [.ref (qn 0)]))], [sxA x cu qn k.1], [arL G cu 5 k.2], hiW G h pa sn n S g false, stW G sn v0Z, [orO G o sg 0], [arC G sg 60 (fun _ => 0)]] : List va_W).flatten) [[tbO tb qn qb r x h o], stW G qn (saiV v (j / 12) ((j / 3) % 4) (j % 3 + 1)), stW G qb v, [(r, .inr (3, [.ref (qn 0)]))], [sxA x cu qn k2.1], [arL G cu 5 k2.2], hiW G h pa sn (actN (saiR v (j / 12) ((j / 3) % 4) (j % 3 + 1)) n1) (actS (saiR v (j / 12) ((j / 3) % 4) (j % 3 + 1)) n1 S1) (actG (saiR v (j / 12) ((j / 3) % 4) (j % 3 + 1)) n1 g1 v) false, stW G sn v0Z, [orO G o sg 0], [arC G sg 60 (fun _ => 0)]] s.heap H locs) (ls : Array Slot) (hl : lv_has ls 12 [(11, .int (iI (worZ v (j / 12) ((j / 3) % 4) (j % 3 + 1)))), (7, .int (iI ((j % 3 + 1)))), (6, .int (iI (((j / 3) % 4)))), (5, .int (iI ((j / 12)))), (4, .int (iI (j))), (3, .int (iI (((bstN v (Int.toNat j)).1)))), (2, .int (iI (((bstN v (Int.toNat j)).2)))), (1, .int (iI (besR v))), (0, .ref (tb))]), W p l e (rmN 7) s m [.ref (tb)].toArray below meth c H locs 0 0 (MQ below (QE G [[tbO tb qn qb r x h o], stW G qn v, stW G qb u, [(r, .inr (3, [.ref (qn 0)]))], [sxA x cu qn k.1], [arL G cu 5 k.2], hiW G h pa sn n S g false, stW G sn v0Z, [orO G o sg 0], [arC G sg 60 (fun _ => 0)]] (fun z : wT => lwR G tb r x cu h pa o sg qn qb sn z.1 v z.2.1 z.2.2.1 z.2.2.2.1 z.2.2.2.2) (fun z : wT => 0 ≤ z.2.2.2.1 ∧ z.2.2.2.1 ≤ 4) (.int (iI (bZ (true))))) [.ref (tb)].toArray s 0 0 (adr ([[tbO tb qn qb r x h o], stW G qn v, stW G qb u, [(r, .inr (3, [.ref (qn 0)]))], [sxA x cu qn k.1], [arL G cu 5 k.2], hiW G h pa sn n S g false, stW G sn v0Z, [orO G o sg 0], [arC G sg 60 (fun _ => 0)]] : List va_W).flatten)) (F0 m 187 ls []) := by
                intro k2 H locs hW ls hl
                refine z_il C hl dL_isBest_187 0 rfl 189 rfl ?_
                refine z_il_n C hl dL_isBest_189 5 rfl 190 rfl ?_
                refine z_icmp_le C dL_isBest_190 210 193 (by decide) rfl (by omega) (fun c190 => ?_) (fun c190 => ?_)
                · skip
                  skip
                  refine z_il_n C hl dL_isBest_210 6 rfl 211 rfl ?_
                  refine z_top (b := .int (iI (((bstN v (Int.toNat (1 + j))).2)))) (congrArg (fun z => Value.int (iI z)) (by rw [bst_n (v := v) (k := j) (by omega) (by omega)])) ?_
                  refine z_is_n C hl dL_isBest_211 212 rfl (by decide) (lv' := [(2, .int (iI (((bstN v (Int.toNat (1 + j))).2)))), (11, .int (iI (worZ v (j / 12) ((j / 3) % 4) (j % 3 + 1)))), (7, .int (iI ((j % 3 + 1)))), (6, .int (iI (((j / 3) % 4)))), (5, .int (iI ((j / 12)))), (4, .int (iI (j))), (3, .int (iI (((bstN v (Int.toNat j)).1)))), (1, .int (iI (besR v))), (0, .ref (tb))]) rfl (fun ls hl => ?_)
                  refine z_il C hl dL_isBest_212 1 rfl 214 rfl ?_
                  refine z_il_n C hl dL_isBest_214 6 rfl 215 rfl ?_
                  refine z_icmp_le C dL_isBest_215 223 218 (by decide) rfl (by omega) (fun c215 => ?_) (fun c215 => ?_)
                  · skip
                    refine z_il_n C hl dL_isBest_223 6 rfl 224 rfl ?_
                    refine z_top (b := .int (iI (((bstN v (Int.toNat (1 + j))).1)))) (congrArg (fun z => Value.int (iI z)) (by rw [bst_n (v := v) (k := j) (by omega) (by omega)])) ?_
                    refine z_is_n C hl dL_isBest_224 225 rfl (by decide) (lv' := [(3, .int (iI (((bstN v (Int.toNat (1 + j))).1)))), (2, .int (iI (((bstN v (Int.toNat (1 + j))).2)))), (11, .int (iI (worZ v (j / 12) ((j / 3) % 4) (j % 3 + 1)))), (7, .int (iI ((j % 3 + 1)))), (6, .int (iI (((j / 3) % 4)))), (5, .int (iI ((j / 12)))), (4, .int (iI (j))), (1, .int (iI (besR v))), (0, .ref (tb))]) rfl (fun ls hl => ?_)
                    refine z_al_n C hl dL_isBest_225 8 rfl 226 rfl ?_
                    have hua := und_act (r := saiR v (j / 12) ((j / 3) % 4) (j % 3 + 1)) (n := n1) (g := g1) (v := v) (u := (saiV v (j / 12) ((j / 3) % 4) (j % 3 + 1))) (by omega) hn1
                    have hur := und_rng (n := actN (saiR v (j / 12) ((j / 3) % 4) (j % 3 + 1)) n1) rac
                    refine z_VWi (r := .int (iI (undR (actN (saiR v (j / 12) ((j / 3) % 4) (j % 3 + 1)) n1)))) (rest := []) C (m_undo l G tb r x cu h pa o sg qn qb sn (actS (saiR v (j / 12) ((j / 3) % 4) (j % 3 + 1)) n1 S1) (actG (saiR v (j / 12) ((j / 3) % 4) (j % 3 + 1)) n1 g1 v) (actN (saiR v (j / 12) ((j / 3) % 4) (j % 3 + 1)) n1) false (saiV v (j / 12) ((j / 3) % 4) (j % 3 + 1)) (by omega) (gD_rg hW.2.1 [0, 6, 1] (by decide) rfl)) kV_L_56 ⟨Nat.le_of_ble_eq_true rfl, Nat.le_of_ble_eq_true rfl⟩ hW hK [0, 6, 1] rfl (sameA_of rfl) 0 rfl rfl rfl hl.1 rfl (Nat.le_of_ble_eq_true rfl) dL_isBest_226 ⟨Nat.le_of_ble_eq_true rfl, Nat.le_of_ble_eq_true rfl⟩ 229 rfl (rs' := [[tbO tb qn qb r x h o], stW G qn (undV (actN (saiR v (j / 12) ((j / 3) % 4) (j % 3 + 1)) n1) (actG (saiR v (j / 12) ((j / 3) % 4) (j % 3 + 1)) n1 g1 v) (saiV v (j / 12) ((j / 3) % 4) (j % 3 + 1))), stW G qb v, [(r, .inr (3, [.ref (qn 0)]))], [sxA x cu qn k2.1], [arL G cu 5 k2.2], hiW G h pa sn (undN (actN (saiR v (j / 12) ((j / 3) % 4) (j % 3 + 1)) n1)) (actS (saiR v (j / 12) ((j / 3) % 4) (j % 3 + 1)) n1 S1) (actG (saiR v (j / 12) ((j / 3) % 4) (j % 3 + 1)) n1 g1 v) false, stW G sn v0Z, [orO G o sg 0], [arC G sg 60 (fun _ => 0)]]) rfl (fun H locs hW hkeep => ?_)
                    rw [hua.1] at hW
                    refine z_if_ge C dL_isBest_229 234 232 (by decide) rfl (by omega) (fun c229 => ?_) (fun c229 => ?_)
                    · skip
                      skip
                      refine z_iinc C hl dL_isBest_234 237 rfl 6 rfl (z := 1 + j) (by omega) (by decide) (lv' := [(4, .int (iI (1 + j))), (3, .int (iI (((bstN v (Int.toNat (1 + j))).1)))), (2, .int (iI (((bstN v (Int.toNat (1 + j))).2)))), (11, .int (iI (worZ v (j / 12) ((j / 3) % 4) (j % 3 + 1)))), (7, .int (iI ((j % 3 + 1)))), (6, .int (iI (((j / 3) % 4)))), (5, .int (iI ((j / 12)))), (1, .int (iI (besR v))), (0, .ref (tb))]) rfl (fun ls hl => ?_)
                      refine z_goto C dL_isBest_237 35 (by decide) ?_
                      exact ih35 (1 + j) (actS (saiR v (j / 12) ((j / 3) % 4) (j % 3 + 1)) n1 S1) v (actG (saiR v (j / 12) ((j / 3) % 4) (j % 3 + 1)) n1 g1 v) (undN (actN (saiR v (j / 12) ((j / 3) % 4) (j % 3 + 1)) n1)) k2 (by omega) (by omega) _ _ hW (by omega) ls (lv_sub hl [0, 1, 2, 7, 8] rfl)
                    · exfalso; omega
                  · exfalso; omega
                · skip
                  skip
                  refine z_bipush C dL_isBest_193 (by decide) 195 rfl ?_
                  refine z_il C hl dL_isBest_195 3 rfl 197 rfl ?_
                  refine z_imul C dL_isBest_197 198 rfl (100 * (j / 12)) (rfl) ?_
                  refine z_bipush C dL_isBest_198 (by decide) 200 rfl ?_
                  refine z_il C hl dL_isBest_200 2 rfl 202 rfl ?_
                  refine z_imul C dL_isBest_202 203 rfl (10 * ((j / 3) % 4)) (rfl) ?_
                  refine z_iadd C dL_isBest_203 204 rfl (10 * ((j / 3) % 4) + 100 * (j / 12)) (by omega) ?_
                  refine z_il C hl dL_isBest_204 1 rfl 206 rfl ?_
                  refine z_iadd C dL_isBest_206 207 rfl (10 * ((j / 3) % 4) + (j % 3 + 1) + 100 * (j / 12)) (by omega) ?_
                  refine z_goto C dL_isBest_207 211 (by decide) ?_
                  refine z_top (b := .int (iI (((bstN v (Int.toNat (1 + j))).2)))) (congrArg (fun z => Value.int (iI z)) (by have hq := (bst_y (v := v) (k := j) (by omega) c190).2; omega)) ?_
                  refine z_is_n C hl dL_isBest_211 212 rfl (by decide) (lv' := [(2, .int (iI (((bstN v (Int.toNat (1 + j))).2)))), (11, .int (iI (worZ v (j / 12) ((j / 3) % 4) (j % 3 + 1)))), (7, .int (iI ((j % 3 + 1)))), (6, .int (iI (((j / 3) % 4)))), (5, .int (iI ((j / 12)))), (4, .int (iI (j))), (3, .int (iI (((bstN v (Int.toNat j)).1)))), (1, .int (iI (besR v))), (0, .ref (tb))]) rfl (fun ls hl => ?_)
                  refine z_il C hl dL_isBest_212 1 rfl 214 rfl ?_
                  refine z_il_n C hl dL_isBest_214 6 rfl 215 rfl ?_
                  refine z_icmp_le C dL_isBest_215 223 218 (by decide) rfl (by omega) (fun c215 => ?_) (fun c215 => ?_)
                  · exfalso; omega
                  · skip
                    refine z_il C hl dL_isBest_218 1 rfl 220 rfl ?_
                    refine z_goto C dL_isBest_220 224 (by decide) ?_
                    refine z_top (b := .int (iI (((bstN v (Int.toNat (1 + j))).1)))) (congrArg (fun z => Value.int (iI z)) (by have hq := (bst_y (v := v) (k := j) (by omega) c190).1; omega)) ?_
                    refine z_is_n C hl dL_isBest_224 225 rfl (by decide) (lv' := [(3, .int (iI (((bstN v (Int.toNat (1 + j))).1)))), (2, .int (iI (((bstN v (Int.toNat (1 + j))).2)))), (11, .int (iI (worZ v (j / 12) ((j / 3) % 4) (j % 3 + 1)))), (7, .int (iI ((j % 3 + 1)))), (6, .int (iI (((j / 3) % 4)))), (5, .int (iI ((j / 12)))), (4, .int (iI (j))), (1, .int (iI (besR v))), (0, .ref (tb))]) rfl (fun ls hl => ?_)
                    refine z_al_n C hl dL_isBest_225 8 rfl 226 rfl ?_
                    have hua := und_act (r := saiR v (j / 12) ((j / 3) % 4) (j % 3 + 1)) (n := n1) (g := g1) (v := v) (u := (saiV v (j / 12) ((j / 3) % 4) (j % 3 + 1))) (by omega) hn1
                    have hur := und_rng (n := actN (saiR v (j / 12) ((j / 3) % 4) (j % 3 + 1)) n1) rac
                    refine z_VWi (r := .int (iI (undR (actN (saiR v (j / 12) ((j / 3) % 4) (j % 3 + 1)) n1)))) (rest := []) C (m_undo l G tb r x cu h pa o sg qn qb sn (actS (saiR v (j / 12) ((j / 3) % 4) (j % 3 + 1)) n1 S1) (actG (saiR v (j / 12) ((j / 3) % 4) (j % 3 + 1)) n1 g1 v) (actN (saiR v (j / 12) ((j / 3) % 4) (j % 3 + 1)) n1) false (saiV v (j / 12) ((j / 3) % 4) (j % 3 + 1)) (by omega) (gD_rg hW.2.1 [0, 6, 1] (by decide) rfl)) kV_L_56 ⟨Nat.le_of_ble_eq_true rfl, Nat.le_of_ble_eq_true rfl⟩ hW hK [0, 6, 1] rfl (sameA_of rfl) 0 rfl rfl rfl hl.1 rfl (Nat.le_of_ble_eq_true rfl) dL_isBest_226 ⟨Nat.le_of_ble_eq_true rfl, Nat.le_of_ble_eq_true rfl⟩ 229 rfl (rs' := [[tbO tb qn qb r x h o], stW G qn (undV (actN (saiR v (j / 12) ((j / 3) % 4) (j % 3 + 1)) n1) (actG (saiR v (j / 12) ((j / 3) % 4) (j % 3 + 1)) n1 g1 v) (saiV v (j / 12) ((j / 3) % 4) (j % 3 + 1))), stW G qb v, [(r, .inr (3, [.ref (qn 0)]))], [sxA x cu qn k2.1], [arL G cu 5 k2.2], hiW G h pa sn (undN (actN (saiR v (j / 12) ((j / 3) % 4) (j % 3 + 1)) n1)) (actS (saiR v (j / 12) ((j / 3) % 4) (j % 3 + 1)) n1 S1) (actG (saiR v (j / 12) ((j / 3) % 4) (j % 3 + 1)) n1 g1 v) false, stW G sn v0Z, [orO G o sg 0], [arC G sg 60 (fun _ => 0)]]) rfl (fun H locs hW hkeep => ?_)
                    rw [hua.1] at hW
                    refine z_if_ge C dL_isBest_229 234 232 (by decide) rfl (by omega) (fun c229 => ?_) (fun c229 => ?_)
                    · skip
                      skip
                      refine z_iinc C hl dL_isBest_234 237 rfl 6 rfl (z := 1 + j) (by omega) (by decide) (lv' := [(4, .int (iI (1 + j))), (3, .int (iI (((bstN v (Int.toNat (1 + j))).1)))), (2, .int (iI (((bstN v (Int.toNat (1 + j))).2)))), (11, .int (iI (worZ v (j / 12) ((j / 3) % 4) (j % 3 + 1)))), (7, .int (iI ((j % 3 + 1)))), (6, .int (iI (((j / 3) % 4)))), (5, .int (iI ((j / 12)))), (1, .int (iI (besR v))), (0, .ref (tb))]) rfl (fun ls hl => ?_)
                      refine z_goto C dL_isBest_237 35 (by decide) ?_
                      exact ih35 (1 + j) (actS (saiR v (j / 12) ((j / 3) % 4) (j % 3 + 1)) n1 S1) v (actG (saiR v (j / 12) ((j / 3) % 4) (j % 3 + 1)) n1 g1 v) (undN (actN (saiR v (j / 12) ((j / 3) % 4) (j % 3 + 1)) n1)) k2 (by omega) (by omega) _ _ hW (by omega) ls (lv_sub hl [0, 1, 2, 7, 8] rfl)
                    · exfalso; omega
              refine z_al_n C hl dL_isBest_113 9 rfl 114 rfl ?_
              refine z_il C hl dL_isBest_114 4 rfl 116 rfl ?_
              refine z_iconst C dL_isBest_116 117 rfl ?_
              refine z_VR (r := .int (iI (boaR (saiV v (j / 12) ((j / 3) % 4) (j % 3 + 1)) (j / 12) 2))) (rest := []) C (m_boatOf l G tb r x cu h pa o sg qn qb sn (saiV v (j / 12) ((j / 3) % 4) (j % 3 + 1)) (j / 12) 2 (w0.sai (j / 12) ((j / 3) % 4) (j % 3 + 1)) (by omega) (by omega)) kV_L_14 ⟨Nat.le_of_ble_eq_true rfl, Nat.le_of_ble_eq_true rfl⟩ (gP_rg hW.1 [0, 3, 1] rfl) hK 0 rfl rfl rfl hl.1 rfl (Nat.le_of_ble_eq_true rfl) dL_isBest_117 ⟨Nat.le_of_ble_eq_true rfl, Nat.le_of_ble_eq_true rfl⟩ 120 rfl ?_
              refine z_top (b := .int (iI (((saiV v (j / 12) ((j / 3) % 4) (j % 3 + 1)) (74 + 5 * (j / 12)))))) (congrArg (fun z => Value.int (iI z)) (boa_2 (v := (saiV v (j / 12) ((j / 3) % 4) (j % 3 + 1))) (b := (j / 12)) (by omega))) ?_
              refine z_if_ne C dL_isBest_120 133 123 (by decide) rfl (by omega) (fun c120 => ?_) (fun c120 => ?_)
              · skip
                refine z_bipush C dL_isBest_133 (by decide) 135 rfl ?_
                refine z_is C hl dL_isBest_135 137 rfl (by decide) (lv' := [(10, .int (iI (-5))), (9, .int (iI (bZ (decide (((saiV v (j / 12) ((j / 3) % 4) (j % 3 + 1)) (74 + 5 * (j / 12))) = 1))))), (8, .int (iI (saiR v (j / 12) ((j / 3) % 4) (j % 3 + 1)))), (7, .int (iI ((j % 3 + 1)))), (6, .int (iI (((j / 3) % 4)))), (5, .int (iI ((j / 12)))), (4, .int (iI (j))), (3, .int (iI (((bstN v (Int.toNat j)).1)))), (2, .int (iI (((bstN v (Int.toNat j)).2)))), (1, .int (iI (besR v))), (0, .ref (tb))]) rfl (fun ls hl => ?_)
                refine z_il C hl dL_isBest_137 1 rfl 139 rfl ?_
                refine z_ifb_eq C dL_isBest_139 156 142 (by decide) rfl (fun c139 => ?_) (fun c139 => ?_)
                · skip
                  simp only [decide_eq_true_eq, decide_eq_false_iff_not] at c139
                  refine z_il C hl dL_isBest_156 2 rfl 158 rfl ?_
                  refine z_if_le C dL_isBest_158 170 161 (by decide) rfl (by omega) (fun c158 => ?_) (fun c158 => ?_)
                  · skip
                    refine z_il C hl dL_isBest_170 0 rfl 172 rfl ?_
                    refine z_if_le C dL_isBest_172 184 175 (by decide) rfl (by omega) (fun c172 => ?_) (fun c172 => ?_)
                    · skip
                      refine z_iconst C dL_isBest_184 185 rfl ?_
                      refine z_top (b := .int (iI (worZ v (j / 12) ((j / 3) % 4) (j % 3 + 1)))) (congrArg (fun z => Value.int (iI z)) (by rw [wor_is i he hr0]; (repeat' split) <;> omega)) ?_
                      refine z_is C hl dL_isBest_185 187 rfl (by decide) (lv' := [(11, .int (iI (worZ v (j / 12) ((j / 3) % 4) (j % 3 + 1)))), (10, .int (iI (-5))), (9, .int (iI (bZ (decide (((saiV v (j / 12) ((j / 3) % 4) (j % 3 + 1)) (74 + 5 * (j / 12))) = 1))))), (8, .int (iI (saiR v (j / 12) ((j / 3) % 4) (j % 3 + 1)))), (7, .int (iI ((j % 3 + 1)))), (6, .int (iI (((j / 3) % 4)))), (5, .int (iI ((j / 12)))), (4, .int (iI (j))), (3, .int (iI (((bstN v (Int.toNat j)).1)))), (2, .int (iI (((bstN v (Int.toNat j)).2)))), (1, .int (iI (besR v))), (0, .ref (tb))]) rfl (fun ls hl => ?_)
                      exact J187 k1 _ _ hW ls (lv_sub hl [0, 4, 5, 6, 7, 8, 9, 10, 11] rfl)
                    · exfalso; omega
                  · skip
                    refine z_sipush C dL_isBest_161 (by decide) 164 rfl ?_
                    refine z_il C hl dL_isBest_164 2 rfl 166 rfl ?_
                    refine z_iadd C dL_isBest_166 167 rfl (2000 + saiR v (j / 12) ((j / 3) % 4) (j % 3 + 1)) (by omega) ?_
                    refine z_goto C dL_isBest_167 185 (by decide) ?_
                    refine z_top (b := .int (iI (worZ v (j / 12) ((j / 3) % 4) (j % 3 + 1)))) (congrArg (fun z => Value.int (iI z)) (by rw [wor_is i he hr0]; (repeat' split) <;> omega)) ?_
                    refine z_is C hl dL_isBest_185 187 rfl (by decide) (lv' := [(11, .int (iI (worZ v (j / 12) ((j / 3) % 4) (j % 3 + 1)))), (10, .int (iI (-5))), (9, .int (iI (bZ (decide (((saiV v (j / 12) ((j / 3) % 4) (j % 3 + 1)) (74 + 5 * (j / 12))) = 1))))), (8, .int (iI (saiR v (j / 12) ((j / 3) % 4) (j % 3 + 1)))), (7, .int (iI ((j % 3 + 1)))), (6, .int (iI (((j / 3) % 4)))), (5, .int (iI ((j / 12)))), (4, .int (iI (j))), (3, .int (iI (((bstN v (Int.toNat j)).1)))), (2, .int (iI (((bstN v (Int.toNat j)).2)))), (1, .int (iI (besR v))), (0, .ref (tb))]) rfl (fun ls hl => ?_)
                    exact J187 k1 _ _ hW ls (lv_sub hl [0, 4, 5, 6, 7, 8, 9, 10, 11] rfl)
                · skip
                  simp only [decide_eq_true_eq, decide_eq_false_iff_not] at c139
                  refine z_sipush C dL_isBest_142 (by decide) 145 rfl ?_
                  refine z_al_n C hl dL_isBest_145 10 rfl 146 rfl ?_
                  refine z_il C hl dL_isBest_146 5 rfl 148 rfl ?_
                  refine z_iconst C dL_isBest_148 149 rfl ?_
                  refine z_VR (r := .int (iI (boaR (saiV v (j / 12) ((j / 3) % 4) (j % 3 + 1)) (j / 12) 1))) (rest := [.int (iI (3000))]) C (m_boatOf l G tb r x cu h pa o sg qn qb sn (saiV v (j / 12) ((j / 3) % 4) (j % 3 + 1)) (j / 12) 1 (w0.sai (j / 12) ((j / 3) % 4) (j % 3 + 1)) (by omega) (by omega)) kV_L_14 ⟨Nat.le_of_ble_eq_true rfl, Nat.le_of_ble_eq_true rfl⟩ (gP_rg hW.1 [0, 3, 1] rfl) hK 0 rfl rfl rfl hl.1 rfl (Nat.le_of_ble_eq_true rfl) dL_isBest_149 ⟨Nat.le_of_ble_eq_true rfl, Nat.le_of_ble_eq_true rfl⟩ 152 rfl ?_
                  refine z_top (b := .int (iI (((saiV v (j / 12) ((j / 3) % 4) (j % 3 + 1)) (73 + 5 * (j / 12)))))) (congrArg (fun z => Value.int (iI z)) (boa_1 (v := (saiV v (j / 12) ((j / 3) % 4) (j % 3 + 1))) (b := (j / 12)) (by omega))) ?_
                  refine z_iadd C dL_isBest_152 153 rfl (3000 + ((saiV v (j / 12) ((j / 3) % 4) (j % 3 + 1)) (73 + 5 * (j / 12)))) (rfl) ?_
                  refine z_goto C dL_isBest_153 185 (by decide) ?_
                  refine z_top (b := .int (iI (worZ v (j / 12) ((j / 3) % 4) (j % 3 + 1)))) (congrArg (fun z => Value.int (iI z)) (by rw [wor_is i he hr0]; (repeat' split) <;> omega)) ?_
                  refine z_is C hl dL_isBest_185 187 rfl (by decide) (lv' := [(11, .int (iI (worZ v (j / 12) ((j / 3) % 4) (j % 3 + 1)))), (10, .int (iI (-5))), (9, .int (iI (bZ (decide (((saiV v (j / 12) ((j / 3) % 4) (j % 3 + 1)) (74 + 5 * (j / 12))) = 1))))), (8, .int (iI (saiR v (j / 12) ((j / 3) % 4) (j % 3 + 1)))), (7, .int (iI ((j % 3 + 1)))), (6, .int (iI (((j / 3) % 4)))), (5, .int (iI ((j / 12)))), (4, .int (iI (j))), (3, .int (iI (((bstN v (Int.toNat j)).1)))), (2, .int (iI (((bstN v (Int.toNat j)).2)))), (1, .int (iI (besR v))), (0, .ref (tb))]) rfl (fun ls hl => ?_)
                  exact J187 k1 _ _ hW ls (lv_sub hl [0, 4, 5, 6, 7, 8, 9, 10, 11] rfl)
              · skip
                refine z_al_n C hl dL_isBest_123 9 rfl 124 rfl ?_
                refine z_il C hl dL_isBest_124 4 rfl 126 rfl ?_
                refine z_iconst C dL_isBest_126 127 rfl ?_
                refine z_VWi (r := .int (iI (homR (saiV v (j / 12) ((j / 3) % 4) (j % 3 + 1)) (j / 12) 0))) (rest := []) C (m_homeIn l G tb r x cu h pa o sg qn qb sn (saiV v (j / 12) ((j / 3) % 4) (j % 3 + 1)) k1 (j / 12) 0 (w0.sai (j / 12) ((j / 3) % 4) (j % 3 + 1)) (by omega) (by omega) (gD_rg hW.2.1 [0, 4, 5, 1] (by decide) rfl)) kV_L_32 ⟨Nat.le_of_ble_eq_true rfl, Nat.le_of_ble_eq_true rfl⟩ hW hK [0, 4, 5, 1] rfl (sameA_of rfl) 0 rfl rfl rfl hl.1 rfl (Nat.le_of_ble_eq_true rfl) dL_isBest_127 ⟨Nat.le_of_ble_eq_true rfl, Nat.le_of_ble_eq_true rfl⟩ 130 rfl (rs' := [[tbO tb qn qb r x h o], stW G qn (saiV v (j / 12) ((j / 3) % 4) (j % 3 + 1)), stW G qb v, [(r, .inr (3, [.ref (qn 0)]))], [sxA x cu qn (homK (saiV v (j / 12) ((j / 3) % 4) (j % 3 + 1)) (j / 12) 0 k1).1], [arL G cu 5 (homK (saiV v (j / 12) ((j / 3) % 4) (j % 3 + 1)) (j / 12) 0 k1).2], hiW G h pa sn (actN (saiR v (j / 12) ((j / 3) % 4) (j % 3 + 1)) n1) (actS (saiR v (j / 12) ((j / 3) % 4) (j % 3 + 1)) n1 S1) (actG (saiR v (j / 12) ((j / 3) % 4) (j % 3 + 1)) n1 g1 v) false, stW G sn v0Z, [orO G o sg 0], [arC G sg 60 (fun _ => 0)]]) rfl (fun H locs hW hkeep => ?_)
                have rh127 := homR_rng (w0.sai (j / 12) ((j / 3) % 4) (j % 3 + 1)) (j / 12) 0
                refine z_goto C dL_isBest_130 135 (by decide) ?_
                refine z_is C hl dL_isBest_135 137 rfl (by decide) (lv' := [(10, .int (iI (homR (saiV v (j / 12) ((j / 3) % 4) (j % 3 + 1)) (j / 12) 0))), (9, .int (iI (bZ (decide (((saiV v (j / 12) ((j / 3) % 4) (j % 3 + 1)) (74 + 5 * (j / 12))) = 1))))), (8, .int (iI (saiR v (j / 12) ((j / 3) % 4) (j % 3 + 1)))), (7, .int (iI ((j % 3 + 1)))), (6, .int (iI (((j / 3) % 4)))), (5, .int (iI ((j / 12)))), (4, .int (iI (j))), (3, .int (iI (((bstN v (Int.toNat j)).1)))), (2, .int (iI (((bstN v (Int.toNat j)).2)))), (1, .int (iI (besR v))), (0, .ref (tb))]) rfl (fun ls hl => ?_)
                refine z_il C hl dL_isBest_137 1 rfl 139 rfl ?_
                refine z_ifb_eq C dL_isBest_139 156 142 (by decide) rfl (fun c139 => ?_) (fun c139 => ?_)
                · skip
                  simp only [decide_eq_true_eq, decide_eq_false_iff_not] at c139
                  refine z_il C hl dL_isBest_156 2 rfl 158 rfl ?_
                  refine z_if_le C dL_isBest_158 170 161 (by decide) rfl (by omega) (fun c158 => ?_) (fun c158 => ?_)
                  · skip
                    refine z_il C hl dL_isBest_170 0 rfl 172 rfl ?_
                    refine z_if_le C dL_isBest_172 184 175 (by decide) rfl (by omega) (fun c172 => ?_) (fun c172 => ?_)
                    · skip
                      refine z_iconst C dL_isBest_184 185 rfl ?_
                      refine z_top (b := .int (iI (worZ v (j / 12) ((j / 3) % 4) (j % 3 + 1)))) (congrArg (fun z => Value.int (iI z)) (by rw [wor_is i he hr0]; (repeat' split) <;> omega)) ?_
                      refine z_is C hl dL_isBest_185 187 rfl (by decide) (lv' := [(11, .int (iI (worZ v (j / 12) ((j / 3) % 4) (j % 3 + 1)))), (10, .int (iI (homR (saiV v (j / 12) ((j / 3) % 4) (j % 3 + 1)) (j / 12) 0))), (9, .int (iI (bZ (decide (((saiV v (j / 12) ((j / 3) % 4) (j % 3 + 1)) (74 + 5 * (j / 12))) = 1))))), (8, .int (iI (saiR v (j / 12) ((j / 3) % 4) (j % 3 + 1)))), (7, .int (iI ((j % 3 + 1)))), (6, .int (iI (((j / 3) % 4)))), (5, .int (iI ((j / 12)))), (4, .int (iI (j))), (3, .int (iI (((bstN v (Int.toNat j)).1)))), (2, .int (iI (((bstN v (Int.toNat j)).2)))), (1, .int (iI (besR v))), (0, .ref (tb))]) rfl (fun ls hl => ?_)
                      exact J187 (homK (saiV v (j / 12) ((j / 3) % 4) (j % 3 + 1)) (j / 12) 0 k1) _ _ hW ls (lv_sub hl [0, 4, 5, 6, 7, 8, 9, 10, 11] rfl)
                    · skip
                      refine z_sipush C dL_isBest_175 (by decide) 178 rfl ?_
                      refine z_il C hl dL_isBest_178 0 rfl 180 rfl ?_
                      refine z_isub C dL_isBest_180 181 rfl (1000 - homR (saiV v (j / 12) ((j / 3) % 4) (j % 3 + 1)) (j / 12) 0) (by omega) ?_
                      refine z_goto C dL_isBest_181 185 (by decide) ?_
                      refine z_top (b := .int (iI (worZ v (j / 12) ((j / 3) % 4) (j % 3 + 1)))) (congrArg (fun z => Value.int (iI z)) (by rw [wor_is i he hr0]; (repeat' split) <;> omega)) ?_
                      refine z_is C hl dL_isBest_185 187 rfl (by decide) (lv' := [(11, .int (iI (worZ v (j / 12) ((j / 3) % 4) (j % 3 + 1)))), (10, .int (iI (homR (saiV v (j / 12) ((j / 3) % 4) (j % 3 + 1)) (j / 12) 0))), (9, .int (iI (bZ (decide (((saiV v (j / 12) ((j / 3) % 4) (j % 3 + 1)) (74 + 5 * (j / 12))) = 1))))), (8, .int (iI (saiR v (j / 12) ((j / 3) % 4) (j % 3 + 1)))), (7, .int (iI ((j % 3 + 1)))), (6, .int (iI (((j / 3) % 4)))), (5, .int (iI ((j / 12)))), (4, .int (iI (j))), (3, .int (iI (((bstN v (Int.toNat j)).1)))), (2, .int (iI (((bstN v (Int.toNat j)).2)))), (1, .int (iI (besR v))), (0, .ref (tb))]) rfl (fun ls hl => ?_)
                      exact J187 (homK (saiV v (j / 12) ((j / 3) % 4) (j % 3 + 1)) (j / 12) 0 k1) _ _ hW ls (lv_sub hl [0, 4, 5, 6, 7, 8, 9, 10, 11] rfl)
                  · skip
                    refine z_sipush C dL_isBest_161 (by decide) 164 rfl ?_
                    refine z_il C hl dL_isBest_164 2 rfl 166 rfl ?_
                    refine z_iadd C dL_isBest_166 167 rfl (2000 + saiR v (j / 12) ((j / 3) % 4) (j % 3 + 1)) (by omega) ?_
                    refine z_goto C dL_isBest_167 185 (by decide) ?_
                    refine z_top (b := .int (iI (worZ v (j / 12) ((j / 3) % 4) (j % 3 + 1)))) (congrArg (fun z => Value.int (iI z)) (by rw [wor_is i he hr0]; (repeat' split) <;> omega)) ?_
                    refine z_is C hl dL_isBest_185 187 rfl (by decide) (lv' := [(11, .int (iI (worZ v (j / 12) ((j / 3) % 4) (j % 3 + 1)))), (10, .int (iI (homR (saiV v (j / 12) ((j / 3) % 4) (j % 3 + 1)) (j / 12) 0))), (9, .int (iI (bZ (decide (((saiV v (j / 12) ((j / 3) % 4) (j % 3 + 1)) (74 + 5 * (j / 12))) = 1))))), (8, .int (iI (saiR v (j / 12) ((j / 3) % 4) (j % 3 + 1)))), (7, .int (iI ((j % 3 + 1)))), (6, .int (iI (((j / 3) % 4)))), (5, .int (iI ((j / 12)))), (4, .int (iI (j))), (3, .int (iI (((bstN v (Int.toNat j)).1)))), (2, .int (iI (((bstN v (Int.toNat j)).2)))), (1, .int (iI (besR v))), (0, .ref (tb))]) rfl (fun ls hl => ?_)
                    exact J187 (homK (saiV v (j / 12) ((j / 3) % 4) (j % 3 + 1)) (j / 12) 0 k1) _ _ hW ls (lv_sub hl [0, 4, 5, 6, 7, 8, 9, 10, 11] rfl)
                · skip
                  simp only [decide_eq_true_eq, decide_eq_false_iff_not] at c139
                  refine z_sipush C dL_isBest_142 (by decide) 145 rfl ?_
                  refine z_al_n C hl dL_isBest_145 10 rfl 146 rfl ?_
                  refine z_il C hl dL_isBest_146 5 rfl 148 rfl ?_
                  refine z_iconst C dL_isBest_148 149 rfl ?_
                  refine z_VR (r := .int (iI (boaR (saiV v (j / 12) ((j / 3) % 4) (j % 3 + 1)) (j / 12) 1))) (rest := [.int (iI (3000))]) C (m_boatOf l G tb r x cu h pa o sg qn qb sn (saiV v (j / 12) ((j / 3) % 4) (j % 3 + 1)) (j / 12) 1 (w0.sai (j / 12) ((j / 3) % 4) (j % 3 + 1)) (by omega) (by omega)) kV_L_14 ⟨Nat.le_of_ble_eq_true rfl, Nat.le_of_ble_eq_true rfl⟩ (gP_rg hW.1 [0, 3, 1] rfl) hK 0 rfl rfl rfl hl.1 rfl (Nat.le_of_ble_eq_true rfl) dL_isBest_149 ⟨Nat.le_of_ble_eq_true rfl, Nat.le_of_ble_eq_true rfl⟩ 152 rfl ?_
                  refine z_top (b := .int (iI (((saiV v (j / 12) ((j / 3) % 4) (j % 3 + 1)) (73 + 5 * (j / 12)))))) (congrArg (fun z => Value.int (iI z)) (boa_1 (v := (saiV v (j / 12) ((j / 3) % 4) (j % 3 + 1))) (b := (j / 12)) (by omega))) ?_
                  refine z_iadd C dL_isBest_152 153 rfl (3000 + ((saiV v (j / 12) ((j / 3) % 4) (j % 3 + 1)) (73 + 5 * (j / 12)))) (rfl) ?_
                  refine z_goto C dL_isBest_153 185 (by decide) ?_
                  refine z_top (b := .int (iI (worZ v (j / 12) ((j / 3) % 4) (j % 3 + 1)))) (congrArg (fun z => Value.int (iI z)) (by rw [wor_is i he hr0]; (repeat' split) <;> omega)) ?_
                  refine z_is C hl dL_isBest_185 187 rfl (by decide) (lv' := [(11, .int (iI (worZ v (j / 12) ((j / 3) % 4) (j % 3 + 1)))), (10, .int (iI (homR (saiV v (j / 12) ((j / 3) % 4) (j % 3 + 1)) (j / 12) 0))), (9, .int (iI (bZ (decide (((saiV v (j / 12) ((j / 3) % 4) (j % 3 + 1)) (74 + 5 * (j / 12))) = 1))))), (8, .int (iI (saiR v (j / 12) ((j / 3) % 4) (j % 3 + 1)))), (7, .int (iI ((j % 3 + 1)))), (6, .int (iI (((j / 3) % 4)))), (5, .int (iI ((j / 12)))), (4, .int (iI (j))), (3, .int (iI (((bstN v (Int.toNat j)).1)))), (2, .int (iI (((bstN v (Int.toNat j)).2)))), (1, .int (iI (besR v))), (0, .ref (tb))]) rfl (fun ls hl => ?_)
                  exact J187 (homK (saiV v (j / 12) ((j / 3) % 4) (j % 3 + 1)) (j / 12) 0 k1) _ _ hW ls (lv_sub hl [0, 4, 5, 6, 7, 8, 9, 10, 11] rfl)
    exact L35 (Int.toNat (12 * v 127 - 0) + 1) 0 S u g n (besK v k) (by omega) (by omega) _ _ hW (by omega) ls (lv_sub hl [0, 1, 2, 3, 4] rfl)
  · skip
    have ho : overB v = true := bZ_eq1.mp c12
    refine z_il_n C hl dL_isBest_15 0 rfl 16 rfl ?_
    refine z_bipush C dL_isBest_16 (by decide) 18 rfl ?_
    refine z_icmp_ne C dL_isBest_18 25 21 (by decide) rfl (by omega) (fun c18 => ?_) (fun c18 => ?_)
    · exfalso; exact c18 (bes_ov ho)
    · skip
      refine z_iconst C dL_isBest_21 22 rfl ?_
      refine z_goto C dL_isBest_22 26 (by decide) ?_
      exact z_ez C hW dL_isBest_26 (S, u, g, n, (besK v k)) (show 0 ≤ n ∧ n ≤ 4 by omega) rfl
