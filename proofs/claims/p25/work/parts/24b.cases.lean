set_option maxHeartbeats 16000000 in
set_option maxRecDepth 100000 in
theorem law_356 (l : Launch) {p : Program} {e : Env} {s : State} {m : MethodId} {below : List Frame} {meth : Method} {c : Code} {G : gT} {b tb r x cu h pa o sg : Nat} {qn qb sn : Nat → Nat} {L : Nat} {xs : Nat → Int32} {E : eT} (C : CX p s m #[Value.ref b] meth c RL cL_law 10 ret) (hK : gK G s) (hE : EV E (fun q => s.heap.size ≤ q) s s.heap) (hX : va_X b L xs s s.heap) (hbl : b < s.heap.size) (hL : L ≤ 260) {ee : Int} : LQ p l e s m below meth c G b tb r x cu h pa o sg qn qb sn (fun _ => True) ee 356 := by
  intro S v u g n k H locs ls i hn9 hP9 hW hl
  have hW : Wd G (fun q => s.heap.size ≤ q) [[tbO tb qn qb r x h o], stW G qn v, stW G qb u, [(r, .inr (3, [.ref (qn 0)]))], [sxA x cu qn k.1], [arL G cu 5 k.2], hiW G h pa sn n S g false, stW G sn v0Z, [orO G o sg 0], [arC G sg 60 (fun _ => 0)]] s.heap H locs := hW
  have w0 := i.w
  have hn := w0.n
  have ht := w0.t
  have hZ := hE
  refine z_al_n C hl dL_law_356 1 rfl 357 rfl ?_
  refine z_bipush C dL_law_357 (by decide) 359 rfl ?_
  refine z_iconst C dL_law_359 360 rfl ?_
  refine z_iconst C dL_law_360 361 rfl ?_
  refine z_VWi (r := .int (iI (layR v 36 0 (bZ false)))) (rest := []) C (m_sand l G tb r x cu h pa o sg qn qb sn S g n false u v 36 0 false (by omega) w0 (by omega) (by omega) (gD_rg hW.2.1 [0, 3, 1, 2, 6] (by decide) rfl)) kV_L_62 ⟨Nat.le_of_ble_eq_true rfl, Nat.le_of_ble_eq_true rfl⟩ hW hK [0, 3, 1, 2, 6] rfl ((sameA_eq rfl (sameA_eq rfl (sameA_eq rfl (sameA_eq rfl (sameA_cons (hi_permA _ _) sameA_nil)))))) 0 rfl rfl rfl hl.1 rfl (Nat.le_of_ble_eq_true rfl) dL_law_361 ⟨Nat.le_of_ble_eq_true rfl, Nat.le_of_ble_eq_true rfl⟩ 364 rfl (rs' := [[tbO tb qn qb r x h o], stW G qn (layV v 36 0 (bZ false)), stW G qb v, [(r, .inr (3, [.ref (qn 0)]))], [sxA x cu qn k.1], [arL G cu 5 k.2], hiW G h pa sn (actN (layR v 36 0 (bZ false)) n) (actS (layR v 36 0 (bZ false)) n S) (actG (layR v 36 0 (bZ false)) n g v) false, stW G sn v0Z, [orO G o sg 0], [arC G sg 60 (fun _ => 0)]]) rfl (fun H locs hW hkeep => ?_)
  refine z_top (b := .int (iI (-1))) (congrArg (fun z => Value.int (iI z)) (by unfold layR; rw [if_pos (by omega)])) ?_
  have ha364 : 0 ≤ (actN (layR v 36 0 (bZ false)) n) ∧ (actN (layR v 36 0 (bZ false)) n) ≤ 4 := act_rng (by omega)
  refine z_iconst C dL_law_364 365 rfl ?_
  refine z_icmp_ne C dL_law_365 463 368 (by decide) rfl (by omega) (fun c365 => ?_) (fun c365 => ?_)
  · exfalso; omega
  · skip
    refine z_al_n C hl dL_law_368 1 rfl 369 rfl ?_
    refine z_iconst C dL_law_369 370 rfl ?_
    refine z_iconst C dL_law_370 371 rfl ?_
    refine z_iconst C dL_law_371 372 rfl ?_
    refine z_VWi (r := .int (iI (layR (layV v 36 0 (bZ false)) 1 5 (bZ false)))) (rest := []) C (m_sand l G tb r x cu h pa o sg qn qb sn (actS (layR v 36 0 (bZ false)) n S) (actG (layR v 36 0 (bZ false)) n g v) (actN (layR v 36 0 (bZ false)) n) false v (layV v 36 0 (bZ false)) 1 5 false (by omega) (w0.lay 36 0 (bZ false) (bZ_rng _)) (by omega) (by omega) (gD_rg hW.2.1 [0, 3, 1, 2, 6] (by decide) rfl)) kV_L_62 ⟨Nat.le_of_ble_eq_true rfl, Nat.le_of_ble_eq_true rfl⟩ hW hK [0, 3, 1, 2, 6] rfl ((sameA_eq rfl (sameA_eq rfl (sameA_eq rfl (sameA_eq rfl (sameA_cons (hi_permA _ _) sameA_nil)))))) 0 rfl rfl rfl hl.1 rfl (Nat.le_of_ble_eq_true rfl) dL_law_372 ⟨Nat.le_of_ble_eq_true rfl, Nat.le_of_ble_eq_true rfl⟩ 375 rfl (rs' := [[tbO tb qn qb r x h o], stW G qn (layV (layV v 36 0 (bZ false)) 1 5 (bZ false)), stW G qb (layV v 36 0 (bZ false)), [(r, .inr (3, [.ref (qn 0)]))], [sxA x cu qn k.1], [arL G cu 5 k.2], hiW G h pa sn (actN (layR (layV v 36 0 (bZ false)) 1 5 (bZ false)) (actN (layR v 36 0 (bZ false)) n)) (actS (layR (layV v 36 0 (bZ false)) 1 5 (bZ false)) (actN (layR v 36 0 (bZ false)) n) (actS (layR v 36 0 (bZ false)) n S)) (actG (layR (layV v 36 0 (bZ false)) 1 5 (bZ false)) (actN (layR v 36 0 (bZ false)) n) (actG (layR v 36 0 (bZ false)) n g v) (layV v 36 0 (bZ false))) false, stW G sn v0Z, [orO G o sg 0], [arC G sg 60 (fun _ => 0)]]) rfl (fun H locs hW hkeep => ?_)
    refine z_top (b := .int (iI (-2))) (congrArg (fun z => Value.int (iI z)) (by unfold layR; rw [if_neg (by omega), if_pos (by omega)])) ?_
    have ha375 : 0 ≤ (actN (layR (layV v 36 0 (bZ false)) 1 5 (bZ false)) (actN (layR v 36 0 (bZ false)) n)) ∧ (actN (layR (layV v 36 0 (bZ false)) 1 5 (bZ false)) (actN (layR v 36 0 (bZ false)) n)) ≤ 4 := act_rng (by omega)
    refine z_bipush C dL_law_375 (by decide) 377 rfl ?_
    refine z_icmp_ne C dL_law_377 463 380 (by decide) rfl (by omega) (fun c377 => ?_) (fun c377 => ?_)
    · exfalso; omega
    · skip
      refine z_al_n C hl dL_law_380 1 rfl 381 rfl ?_
      refine z_iconst C dL_law_381 382 rfl ?_
      refine z_iconst C dL_law_382 383 rfl ?_
      refine z_iconst C dL_law_383 384 rfl ?_
      refine z_VWi (r := .int (iI (addR (layV (layV v 36 0 (bZ false)) 1 5 (bZ false)) 2 1 1))) (rest := []) C (m_boat l G tb r x cu h pa o sg qn qb sn (actS (layR (layV v 36 0 (bZ false)) 1 5 (bZ false)) (actN (layR v 36 0 (bZ false)) n) (actS (layR v 36 0 (bZ false)) n S)) (actG (layR (layV v 36 0 (bZ false)) 1 5 (bZ false)) (actN (layR v 36 0 (bZ false)) n) (actG (layR v 36 0 (bZ false)) n g v) (layV v 36 0 (bZ false))) (actN (layR (layV v 36 0 (bZ false)) 1 5 (bZ false)) (actN (layR v 36 0 (bZ false)) n)) false (layV v 36 0 (bZ false)) (layV (layV v 36 0 (bZ false)) 1 5 (bZ false)) 2 1 1 (by omega) ((w0.lay 36 0 (bZ false) (bZ_rng _)).lay 1 5 (bZ false) (bZ_rng _)) (by omega) (by omega) (by omega) (gD_rg hW.2.1 [0, 3, 1, 2, 6] (by decide) rfl)) kV_L_66 ⟨Nat.le_of_ble_eq_true rfl, Nat.le_of_ble_eq_true rfl⟩ hW hK [0, 3, 1, 2, 6] rfl ((sameA_eq rfl (sameA_eq rfl (sameA_eq rfl (sameA_eq rfl (sameA_cons (hi_permA _ _) sameA_nil)))))) 0 rfl rfl rfl hl.1 rfl (Nat.le_of_ble_eq_true rfl) dL_law_384 ⟨Nat.le_of_ble_eq_true rfl, Nat.le_of_ble_eq_true rfl⟩ 387 rfl (rs' := [[tbO tb qn qb r x h o], stW G qn (addV (layV (layV v 36 0 (bZ false)) 1 5 (bZ false)) 2 1 1), stW G qb (layV (layV v 36 0 (bZ false)) 1 5 (bZ false)), [(r, .inr (3, [.ref (qn 0)]))], [sxA x cu qn k.1], [arL G cu 5 k.2], hiW G h pa sn (actN (addR (layV (layV v 36 0 (bZ false)) 1 5 (bZ false)) 2 1 1) (actN (layR (layV v 36 0 (bZ false)) 1 5 (bZ false)) (actN (layR v 36 0 (bZ false)) n))) (actS (addR (layV (layV v 36 0 (bZ false)) 1 5 (bZ false)) 2 1 1) (actN (layR (layV v 36 0 (bZ false)) 1 5 (bZ false)) (actN (layR v 36 0 (bZ false)) n)) (actS (layR (layV v 36 0 (bZ false)) 1 5 (bZ false)) (actN (layR v 36 0 (bZ false)) n) (actS (layR v 36 0 (bZ false)) n S))) (actG (addR (layV (layV v 36 0 (bZ false)) 1 5 (bZ false)) 2 1 1) (actN (layR (layV v 36 0 (bZ false)) 1 5 (bZ false)) (actN (layR v 36 0 (bZ false)) n)) (actG (layR (layV v 36 0 (bZ false)) 1 5 (bZ false)) (actN (layR v 36 0 (bZ false)) n) (actG (layR v 36 0 (bZ false)) n g v) (layV v 36 0 (bZ false))) (layV (layV v 36 0 (bZ false)) 1 5 (bZ false))) false, stW G sn v0Z, [orO G o sg 0], [arC G sg 60 (fun _ => 0)]]) rfl (fun H locs hW hkeep => ?_)
      refine z_top (b := .int (iI (-1))) (congrArg (fun z => Value.int (iI z)) (by unfold addR; rw [if_pos (by omega)])) ?_
      have ha387 : 0 ≤ (actN (addR (layV (layV v 36 0 (bZ false)) 1 5 (bZ false)) 2 1 1) (actN (layR (layV v 36 0 (bZ false)) 1 5 (bZ false)) (actN (layR v 36 0 (bZ false)) n))) ∧ (actN (addR (layV (layV v 36 0 (bZ false)) 1 5 (bZ false)) 2 1 1) (actN (layR (layV v 36 0 (bZ false)) 1 5 (bZ false)) (actN (layR v 36 0 (bZ false)) n))) ≤ 4 := act_rng (by omega)
      refine z_iconst C dL_law_387 388 rfl ?_
      refine z_icmp_ne C dL_law_388 463 391 (by decide) rfl (by omega) (fun c388 => ?_) (fun c388 => ?_)
      · exfalso; omega
      · skip
        refine z_al_n C hl dL_law_391 1 rfl 392 rfl ?_
        refine z_iconst C dL_law_392 393 rfl ?_
        refine z_iconst C dL_law_393 394 rfl ?_
        refine z_iconst C dL_law_394 395 rfl ?_
        refine z_VWi (r := .int (iI (addR (addV (layV (layV v 36 0 (bZ false)) 1 5 (bZ false)) 2 1 1) 0 4 1))) (rest := []) C (m_boat l G tb r x cu h pa o sg qn qb sn (actS (addR (layV (layV v 36 0 (bZ false)) 1 5 (bZ false)) 2 1 1) (actN (layR (layV v 36 0 (bZ false)) 1 5 (bZ false)) (actN (layR v 36 0 (bZ false)) n)) (actS (layR (layV v 36 0 (bZ false)) 1 5 (bZ false)) (actN (layR v 36 0 (bZ false)) n) (actS (layR v 36 0 (bZ false)) n S))) (actG (addR (layV (layV v 36 0 (bZ false)) 1 5 (bZ false)) 2 1 1) (actN (layR (layV v 36 0 (bZ false)) 1 5 (bZ false)) (actN (layR v 36 0 (bZ false)) n)) (actG (layR (layV v 36 0 (bZ false)) 1 5 (bZ false)) (actN (layR v 36 0 (bZ false)) n) (actG (layR v 36 0 (bZ false)) n g v) (layV v 36 0 (bZ false))) (layV (layV v 36 0 (bZ false)) 1 5 (bZ false))) (actN (addR (layV (layV v 36 0 (bZ false)) 1 5 (bZ false)) 2 1 1) (actN (layR (layV v 36 0 (bZ false)) 1 5 (bZ false)) (actN (layR v 36 0 (bZ false)) n))) false (layV (layV v 36 0 (bZ false)) 1 5 (bZ false)) (addV (layV (layV v 36 0 (bZ false)) 1 5 (bZ false)) 2 1 1) 0 4 1 (by omega) (((w0.lay 36 0 (bZ false) (bZ_rng _)).lay 1 5 (bZ false) (bZ_rng _)).add 2 1 1) (by omega) (by omega) (by omega) (gD_rg hW.2.1 [0, 3, 1, 2, 6] (by decide) rfl)) kV_L_66 ⟨Nat.le_of_ble_eq_true rfl, Nat.le_of_ble_eq_true rfl⟩ hW hK [0, 3, 1, 2, 6] rfl ((sameA_eq rfl (sameA_eq rfl (sameA_eq rfl (sameA_eq rfl (sameA_cons (hi_permA _ _) sameA_nil)))))) 0 rfl rfl rfl hl.1 rfl (Nat.le_of_ble_eq_true rfl) dL_law_395 ⟨Nat.le_of_ble_eq_true rfl, Nat.le_of_ble_eq_true rfl⟩ 398 rfl (rs' := [[tbO tb qn qb r x h o], stW G qn (addV (addV (layV (layV v 36 0 (bZ false)) 1 5 (bZ false)) 2 1 1) 0 4 1), stW G qb (addV (layV (layV v 36 0 (bZ false)) 1 5 (bZ false)) 2 1 1), [(r, .inr (3, [.ref (qn 0)]))], [sxA x cu qn k.1], [arL G cu 5 k.2], hiW G h pa sn (actN (addR (addV (layV (layV v 36 0 (bZ false)) 1 5 (bZ false)) 2 1 1) 0 4 1) (actN (addR (layV (layV v 36 0 (bZ false)) 1 5 (bZ false)) 2 1 1) (actN (layR (layV v 36 0 (bZ false)) 1 5 (bZ false)) (actN (layR v 36 0 (bZ false)) n)))) (actS (addR (addV (layV (layV v 36 0 (bZ false)) 1 5 (bZ false)) 2 1 1) 0 4 1) (actN (addR (layV (layV v 36 0 (bZ false)) 1 5 (bZ false)) 2 1 1) (actN (layR (layV v 36 0 (bZ false)) 1 5 (bZ false)) (actN (layR v 36 0 (bZ false)) n))) (actS (addR (layV (layV v 36 0 (bZ false)) 1 5 (bZ false)) 2 1 1) (actN (layR (layV v 36 0 (bZ false)) 1 5 (bZ false)) (actN (layR v 36 0 (bZ false)) n)) (actS (layR (layV v 36 0 (bZ false)) 1 5 (bZ false)) (actN (layR v 36 0 (bZ false)) n) (actS (layR v 36 0 (bZ false)) n S)))) (actG (addR (addV (layV (layV v 36 0 (bZ false)) 1 5 (bZ false)) 2 1 1) 0 4 1) (actN (addR (layV (layV v 36 0 (bZ false)) 1 5 (bZ false)) 2 1 1) (actN (layR (layV v 36 0 (bZ false)) 1 5 (bZ false)) (actN (layR v 36 0 (bZ false)) n))) (actG (addR (layV (layV v 36 0 (bZ false)) 1 5 (bZ false)) 2 1 1) (actN (layR (layV v 36 0 (bZ false)) 1 5 (bZ false)) (actN (layR v 36 0 (bZ false)) n)) (actG (layR (layV v 36 0 (bZ false)) 1 5 (bZ false)) (actN (layR v 36 0 (bZ false)) n) (actG (layR v 36 0 (bZ false)) n g v) (layV v 36 0 (bZ false))) (layV (layV v 36 0 (bZ false)) 1 5 (bZ false))) (addV (layV (layV v 36 0 (bZ false)) 1 5 (bZ false)) 2 1 1)) false, stW G sn v0Z, [orO G o sg 0], [arC G sg 60 (fun _ => 0)]]) rfl (fun H locs hW hkeep => ?_)
        refine z_top (b := .int (iI (-2))) (congrArg (fun z => Value.int (iI z)) (by unfold addR; rw [if_neg (by omega), if_pos (by omega)])) ?_
        have ha398 : 0 ≤ (actN (addR (addV (layV (layV v 36 0 (bZ false)) 1 5 (bZ false)) 2 1 1) 0 4 1) (actN (addR (layV (layV v 36 0 (bZ false)) 1 5 (bZ false)) 2 1 1) (actN (layR (layV v 36 0 (bZ false)) 1 5 (bZ false)) (actN (layR v 36 0 (bZ false)) n)))) ∧ (actN (addR (addV (layV (layV v 36 0 (bZ false)) 1 5 (bZ false)) 2 1 1) 0 4 1) (actN (addR (layV (layV v 36 0 (bZ false)) 1 5 (bZ false)) 2 1 1) (actN (layR (layV v 36 0 (bZ false)) 1 5 (bZ false)) (actN (layR v 36 0 (bZ false)) n)))) ≤ 4 := act_rng (by omega)
        refine z_bipush C dL_law_398 (by decide) 400 rfl ?_
        refine z_icmp_ne C dL_law_400 463 403 (by decide) rfl (by omega) (fun c400 => ?_) (fun c400 => ?_)
        · exfalso; omega
        · skip
          refine z_al_n C hl dL_law_403 1 rfl 404 rfl ?_
          refine z_iconst C dL_law_404 405 rfl ?_
          refine z_bipush C dL_law_405 (by decide) 407 rfl ?_
          refine z_VWzi (r := .int (iI (chsR (addV (addV (layV (layV v 36 0 (bZ false)) 1 5 (bZ false)) 2 1 1) 0 4 1) 3 9))) (rest := []) C (m_set l G tb r x cu h pa o sg qn qb sn (actS (addR (addV (layV (layV v 36 0 (bZ false)) 1 5 (bZ false)) 2 1 1) 0 4 1) (actN (addR (layV (layV v 36 0 (bZ false)) 1 5 (bZ false)) 2 1 1) (actN (layR (layV v 36 0 (bZ false)) 1 5 (bZ false)) (actN (layR v 36 0 (bZ false)) n))) (actS (addR (layV (layV v 36 0 (bZ false)) 1 5 (bZ false)) 2 1 1) (actN (layR (layV v 36 0 (bZ false)) 1 5 (bZ false)) (actN (layR v 36 0 (bZ false)) n)) (actS (layR (layV v 36 0 (bZ false)) 1 5 (bZ false)) (actN (layR v 36 0 (bZ false)) n) (actS (layR v 36 0 (bZ false)) n S)))) (actG (addR (addV (layV (layV v 36 0 (bZ false)) 1 5 (bZ false)) 2 1 1) 0 4 1) (actN (addR (layV (layV v 36 0 (bZ false)) 1 5 (bZ false)) 2 1 1) (actN (layR (layV v 36 0 (bZ false)) 1 5 (bZ false)) (actN (layR v 36 0 (bZ false)) n))) (actG (addR (layV (layV v 36 0 (bZ false)) 1 5 (bZ false)) 2 1 1) (actN (layR (layV v 36 0 (bZ false)) 1 5 (bZ false)) (actN (layR v 36 0 (bZ false)) n)) (actG (layR (layV v 36 0 (bZ false)) 1 5 (bZ false)) (actN (layR v 36 0 (bZ false)) n) (actG (layR v 36 0 (bZ false)) n g v) (layV v 36 0 (bZ false))) (layV (layV v 36 0 (bZ false)) 1 5 (bZ false))) (addV (layV (layV v 36 0 (bZ false)) 1 5 (bZ false)) 2 1 1)) (actN (addR (addV (layV (layV v 36 0 (bZ false)) 1 5 (bZ false)) 2 1 1) 0 4 1) (actN (addR (layV (layV v 36 0 (bZ false)) 1 5 (bZ false)) 2 1 1) (actN (layR (layV v 36 0 (bZ false)) 1 5 (bZ false)) (actN (layR v 36 0 (bZ false)) n)))) false (addV (layV (layV v 36 0 (bZ false)) 1 5 (bZ false)) 2 1 1) (addV (addV (layV (layV v 36 0 (bZ false)) 1 5 (bZ false)) 2 1 1) 0 4 1) E 3 9 (by omega) ((((w0.lay 36 0 (bZ false) (bZ_rng _)).lay 1 5 (bZ false) (bZ_rng _)).add 2 1 1).add 0 4 1) (by omega) (by omega) (gD_rg hW.2.1 [0, 3, 1, 2, 6] (by decide) rfl)) kV_L_69 ⟨Nat.le_of_ble_eq_true rfl, Nat.le_of_ble_eq_true rfl⟩ hW hK [0, 3, 1, 2, 6] rfl ((sameA_eq rfl (sameA_eq rfl (sameA_eq rfl (sameA_eq rfl (sameA_cons (hi_permA _ _) sameA_nil)))))) zw_blind (zw_of hZ hW.2.2.2 (hW.in [0, 3, 1, 2, 6] rfl)) 0 rfl rfl rfl hl.1 rfl (Nat.le_of_ble_eq_true rfl) dL_law_407 ⟨Nat.le_of_ble_eq_true rfl, Nat.le_of_ble_eq_true rfl⟩ 410 rfl (rs' := [[tbO tb qn qb r x h o], stW G qn (chsV (addV (addV (layV (layV v 36 0 (bZ false)) 1 5 (bZ false)) 2 1 1) 0 4 1) 3 9), stW G qb (addV (addV (layV (layV v 36 0 (bZ false)) 1 5 (bZ false)) 2 1 1) 0 4 1), [(r, .inr (3, [.ref (qn 0)]))], [sxA x cu qn k.1], [arL G cu 5 k.2], hiW G h pa sn (actN (chsR (addV (addV (layV (layV v 36 0 (bZ false)) 1 5 (bZ false)) 2 1 1) 0 4 1) 3 9) (actN (addR (addV (layV (layV v 36 0 (bZ false)) 1 5 (bZ false)) 2 1 1) 0 4 1) (actN (addR (layV (layV v 36 0 (bZ false)) 1 5 (bZ false)) 2 1 1) (actN (layR (layV v 36 0 (bZ false)) 1 5 (bZ false)) (actN (layR v 36 0 (bZ false)) n))))) (actS (chsR (addV (addV (layV (layV v 36 0 (bZ false)) 1 5 (bZ false)) 2 1 1) 0 4 1) 3 9) (actN (addR (addV (layV (layV v 36 0 (bZ false)) 1 5 (bZ false)) 2 1 1) 0 4 1) (actN (addR (layV (layV v 36 0 (bZ false)) 1 5 (bZ false)) 2 1 1) (actN (layR (layV v 36 0 (bZ false)) 1 5 (bZ false)) (actN (layR v 36 0 (bZ false)) n)))) (actS (addR (addV (layV (layV v 36 0 (bZ false)) 1 5 (bZ false)) 2 1 1) 0 4 1) (actN (addR (layV (layV v 36 0 (bZ false)) 1 5 (bZ false)) 2 1 1) (actN (layR (layV v 36 0 (bZ false)) 1 5 (bZ false)) (actN (layR v 36 0 (bZ false)) n))) (actS (addR (layV (layV v 36 0 (bZ false)) 1 5 (bZ false)) 2 1 1) (actN (layR (layV v 36 0 (bZ false)) 1 5 (bZ false)) (actN (layR v 36 0 (bZ false)) n)) (actS (layR (layV v 36 0 (bZ false)) 1 5 (bZ false)) (actN (layR v 36 0 (bZ false)) n) (actS (layR v 36 0 (bZ false)) n S))))) (actG (chsR (addV (addV (layV (layV v 36 0 (bZ false)) 1 5 (bZ false)) 2 1 1) 0 4 1) 3 9) (actN (addR (addV (layV (layV v 36 0 (bZ false)) 1 5 (bZ false)) 2 1 1) 0 4 1) (actN (addR (layV (layV v 36 0 (bZ false)) 1 5 (bZ false)) 2 1 1) (actN (layR (layV v 36 0 (bZ false)) 1 5 (bZ false)) (actN (layR v 36 0 (bZ false)) n)))) (actG (addR (addV (layV (layV v 36 0 (bZ false)) 1 5 (bZ false)) 2 1 1) 0 4 1) (actN (addR (layV (layV v 36 0 (bZ false)) 1 5 (bZ false)) 2 1 1) (actN (layR (layV v 36 0 (bZ false)) 1 5 (bZ false)) (actN (layR v 36 0 (bZ false)) n))) (actG (addR (layV (layV v 36 0 (bZ false)) 1 5 (bZ false)) 2 1 1) (actN (layR (layV v 36 0 (bZ false)) 1 5 (bZ false)) (actN (layR v 36 0 (bZ false)) n)) (actG (layR (layV v 36 0 (bZ false)) 1 5 (bZ false)) (actN (layR v 36 0 (bZ false)) n) (actG (layR v 36 0 (bZ false)) n g v) (layV v 36 0 (bZ false))) (layV (layV v 36 0 (bZ false)) 1 5 (bZ false))) (addV (layV (layV v 36 0 (bZ false)) 1 5 (bZ false)) 2 1 1)) (addV (addV (layV (layV v 36 0 (bZ false)) 1 5 (bZ false)) 2 1 1) 0 4 1)) false, stW G sn v0Z, [orO G o sg 0], [arC G sg 60 (fun _ => 0)]]) rfl (fun H locs hW hkeep => ?_)
          refine z_top (b := .int (iI (-2))) (congrArg (fun z => Value.int (iI z)) (by unfold chsR; rw [if_neg (by omega), if_pos (by unfold lstZ mstZ; decide)])) ?_
          have ha410 : 0 ≤ (actN (chsR (addV (addV (layV (layV v 36 0 (bZ false)) 1 5 (bZ false)) 2 1 1) 0 4 1) 3 9) (actN (addR (addV (layV (layV v 36 0 (bZ false)) 1 5 (bZ false)) 2 1 1) 0 4 1) (actN (addR (layV (layV v 36 0 (bZ false)) 1 5 (bZ false)) 2 1 1) (actN (layR (layV v 36 0 (bZ false)) 1 5 (bZ false)) (actN (layR v 36 0 (bZ false)) n))))) ∧ (actN (chsR (addV (addV (layV (layV v 36 0 (bZ false)) 1 5 (bZ false)) 2 1 1) 0 4 1) 3 9) (actN (addR (addV (layV (layV v 36 0 (bZ false)) 1 5 (bZ false)) 2 1 1) 0 4 1) (actN (addR (layV (layV v 36 0 (bZ false)) 1 5 (bZ false)) 2 1 1) (actN (layR (layV v 36 0 (bZ false)) 1 5 (bZ false)) (actN (layR v 36 0 (bZ false)) n))))) ≤ 4 := act_rng (by omega)
          refine z_bipush C dL_law_410 (by decide) 412 rfl ?_
          refine z_icmp_ne C dL_law_412 463 415 (by decide) rfl (by omega) (fun c412 => ?_) (fun c412 => ?_)
          · exfalso; omega
          · skip
            refine z_al_n C hl dL_law_415 1 rfl 416 rfl ?_
            refine z_sipush C dL_law_416 (by decide) 419 rfl ?_
            refine z_VR (r := .int (iI (tidR (chsV (addV (addV (layV (layV v 36 0 (bZ false)) 1 5 (bZ false)) 2 1 1) 0 4 1) 3 9) 1001))) (rest := []) C (m_tide l G tb r x cu h pa o sg qn qb sn (chsV (addV (addV (layV (layV v 36 0 (bZ false)) 1 5 (bZ false)) 2 1 1) 0 4 1) 3 9) 1001 (((((w0.lay 36 0 (bZ false) (bZ_rng _)).lay 1 5 (bZ false) (bZ_rng _)).add 2 1 1).add 0 4 1).chs 3 9) (by omega)) kV_L_25 ⟨Nat.le_of_ble_eq_true rfl, Nat.le_of_ble_eq_true rfl⟩ (gP_rg hW.1 [0, 1] rfl) hK 0 rfl rfl rfl hl.1 rfl (Nat.le_of_ble_eq_true rfl) dL_law_419 ⟨Nat.le_of_ble_eq_true rfl, Nat.le_of_ble_eq_true rfl⟩ 422 rfl ?_
            refine z_top (b := .int (iI (-1))) (congrArg (fun z => Value.int (iI z)) (by unfold tidR; rw [if_pos (by omega)])) ?_
            refine z_iconst C dL_law_422 423 rfl ?_
            refine z_icmp_ne C dL_law_423 463 426 (by decide) rfl (by omega) (fun c423 => ?_) (fun c423 => ?_)
            · exfalso; omega
            · skip
              refine z_al_n C hl dL_law_426 1 rfl 427 rfl ?_
              refine z_iconst C dL_law_427 428 rfl ?_
              refine z_VR (r := .int (danR (chsV (addV (addV (layV (layV v 36 0 (bZ false)) 1 5 (bZ false)) 2 1 1) 0 4 1) 3 9) 2)) (rest := []) C (m_inDanger l G tb r x cu h pa o sg qn qb sn (chsV (addV (addV (layV (layV v 36 0 (bZ false)) 1 5 (bZ false)) 2 1 1) 0 4 1) 3 9) 2 (((((w0.lay 36 0 (bZ false) (bZ_rng _)).lay 1 5 (bZ false) (bZ_rng _)).add 2 1 1).add 0 4 1).chs 3 9) (by omega)) kV_L_38 ⟨Nat.le_of_ble_eq_true rfl, Nat.le_of_ble_eq_true rfl⟩ (gP_rg hW.1 [0, 1] rfl) hK 0 rfl rfl rfl hl.1 rfl (Nat.le_of_ble_eq_true rfl) dL_law_428 ⟨Nat.le_of_ble_eq_true rfl, Nat.le_of_ble_eq_true rfl⟩ 431 rfl ?_
              refine z_top (b := .int (iI (-1))) (congrArg Value.int (by unfold danR; rw [if_pos (by omega)])) ?_
              refine z_iconst C dL_law_431 432 rfl ?_
              refine z_icmp_ne C dL_law_432 463 435 (by decide) rfl (by omega) (fun c432 => ?_) (fun c432 => ?_)
              · exfalso; omega
              · skip
                refine z_al_n C hl dL_law_435 1 rfl 436 rfl ?_
                refine z_bipush C dL_law_436 (by decide) 438 rfl ?_
                refine z_iconst C dL_law_438 439 rfl ?_
                refine z_VR (r := .float (aflF (chsV (addV (addV (layV (layV v 36 0 (bZ false)) 1 5 (bZ false)) 2 1 1) 0 4 1) 3 9) 36 1)) (rest := []) C (m_afloat l G tb r x cu h pa o sg qn qb sn (chsV (addV (addV (layV (layV v 36 0 (bZ false)) 1 5 (bZ false)) 2 1 1) 0 4 1) 3 9) 36 1 (((((w0.lay 36 0 (bZ false) (bZ_rng _)).lay 1 5 (bZ false) (bZ_rng _)).add 2 1 1).add 0 4 1).chs 3 9) (by omega) (by omega)) kV_L_28 ⟨Nat.le_of_ble_eq_true rfl, Nat.le_of_ble_eq_true rfl⟩ (gP_rg hW.1 [0, 1] rfl) hK 0 rfl rfl rfl hl.1 rfl (Nat.le_of_ble_eq_true rfl) dL_law_439 ⟨Nat.le_of_ble_eq_true rfl, Nat.le_of_ble_eq_true rfl⟩ 442 rfl ?_
                refine z_top (b := .float (3212836864)) (congrArg Value.float (by unfold aflF; rw [if_neg (by omega)])) ?_
                refine z_ldcf C qc556 dL_law_442 444 rfl ?_
                refine z_fcm C dL_law_444 445 rfl ?_
                refine z_top (b := .int (iI (0))) (congrArg Value.int (by decide +kernel)) ?_
                refine z_if_ne C dL_law_445 463 448 (by decide) rfl (by omega) (fun c445 => ?_) (fun c445 => ?_)
                · exfalso; omega
                · skip
                  refine z_al_n C hl dL_law_448 1 rfl 449 rfl ?_
                  refine z_bipush C dL_law_449 (by decide) 451 rfl ?_
                  refine z_VR (r := .int (iI (cntR (chsV (addV (addV (layV (layV v 36 0 (bZ false)) 1 5 (bZ false)) 2 1 1) 0 4 1) 3 9) (actN (chsR (addV (addV (layV (layV v 36 0 (bZ false)) 1 5 (bZ false)) 2 1 1) 0 4 1) 3 9) (actN (addR (addV (layV (layV v 36 0 (bZ false)) 1 5 (bZ false)) 2 1 1) 0 4 1) (actN (addR (layV (layV v 36 0 (bZ false)) 1 5 (bZ false)) 2 1 1) (actN (layR (layV v 36 0 (bZ false)) 1 5 (bZ false)) (actN (layR v 36 0 (bZ false)) n))))) 0 19))) (rest := []) C (m_count l G tb r x cu h pa o sg qn qb sn (actS (chsR (addV (addV (layV (layV v 36 0 (bZ false)) 1 5 (bZ false)) 2 1 1) 0 4 1) 3 9) (actN (addR (addV (layV (layV v 36 0 (bZ false)) 1 5 (bZ false)) 2 1 1) 0 4 1) (actN (addR (layV (layV v 36 0 (bZ false)) 1 5 (bZ false)) 2 1 1) (actN (layR (layV v 36 0 (bZ false)) 1 5 (bZ false)) (actN (layR v 36 0 (bZ false)) n)))) (actS (addR (addV (layV (layV v 36 0 (bZ false)) 1 5 (bZ false)) 2 1 1) 0 4 1) (actN (addR (layV (layV v 36 0 (bZ false)) 1 5 (bZ false)) 2 1 1) (actN (layR (layV v 36 0 (bZ false)) 1 5 (bZ false)) (actN (layR v 36 0 (bZ false)) n))) (actS (addR (layV (layV v 36 0 (bZ false)) 1 5 (bZ false)) 2 1 1) (actN (layR (layV v 36 0 (bZ false)) 1 5 (bZ false)) (actN (layR v 36 0 (bZ false)) n)) (actS (layR (layV v 36 0 (bZ false)) 1 5 (bZ false)) (actN (layR v 36 0 (bZ false)) n) (actS (layR v 36 0 (bZ false)) n S))))) (actG (chsR (addV (addV (layV (layV v 36 0 (bZ false)) 1 5 (bZ false)) 2 1 1) 0 4 1) 3 9) (actN (addR (addV (layV (layV v 36 0 (bZ false)) 1 5 (bZ false)) 2 1 1) 0 4 1) (actN (addR (layV (layV v 36 0 (bZ false)) 1 5 (bZ false)) 2 1 1) (actN (layR (layV v 36 0 (bZ false)) 1 5 (bZ false)) (actN (layR v 36 0 (bZ false)) n)))) (actG (addR (addV (layV (layV v 36 0 (bZ false)) 1 5 (bZ false)) 2 1 1) 0 4 1) (actN (addR (layV (layV v 36 0 (bZ false)) 1 5 (bZ false)) 2 1 1) (actN (layR (layV v 36 0 (bZ false)) 1 5 (bZ false)) (actN (layR v 36 0 (bZ false)) n))) (actG (addR (layV (layV v 36 0 (bZ false)) 1 5 (bZ false)) 2 1 1) (actN (layR (layV v 36 0 (bZ false)) 1 5 (bZ false)) (actN (layR v 36 0 (bZ false)) n)) (actG (layR (layV v 36 0 (bZ false)) 1 5 (bZ false)) (actN (layR v 36 0 (bZ false)) n) (actG (layR v 36 0 (bZ false)) n g v) (layV v 36 0 (bZ false))) (layV (layV v 36 0 (bZ false)) 1 5 (bZ false))) (addV (layV (layV v 36 0 (bZ false)) 1 5 (bZ false)) 2 1 1)) (addV (addV (layV (layV v 36 0 (bZ false)) 1 5 (bZ false)) 2 1 1) 0 4 1)) (actN (chsR (addV (addV (layV (layV v 36 0 (bZ false)) 1 5 (bZ false)) 2 1 1) 0 4 1) 3 9) (actN (addR (addV (layV (layV v 36 0 (bZ false)) 1 5 (bZ false)) 2 1 1) 0 4 1) (actN (addR (layV (layV v 36 0 (bZ false)) 1 5 (bZ false)) 2 1 1) (actN (layR (layV v 36 0 (bZ false)) 1 5 (bZ false)) (actN (layR v 36 0 (bZ false)) n))))) false (chsV (addV (addV (layV (layV v 36 0 (bZ false)) 1 5 (bZ false)) 2 1 1) 0 4 1) 3 9) 0 19 (((((w0.lay 36 0 (bZ false) (bZ_rng _)).lay 1 5 (bZ false) (bZ_rng _)).add 2 1 1).add 0 4 1).chs 3 9) (by omega)) kV_L_8 ⟨Nat.le_of_ble_eq_true rfl, Nat.le_of_ble_eq_true rfl⟩ (gP_rg hW.1 [0, 3, 1, 6, 8] rfl) hK 0 rfl rfl rfl hl.1 rfl (Nat.le_of_ble_eq_true rfl) dL_law_451 ⟨Nat.le_of_ble_eq_true rfl, Nat.le_of_ble_eq_true rfl⟩ 454 rfl ?_
                  refine z_top (b := .int (iI (-2))) (congrArg (fun z => Value.int (iI z)) (rfl)) ?_
                  refine z_bipush C dL_law_454 (by decide) 456 rfl ?_
                  refine z_icmp_ne C dL_law_456 463 459 (by decide) rfl (by omega) (fun c456 => ?_) (fun c456 => ?_)
                  · exfalso; omega
                  · skip
                    refine z_iconst C dL_law_459 460 rfl ?_
                    refine z_goto C dL_law_460 464 (by decide) ?_
                    refine z_top (b := .int 1) rfl ?_
                    refine va_forget (fun q hq => hW.2.2.2.2.2 q hq) ?_
                    refine W.widen (k := 600000) (n := 7302250) (Nat.le_of_ble_eq_true rfl) (Nat.le_of_ble_eq_true rfl) ?_
                    refine W.base ?_
                    exact lw_ret (Drawn.sameBut.refl s.drawn lw_cs) C.1.1 C.1.2.1 C.2.1 C.2.2 dL_law_464

set_option maxHeartbeats 16000000 in
set_option maxRecDepth 100000 in
theorem law_128 (l : Launch) {p : Program} {e : Env} {s : State} {m : MethodId} {below : List Frame} {meth : Method} {c : Code} {G : gT} {b tb r x cu h pa o sg : Nat} {qn qb sn : Nat → Nat} {L : Nat} {xs : Nat → Int32} {E : eT} (C : CX p s m #[Value.ref b] meth c RL cL_law 10 ret) (hK : gK G s) (hE : EV E (fun q => s.heap.size ≤ q) s s.heap) (hX : va_X b L xs s s.heap) (hbl : b < s.heap.size) (hL : L ≤ 260) {ee : Int} (he9 : 80 ≤ ee ∧ ee < 140) (K : LQ p l e s m below meth c G b tb r x cu h pa o sg qn qb sn (fun _ => True) ee 350) : LQ p l e s m below meth c G b tb r x cu h pa o sg qn qb sn (fun _ => True) ee 128 := by
  intro S v u g n k H locs ls i hn9 hP9 hW hl
  have hW : Wd G (fun q => s.heap.size ≤ q) [[tbO tb qn qb r x h o], stW G qn v, stW G qb u, [(r, .inr (3, [.ref (qn 0)]))], [sxA x cu qn k.1], [arL G cu 5 k.2], hiW G h pa sn n S g false, stW G sn v0Z, [orO G o sg 0], [arC G sg 60 (fun _ => 0)]] s.heap H locs := hW
  have w0 := i.w
  have hn := w0.n
  have ht := w0.t
  have J283 : ∀ (S2 : Nat → Nat → Nat) (v2 : Int → Int) (u2 : Int → Int) (g2 : Nat → Int → Int) (n2 : Int) (k2 : sK) (i2 : Ia v2) (hn2 : 0 ≤ n2 ∧ n2 ≤ 4) (e2 : v2 127 = v 127) (H : Heap) (locs : List Loc) (hW : Wd G (fun q => s.heap.size ≤ q) [[tbO tb qn qb r x h o], stW G qn v2, stW G qb u2, [(r, .inr (3, [.ref (qn 0)]))], [sxA x cu qn k2.1], [arL G cu 5 k2.2], hiW G h pa sn n2 S2 g2 false, stW G sn v0Z, [orO G o sg 0], [arC G sg 60 (fun _ => 0)]] s.heap H locs) (ls : Array Slot) (hl : lv_has ls 10 [(4, .int (iI (v 127))), (3, .int (celX xs L ee)), (2, .int (iI (ee))), (1, .ref (tb)), (0, .ref (b))]), W p l e room_1 s m #[Value.ref b] below meth c H locs 64 1041 (lw_Z below #[Value.ref b] s) (F0 m 283 ls [.int (iI (1))]) := by
    intro S2 v2 u2 g2 n2 k2 i2 hn2 e2 H locs hW ls hl
    have w2 := i2.w
    refine z_is C hl dL_law_283 285 rfl (by decide) (lv' := [(9, .int (iI (1))), (4, .int (iI (v 127))), (3, .int (celX xs L ee)), (2, .int (iI (ee))), (1, .ref (tb)), (0, .ref (b))]) rfl (fun ls hl => ?_)
    refine z_il C hl dL_law_285 0 rfl 287 rfl ?_
    refine z_if_eq C dL_law_287 348 290 (by decide) rfl (by omega) (fun c287 => ?_) (fun c287 => ?_)
    · exfalso; omega
    · skip
      have J304 : ∀ (H : Heap) (locs : List Loc) (hW : Wd G (fun q => s.heap.size ≤ q) [[tbO tb qn qb r x h o], stW G qn v2, stW G qb u2, [(r, .inr (3, [.ref (qn 0)]))], [sxA x cu qn k2.1], [arL G cu 5 k2.2], hiW G h pa sn n2 S2 g2 false, stW G sn v0Z, [orO G o sg 0], [arC G sg 60 (fun _ => 0)]] s.heap H locs) (ls : Array Slot) (hl : lv_has ls 10 [(4, .int (iI (v 127))), (3, .int (celX xs L ee)), (2, .int (iI (ee))), (1, .ref (tb)), (0, .ref (b))]), W p l e room_1 s m #[Value.ref b] below meth c H locs 64 1041 (lw_Z below #[Value.ref b] s) (F0 m 304 ls []) := by
        intro H locs hW ls hl
        have J332 : ∀ (k3 : sK) (H : Heap) (locs : List Loc) (hW : Wd G (fun q => s.heap.size ≤ q) [[tbO tb qn qb r x h o], stW G qn v2, stW G qb u2, [(r, .inr (3, [.ref (qn 0)]))], [sxA x cu qn k3.1], [arL G cu 5 k3.2], hiW G h pa sn n2 S2 g2 false, stW G sn v0Z, [orO G o sg 0], [arC G sg 60 (fun _ => 0)]] s.heap H locs) (ls : Array Slot) (hl : lv_has ls 10 [(2, .int (iI (ee))), (1, .ref (tb)), (0, .ref (b))]), W p l e room_1 s m #[Value.ref b] below meth c H locs 64 1041 (lw_Z below #[Value.ref b] s) (F0 m 332 ls []) := by
          intro k3 H locs hW ls hl
          refine z_il_n C hl dL_law_332 0 rfl 333 rfl ?_
          refine z_bipush C dL_law_333 (by decide) 335 rfl ?_
          refine z_irem C dL_law_335 336 rfl (by omega) ((ee % 12)) (rfl) ?_
          refine z_bipush C dL_law_336 (by decide) 338 rfl ?_
          refine z_icmp_ne C dL_law_338 350 341 (by decide) rfl (by omega) (fun c338 => ?_) (fun c338 => ?_)
          · skip
            exact K S2 v2 u2 g2 n2 k3 _ _ ls i2 (by omega) trivial hW (lv_sub hl [0, 1, 2] rfl)
          · skip
            refine z_al_n C hl dL_law_341 1 rfl 342 rfl ?_
            refine z_SE (r := .int (iI (bZ true))) (rest := []) C (m_lwBest l G tb r x cu h pa o sg qn qb sn S2 v2 u2 g2 n2 k3 i2 (by omega) hW.2.1) kS_L_99 ⟨Nat.le_of_ble_eq_true rfl, Nat.le_of_ble_eq_true rfl⟩ hW hK rfl hl.1 rfl (Nat.le_of_ble_eq_true rfl) dL_law_342 ⟨Nat.le_of_ble_eq_true rfl, Nat.le_of_ble_eq_true rfl⟩ 345 rfl (fun z9 H locs hz9 hW => ?_)
            obtain ⟨S9, u9, g9, n9, k9⟩ := z9
            have hz9 : 0 ≤ n9 ∧ n9 ≤ 4 := hz9
            have hW := hW.re (rs' := [[tbO tb qn qb r x h o], stW G qn v2, stW G qb u9, [(r, .inr (3, [.ref (qn 0)]))], [sxA x cu qn k9.1], [arL G cu 5 k9.2], hiW G h pa sn n9 S9 g9 false, stW G sn v0Z, [orO G o sg 0], [arC G sg 60 (fun _ => 0)]]) rfl
            refine z_top (b := .int (iI (1))) (congrArg (fun z => Value.int (iI z)) (rfl)) ?_
            refine z_if_ne C dL_law_345 350 348 (by decide) rfl (by omega) (fun c345 => ?_) (fun c345 => ?_)
            · skip
              exact K S9 v2 u9 g9 n9 k9 _ _ ls i2 (by omega) trivial hW (lv_sub hl [0, 1, 2] rfl)
            · exfalso; omega
        refine z_il C hl dL_law_304 0 rfl 306 rfl ?_
        refine z_if_le C dL_law_306 332 309 (by decide) rfl (by omega) (fun c306 => ?_) (fun c306 => ?_)
        · skip
          exact J332 k2 _ _ hW ls (lv_sub hl [2, 3, 4] rfl)
        · skip
          refine z_il_n C hl dL_law_309 2 rfl 310 rfl ?_
          refine z_iconst C dL_law_310 311 rfl ?_
          refine z_irem C dL_law_311 312 rfl (by omega) ((ee % 5)) (rfl) ?_
          refine z_iconst C dL_law_312 313 rfl ?_
          refine z_icmp_ne C dL_law_313 332 316 (by decide) rfl (by omega) (fun c313 => ?_) (fun c313 => ?_)
          · skip
            exact J332 k2 _ _ hW ls (lv_sub hl [2, 3, 4] rfl)
          · skip
            refine z_al_n C hl dL_law_316 3 rfl 317 rfl ?_
            refine z_il_n C hl dL_law_317 1 rfl 318 rfl ?_
            refine z_bipush C dL_law_318 (by decide) 320 rfl ?_
            refine z_ishr C dL_law_320 321 rfl ?_
            refine z_il C hl dL_law_321 0 rfl 323 rfl ?_
            refine z_SR (r := .int (iI (lowZ ((celX xs L ee) >>> ((iI (12)) &&& 31)) (v 127)))) (rest := [.ref (tb)]) C (m_low l G ((celX xs L ee) >>> ((iI (12)) &&& 31)) (v 127) (by omega)) kS_L_59 ⟨Nat.le_of_ble_eq_true rfl, Nat.le_of_ble_eq_true rfl⟩ (gP_nil) hK rfl hl.1 rfl (Nat.le_of_ble_eq_true rfl) dL_law_323 ⟨Nat.le_of_ble_eq_true rfl, Nat.le_of_ble_eq_true rfl⟩ 326 rfl ?_
            have rl323 := lowZ_rng ((celX xs L ee) >>> ((iI (12)) &&& 31)) (n := v 127) (by omega)
            refine z_SWi (r := .int (iI (bZ (true)))) (rest := []) C (m_lwBoat l G tb r x cu h pa o sg qn qb sn S2 v2 g2 n2 k2 (lowZ ((celX xs L ee) >>> ((iI (12)) &&& 31)) (v 127)) i2 (by omega) (gD_rg hW.2.1 [0, 3, 4, 5, 1, 6, 8] (by decide) rfl)) kS_L_95 ⟨Nat.le_of_ble_eq_true rfl, Nat.le_of_ble_eq_true rfl⟩ hW hK [0, 3, 4, 5, 1, 6, 8] rfl (sameA_of rfl) rfl hl.1 rfl (Nat.le_of_ble_eq_true rfl) dL_law_326 ⟨Nat.le_of_ble_eq_true rfl, Nat.le_of_ble_eq_true rfl⟩ 329 rfl (rs' := [[tbO tb qn qb r x h o], stW G qn v2, stW G qb u2, [(r, .inr (3, [.ref (qn 0)]))], [sxA x cu qn (homK v2 (lowZ ((celX xs L ee) >>> ((iI (12)) &&& 31)) (v 127)) 1 (homK v2 (lowZ ((celX xs L ee) >>> ((iI (12)) &&& 31)) (v 127)) 0 k2)).1], [arL G cu 5 (homK v2 (lowZ ((celX xs L ee) >>> ((iI (12)) &&& 31)) (v 127)) 1 (homK v2 (lowZ ((celX xs L ee) >>> ((iI (12)) &&& 31)) (v 127)) 0 k2)).2], hiW G h pa sn n2 S2 g2 false, stW G sn v0Z, [orO G o sg 0], [arC G sg 60 (fun _ => 0)]]) rfl (fun H locs hW hkeep => ?_)
            refine z_top (b := .int (iI (1))) (congrArg (fun z => Value.int (iI z)) (rfl)) ?_
            refine z_if_eq C dL_law_329 348 332 (by decide) rfl (by omega) (fun c329 => ?_) (fun c329 => ?_)
            · exfalso; omega
            · skip
              exact J332 (homK v2 (lowZ ((celX xs L ee) >>> ((iI (12)) &&& 31)) (v 127)) 1 (homK v2 (lowZ ((celX xs L ee) >>> ((iI (12)) &&& 31)) (v 127)) 0 k2)) _ _ hW ls (lv_sub hl [2, 3, 4] rfl)
      refine z_il_n C hl dL_law_290 3 rfl 291 rfl ?_
      refine z_iconst C dL_law_291 292 rfl ?_
      refine z_irem C dL_law_292 293 rfl (by omega) ((ee % 4)) (rfl) ?_
      refine z_iconst C dL_law_293 294 rfl ?_
      refine z_icmp_ne C dL_law_294 304 297 (by decide) rfl (by omega) (fun c294 => ?_) (fun c294 => ?_)
      · skip
        have J332 : ∀ (k3 : sK) (H : Heap) (locs : List Loc) (hW : Wd G (fun q => s.heap.size ≤ q) [[tbO tb qn qb r x h o], stW G qn v2, stW G qb u2, [(r, .inr (3, [.ref (qn 0)]))], [sxA x cu qn k3.1], [arL G cu 5 k3.2], hiW G h pa sn n2 S2 g2 false, stW G sn v0Z, [orO G o sg 0], [arC G sg 60 (fun _ => 0)]] s.heap H locs) (ls : Array Slot) (hl : lv_has ls 10 [(2, .int (iI (ee))), (1, .ref (tb)), (0, .ref (b))]), W p l e room_1 s m #[Value.ref b] below meth c H locs 64 1041 (lw_Z below #[Value.ref b] s) (F0 m 332 ls []) := by
          intro k3 H locs hW ls hl
          refine z_il_n C hl dL_law_332 0 rfl 333 rfl ?_
          refine z_bipush C dL_law_333 (by decide) 335 rfl ?_
          refine z_irem C dL_law_335 336 rfl (by omega) ((ee % 12)) (rfl) ?_
          refine z_bipush C dL_law_336 (by decide) 338 rfl ?_
          refine z_icmp_ne C dL_law_338 350 341 (by decide) rfl (by omega) (fun c338 => ?_) (fun c338 => ?_)
          · skip
            exact K S2 v2 u2 g2 n2 k3 _ _ ls i2 (by omega) trivial hW (lv_sub hl [0, 1, 2] rfl)
          · skip
            refine z_al_n C hl dL_law_341 1 rfl 342 rfl ?_
            refine z_SE (r := .int (iI (bZ true))) (rest := []) C (m_lwBest l G tb r x cu h pa o sg qn qb sn S2 v2 u2 g2 n2 k3 i2 (by omega) hW.2.1) kS_L_99 ⟨Nat.le_of_ble_eq_true rfl, Nat.le_of_ble_eq_true rfl⟩ hW hK rfl hl.1 rfl (Nat.le_of_ble_eq_true rfl) dL_law_342 ⟨Nat.le_of_ble_eq_true rfl, Nat.le_of_ble_eq_true rfl⟩ 345 rfl (fun z9 H locs hz9 hW => ?_)
            obtain ⟨S9, u9, g9, n9, k9⟩ := z9
            have hz9 : 0 ≤ n9 ∧ n9 ≤ 4 := hz9
            have hW := hW.re (rs' := [[tbO tb qn qb r x h o], stW G qn v2, stW G qb u9, [(r, .inr (3, [.ref (qn 0)]))], [sxA x cu qn k9.1], [arL G cu 5 k9.2], hiW G h pa sn n9 S9 g9 false, stW G sn v0Z, [orO G o sg 0], [arC G sg 60 (fun _ => 0)]]) rfl
            refine z_top (b := .int (iI (1))) (congrArg (fun z => Value.int (iI z)) (rfl)) ?_
            refine z_if_ne C dL_law_345 350 348 (by decide) rfl (by omega) (fun c345 => ?_) (fun c345 => ?_)
            · skip
              exact K S9 v2 u9 g9 n9 k9 _ _ ls i2 (by omega) trivial hW (lv_sub hl [0, 1, 2] rfl)
            · exfalso; omega
        exact J304 _ _ hW ls (lv_sub hl [1, 2, 3, 4, 5] rfl)
      · skip
        refine z_al_n C hl dL_law_297 4 rfl 298 rfl ?_
        refine z_SR (r := .int (iI (bZ (true)))) (rest := []) C (m_isBoard l G tb r x cu h pa o sg qn qb sn S2 v2 g2 n2 i2) kS_L_88 ⟨Nat.le_of_ble_eq_true rfl, Nat.le_of_ble_eq_true rfl⟩ (gP_rg hW.1 [0, 3, 1, 6, 8] rfl) hK rfl hl.1 rfl (Nat.le_of_ble_eq_true rfl) dL_law_298 ⟨Nat.le_of_ble_eq_true rfl, Nat.le_of_ble_eq_true rfl⟩ 301 rfl ?_
        refine z_top (b := .int (iI (1))) (congrArg (fun z => Value.int (iI z)) (rfl)) ?_
        refine z_if_eq C dL_law_301 348 304 (by decide) rfl (by omega) (fun c301 => ?_) (fun c301 => ?_)
        · exfalso; omega
        · skip
          have J332 : ∀ (k3 : sK) (H : Heap) (locs : List Loc) (hW : Wd G (fun q => s.heap.size ≤ q) [[tbO tb qn qb r x h o], stW G qn v2, stW G qb u2, [(r, .inr (3, [.ref (qn 0)]))], [sxA x cu qn k3.1], [arL G cu 5 k3.2], hiW G h pa sn n2 S2 g2 false, stW G sn v0Z, [orO G o sg 0], [arC G sg 60 (fun _ => 0)]] s.heap H locs) (ls : Array Slot) (hl : lv_has ls 10 [(2, .int (iI (ee))), (1, .ref (tb)), (0, .ref (b))]), W p l e room_1 s m #[Value.ref b] below meth c H locs 64 1041 (lw_Z below #[Value.ref b] s) (F0 m 332 ls []) := by
            intro k3 H locs hW ls hl
            refine z_il_n C hl dL_law_332 0 rfl 333 rfl ?_
            refine z_bipush C dL_law_333 (by decide) 335 rfl ?_
            refine z_irem C dL_law_335 336 rfl (by omega) ((ee % 12)) (rfl) ?_
            refine z_bipush C dL_law_336 (by decide) 338 rfl ?_
            refine z_icmp_ne C dL_law_338 350 341 (by decide) rfl (by omega) (fun c338 => ?_) (fun c338 => ?_)
            · skip
              exact K S2 v2 u2 g2 n2 k3 _ _ ls i2 (by omega) trivial hW (lv_sub hl [0, 1, 2] rfl)
            · skip
              refine z_al_n C hl dL_law_341 1 rfl 342 rfl ?_
              refine z_SE (r := .int (iI (bZ true))) (rest := []) C (m_lwBest l G tb r x cu h pa o sg qn qb sn S2 v2 u2 g2 n2 k3 i2 (by omega) hW.2.1) kS_L_99 ⟨Nat.le_of_ble_eq_true rfl, Nat.le_of_ble_eq_true rfl⟩ hW hK rfl hl.1 rfl (Nat.le_of_ble_eq_true rfl) dL_law_342 ⟨Nat.le_of_ble_eq_true rfl, Nat.le_of_ble_eq_true rfl⟩ 345 rfl (fun z9 H locs hz9 hW => ?_)
              obtain ⟨S9, u9, g9, n9, k9⟩ := z9
              have hz9 : 0 ≤ n9 ∧ n9 ≤ 4 := hz9
              have hW := hW.re (rs' := [[tbO tb qn qb r x h o], stW G qn v2, stW G qb u9, [(r, .inr (3, [.ref (qn 0)]))], [sxA x cu qn k9.1], [arL G cu 5 k9.2], hiW G h pa sn n9 S9 g9 false, stW G sn v0Z, [orO G o sg 0], [arC G sg 60 (fun _ => 0)]]) rfl
              refine z_top (b := .int (iI (1))) (congrArg (fun z => Value.int (iI z)) (rfl)) ?_
              refine z_if_ne C dL_law_345 350 348 (by decide) rfl (by omega) (fun c345 => ?_) (fun c345 => ?_)
              · skip
                exact K S9 v2 u9 g9 n9 k9 _ _ ls i2 (by omega) trivial hW (lv_sub hl [0, 1, 2] rfl)
              · exfalso; omega
          exact J304 _ _ hW ls (lv_sub hl [1, 2, 3, 4, 5] rfl)
  refine z_al_n C hl dL_law_128 2 rfl 129 rfl ?_
  refine z_il_n C hl dL_law_129 0 rfl 130 rfl ?_
  refine z_SRz (r := .int (celX xs L ee)) (rest := []) C (m_cell l G b L xs ee (by omega) (by omega)) kS_L_80 ⟨Nat.le_of_ble_eq_true rfl, Nat.le_of_ble_eq_true rfl⟩ (gP_nil) hK zx_blind (zx_of hX hbl hW.2.2.2) rfl hl.1 rfl (Nat.le_of_ble_eq_true rfl) dL_law_130 ⟨Nat.le_of_ble_eq_true rfl, Nat.le_of_ble_eq_true rfl⟩ 133 rfl ?_
  refine z_is_n C hl dL_law_133 134 rfl (by decide) (lv' := [(3, .int (celX xs L ee)), (2, .int (iI (ee))), (1, .ref (tb)), (0, .ref (b))]) rfl (fun ls hl => ?_)
  refine z_al_n C hl dL_law_134 2 rfl 135 rfl ?_
  refine z_iconst C dL_law_135 136 rfl ?_
  refine z_VR (r := .int (iI (cntR v n 0 5))) (rest := []) C (m_count l G tb r x cu h pa o sg qn qb sn S g n false v 0 5 w0 (by omega)) kV_L_8 ⟨Nat.le_of_ble_eq_true rfl, Nat.le_of_ble_eq_true rfl⟩ (gP_rg hW.1 [0, 3, 1, 6, 8] rfl) hK 0 rfl rfl rfl hl.1 rfl (Nat.le_of_ble_eq_true rfl) dL_law_136 ⟨Nat.le_of_ble_eq_true rfl, Nat.le_of_ble_eq_true rfl⟩ 139 rfl ?_
  refine z_top (b := .int (iI (v 127))) (congrArg (fun z => Value.int (iI z)) (rfl)) ?_
  refine z_is C hl dL_law_139 141 rfl (by decide) (lv' := [(4, .int (iI (v 127))), (3, .int (celX xs L ee)), (2, .int (iI (ee))), (1, .ref (tb)), (0, .ref (b))]) rfl (fun ls hl => ?_)
  refine z_il C hl dL_law_141 0 rfl 143 rfl ?_
  refine z_if_ne C dL_law_143 150 146 (by decide) rfl (by omega) (fun c143 => ?_) (fun c143 => ?_)
  · skip
    refine z_il_n C hl dL_law_150 1 rfl 151 rfl ?_
    refine z_iconst C dL_law_151 152 rfl ?_
    refine z_ishr C dL_law_152 153 rfl ?_
    refine z_il C hl dL_law_153 0 rfl 155 rfl ?_
    refine z_SR (r := .int (iI (lowZ ((celX xs L ee) >>> ((iI (4)) &&& 31)) (v 127)))) (rest := []) C (m_low l G ((celX xs L ee) >>> ((iI (4)) &&& 31)) (v 127) (by omega)) kS_L_59 ⟨Nat.le_of_ble_eq_true rfl, Nat.le_of_ble_eq_true rfl⟩ (gP_nil) hK rfl hl.1 rfl (Nat.le_of_ble_eq_true rfl) dL_law_155 ⟨Nat.le_of_ble_eq_true rfl, Nat.le_of_ble_eq_true rfl⟩ 158 rfl ?_
    have rl155 := lowZ_rng ((celX xs L ee) >>> ((iI (4)) &&& 31)) (n := v 127) (by omega)
    refine z_is C hl dL_law_158 160 rfl (by decide) (lv' := [(5, .int (iI (lowZ ((celX xs L ee) >>> ((iI (4)) &&& 31)) (v 127)))), (4, .int (iI (v 127))), (3, .int (celX xs L ee)), (2, .int (iI (ee))), (1, .ref (tb)), (0, .ref (b))]) rfl (fun ls hl => ?_)
    refine z_il C hl dL_law_160 1 rfl 162 rfl ?_
    refine z_if_ne C dL_law_162 170 165 (by decide) rfl (by omega) (fun c162 => ?_) (fun c162 => ?_)
    · skip
      refine z_al_n C hl dL_law_170 4 rfl 171 rfl ?_
      refine z_VWi (r := .int (iI (besR v))) (rest := []) C (m_best l G tb r x cu h pa o sg qn qb sn v k w0 (gD_rg hW.2.1 [0, 3, 4, 5, 1] (by decide) rfl)) kV_L_53 ⟨Nat.le_of_ble_eq_true rfl, Nat.le_of_ble_eq_true rfl⟩ hW hK [0, 3, 4, 5, 1] rfl (sameA_of rfl) 0 rfl rfl rfl hl.1 rfl (Nat.le_of_ble_eq_true rfl) dL_law_171 ⟨Nat.le_of_ble_eq_true rfl, Nat.le_of_ble_eq_true rfl⟩ 174 rfl (rs' := [[tbO tb qn qb r x h o], stW G qn v, stW G qb u, [(r, .inr (3, [.ref (qn 0)]))], [sxA x cu qn (besK v k).1], [arL G cu 5 (besK v k).2], hiW G h pa sn n S g false, stW G sn v0Z, [orO G o sg 0], [arC G sg 60 (fun _ => 0)]]) rfl (fun H locs hW hkeep => ?_)
      have rb171 := besR_rng w0
      refine z_is C hl dL_law_174 176 rfl (by decide) (lv' := [(6, .int (iI (besR v))), (5, .int (iI (lowZ ((celX xs L ee) >>> ((iI (4)) &&& 31)) (v 127)))), (4, .int (iI (v 127))), (3, .int (celX xs L ee)), (2, .int (iI (ee))), (1, .ref (tb)), (0, .ref (b))]) rfl (fun ls hl => ?_)
      refine z_il_n C hl dL_law_176 3 rfl 177 rfl ?_
      refine z_iconst C dL_law_177 178 rfl ?_
      refine z_iand C dL_law_178 179 rfl ?_
      refine z_top (b := .int (iI (((celX xs L ee).toBitVec.toNat % 2 ^ 2 : Nat)))) (congrArg Value.int (and_ex _ 2 3 (by decide))) ?_
      refine z_if_ne C dL_law_179 191 182 (by decide) rfl (by omega) (fun c179 => ?_) (fun c179 => ?_)
      · skip
        refine z_iconst C dL_law_191 192 rfl ?_
        refine z_is C hl dL_law_192 194 rfl (by decide) (lv' := [(7, .int (iI (0))), (6, .int (iI (besR v))), (5, .int (iI (lowZ ((celX xs L ee) >>> ((iI (4)) &&& 31)) (v 127)))), (4, .int (iI (v 127))), (3, .int (celX xs L ee)), (2, .int (iI (ee))), (1, .ref (tb)), (0, .ref (b))]) rfl (fun ls hl => ?_)
        refine z_il C hl dL_law_194 3 rfl 196 rfl ?_
        refine z_if_eq C dL_law_196 207 199 (by decide) rfl (by omega) (fun c196 => ?_) (fun c196 => ?_)
        · exfalso; omega
        · skip
          refine z_il_n C hl dL_law_199 4 rfl 200 rfl ?_
          refine z_bipush C dL_law_200 (by decide) 202 rfl ?_
          refine z_iand C dL_law_202 203 rfl ?_
          refine z_top (b := .int (iI (((celX xs L ee).toBitVec.toNat % 2 ^ 3 : Nat)))) (congrArg Value.int (and_ex _ 3 7 (by decide))) ?_
          refine z_iconst C dL_law_203 204 rfl ?_
          refine z_icmp_ne C dL_law_204 211 207 (by decide) rfl (by omega) (fun c204 => ?_) (fun c204 => ?_)
          · skip
            refine z_iconst C dL_law_211 212 rfl ?_
            refine z_is C hl dL_law_212 214 rfl (by decide) (lv' := [(8, .int (iI (0))), (7, .int (iI (0))), (6, .int (iI (besR v))), (5, .int (iI (lowZ ((celX xs L ee) >>> ((iI (4)) &&& 31)) (v 127)))), (4, .int (iI (v 127))), (3, .int (celX xs L ee)), (2, .int (iI (ee))), (1, .ref (tb)), (0, .ref (b))]) rfl (fun ls hl => ?_)
            refine z_il C hl dL_law_214 1 rfl 216 rfl ?_
            refine z_if_eq C dL_law_216 244 219 (by decide) rfl (by omega) (fun c216 => ?_) (fun c216 => ?_)
            · skip
              refine z_il C hl dL_law_244 0 rfl 246 rfl ?_
              refine z_if_eq C dL_law_246 259 249 (by decide) rfl (by omega) (fun c246 => ?_) (fun c246 => ?_)
              · skip
                refine z_al_n C hl dL_law_259 7 rfl 260 rfl ?_
                refine z_il C hl dL_law_260 3 rfl 262 rfl ?_
                refine z_il_n C hl dL_law_262 5 rfl 263 rfl ?_
                refine z_bipush C dL_law_263 (by decide) 265 rfl ?_
                refine z_ishr C dL_law_265 266 rfl ?_
                refine z_iconst C dL_law_266 267 rfl ?_
                refine z_SR (r := .int (iI (lowZ ((celX xs L ee) >>> ((iI (8)) &&& 31)) 4))) (rest := [.int (iI (lowZ ((celX xs L ee) >>> ((iI (4)) &&& 31)) (v 127))), .ref (tb)]) C (m_low l G ((celX xs L ee) >>> ((iI (8)) &&& 31)) 4 (by omega)) kS_L_59 ⟨Nat.le_of_ble_eq_true rfl, Nat.le_of_ble_eq_true rfl⟩ (gP_nil) hK rfl hl.1 rfl (Nat.le_of_ble_eq_true rfl) dL_law_267 ⟨Nat.le_of_ble_eq_true rfl, Nat.le_of_ble_eq_true rfl⟩ 270 rfl ?_
                have rl267 := lowZ_rng ((celX xs L ee) >>> ((iI (8)) &&& 31)) (n := 4) (by omega)
                refine z_iconst C dL_law_270 271 rfl ?_
                refine z_il_n C hl dL_law_271 5 rfl 272 rfl ?_
                refine z_bipush C dL_law_272 (by decide) 274 rfl ?_
                refine z_ishr C dL_law_274 275 rfl ?_
                refine z_iconst C dL_law_275 276 rfl ?_
                refine z_SR (r := .int (iI (lowZ ((celX xs L ee) >>> ((iI (10)) &&& 31)) 3))) (rest := [.int (iI (1)), .int (iI (lowZ ((celX xs L ee) >>> ((iI (8)) &&& 31)) 4)), .int (iI (lowZ ((celX xs L ee) >>> ((iI (4)) &&& 31)) (v 127))), .ref (tb)]) C (m_low l G ((celX xs L ee) >>> ((iI (10)) &&& 31)) 3 (by omega)) kS_L_59 ⟨Nat.le_of_ble_eq_true rfl, Nat.le_of_ble_eq_true rfl⟩ (gP_nil) hK rfl hl.1 rfl (Nat.le_of_ble_eq_true rfl) dL_law_276 ⟨Nat.le_of_ble_eq_true rfl, Nat.le_of_ble_eq_true rfl⟩ 279 rfl ?_
                have rl276 := lowZ_rng ((celX xs L ee) >>> ((iI (10)) &&& 31)) (n := 3) (by omega)
                refine z_iadd C dL_law_279 280 rfl (1 + lowZ ((celX xs L ee) >>> ((iI (10)) &&& 31)) 3) (by omega) ?_
                refine z_SWi (r := .int (iI (bZ (true)))) (rest := []) C (m_lwMove l G tb r x cu h pa o sg qn qb sn S u v g n (lowZ ((celX xs L ee) >>> ((iI (4)) &&& 31)) (v 127)) (lowZ ((celX xs L ee) >>> ((iI (8)) &&& 31)) 4) (1 + lowZ ((celX xs L ee) >>> ((iI (10)) &&& 31)) 3) i (by omega) (by omega) (by omega) (by omega) (gD_rg hW.2.1 [0, 3, 1, 2, 6, 8] (by decide) rfl)) kS_L_91 ⟨Nat.le_of_ble_eq_true rfl, Nat.le_of_ble_eq_true rfl⟩ hW hK [0, 3, 1, 2, 6, 8] rfl ((sameA_eq rfl (sameA_eq rfl (sameA_eq rfl (sameA_eq rfl (sameA_cons (hi_permA _ _) (sameA_eq rfl sameA_nil))))))) rfl hl.1 rfl (Nat.le_of_ble_eq_true rfl) dL_law_280 ⟨Nat.le_of_ble_eq_true rfl, Nat.le_of_ble_eq_true rfl⟩ 283 rfl (rs' := [[tbO tb qn qb r x h o], stW G qn (saiV v (lowZ ((celX xs L ee) >>> ((iI (4)) &&& 31)) (v 127)) (lowZ ((celX xs L ee) >>> ((iI (8)) &&& 31)) 4) (1 + lowZ ((celX xs L ee) >>> ((iI (10)) &&& 31)) 3)), stW G qb v, [(r, .inr (3, [.ref (qn 0)]))], [sxA x cu qn (besK v k).1], [arL G cu 5 (besK v k).2], hiW G h pa sn (actN (saiR v (lowZ ((celX xs L ee) >>> ((iI (4)) &&& 31)) (v 127)) (lowZ ((celX xs L ee) >>> ((iI (8)) &&& 31)) 4) (1 + lowZ ((celX xs L ee) >>> ((iI (10)) &&& 31)) 3)) n) (actS (saiR v (lowZ ((celX xs L ee) >>> ((iI (4)) &&& 31)) (v 127)) (lowZ ((celX xs L ee) >>> ((iI (8)) &&& 31)) 4) (1 + lowZ ((celX xs L ee) >>> ((iI (10)) &&& 31)) 3)) n S) (actG (saiR v (lowZ ((celX xs L ee) >>> ((iI (4)) &&& 31)) (v 127)) (lowZ ((celX xs L ee) >>> ((iI (8)) &&& 31)) 4) (1 + lowZ ((celX xs L ee) >>> ((iI (10)) &&& 31)) 3)) n g v) false, stW G sn v0Z, [orO G o sg 0], [arC G sg 60 (fun _ => 0)]]) rfl (fun H locs hW hkeep => ?_)
                refine z_top (b := .int (iI (1))) (congrArg (fun z => Value.int (iI z)) (rfl)) ?_
                exact J283 (actS (saiR v (lowZ ((celX xs L ee) >>> ((iI (4)) &&& 31)) (v 127)) (lowZ ((celX xs L ee) >>> ((iI (8)) &&& 31)) 4) (1 + lowZ ((celX xs L ee) >>> ((iI (10)) &&& 31)) 3)) n S) (saiV v (lowZ ((celX xs L ee) >>> ((iI (4)) &&& 31)) (v 127)) (lowZ ((celX xs L ee) >>> ((iI (8)) &&& 31)) 4) (1 + lowZ ((celX xs L ee) >>> ((iI (10)) &&& 31)) 3)) v (actG (saiR v (lowZ ((celX xs L ee) >>> ((iI (4)) &&& 31)) (v 127)) (lowZ ((celX xs L ee) >>> ((iI (8)) &&& 31)) 4) (1 + lowZ ((celX xs L ee) >>> ((iI (10)) &&& 31)) 3)) n g v) (actN (saiR v (lowZ ((celX xs L ee) >>> ((iI (4)) &&& 31)) (v 127)) (lowZ ((celX xs L ee) >>> ((iI (8)) &&& 31)) 4) (1 + lowZ ((celX xs L ee) >>> ((iI (10)) &&& 31)) 3)) n) (besK v k) ((i.sai (lowZ ((celX xs L ee) >>> ((iI (4)) &&& 31)) (v 127)) (lowZ ((celX xs L ee) >>> ((iI (8)) &&& 31)) 4) (1 + lowZ ((celX xs L ee) >>> ((iI (10)) &&& 31)) 3))) (act_rng (by omega)) (sai_127 w0 (err_is (by omega) (by omega) (by omega))) _ _ hW ls (lv_sub hl [4, 5, 6, 7, 8] rfl)
              · exfalso; omega
            · exfalso; omega
          · skip
            refine z_iconst C dL_law_207 208 rfl ?_
            refine z_goto C dL_law_208 212 (by decide) ?_
            refine z_is C hl dL_law_212 214 rfl (by decide) (lv' := [(8, .int (iI (1))), (7, .int (iI (0))), (6, .int (iI (besR v))), (5, .int (iI (lowZ ((celX xs L ee) >>> ((iI (4)) &&& 31)) (v 127)))), (4, .int (iI (v 127))), (3, .int (celX xs L ee)), (2, .int (iI (ee))), (1, .ref (tb)), (0, .ref (b))]) rfl (fun ls hl => ?_)
            refine z_il C hl dL_law_214 1 rfl 216 rfl ?_
            refine z_if_eq C dL_law_216 244 219 (by decide) rfl (by omega) (fun c216 => ?_) (fun c216 => ?_)
            · skip
              refine z_il C hl dL_law_244 0 rfl 246 rfl ?_
              refine z_if_eq C dL_law_246 259 249 (by decide) rfl (by omega) (fun c246 => ?_) (fun c246 => ?_)
              · exfalso; omega
              · skip
                refine z_al_n C hl dL_law_249 7 rfl 250 rfl ?_
                refine z_iconst C dL_law_250 251 rfl ?_
                refine z_iconst C dL_law_251 252 rfl ?_
                refine z_iconst C dL_law_252 253 rfl ?_
                refine z_SWi (r := .int (iI (bZ (true)))) (rest := []) C (m_lwWait l G tb r x cu h pa o sg qn qb sn S u v g n i (by omega) (gD_rg hW.2.1 [0, 3, 1, 2, 6, 8] (by decide) rfl)) kS_L_91 ⟨Nat.le_of_ble_eq_true rfl, Nat.le_of_ble_eq_true rfl⟩ hW hK [0, 3, 1, 2, 6, 8] rfl ((sameA_eq rfl (sameA_eq rfl (sameA_eq rfl (sameA_eq rfl (sameA_cons (hi_permA _ _) (sameA_eq rfl sameA_nil))))))) rfl hl.1 rfl (Nat.le_of_ble_eq_true rfl) dL_law_253 ⟨Nat.le_of_ble_eq_true rfl, Nat.le_of_ble_eq_true rfl⟩ 256 rfl (rs' := [[tbO tb qn qb r x h o], stW G qn (waiV v), stW G qb v, [(r, .inr (3, [.ref (qn 0)]))], [sxA x cu qn (besK v k).1], [arL G cu 5 (besK v k).2], hiW G h pa sn (actN (waiR v) n) (actS (waiR v) n S) (actG (waiR v) n g v) false, stW G sn v0Z, [orO G o sg 0], [arC G sg 60 (fun _ => 0)]]) rfl (fun H locs hW hkeep => ?_)
                refine z_top (b := .int (iI (1))) (congrArg (fun z => Value.int (iI z)) (rfl)) ?_
                refine z_goto C dL_law_256 283 (by decide) ?_
                exact J283 (actS (waiR v) n S) (waiV v) v (actG (waiR v) n g v) (actN (waiR v) n) (besK v k) ((i.wai)) (act_rng (by omega)) (wai_127 w0) _ _ hW ls (lv_sub hl [4, 5, 6, 7, 8] rfl)
            · exfalso; omega
      · skip
        refine z_il C hl dL_law_182 0 rfl 184 rfl ?_
        refine z_if_lt C dL_law_184 191 187 (by decide) rfl (by omega) (fun c184 => ?_) (fun c184 => ?_)
        · skip
          refine z_iconst C dL_law_191 192 rfl ?_
          refine z_is C hl dL_law_192 194 rfl (by decide) (lv' := [(7, .int (iI (0))), (6, .int (iI (besR v))), (5, .int (iI (lowZ ((celX xs L ee) >>> ((iI (4)) &&& 31)) (v 127)))), (4, .int (iI (v 127))), (3, .int (celX xs L ee)), (2, .int (iI (ee))), (1, .ref (tb)), (0, .ref (b))]) rfl (fun ls hl => ?_)
          refine z_il C hl dL_law_194 3 rfl 196 rfl ?_
          refine z_if_eq C dL_law_196 207 199 (by decide) rfl (by omega) (fun c196 => ?_) (fun c196 => ?_)
          · exfalso; omega
          · skip
            refine z_il_n C hl dL_law_199 4 rfl 200 rfl ?_
            refine z_bipush C dL_law_200 (by decide) 202 rfl ?_
            refine z_iand C dL_law_202 203 rfl ?_
            refine z_top (b := .int (iI (((celX xs L ee).toBitVec.toNat % 2 ^ 3 : Nat)))) (congrArg Value.int (and_ex _ 3 7 (by decide))) ?_
            refine z_iconst C dL_law_203 204 rfl ?_
            refine z_icmp_ne C dL_law_204 211 207 (by decide) rfl (by omega) (fun c204 => ?_) (fun c204 => ?_)
            · skip
              refine z_iconst C dL_law_211 212 rfl ?_
              refine z_is C hl dL_law_212 214 rfl (by decide) (lv' := [(8, .int (iI (0))), (7, .int (iI (0))), (6, .int (iI (besR v))), (5, .int (iI (lowZ ((celX xs L ee) >>> ((iI (4)) &&& 31)) (v 127)))), (4, .int (iI (v 127))), (3, .int (celX xs L ee)), (2, .int (iI (ee))), (1, .ref (tb)), (0, .ref (b))]) rfl (fun ls hl => ?_)
              refine z_il C hl dL_law_214 1 rfl 216 rfl ?_
              refine z_if_eq C dL_law_216 244 219 (by decide) rfl (by omega) (fun c216 => ?_) (fun c216 => ?_)
              · skip
                refine z_il C hl dL_law_244 0 rfl 246 rfl ?_
                refine z_if_eq C dL_law_246 259 249 (by decide) rfl (by omega) (fun c246 => ?_) (fun c246 => ?_)
                · skip
                  refine z_al_n C hl dL_law_259 7 rfl 260 rfl ?_
                  refine z_il C hl dL_law_260 3 rfl 262 rfl ?_
                  refine z_il_n C hl dL_law_262 5 rfl 263 rfl ?_
                  refine z_bipush C dL_law_263 (by decide) 265 rfl ?_
                  refine z_ishr C dL_law_265 266 rfl ?_
                  refine z_iconst C dL_law_266 267 rfl ?_
                  refine z_SR (r := .int (iI (lowZ ((celX xs L ee) >>> ((iI (8)) &&& 31)) 4))) (rest := [.int (iI (lowZ ((celX xs L ee) >>> ((iI (4)) &&& 31)) (v 127))), .ref (tb)]) C (m_low l G ((celX xs L ee) >>> ((iI (8)) &&& 31)) 4 (by omega)) kS_L_59 ⟨Nat.le_of_ble_eq_true rfl, Nat.le_of_ble_eq_true rfl⟩ (gP_nil) hK rfl hl.1 rfl (Nat.le_of_ble_eq_true rfl) dL_law_267 ⟨Nat.le_of_ble_eq_true rfl, Nat.le_of_ble_eq_true rfl⟩ 270 rfl ?_
                  have rl267 := lowZ_rng ((celX xs L ee) >>> ((iI (8)) &&& 31)) (n := 4) (by omega)
                  refine z_iconst C dL_law_270 271 rfl ?_
                  refine z_il_n C hl dL_law_271 5 rfl 272 rfl ?_
                  refine z_bipush C dL_law_272 (by decide) 274 rfl ?_
                  refine z_ishr C dL_law_274 275 rfl ?_
                  refine z_iconst C dL_law_275 276 rfl ?_
                  refine z_SR (r := .int (iI (lowZ ((celX xs L ee) >>> ((iI (10)) &&& 31)) 3))) (rest := [.int (iI (1)), .int (iI (lowZ ((celX xs L ee) >>> ((iI (8)) &&& 31)) 4)), .int (iI (lowZ ((celX xs L ee) >>> ((iI (4)) &&& 31)) (v 127))), .ref (tb)]) C (m_low l G ((celX xs L ee) >>> ((iI (10)) &&& 31)) 3 (by omega)) kS_L_59 ⟨Nat.le_of_ble_eq_true rfl, Nat.le_of_ble_eq_true rfl⟩ (gP_nil) hK rfl hl.1 rfl (Nat.le_of_ble_eq_true rfl) dL_law_276 ⟨Nat.le_of_ble_eq_true rfl, Nat.le_of_ble_eq_true rfl⟩ 279 rfl ?_
                  have rl276 := lowZ_rng ((celX xs L ee) >>> ((iI (10)) &&& 31)) (n := 3) (by omega)
                  refine z_iadd C dL_law_279 280 rfl (1 + lowZ ((celX xs L ee) >>> ((iI (10)) &&& 31)) 3) (by omega) ?_
                  refine z_SWi (r := .int (iI (bZ (true)))) (rest := []) C (m_lwMove l G tb r x cu h pa o sg qn qb sn S u v g n (lowZ ((celX xs L ee) >>> ((iI (4)) &&& 31)) (v 127)) (lowZ ((celX xs L ee) >>> ((iI (8)) &&& 31)) 4) (1 + lowZ ((celX xs L ee) >>> ((iI (10)) &&& 31)) 3) i (by omega) (by omega) (by omega) (by omega) (gD_rg hW.2.1 [0, 3, 1, 2, 6, 8] (by decide) rfl)) kS_L_91 ⟨Nat.le_of_ble_eq_true rfl, Nat.le_of_ble_eq_true rfl⟩ hW hK [0, 3, 1, 2, 6, 8] rfl ((sameA_eq rfl (sameA_eq rfl (sameA_eq rfl (sameA_eq rfl (sameA_cons (hi_permA _ _) (sameA_eq rfl sameA_nil))))))) rfl hl.1 rfl (Nat.le_of_ble_eq_true rfl) dL_law_280 ⟨Nat.le_of_ble_eq_true rfl, Nat.le_of_ble_eq_true rfl⟩ 283 rfl (rs' := [[tbO tb qn qb r x h o], stW G qn (saiV v (lowZ ((celX xs L ee) >>> ((iI (4)) &&& 31)) (v 127)) (lowZ ((celX xs L ee) >>> ((iI (8)) &&& 31)) 4) (1 + lowZ ((celX xs L ee) >>> ((iI (10)) &&& 31)) 3)), stW G qb v, [(r, .inr (3, [.ref (qn 0)]))], [sxA x cu qn (besK v k).1], [arL G cu 5 (besK v k).2], hiW G h pa sn (actN (saiR v (lowZ ((celX xs L ee) >>> ((iI (4)) &&& 31)) (v 127)) (lowZ ((celX xs L ee) >>> ((iI (8)) &&& 31)) 4) (1 + lowZ ((celX xs L ee) >>> ((iI (10)) &&& 31)) 3)) n) (actS (saiR v (lowZ ((celX xs L ee) >>> ((iI (4)) &&& 31)) (v 127)) (lowZ ((celX xs L ee) >>> ((iI (8)) &&& 31)) 4) (1 + lowZ ((celX xs L ee) >>> ((iI (10)) &&& 31)) 3)) n S) (actG (saiR v (lowZ ((celX xs L ee) >>> ((iI (4)) &&& 31)) (v 127)) (lowZ ((celX xs L ee) >>> ((iI (8)) &&& 31)) 4) (1 + lowZ ((celX xs L ee) >>> ((iI (10)) &&& 31)) 3)) n g v) false, stW G sn v0Z, [orO G o sg 0], [arC G sg 60 (fun _ => 0)]]) rfl (fun H locs hW hkeep => ?_)
                  refine z_top (b := .int (iI (1))) (congrArg (fun z => Value.int (iI z)) (rfl)) ?_
                  exact J283 (actS (saiR v (lowZ ((celX xs L ee) >>> ((iI (4)) &&& 31)) (v 127)) (lowZ ((celX xs L ee) >>> ((iI (8)) &&& 31)) 4) (1 + lowZ ((celX xs L ee) >>> ((iI (10)) &&& 31)) 3)) n S) (saiV v (lowZ ((celX xs L ee) >>> ((iI (4)) &&& 31)) (v 127)) (lowZ ((celX xs L ee) >>> ((iI (8)) &&& 31)) 4) (1 + lowZ ((celX xs L ee) >>> ((iI (10)) &&& 31)) 3)) v (actG (saiR v (lowZ ((celX xs L ee) >>> ((iI (4)) &&& 31)) (v 127)) (lowZ ((celX xs L ee) >>> ((iI (8)) &&& 31)) 4) (1 + lowZ ((celX xs L ee) >>> ((iI (10)) &&& 31)) 3)) n g v) (actN (saiR v (lowZ ((celX xs L ee) >>> ((iI (4)) &&& 31)) (v 127)) (lowZ ((celX xs L ee) >>> ((iI (8)) &&& 31)) 4) (1 + lowZ ((celX xs L ee) >>> ((iI (10)) &&& 31)) 3)) n) (besK v k) ((i.sai (lowZ ((celX xs L ee) >>> ((iI (4)) &&& 31)) (v 127)) (lowZ ((celX xs L ee) >>> ((iI (8)) &&& 31)) 4) (1 + lowZ ((celX xs L ee) >>> ((iI (10)) &&& 31)) 3))) (act_rng (by omega)) (sai_127 w0 (err_is (by omega) (by omega) (by omega))) _ _ hW ls (lv_sub hl [4, 5, 6, 7, 8] rfl)
                · exfalso; omega
              · exfalso; omega
            · skip
              refine z_iconst C dL_law_207 208 rfl ?_
              refine z_goto C dL_law_208 212 (by decide) ?_
              refine z_is C hl dL_law_212 214 rfl (by decide) (lv' := [(8, .int (iI (1))), (7, .int (iI (0))), (6, .int (iI (besR v))), (5, .int (iI (lowZ ((celX xs L ee) >>> ((iI (4)) &&& 31)) (v 127)))), (4, .int (iI (v 127))), (3, .int (celX xs L ee)), (2, .int (iI (ee))), (1, .ref (tb)), (0, .ref (b))]) rfl (fun ls hl => ?_)
              refine z_il C hl dL_law_214 1 rfl 216 rfl ?_
              refine z_if_eq C dL_law_216 244 219 (by decide) rfl (by omega) (fun c216 => ?_) (fun c216 => ?_)
              · skip
                refine z_il C hl dL_law_244 0 rfl 246 rfl ?_
                refine z_if_eq C dL_law_246 259 249 (by decide) rfl (by omega) (fun c246 => ?_) (fun c246 => ?_)
                · exfalso; omega
                · skip
                  refine z_al_n C hl dL_law_249 7 rfl 250 rfl ?_
                  refine z_iconst C dL_law_250 251 rfl ?_
                  refine z_iconst C dL_law_251 252 rfl ?_
                  refine z_iconst C dL_law_252 253 rfl ?_
                  refine z_SWi (r := .int (iI (bZ (true)))) (rest := []) C (m_lwWait l G tb r x cu h pa o sg qn qb sn S u v g n i (by omega) (gD_rg hW.2.1 [0, 3, 1, 2, 6, 8] (by decide) rfl)) kS_L_91 ⟨Nat.le_of_ble_eq_true rfl, Nat.le_of_ble_eq_true rfl⟩ hW hK [0, 3, 1, 2, 6, 8] rfl ((sameA_eq rfl (sameA_eq rfl (sameA_eq rfl (sameA_eq rfl (sameA_cons (hi_permA _ _) (sameA_eq rfl sameA_nil))))))) rfl hl.1 rfl (Nat.le_of_ble_eq_true rfl) dL_law_253 ⟨Nat.le_of_ble_eq_true rfl, Nat.le_of_ble_eq_true rfl⟩ 256 rfl (rs' := [[tbO tb qn qb r x h o], stW G qn (waiV v), stW G qb v, [(r, .inr (3, [.ref (qn 0)]))], [sxA x cu qn (besK v k).1], [arL G cu 5 (besK v k).2], hiW G h pa sn (actN (waiR v) n) (actS (waiR v) n S) (actG (waiR v) n g v) false, stW G sn v0Z, [orO G o sg 0], [arC G sg 60 (fun _ => 0)]]) rfl (fun H locs hW hkeep => ?_)
                  refine z_top (b := .int (iI (1))) (congrArg (fun z => Value.int (iI z)) (rfl)) ?_
                  refine z_goto C dL_law_256 283 (by decide) ?_
                  exact J283 (actS (waiR v) n S) (waiV v) v (actG (waiR v) n g v) (actN (waiR v) n) (besK v k) ((i.wai)) (act_rng (by omega)) (wai_127 w0) _ _ hW ls (lv_sub hl [4, 5, 6, 7, 8] rfl)
              · exfalso; omega
        · skip
          obtain ⟨b9, d9, s9, hb9, hd9, hs9, e9⟩ := bes_get w0 c184
          refine z_iconst C dL_law_187 188 rfl ?_
          refine z_goto C dL_law_188 192 (by decide) ?_
          refine z_is C hl dL_law_192 194 rfl (by decide) (lv' := [(7, .int (iI (1))), (6, .int (iI (besR v))), (5, .int (iI (lowZ ((celX xs L ee) >>> ((iI (4)) &&& 31)) (v 127)))), (4, .int (iI (v 127))), (3, .int (celX xs L ee)), (2, .int (iI (ee))), (1, .ref (tb)), (0, .ref (b))]) rfl (fun ls hl => ?_)
          refine z_il C hl dL_law_194 3 rfl 196 rfl ?_
          refine z_if_eq C dL_law_196 207 199 (by decide) rfl (by omega) (fun c196 => ?_) (fun c196 => ?_)
          · exfalso; omega
          · skip
            refine z_il_n C hl dL_law_199 4 rfl 200 rfl ?_
            refine z_bipush C dL_law_200 (by decide) 202 rfl ?_
            refine z_iand C dL_law_202 203 rfl ?_
            refine z_top (b := .int (iI (((celX xs L ee).toBitVec.toNat % 2 ^ 3 : Nat)))) (congrArg Value.int (and_ex _ 3 7 (by decide))) ?_
            refine z_iconst C dL_law_203 204 rfl ?_
            refine z_icmp_ne C dL_law_204 211 207 (by decide) rfl (by omega) (fun c204 => ?_) (fun c204 => ?_)
            · skip
              refine z_iconst C dL_law_211 212 rfl ?_
              refine z_is C hl dL_law_212 214 rfl (by decide) (lv' := [(8, .int (iI (0))), (7, .int (iI (1))), (6, .int (iI (besR v))), (5, .int (iI (lowZ ((celX xs L ee) >>> ((iI (4)) &&& 31)) (v 127)))), (4, .int (iI (v 127))), (3, .int (celX xs L ee)), (2, .int (iI (ee))), (1, .ref (tb)), (0, .ref (b))]) rfl (fun ls hl => ?_)
              refine z_il C hl dL_law_214 1 rfl 216 rfl ?_
              refine z_if_eq C dL_law_216 244 219 (by decide) rfl (by omega) (fun c216 => ?_) (fun c216 => ?_)
              · exfalso; omega
              · skip
                refine z_al_n C hl dL_law_219 7 rfl 220 rfl ?_
                refine z_il C hl dL_law_220 2 rfl 222 rfl ?_
                refine z_bipush C dL_law_222 (by decide) 224 rfl ?_
                refine z_idiv C dL_law_224 225 rfl (by omega) (b9) (by omega) ?_
                refine z_il C hl dL_law_225 2 rfl 227 rfl ?_
                refine z_bipush C dL_law_227 (by decide) 229 rfl ?_
                refine z_idiv C dL_law_229 230 rfl (by omega) (((besR v) / 10)) (rfl) ?_
                refine z_bipush C dL_law_230 (by decide) 232 rfl ?_
                refine z_irem C dL_law_232 233 rfl (by omega) (d9) (by omega) ?_
                refine z_il C hl dL_law_233 2 rfl 235 rfl ?_
                refine z_bipush C dL_law_235 (by decide) 237 rfl ?_
                refine z_irem C dL_law_237 238 rfl (by omega) (s9) (by omega) ?_
                refine z_SWi (r := .int (iI (bZ (true)))) (rest := []) C (m_lwMove l G tb r x cu h pa o sg qn qb sn S u v g n b9 d9 s9 i (by omega) (by omega) (by omega) (by omega) (gD_rg hW.2.1 [0, 3, 1, 2, 6, 8] (by decide) rfl)) kS_L_91 ⟨Nat.le_of_ble_eq_true rfl, Nat.le_of_ble_eq_true rfl⟩ hW hK [0, 3, 1, 2, 6, 8] rfl ((sameA_eq rfl (sameA_eq rfl (sameA_eq rfl (sameA_eq rfl (sameA_cons (hi_permA _ _) (sameA_eq rfl sameA_nil))))))) rfl hl.1 rfl (Nat.le_of_ble_eq_true rfl) dL_law_238 ⟨Nat.le_of_ble_eq_true rfl, Nat.le_of_ble_eq_true rfl⟩ 241 rfl (rs' := [[tbO tb qn qb r x h o], stW G qn (saiV v b9 d9 s9), stW G qb v, [(r, .inr (3, [.ref (qn 0)]))], [sxA x cu qn (besK v k).1], [arL G cu 5 (besK v k).2], hiW G h pa sn (actN (saiR v b9 d9 s9) n) (actS (saiR v b9 d9 s9) n S) (actG (saiR v b9 d9 s9) n g v) false, stW G sn v0Z, [orO G o sg 0], [arC G sg 60 (fun _ => 0)]]) rfl (fun H locs hW hkeep => ?_)
                refine z_top (b := .int (iI (1))) (congrArg (fun z => Value.int (iI z)) (rfl)) ?_
                refine z_goto C dL_law_241 283 (by decide) ?_
                exact J283 (actS (saiR v b9 d9 s9) n S) (saiV v b9 d9 s9) v (actG (saiR v b9 d9 s9) n g v) (actN (saiR v b9 d9 s9) n) (besK v k) ((i.sai b9 d9 s9)) (act_rng (by omega)) (sai_127 w0 (err_is (by omega) (by omega) (by omega))) _ _ hW ls (lv_sub hl [4, 5, 6, 7, 8] rfl)
            · skip
              refine z_iconst C dL_law_207 208 rfl ?_
              refine z_goto C dL_law_208 212 (by decide) ?_
              refine z_is C hl dL_law_212 214 rfl (by decide) (lv' := [(8, .int (iI (1))), (7, .int (iI (1))), (6, .int (iI (besR v))), (5, .int (iI (lowZ ((celX xs L ee) >>> ((iI (4)) &&& 31)) (v 127)))), (4, .int (iI (v 127))), (3, .int (celX xs L ee)), (2, .int (iI (ee))), (1, .ref (tb)), (0, .ref (b))]) rfl (fun ls hl => ?_)
              refine z_il C hl dL_law_214 1 rfl 216 rfl ?_
              refine z_if_eq C dL_law_216 244 219 (by decide) rfl (by omega) (fun c216 => ?_) (fun c216 => ?_)
              · exfalso; omega
              · skip
                refine z_al_n C hl dL_law_219 7 rfl 220 rfl ?_
                refine z_il C hl dL_law_220 2 rfl 222 rfl ?_
                refine z_bipush C dL_law_222 (by decide) 224 rfl ?_
                refine z_idiv C dL_law_224 225 rfl (by omega) (b9) (by omega) ?_
                refine z_il C hl dL_law_225 2 rfl 227 rfl ?_
                refine z_bipush C dL_law_227 (by decide) 229 rfl ?_
                refine z_idiv C dL_law_229 230 rfl (by omega) (((besR v) / 10)) (rfl) ?_
                refine z_bipush C dL_law_230 (by decide) 232 rfl ?_
                refine z_irem C dL_law_232 233 rfl (by omega) (d9) (by omega) ?_
                refine z_il C hl dL_law_233 2 rfl 235 rfl ?_
                refine z_bipush C dL_law_235 (by decide) 237 rfl ?_
                refine z_irem C dL_law_237 238 rfl (by omega) (s9) (by omega) ?_
                refine z_SWi (r := .int (iI (bZ (true)))) (rest := []) C (m_lwMove l G tb r x cu h pa o sg qn qb sn S u v g n b9 d9 s9 i (by omega) (by omega) (by omega) (by omega) (gD_rg hW.2.1 [0, 3, 1, 2, 6, 8] (by decide) rfl)) kS_L_91 ⟨Nat.le_of_ble_eq_true rfl, Nat.le_of_ble_eq_true rfl⟩ hW hK [0, 3, 1, 2, 6, 8] rfl ((sameA_eq rfl (sameA_eq rfl (sameA_eq rfl (sameA_eq rfl (sameA_cons (hi_permA _ _) (sameA_eq rfl sameA_nil))))))) rfl hl.1 rfl (Nat.le_of_ble_eq_true rfl) dL_law_238 ⟨Nat.le_of_ble_eq_true rfl, Nat.le_of_ble_eq_true rfl⟩ 241 rfl (rs' := [[tbO tb qn qb r x h o], stW G qn (saiV v b9 d9 s9), stW G qb v, [(r, .inr (3, [.ref (qn 0)]))], [sxA x cu qn (besK v k).1], [arL G cu 5 (besK v k).2], hiW G h pa sn (actN (saiR v b9 d9 s9) n) (actS (saiR v b9 d9 s9) n S) (actG (saiR v b9 d9 s9) n g v) false, stW G sn v0Z, [orO G o sg 0], [arC G sg 60 (fun _ => 0)]]) rfl (fun H locs hW hkeep => ?_)
                refine z_top (b := .int (iI (1))) (congrArg (fun z => Value.int (iI z)) (rfl)) ?_
                refine z_goto C dL_law_241 283 (by decide) ?_
                exact J283 (actS (saiR v b9 d9 s9) n S) (saiV v b9 d9 s9) v (actG (saiR v b9 d9 s9) n g v) (actN (saiR v b9 d9 s9) n) (besK v k) ((i.sai b9 d9 s9)) (act_rng (by omega)) (sai_127 w0 (err_is (by omega) (by omega) (by omega))) _ _ hW ls (lv_sub hl [4, 5, 6, 7, 8] rfl)
    · skip
      refine z_bipush C dL_law_165 (by decide) 167 rfl ?_
      refine z_goto C dL_law_167 174 (by decide) ?_
      refine z_is C hl dL_law_174 176 rfl (by decide) (lv' := [(6, .int (iI (-5))), (5, .int (iI (lowZ ((celX xs L ee) >>> ((iI (4)) &&& 31)) (v 127)))), (4, .int (iI (v 127))), (3, .int (celX xs L ee)), (2, .int (iI (ee))), (1, .ref (tb)), (0, .ref (b))]) rfl (fun ls hl => ?_)
      refine z_il_n C hl dL_law_176 3 rfl 177 rfl ?_
      refine z_iconst C dL_law_177 178 rfl ?_
      refine z_iand C dL_law_178 179 rfl ?_
      refine z_top (b := .int (iI (((celX xs L ee).toBitVec.toNat % 2 ^ 2 : Nat)))) (congrArg Value.int (and_ex _ 2 3 (by decide))) ?_
      refine z_if_ne C dL_law_179 191 182 (by decide) rfl (by omega) (fun c179 => ?_) (fun c179 => ?_)
      · skip
        refine z_iconst C dL_law_191 192 rfl ?_
        refine z_is C hl dL_law_192 194 rfl (by decide) (lv' := [(7, .int (iI (0))), (6, .int (iI (-5))), (5, .int (iI (lowZ ((celX xs L ee) >>> ((iI (4)) &&& 31)) (v 127)))), (4, .int (iI (v 127))), (3, .int (celX xs L ee)), (2, .int (iI (ee))), (1, .ref (tb)), (0, .ref (b))]) rfl (fun ls hl => ?_)
        refine z_il C hl dL_law_194 3 rfl 196 rfl ?_
        refine z_if_eq C dL_law_196 207 199 (by decide) rfl (by omega) (fun c196 => ?_) (fun c196 => ?_)
        · exfalso; omega
        · skip
          refine z_il_n C hl dL_law_199 4 rfl 200 rfl ?_
          refine z_bipush C dL_law_200 (by decide) 202 rfl ?_
          refine z_iand C dL_law_202 203 rfl ?_
          refine z_top (b := .int (iI (((celX xs L ee).toBitVec.toNat % 2 ^ 3 : Nat)))) (congrArg Value.int (and_ex _ 3 7 (by decide))) ?_
          refine z_iconst C dL_law_203 204 rfl ?_
          refine z_icmp_ne C dL_law_204 211 207 (by decide) rfl (by omega) (fun c204 => ?_) (fun c204 => ?_)
          · skip
            refine z_iconst C dL_law_211 212 rfl ?_
            refine z_is C hl dL_law_212 214 rfl (by decide) (lv' := [(8, .int (iI (0))), (7, .int (iI (0))), (6, .int (iI (-5))), (5, .int (iI (lowZ ((celX xs L ee) >>> ((iI (4)) &&& 31)) (v 127)))), (4, .int (iI (v 127))), (3, .int (celX xs L ee)), (2, .int (iI (ee))), (1, .ref (tb)), (0, .ref (b))]) rfl (fun ls hl => ?_)
            refine z_il C hl dL_law_214 1 rfl 216 rfl ?_
            refine z_if_eq C dL_law_216 244 219 (by decide) rfl (by omega) (fun c216 => ?_) (fun c216 => ?_)
            · skip
              refine z_il C hl dL_law_244 0 rfl 246 rfl ?_
              refine z_if_eq C dL_law_246 259 249 (by decide) rfl (by omega) (fun c246 => ?_) (fun c246 => ?_)
              · skip
                refine z_al_n C hl dL_law_259 7 rfl 260 rfl ?_
                refine z_il C hl dL_law_260 3 rfl 262 rfl ?_
                refine z_il_n C hl dL_law_262 5 rfl 263 rfl ?_
                refine z_bipush C dL_law_263 (by decide) 265 rfl ?_
                refine z_ishr C dL_law_265 266 rfl ?_
                refine z_iconst C dL_law_266 267 rfl ?_
                refine z_SR (r := .int (iI (lowZ ((celX xs L ee) >>> ((iI (8)) &&& 31)) 4))) (rest := [.int (iI (lowZ ((celX xs L ee) >>> ((iI (4)) &&& 31)) (v 127))), .ref (tb)]) C (m_low l G ((celX xs L ee) >>> ((iI (8)) &&& 31)) 4 (by omega)) kS_L_59 ⟨Nat.le_of_ble_eq_true rfl, Nat.le_of_ble_eq_true rfl⟩ (gP_nil) hK rfl hl.1 rfl (Nat.le_of_ble_eq_true rfl) dL_law_267 ⟨Nat.le_of_ble_eq_true rfl, Nat.le_of_ble_eq_true rfl⟩ 270 rfl ?_
                have rl267 := lowZ_rng ((celX xs L ee) >>> ((iI (8)) &&& 31)) (n := 4) (by omega)
                refine z_iconst C dL_law_270 271 rfl ?_
                refine z_il_n C hl dL_law_271 5 rfl 272 rfl ?_
                refine z_bipush C dL_law_272 (by decide) 274 rfl ?_
                refine z_ishr C dL_law_274 275 rfl ?_
                refine z_iconst C dL_law_275 276 rfl ?_
                refine z_SR (r := .int (iI (lowZ ((celX xs L ee) >>> ((iI (10)) &&& 31)) 3))) (rest := [.int (iI (1)), .int (iI (lowZ ((celX xs L ee) >>> ((iI (8)) &&& 31)) 4)), .int (iI (lowZ ((celX xs L ee) >>> ((iI (4)) &&& 31)) (v 127))), .ref (tb)]) C (m_low l G ((celX xs L ee) >>> ((iI (10)) &&& 31)) 3 (by omega)) kS_L_59 ⟨Nat.le_of_ble_eq_true rfl, Nat.le_of_ble_eq_true rfl⟩ (gP_nil) hK rfl hl.1 rfl (Nat.le_of_ble_eq_true rfl) dL_law_276 ⟨Nat.le_of_ble_eq_true rfl, Nat.le_of_ble_eq_true rfl⟩ 279 rfl ?_
                have rl276 := lowZ_rng ((celX xs L ee) >>> ((iI (10)) &&& 31)) (n := 3) (by omega)
                refine z_iadd C dL_law_279 280 rfl (1 + lowZ ((celX xs L ee) >>> ((iI (10)) &&& 31)) 3) (by omega) ?_
                refine z_SWi (r := .int (iI (bZ (true)))) (rest := []) C (m_lwMove l G tb r x cu h pa o sg qn qb sn S u v g n (lowZ ((celX xs L ee) >>> ((iI (4)) &&& 31)) (v 127)) (lowZ ((celX xs L ee) >>> ((iI (8)) &&& 31)) 4) (1 + lowZ ((celX xs L ee) >>> ((iI (10)) &&& 31)) 3) i (by omega) (by omega) (by omega) (by omega) (gD_rg hW.2.1 [0, 3, 1, 2, 6, 8] (by decide) rfl)) kS_L_91 ⟨Nat.le_of_ble_eq_true rfl, Nat.le_of_ble_eq_true rfl⟩ hW hK [0, 3, 1, 2, 6, 8] rfl ((sameA_eq rfl (sameA_eq rfl (sameA_eq rfl (sameA_eq rfl (sameA_cons (hi_permA _ _) (sameA_eq rfl sameA_nil))))))) rfl hl.1 rfl (Nat.le_of_ble_eq_true rfl) dL_law_280 ⟨Nat.le_of_ble_eq_true rfl, Nat.le_of_ble_eq_true rfl⟩ 283 rfl (rs' := [[tbO tb qn qb r x h o], stW G qn (saiV v (lowZ ((celX xs L ee) >>> ((iI (4)) &&& 31)) (v 127)) (lowZ ((celX xs L ee) >>> ((iI (8)) &&& 31)) 4) (1 + lowZ ((celX xs L ee) >>> ((iI (10)) &&& 31)) 3)), stW G qb v, [(r, .inr (3, [.ref (qn 0)]))], [sxA x cu qn k.1], [arL G cu 5 k.2], hiW G h pa sn (actN (saiR v (lowZ ((celX xs L ee) >>> ((iI (4)) &&& 31)) (v 127)) (lowZ ((celX xs L ee) >>> ((iI (8)) &&& 31)) 4) (1 + lowZ ((celX xs L ee) >>> ((iI (10)) &&& 31)) 3)) n) (actS (saiR v (lowZ ((celX xs L ee) >>> ((iI (4)) &&& 31)) (v 127)) (lowZ ((celX xs L ee) >>> ((iI (8)) &&& 31)) 4) (1 + lowZ ((celX xs L ee) >>> ((iI (10)) &&& 31)) 3)) n S) (actG (saiR v (lowZ ((celX xs L ee) >>> ((iI (4)) &&& 31)) (v 127)) (lowZ ((celX xs L ee) >>> ((iI (8)) &&& 31)) 4) (1 + lowZ ((celX xs L ee) >>> ((iI (10)) &&& 31)) 3)) n g v) false, stW G sn v0Z, [orO G o sg 0], [arC G sg 60 (fun _ => 0)]]) rfl (fun H locs hW hkeep => ?_)
                refine z_top (b := .int (iI (1))) (congrArg (fun z => Value.int (iI z)) (rfl)) ?_
                exact J283 (actS (saiR v (lowZ ((celX xs L ee) >>> ((iI (4)) &&& 31)) (v 127)) (lowZ ((celX xs L ee) >>> ((iI (8)) &&& 31)) 4) (1 + lowZ ((celX xs L ee) >>> ((iI (10)) &&& 31)) 3)) n S) (saiV v (lowZ ((celX xs L ee) >>> ((iI (4)) &&& 31)) (v 127)) (lowZ ((celX xs L ee) >>> ((iI (8)) &&& 31)) 4) (1 + lowZ ((celX xs L ee) >>> ((iI (10)) &&& 31)) 3)) v (actG (saiR v (lowZ ((celX xs L ee) >>> ((iI (4)) &&& 31)) (v 127)) (lowZ ((celX xs L ee) >>> ((iI (8)) &&& 31)) 4) (1 + lowZ ((celX xs L ee) >>> ((iI (10)) &&& 31)) 3)) n g v) (actN (saiR v (lowZ ((celX xs L ee) >>> ((iI (4)) &&& 31)) (v 127)) (lowZ ((celX xs L ee) >>> ((iI (8)) &&& 31)) 4) (1 + lowZ ((celX xs L ee) >>> ((iI (10)) &&& 31)) 3)) n) k ((i.sai (lowZ ((celX xs L ee) >>> ((iI (4)) &&& 31)) (v 127)) (lowZ ((celX xs L ee) >>> ((iI (8)) &&& 31)) 4) (1 + lowZ ((celX xs L ee) >>> ((iI (10)) &&& 31)) 3))) (act_rng (by omega)) (sai_127 w0 (err_is (by omega) (by omega) (by omega))) _ _ hW ls (lv_sub hl [4, 5, 6, 7, 8] rfl)
              · exfalso; omega
            · exfalso; omega
          · skip
            refine z_iconst C dL_law_207 208 rfl ?_
            refine z_goto C dL_law_208 212 (by decide) ?_
            refine z_is C hl dL_law_212 214 rfl (by decide) (lv' := [(8, .int (iI (1))), (7, .int (iI (0))), (6, .int (iI (-5))), (5, .int (iI (lowZ ((celX xs L ee) >>> ((iI (4)) &&& 31)) (v 127)))), (4, .int (iI (v 127))), (3, .int (celX xs L ee)), (2, .int (iI (ee))), (1, .ref (tb)), (0, .ref (b))]) rfl (fun ls hl => ?_)
            refine z_il C hl dL_law_214 1 rfl 216 rfl ?_
            refine z_if_eq C dL_law_216 244 219 (by decide) rfl (by omega) (fun c216 => ?_) (fun c216 => ?_)
            · skip
              refine z_il C hl dL_law_244 0 rfl 246 rfl ?_
              refine z_if_eq C dL_law_246 259 249 (by decide) rfl (by omega) (fun c246 => ?_) (fun c246 => ?_)
              · exfalso; omega
              · skip
                refine z_al_n C hl dL_law_249 7 rfl 250 rfl ?_
                refine z_iconst C dL_law_250 251 rfl ?_
                refine z_iconst C dL_law_251 252 rfl ?_
                refine z_iconst C dL_law_252 253 rfl ?_
                refine z_SWi (r := .int (iI (bZ (true)))) (rest := []) C (m_lwWait l G tb r x cu h pa o sg qn qb sn S u v g n i (by omega) (gD_rg hW.2.1 [0, 3, 1, 2, 6, 8] (by decide) rfl)) kS_L_91 ⟨Nat.le_of_ble_eq_true rfl, Nat.le_of_ble_eq_true rfl⟩ hW hK [0, 3, 1, 2, 6, 8] rfl ((sameA_eq rfl (sameA_eq rfl (sameA_eq rfl (sameA_eq rfl (sameA_cons (hi_permA _ _) (sameA_eq rfl sameA_nil))))))) rfl hl.1 rfl (Nat.le_of_ble_eq_true rfl) dL_law_253 ⟨Nat.le_of_ble_eq_true rfl, Nat.le_of_ble_eq_true rfl⟩ 256 rfl (rs' := [[tbO tb qn qb r x h o], stW G qn (waiV v), stW G qb v, [(r, .inr (3, [.ref (qn 0)]))], [sxA x cu qn k.1], [arL G cu 5 k.2], hiW G h pa sn (actN (waiR v) n) (actS (waiR v) n S) (actG (waiR v) n g v) false, stW G sn v0Z, [orO G o sg 0], [arC G sg 60 (fun _ => 0)]]) rfl (fun H locs hW hkeep => ?_)
                refine z_top (b := .int (iI (1))) (congrArg (fun z => Value.int (iI z)) (rfl)) ?_
                refine z_goto C dL_law_256 283 (by decide) ?_
                exact J283 (actS (waiR v) n S) (waiV v) v (actG (waiR v) n g v) (actN (waiR v) n) k ((i.wai)) (act_rng (by omega)) (wai_127 w0) _ _ hW ls (lv_sub hl [4, 5, 6, 7, 8] rfl)
            · exfalso; omega
      · skip
        refine z_il C hl dL_law_182 0 rfl 184 rfl ?_
        refine z_if_lt C dL_law_184 191 187 (by decide) rfl (by omega) (fun c184 => ?_) (fun c184 => ?_)
        · skip
          refine z_iconst C dL_law_191 192 rfl ?_
          refine z_is C hl dL_law_192 194 rfl (by decide) (lv' := [(7, .int (iI (0))), (6, .int (iI (-5))), (5, .int (iI (lowZ ((celX xs L ee) >>> ((iI (4)) &&& 31)) (v 127)))), (4, .int (iI (v 127))), (3, .int (celX xs L ee)), (2, .int (iI (ee))), (1, .ref (tb)), (0, .ref (b))]) rfl (fun ls hl => ?_)
          refine z_il C hl dL_law_194 3 rfl 196 rfl ?_
          refine z_if_eq C dL_law_196 207 199 (by decide) rfl (by omega) (fun c196 => ?_) (fun c196 => ?_)
          · exfalso; omega
          · skip
            refine z_il_n C hl dL_law_199 4 rfl 200 rfl ?_
            refine z_bipush C dL_law_200 (by decide) 202 rfl ?_
            refine z_iand C dL_law_202 203 rfl ?_
            refine z_top (b := .int (iI (((celX xs L ee).toBitVec.toNat % 2 ^ 3 : Nat)))) (congrArg Value.int (and_ex _ 3 7 (by decide))) ?_
            refine z_iconst C dL_law_203 204 rfl ?_
            refine z_icmp_ne C dL_law_204 211 207 (by decide) rfl (by omega) (fun c204 => ?_) (fun c204 => ?_)
            · skip
              refine z_iconst C dL_law_211 212 rfl ?_
              refine z_is C hl dL_law_212 214 rfl (by decide) (lv' := [(8, .int (iI (0))), (7, .int (iI (0))), (6, .int (iI (-5))), (5, .int (iI (lowZ ((celX xs L ee) >>> ((iI (4)) &&& 31)) (v 127)))), (4, .int (iI (v 127))), (3, .int (celX xs L ee)), (2, .int (iI (ee))), (1, .ref (tb)), (0, .ref (b))]) rfl (fun ls hl => ?_)
              refine z_il C hl dL_law_214 1 rfl 216 rfl ?_
              refine z_if_eq C dL_law_216 244 219 (by decide) rfl (by omega) (fun c216 => ?_) (fun c216 => ?_)
              · skip
                refine z_il C hl dL_law_244 0 rfl 246 rfl ?_
                refine z_if_eq C dL_law_246 259 249 (by decide) rfl (by omega) (fun c246 => ?_) (fun c246 => ?_)
                · skip
                  refine z_al_n C hl dL_law_259 7 rfl 260 rfl ?_
                  refine z_il C hl dL_law_260 3 rfl 262 rfl ?_
                  refine z_il_n C hl dL_law_262 5 rfl 263 rfl ?_
                  refine z_bipush C dL_law_263 (by decide) 265 rfl ?_
                  refine z_ishr C dL_law_265 266 rfl ?_
                  refine z_iconst C dL_law_266 267 rfl ?_
                  refine z_SR (r := .int (iI (lowZ ((celX xs L ee) >>> ((iI (8)) &&& 31)) 4))) (rest := [.int (iI (lowZ ((celX xs L ee) >>> ((iI (4)) &&& 31)) (v 127))), .ref (tb)]) C (m_low l G ((celX xs L ee) >>> ((iI (8)) &&& 31)) 4 (by omega)) kS_L_59 ⟨Nat.le_of_ble_eq_true rfl, Nat.le_of_ble_eq_true rfl⟩ (gP_nil) hK rfl hl.1 rfl (Nat.le_of_ble_eq_true rfl) dL_law_267 ⟨Nat.le_of_ble_eq_true rfl, Nat.le_of_ble_eq_true rfl⟩ 270 rfl ?_
                  have rl267 := lowZ_rng ((celX xs L ee) >>> ((iI (8)) &&& 31)) (n := 4) (by omega)
                  refine z_iconst C dL_law_270 271 rfl ?_
                  refine z_il_n C hl dL_law_271 5 rfl 272 rfl ?_
                  refine z_bipush C dL_law_272 (by decide) 274 rfl ?_
                  refine z_ishr C dL_law_274 275 rfl ?_
                  refine z_iconst C dL_law_275 276 rfl ?_
                  refine z_SR (r := .int (iI (lowZ ((celX xs L ee) >>> ((iI (10)) &&& 31)) 3))) (rest := [.int (iI (1)), .int (iI (lowZ ((celX xs L ee) >>> ((iI (8)) &&& 31)) 4)), .int (iI (lowZ ((celX xs L ee) >>> ((iI (4)) &&& 31)) (v 127))), .ref (tb)]) C (m_low l G ((celX xs L ee) >>> ((iI (10)) &&& 31)) 3 (by omega)) kS_L_59 ⟨Nat.le_of_ble_eq_true rfl, Nat.le_of_ble_eq_true rfl⟩ (gP_nil) hK rfl hl.1 rfl (Nat.le_of_ble_eq_true rfl) dL_law_276 ⟨Nat.le_of_ble_eq_true rfl, Nat.le_of_ble_eq_true rfl⟩ 279 rfl ?_
                  have rl276 := lowZ_rng ((celX xs L ee) >>> ((iI (10)) &&& 31)) (n := 3) (by omega)
                  refine z_iadd C dL_law_279 280 rfl (1 + lowZ ((celX xs L ee) >>> ((iI (10)) &&& 31)) 3) (by omega) ?_
                  refine z_SWi (r := .int (iI (bZ (true)))) (rest := []) C (m_lwMove l G tb r x cu h pa o sg qn qb sn S u v g n (lowZ ((celX xs L ee) >>> ((iI (4)) &&& 31)) (v 127)) (lowZ ((celX xs L ee) >>> ((iI (8)) &&& 31)) 4) (1 + lowZ ((celX xs L ee) >>> ((iI (10)) &&& 31)) 3) i (by omega) (by omega) (by omega) (by omega) (gD_rg hW.2.1 [0, 3, 1, 2, 6, 8] (by decide) rfl)) kS_L_91 ⟨Nat.le_of_ble_eq_true rfl, Nat.le_of_ble_eq_true rfl⟩ hW hK [0, 3, 1, 2, 6, 8] rfl ((sameA_eq rfl (sameA_eq rfl (sameA_eq rfl (sameA_eq rfl (sameA_cons (hi_permA _ _) (sameA_eq rfl sameA_nil))))))) rfl hl.1 rfl (Nat.le_of_ble_eq_true rfl) dL_law_280 ⟨Nat.le_of_ble_eq_true rfl, Nat.le_of_ble_eq_true rfl⟩ 283 rfl (rs' := [[tbO tb qn qb r x h o], stW G qn (saiV v (lowZ ((celX xs L ee) >>> ((iI (4)) &&& 31)) (v 127)) (lowZ ((celX xs L ee) >>> ((iI (8)) &&& 31)) 4) (1 + lowZ ((celX xs L ee) >>> ((iI (10)) &&& 31)) 3)), stW G qb v, [(r, .inr (3, [.ref (qn 0)]))], [sxA x cu qn k.1], [arL G cu 5 k.2], hiW G h pa sn (actN (saiR v (lowZ ((celX xs L ee) >>> ((iI (4)) &&& 31)) (v 127)) (lowZ ((celX xs L ee) >>> ((iI (8)) &&& 31)) 4) (1 + lowZ ((celX xs L ee) >>> ((iI (10)) &&& 31)) 3)) n) (actS (saiR v (lowZ ((celX xs L ee) >>> ((iI (4)) &&& 31)) (v 127)) (lowZ ((celX xs L ee) >>> ((iI (8)) &&& 31)) 4) (1 + lowZ ((celX xs L ee) >>> ((iI (10)) &&& 31)) 3)) n S) (actG (saiR v (lowZ ((celX xs L ee) >>> ((iI (4)) &&& 31)) (v 127)) (lowZ ((celX xs L ee) >>> ((iI (8)) &&& 31)) 4) (1 + lowZ ((celX xs L ee) >>> ((iI (10)) &&& 31)) 3)) n g v) false, stW G sn v0Z, [orO G o sg 0], [arC G sg 60 (fun _ => 0)]]) rfl (fun H locs hW hkeep => ?_)
                  refine z_top (b := .int (iI (1))) (congrArg (fun z => Value.int (iI z)) (rfl)) ?_
                  exact J283 (actS (saiR v (lowZ ((celX xs L ee) >>> ((iI (4)) &&& 31)) (v 127)) (lowZ ((celX xs L ee) >>> ((iI (8)) &&& 31)) 4) (1 + lowZ ((celX xs L ee) >>> ((iI (10)) &&& 31)) 3)) n S) (saiV v (lowZ ((celX xs L ee) >>> ((iI (4)) &&& 31)) (v 127)) (lowZ ((celX xs L ee) >>> ((iI (8)) &&& 31)) 4) (1 + lowZ ((celX xs L ee) >>> ((iI (10)) &&& 31)) 3)) v (actG (saiR v (lowZ ((celX xs L ee) >>> ((iI (4)) &&& 31)) (v 127)) (lowZ ((celX xs L ee) >>> ((iI (8)) &&& 31)) 4) (1 + lowZ ((celX xs L ee) >>> ((iI (10)) &&& 31)) 3)) n g v) (actN (saiR v (lowZ ((celX xs L ee) >>> ((iI (4)) &&& 31)) (v 127)) (lowZ ((celX xs L ee) >>> ((iI (8)) &&& 31)) 4) (1 + lowZ ((celX xs L ee) >>> ((iI (10)) &&& 31)) 3)) n) k ((i.sai (lowZ ((celX xs L ee) >>> ((iI (4)) &&& 31)) (v 127)) (lowZ ((celX xs L ee) >>> ((iI (8)) &&& 31)) 4) (1 + lowZ ((celX xs L ee) >>> ((iI (10)) &&& 31)) 3))) (act_rng (by omega)) (sai_127 w0 (err_is (by omega) (by omega) (by omega))) _ _ hW ls (lv_sub hl [4, 5, 6, 7, 8] rfl)
                · exfalso; omega
              · exfalso; omega
            · skip
              refine z_iconst C dL_law_207 208 rfl ?_
              refine z_goto C dL_law_208 212 (by decide) ?_
              refine z_is C hl dL_law_212 214 rfl (by decide) (lv' := [(8, .int (iI (1))), (7, .int (iI (0))), (6, .int (iI (-5))), (5, .int (iI (lowZ ((celX xs L ee) >>> ((iI (4)) &&& 31)) (v 127)))), (4, .int (iI (v 127))), (3, .int (celX xs L ee)), (2, .int (iI (ee))), (1, .ref (tb)), (0, .ref (b))]) rfl (fun ls hl => ?_)
              refine z_il C hl dL_law_214 1 rfl 216 rfl ?_
              refine z_if_eq C dL_law_216 244 219 (by decide) rfl (by omega) (fun c216 => ?_) (fun c216 => ?_)
              · skip
                refine z_il C hl dL_law_244 0 rfl 246 rfl ?_
                refine z_if_eq C dL_law_246 259 249 (by decide) rfl (by omega) (fun c246 => ?_) (fun c246 => ?_)
                · exfalso; omega
                · skip
                  refine z_al_n C hl dL_law_249 7 rfl 250 rfl ?_
                  refine z_iconst C dL_law_250 251 rfl ?_
                  refine z_iconst C dL_law_251 252 rfl ?_
                  refine z_iconst C dL_law_252 253 rfl ?_
                  refine z_SWi (r := .int (iI (bZ (true)))) (rest := []) C (m_lwWait l G tb r x cu h pa o sg qn qb sn S u v g n i (by omega) (gD_rg hW.2.1 [0, 3, 1, 2, 6, 8] (by decide) rfl)) kS_L_91 ⟨Nat.le_of_ble_eq_true rfl, Nat.le_of_ble_eq_true rfl⟩ hW hK [0, 3, 1, 2, 6, 8] rfl ((sameA_eq rfl (sameA_eq rfl (sameA_eq rfl (sameA_eq rfl (sameA_cons (hi_permA _ _) (sameA_eq rfl sameA_nil))))))) rfl hl.1 rfl (Nat.le_of_ble_eq_true rfl) dL_law_253 ⟨Nat.le_of_ble_eq_true rfl, Nat.le_of_ble_eq_true rfl⟩ 256 rfl (rs' := [[tbO tb qn qb r x h o], stW G qn (waiV v), stW G qb v, [(r, .inr (3, [.ref (qn 0)]))], [sxA x cu qn k.1], [arL G cu 5 k.2], hiW G h pa sn (actN (waiR v) n) (actS (waiR v) n S) (actG (waiR v) n g v) false, stW G sn v0Z, [orO G o sg 0], [arC G sg 60 (fun _ => 0)]]) rfl (fun H locs hW hkeep => ?_)
                  refine z_top (b := .int (iI (1))) (congrArg (fun z => Value.int (iI z)) (rfl)) ?_
                  refine z_goto C dL_law_256 283 (by decide) ?_
                  exact J283 (actS (waiR v) n S) (waiV v) v (actG (waiR v) n g v) (actN (waiR v) n) k ((i.wai)) (act_rng (by omega)) (wai_127 w0) _ _ hW ls (lv_sub hl [4, 5, 6, 7, 8] rfl)
              · exfalso; omega
        · exfalso; omega
  · skip
    skip
    refine z_iconst C dL_law_146 147 rfl ?_
    refine z_goto C dL_law_147 158 (by decide) ?_
    refine z_is C hl dL_law_158 160 rfl (by decide) (lv' := [(5, .int (iI (0))), (4, .int (iI (v 127))), (3, .int (celX xs L ee)), (2, .int (iI (ee))), (1, .ref (tb)), (0, .ref (b))]) rfl (fun ls hl => ?_)
    refine z_il C hl dL_law_160 1 rfl 162 rfl ?_
    refine z_if_ne C dL_law_162 170 165 (by decide) rfl (by omega) (fun c162 => ?_) (fun c162 => ?_)
    · skip
      refine z_al_n C hl dL_law_170 4 rfl 171 rfl ?_
      refine z_VWi (r := .int (iI (besR v))) (rest := []) C (m_best l G tb r x cu h pa o sg qn qb sn v k w0 (gD_rg hW.2.1 [0, 3, 4, 5, 1] (by decide) rfl)) kV_L_53 ⟨Nat.le_of_ble_eq_true rfl, Nat.le_of_ble_eq_true rfl⟩ hW hK [0, 3, 4, 5, 1] rfl (sameA_of rfl) 0 rfl rfl rfl hl.1 rfl (Nat.le_of_ble_eq_true rfl) dL_law_171 ⟨Nat.le_of_ble_eq_true rfl, Nat.le_of_ble_eq_true rfl⟩ 174 rfl (rs' := [[tbO tb qn qb r x h o], stW G qn v, stW G qb u, [(r, .inr (3, [.ref (qn 0)]))], [sxA x cu qn (besK v k).1], [arL G cu 5 (besK v k).2], hiW G h pa sn n S g false, stW G sn v0Z, [orO G o sg 0], [arC G sg 60 (fun _ => 0)]]) rfl (fun H locs hW hkeep => ?_)
      have rb171 := besR_rng w0
      refine z_is C hl dL_law_174 176 rfl (by decide) (lv' := [(6, .int (iI (besR v))), (5, .int (iI (0))), (4, .int (iI (v 127))), (3, .int (celX xs L ee)), (2, .int (iI (ee))), (1, .ref (tb)), (0, .ref (b))]) rfl (fun ls hl => ?_)
      refine z_il_n C hl dL_law_176 3 rfl 177 rfl ?_
      refine z_iconst C dL_law_177 178 rfl ?_
      refine z_iand C dL_law_178 179 rfl ?_
      refine z_top (b := .int (iI (((celX xs L ee).toBitVec.toNat % 2 ^ 2 : Nat)))) (congrArg Value.int (and_ex _ 2 3 (by decide))) ?_
      refine z_if_ne C dL_law_179 191 182 (by decide) rfl (by omega) (fun c179 => ?_) (fun c179 => ?_)
      · skip
        refine z_iconst C dL_law_191 192 rfl ?_
        refine z_is C hl dL_law_192 194 rfl (by decide) (lv' := [(7, .int (iI (0))), (6, .int (iI (besR v))), (5, .int (iI (0))), (4, .int (iI (v 127))), (3, .int (celX xs L ee)), (2, .int (iI (ee))), (1, .ref (tb)), (0, .ref (b))]) rfl (fun ls hl => ?_)
        refine z_il C hl dL_law_194 3 rfl 196 rfl ?_
        refine z_if_eq C dL_law_196 207 199 (by decide) rfl (by omega) (fun c196 => ?_) (fun c196 => ?_)
        · skip
          refine z_iconst C dL_law_207 208 rfl ?_
          refine z_goto C dL_law_208 212 (by decide) ?_
          refine z_is C hl dL_law_212 214 rfl (by decide) (lv' := [(8, .int (iI (1))), (7, .int (iI (0))), (6, .int (iI (besR v))), (5, .int (iI (0))), (4, .int (iI (v 127))), (3, .int (celX xs L ee)), (2, .int (iI (ee))), (1, .ref (tb)), (0, .ref (b))]) rfl (fun ls hl => ?_)
          refine z_il C hl dL_law_214 1 rfl 216 rfl ?_
          refine z_if_eq C dL_law_216 244 219 (by decide) rfl (by omega) (fun c216 => ?_) (fun c216 => ?_)
          · skip
            refine z_il C hl dL_law_244 0 rfl 246 rfl ?_
            refine z_if_eq C dL_law_246 259 249 (by decide) rfl (by omega) (fun c246 => ?_) (fun c246 => ?_)
            · exfalso; omega
            · skip
              refine z_al_n C hl dL_law_249 7 rfl 250 rfl ?_
              refine z_iconst C dL_law_250 251 rfl ?_
              refine z_iconst C dL_law_251 252 rfl ?_
              refine z_iconst C dL_law_252 253 rfl ?_
              refine z_SWi (r := .int (iI (bZ (true)))) (rest := []) C (m_lwWait l G tb r x cu h pa o sg qn qb sn S u v g n i (by omega) (gD_rg hW.2.1 [0, 3, 1, 2, 6, 8] (by decide) rfl)) kS_L_91 ⟨Nat.le_of_ble_eq_true rfl, Nat.le_of_ble_eq_true rfl⟩ hW hK [0, 3, 1, 2, 6, 8] rfl ((sameA_eq rfl (sameA_eq rfl (sameA_eq rfl (sameA_eq rfl (sameA_cons (hi_permA _ _) (sameA_eq rfl sameA_nil))))))) rfl hl.1 rfl (Nat.le_of_ble_eq_true rfl) dL_law_253 ⟨Nat.le_of_ble_eq_true rfl, Nat.le_of_ble_eq_true rfl⟩ 256 rfl (rs' := [[tbO tb qn qb r x h o], stW G qn (waiV v), stW G qb v, [(r, .inr (3, [.ref (qn 0)]))], [sxA x cu qn (besK v k).1], [arL G cu 5 (besK v k).2], hiW G h pa sn (actN (waiR v) n) (actS (waiR v) n S) (actG (waiR v) n g v) false, stW G sn v0Z, [orO G o sg 0], [arC G sg 60 (fun _ => 0)]]) rfl (fun H locs hW hkeep => ?_)
              refine z_top (b := .int (iI (1))) (congrArg (fun z => Value.int (iI z)) (rfl)) ?_
              refine z_goto C dL_law_256 283 (by decide) ?_
              exact J283 (actS (waiR v) n S) (waiV v) v (actG (waiR v) n g v) (actN (waiR v) n) (besK v k) ((i.wai)) (act_rng (by omega)) (wai_127 w0) _ _ hW ls (lv_sub hl [4, 5, 6, 7, 8] rfl)
          · exfalso; omega
        · exfalso; omega
      · skip
        refine z_il C hl dL_law_182 0 rfl 184 rfl ?_
        refine z_if_lt C dL_law_184 191 187 (by decide) rfl (by omega) (fun c184 => ?_) (fun c184 => ?_)
        · skip
          refine z_iconst C dL_law_191 192 rfl ?_
          refine z_is C hl dL_law_192 194 rfl (by decide) (lv' := [(7, .int (iI (0))), (6, .int (iI (besR v))), (5, .int (iI (0))), (4, .int (iI (v 127))), (3, .int (celX xs L ee)), (2, .int (iI (ee))), (1, .ref (tb)), (0, .ref (b))]) rfl (fun ls hl => ?_)
          refine z_il C hl dL_law_194 3 rfl 196 rfl ?_
          refine z_if_eq C dL_law_196 207 199 (by decide) rfl (by omega) (fun c196 => ?_) (fun c196 => ?_)
          · skip
            refine z_iconst C dL_law_207 208 rfl ?_
            refine z_goto C dL_law_208 212 (by decide) ?_
            refine z_is C hl dL_law_212 214 rfl (by decide) (lv' := [(8, .int (iI (1))), (7, .int (iI (0))), (6, .int (iI (besR v))), (5, .int (iI (0))), (4, .int (iI (v 127))), (3, .int (celX xs L ee)), (2, .int (iI (ee))), (1, .ref (tb)), (0, .ref (b))]) rfl (fun ls hl => ?_)
            refine z_il C hl dL_law_214 1 rfl 216 rfl ?_
            refine z_if_eq C dL_law_216 244 219 (by decide) rfl (by omega) (fun c216 => ?_) (fun c216 => ?_)
            · skip
              refine z_il C hl dL_law_244 0 rfl 246 rfl ?_
              refine z_if_eq C dL_law_246 259 249 (by decide) rfl (by omega) (fun c246 => ?_) (fun c246 => ?_)
              · exfalso; omega
              · skip
                refine z_al_n C hl dL_law_249 7 rfl 250 rfl ?_
                refine z_iconst C dL_law_250 251 rfl ?_
                refine z_iconst C dL_law_251 252 rfl ?_
                refine z_iconst C dL_law_252 253 rfl ?_
                refine z_SWi (r := .int (iI (bZ (true)))) (rest := []) C (m_lwWait l G tb r x cu h pa o sg qn qb sn S u v g n i (by omega) (gD_rg hW.2.1 [0, 3, 1, 2, 6, 8] (by decide) rfl)) kS_L_91 ⟨Nat.le_of_ble_eq_true rfl, Nat.le_of_ble_eq_true rfl⟩ hW hK [0, 3, 1, 2, 6, 8] rfl ((sameA_eq rfl (sameA_eq rfl (sameA_eq rfl (sameA_eq rfl (sameA_cons (hi_permA _ _) (sameA_eq rfl sameA_nil))))))) rfl hl.1 rfl (Nat.le_of_ble_eq_true rfl) dL_law_253 ⟨Nat.le_of_ble_eq_true rfl, Nat.le_of_ble_eq_true rfl⟩ 256 rfl (rs' := [[tbO tb qn qb r x h o], stW G qn (waiV v), stW G qb v, [(r, .inr (3, [.ref (qn 0)]))], [sxA x cu qn (besK v k).1], [arL G cu 5 (besK v k).2], hiW G h pa sn (actN (waiR v) n) (actS (waiR v) n S) (actG (waiR v) n g v) false, stW G sn v0Z, [orO G o sg 0], [arC G sg 60 (fun _ => 0)]]) rfl (fun H locs hW hkeep => ?_)
                refine z_top (b := .int (iI (1))) (congrArg (fun z => Value.int (iI z)) (rfl)) ?_
                refine z_goto C dL_law_256 283 (by decide) ?_
                exact J283 (actS (waiR v) n S) (waiV v) v (actG (waiR v) n g v) (actN (waiR v) n) (besK v k) ((i.wai)) (act_rng (by omega)) (wai_127 w0) _ _ hW ls (lv_sub hl [4, 5, 6, 7, 8] rfl)
            · exfalso; omega
          · exfalso; omega
        · skip
          obtain ⟨b9, d9, s9, hb9, hd9, hs9, e9⟩ := bes_get w0 c184
          refine z_iconst C dL_law_187 188 rfl ?_
          refine z_goto C dL_law_188 192 (by decide) ?_
          refine z_is C hl dL_law_192 194 rfl (by decide) (lv' := [(7, .int (iI (1))), (6, .int (iI (besR v))), (5, .int (iI (0))), (4, .int (iI (v 127))), (3, .int (celX xs L ee)), (2, .int (iI (ee))), (1, .ref (tb)), (0, .ref (b))]) rfl (fun ls hl => ?_)
          refine z_il C hl dL_law_194 3 rfl 196 rfl ?_
          refine z_if_eq C dL_law_196 207 199 (by decide) rfl (by omega) (fun c196 => ?_) (fun c196 => ?_)
          · skip
            refine z_iconst C dL_law_207 208 rfl ?_
            refine z_goto C dL_law_208 212 (by decide) ?_
            refine z_is C hl dL_law_212 214 rfl (by decide) (lv' := [(8, .int (iI (1))), (7, .int (iI (1))), (6, .int (iI (besR v))), (5, .int (iI (0))), (4, .int (iI (v 127))), (3, .int (celX xs L ee)), (2, .int (iI (ee))), (1, .ref (tb)), (0, .ref (b))]) rfl (fun ls hl => ?_)
            refine z_il C hl dL_law_214 1 rfl 216 rfl ?_
            refine z_if_eq C dL_law_216 244 219 (by decide) rfl (by omega) (fun c216 => ?_) (fun c216 => ?_)
            · exfalso; omega
            · skip
              refine z_al_n C hl dL_law_219 7 rfl 220 rfl ?_
              refine z_il C hl dL_law_220 2 rfl 222 rfl ?_
              refine z_bipush C dL_law_222 (by decide) 224 rfl ?_
              refine z_idiv C dL_law_224 225 rfl (by omega) (b9) (by omega) ?_
              refine z_il C hl dL_law_225 2 rfl 227 rfl ?_
              refine z_bipush C dL_law_227 (by decide) 229 rfl ?_
              refine z_idiv C dL_law_229 230 rfl (by omega) (((besR v) / 10)) (rfl) ?_
              refine z_bipush C dL_law_230 (by decide) 232 rfl ?_
              refine z_irem C dL_law_232 233 rfl (by omega) (d9) (by omega) ?_
              refine z_il C hl dL_law_233 2 rfl 235 rfl ?_
              refine z_bipush C dL_law_235 (by decide) 237 rfl ?_
              refine z_irem C dL_law_237 238 rfl (by omega) (s9) (by omega) ?_
              refine z_SWi (r := .int (iI (bZ (true)))) (rest := []) C (m_lwMove l G tb r x cu h pa o sg qn qb sn S u v g n b9 d9 s9 i (by omega) (by omega) (by omega) (by omega) (gD_rg hW.2.1 [0, 3, 1, 2, 6, 8] (by decide) rfl)) kS_L_91 ⟨Nat.le_of_ble_eq_true rfl, Nat.le_of_ble_eq_true rfl⟩ hW hK [0, 3, 1, 2, 6, 8] rfl ((sameA_eq rfl (sameA_eq rfl (sameA_eq rfl (sameA_eq rfl (sameA_cons (hi_permA _ _) (sameA_eq rfl sameA_nil))))))) rfl hl.1 rfl (Nat.le_of_ble_eq_true rfl) dL_law_238 ⟨Nat.le_of_ble_eq_true rfl, Nat.le_of_ble_eq_true rfl⟩ 241 rfl (rs' := [[tbO tb qn qb r x h o], stW G qn (saiV v b9 d9 s9), stW G qb v, [(r, .inr (3, [.ref (qn 0)]))], [sxA x cu qn (besK v k).1], [arL G cu 5 (besK v k).2], hiW G h pa sn (actN (saiR v b9 d9 s9) n) (actS (saiR v b9 d9 s9) n S) (actG (saiR v b9 d9 s9) n g v) false, stW G sn v0Z, [orO G o sg 0], [arC G sg 60 (fun _ => 0)]]) rfl (fun H locs hW hkeep => ?_)
              refine z_top (b := .int (iI (1))) (congrArg (fun z => Value.int (iI z)) (rfl)) ?_
              refine z_goto C dL_law_241 283 (by decide) ?_
              exact J283 (actS (saiR v b9 d9 s9) n S) (saiV v b9 d9 s9) v (actG (saiR v b9 d9 s9) n g v) (actN (saiR v b9 d9 s9) n) (besK v k) ((i.sai b9 d9 s9)) (act_rng (by omega)) (sai_127 w0 (err_is (by omega) (by omega) (by omega))) _ _ hW ls (lv_sub hl [4, 5, 6, 7, 8] rfl)
          · exfalso; omega
    · skip
      refine z_bipush C dL_law_165 (by decide) 167 rfl ?_
      refine z_goto C dL_law_167 174 (by decide) ?_
      refine z_is C hl dL_law_174 176 rfl (by decide) (lv' := [(6, .int (iI (-5))), (5, .int (iI (0))), (4, .int (iI (v 127))), (3, .int (celX xs L ee)), (2, .int (iI (ee))), (1, .ref (tb)), (0, .ref (b))]) rfl (fun ls hl => ?_)
      refine z_il_n C hl dL_law_176 3 rfl 177 rfl ?_
      refine z_iconst C dL_law_177 178 rfl ?_
      refine z_iand C dL_law_178 179 rfl ?_
      refine z_top (b := .int (iI (((celX xs L ee).toBitVec.toNat % 2 ^ 2 : Nat)))) (congrArg Value.int (and_ex _ 2 3 (by decide))) ?_
      refine z_if_ne C dL_law_179 191 182 (by decide) rfl (by omega) (fun c179 => ?_) (fun c179 => ?_)
      · skip
        refine z_iconst C dL_law_191 192 rfl ?_
        refine z_is C hl dL_law_192 194 rfl (by decide) (lv' := [(7, .int (iI (0))), (6, .int (iI (-5))), (5, .int (iI (0))), (4, .int (iI (v 127))), (3, .int (celX xs L ee)), (2, .int (iI (ee))), (1, .ref (tb)), (0, .ref (b))]) rfl (fun ls hl => ?_)
        refine z_il C hl dL_law_194 3 rfl 196 rfl ?_
        refine z_if_eq C dL_law_196 207 199 (by decide) rfl (by omega) (fun c196 => ?_) (fun c196 => ?_)
        · skip
          refine z_iconst C dL_law_207 208 rfl ?_
          refine z_goto C dL_law_208 212 (by decide) ?_
          refine z_is C hl dL_law_212 214 rfl (by decide) (lv' := [(8, .int (iI (1))), (7, .int (iI (0))), (6, .int (iI (-5))), (5, .int (iI (0))), (4, .int (iI (v 127))), (3, .int (celX xs L ee)), (2, .int (iI (ee))), (1, .ref (tb)), (0, .ref (b))]) rfl (fun ls hl => ?_)
          refine z_il C hl dL_law_214 1 rfl 216 rfl ?_
          refine z_if_eq C dL_law_216 244 219 (by decide) rfl (by omega) (fun c216 => ?_) (fun c216 => ?_)
          · skip
            refine z_il C hl dL_law_244 0 rfl 246 rfl ?_
            refine z_if_eq C dL_law_246 259 249 (by decide) rfl (by omega) (fun c246 => ?_) (fun c246 => ?_)
            · exfalso; omega
            · skip
              refine z_al_n C hl dL_law_249 7 rfl 250 rfl ?_
              refine z_iconst C dL_law_250 251 rfl ?_
              refine z_iconst C dL_law_251 252 rfl ?_
              refine z_iconst C dL_law_252 253 rfl ?_
              refine z_SWi (r := .int (iI (bZ (true)))) (rest := []) C (m_lwWait l G tb r x cu h pa o sg qn qb sn S u v g n i (by omega) (gD_rg hW.2.1 [0, 3, 1, 2, 6, 8] (by decide) rfl)) kS_L_91 ⟨Nat.le_of_ble_eq_true rfl, Nat.le_of_ble_eq_true rfl⟩ hW hK [0, 3, 1, 2, 6, 8] rfl ((sameA_eq rfl (sameA_eq rfl (sameA_eq rfl (sameA_eq rfl (sameA_cons (hi_permA _ _) (sameA_eq rfl sameA_nil))))))) rfl hl.1 rfl (Nat.le_of_ble_eq_true rfl) dL_law_253 ⟨Nat.le_of_ble_eq_true rfl, Nat.le_of_ble_eq_true rfl⟩ 256 rfl (rs' := [[tbO tb qn qb r x h o], stW G qn (waiV v), stW G qb v, [(r, .inr (3, [.ref (qn 0)]))], [sxA x cu qn k.1], [arL G cu 5 k.2], hiW G h pa sn (actN (waiR v) n) (actS (waiR v) n S) (actG (waiR v) n g v) false, stW G sn v0Z, [orO G o sg 0], [arC G sg 60 (fun _ => 0)]]) rfl (fun H locs hW hkeep => ?_)
              refine z_top (b := .int (iI (1))) (congrArg (fun z => Value.int (iI z)) (rfl)) ?_
              refine z_goto C dL_law_256 283 (by decide) ?_
              exact J283 (actS (waiR v) n S) (waiV v) v (actG (waiR v) n g v) (actN (waiR v) n) k ((i.wai)) (act_rng (by omega)) (wai_127 w0) _ _ hW ls (lv_sub hl [4, 5, 6, 7, 8] rfl)
          · exfalso; omega
        · exfalso; omega
      · skip
        refine z_il C hl dL_law_182 0 rfl 184 rfl ?_
        refine z_if_lt C dL_law_184 191 187 (by decide) rfl (by omega) (fun c184 => ?_) (fun c184 => ?_)
        · skip
          refine z_iconst C dL_law_191 192 rfl ?_
          refine z_is C hl dL_law_192 194 rfl (by decide) (lv' := [(7, .int (iI (0))), (6, .int (iI (-5))), (5, .int (iI (0))), (4, .int (iI (v 127))), (3, .int (celX xs L ee)), (2, .int (iI (ee))), (1, .ref (tb)), (0, .ref (b))]) rfl (fun ls hl => ?_)
          refine z_il C hl dL_law_194 3 rfl 196 rfl ?_
          refine z_if_eq C dL_law_196 207 199 (by decide) rfl (by omega) (fun c196 => ?_) (fun c196 => ?_)
          · skip
            refine z_iconst C dL_law_207 208 rfl ?_
            refine z_goto C dL_law_208 212 (by decide) ?_
            refine z_is C hl dL_law_212 214 rfl (by decide) (lv' := [(8, .int (iI (1))), (7, .int (iI (0))), (6, .int (iI (-5))), (5, .int (iI (0))), (4, .int (iI (v 127))), (3, .int (celX xs L ee)), (2, .int (iI (ee))), (1, .ref (tb)), (0, .ref (b))]) rfl (fun ls hl => ?_)
            refine z_il C hl dL_law_214 1 rfl 216 rfl ?_
            refine z_if_eq C dL_law_216 244 219 (by decide) rfl (by omega) (fun c216 => ?_) (fun c216 => ?_)
            · skip
              refine z_il C hl dL_law_244 0 rfl 246 rfl ?_
              refine z_if_eq C dL_law_246 259 249 (by decide) rfl (by omega) (fun c246 => ?_) (fun c246 => ?_)
              · exfalso; omega
              · skip
                refine z_al_n C hl dL_law_249 7 rfl 250 rfl ?_
                refine z_iconst C dL_law_250 251 rfl ?_
                refine z_iconst C dL_law_251 252 rfl ?_
                refine z_iconst C dL_law_252 253 rfl ?_
                refine z_SWi (r := .int (iI (bZ (true)))) (rest := []) C (m_lwWait l G tb r x cu h pa o sg qn qb sn S u v g n i (by omega) (gD_rg hW.2.1 [0, 3, 1, 2, 6, 8] (by decide) rfl)) kS_L_91 ⟨Nat.le_of_ble_eq_true rfl, Nat.le_of_ble_eq_true rfl⟩ hW hK [0, 3, 1, 2, 6, 8] rfl ((sameA_eq rfl (sameA_eq rfl (sameA_eq rfl (sameA_eq rfl (sameA_cons (hi_permA _ _) (sameA_eq rfl sameA_nil))))))) rfl hl.1 rfl (Nat.le_of_ble_eq_true rfl) dL_law_253 ⟨Nat.le_of_ble_eq_true rfl, Nat.le_of_ble_eq_true rfl⟩ 256 rfl (rs' := [[tbO tb qn qb r x h o], stW G qn (waiV v), stW G qb v, [(r, .inr (3, [.ref (qn 0)]))], [sxA x cu qn k.1], [arL G cu 5 k.2], hiW G h pa sn (actN (waiR v) n) (actS (waiR v) n S) (actG (waiR v) n g v) false, stW G sn v0Z, [orO G o sg 0], [arC G sg 60 (fun _ => 0)]]) rfl (fun H locs hW hkeep => ?_)
                refine z_top (b := .int (iI (1))) (congrArg (fun z => Value.int (iI z)) (rfl)) ?_
                refine z_goto C dL_law_256 283 (by decide) ?_
                exact J283 (actS (waiR v) n S) (waiV v) v (actG (waiR v) n g v) (actN (waiR v) n) k ((i.wai)) (act_rng (by omega)) (wai_127 w0) _ _ hW ls (lv_sub hl [4, 5, 6, 7, 8] rfl)
            · exfalso; omega
          · exfalso; omega
        · exfalso; omega

set_option maxHeartbeats 16000000 in
set_option maxRecDepth 100000 in
theorem law_102 (l : Launch) {p : Program} {e : Env} {s : State} {m : MethodId} {below : List Frame} {meth : Method} {c : Code} {G : gT} {b tb r x cu h pa o sg : Nat} {qn qb sn : Nat → Nat} {L : Nat} {xs : Nat → Int32} {E : eT} (C : CX p s m #[Value.ref b] meth c RL cL_law 10 ret) (hK : gK G s) (hE : EV E (fun q => s.heap.size ≤ q) s s.heap) (hX : va_X b L xs s s.heap) (hbl : b < s.heap.size) (hL : L ≤ 260) {ee : Int} (K : LQ p l e s m below meth c G b tb r x cu h pa o sg qn qb sn (fun _ => True) 80 121) : LQ p l e s m below meth c G b tb r x cu h pa o sg qn qb sn (fun _ => True) ee 102 := by
  intro S v u g n k H locs ls i hn9 hP9 hW hl
  have hW : Wd G (fun q => s.heap.size ≤ q) [[tbO tb qn qb r x h o], stW G qn v, stW G qb u, [(r, .inr (3, [.ref (qn 0)]))], [sxA x cu qn k.1], [arL G cu 5 k.2], hiW G h pa sn n S g false, stW G sn v0Z, [orO G o sg 0], [arC G sg 60 (fun _ => 0)]] s.heap H locs := hW
  have w0 := i.w
  have hn := w0.n
  have ht := w0.t
  refine z_al_n C hl dL_law_102 1 rfl 103 rfl ?_
  refine z_SR (r := .int (iI (bZ (true)))) (rest := []) C (m_isBoard l G tb r x cu h pa o sg qn qb sn S v g n i) kS_L_88 ⟨Nat.le_of_ble_eq_true rfl, Nat.le_of_ble_eq_true rfl⟩ (gP_rg hW.1 [0, 3, 1, 6, 8] rfl) hK rfl hl.1 rfl (Nat.le_of_ble_eq_true rfl) dL_law_103 ⟨Nat.le_of_ble_eq_true rfl, Nat.le_of_ble_eq_true rfl⟩ 106 rfl ?_
  refine z_top (b := .int (iI (1))) (congrArg (fun z => Value.int (iI z)) (rfl)) ?_
  refine z_if_eq C dL_law_106 116 109 (by decide) rfl (by omega) (fun c106 => ?_) (fun c106 => ?_)
  · exfalso; omega
  · skip
    refine z_al_n C hl dL_law_109 1 rfl 110 rfl ?_
    refine z_SR (r := .int (iI (bZ (true)))) (rest := []) C (m_areCells l G tb r x cu h pa o sg qn qb sn S v g n i) kS_L_76 ⟨Nat.le_of_ble_eq_true rfl, Nat.le_of_ble_eq_true rfl⟩ (gP_rg hW.1 [0, 3, 1, 6, 8] rfl) hK rfl hl.1 rfl (Nat.le_of_ble_eq_true rfl) dL_law_110 ⟨Nat.le_of_ble_eq_true rfl, Nat.le_of_ble_eq_true rfl⟩ 113 rfl ?_
    refine z_top (b := .int (iI (1))) (congrArg (fun z => Value.int (iI z)) (rfl)) ?_
    refine z_if_ne C dL_law_113 118 116 (by decide) rfl (by omega) (fun c113 => ?_) (fun c113 => ?_)
    · skip
      refine z_bipush C dL_law_118 (by decide) 120 rfl ?_
      refine z_is_n C hl dL_law_120 121 rfl (by decide) (lv' := [(2, .int (iI (80))), (1, .ref (tb)), (0, .ref (b))]) rfl (fun ls hl => ?_)
      exact K S v u g n k _ _ ls i (by omega) trivial hW (lv_sub hl [0, 1, 2] rfl)
    · exfalso; omega

set_option maxHeartbeats 16000000 in
set_option maxRecDepth 100000 in
theorem law_71 (l : Launch) {p : Program} {e : Env} {s : State} {m : MethodId} {below : List Frame} {meth : Method} {c : Code} {G : gT} {b tb r x cu h pa o sg : Nat} {qn qb sn : Nat → Nat} {L : Nat} {xs : Nat → Int32} {E : eT} (C : CX p s m #[Value.ref b] meth c RL cL_law 10 ret) (hK : gK G s) (hE : EV E (fun q => s.heap.size ≤ q) s s.heap) (hX : va_X b L xs s s.heap) (hbl : b < s.heap.size) (hL : L ≤ 260) {ee : Int} (he9 : 0 ≤ ee ∧ ee < 40) (K : LQ p l e s m below meth c G b tb r x cu h pa o sg qn qb sn (fun v => v 126 = 0) ee 96) : LQ p l e s m below meth c G b tb r x cu h pa o sg qn qb sn (fun v => v 126 = 0) ee 71 := by
  intro S v u g n k H locs ls i hn9 hP9 hW hl
  have hW : Wd G (fun q => s.heap.size ≤ q) [[tbO tb qn qb r x h o], stW G qn v, stW G qb u, [(r, .inr (3, [.ref (qn 0)]))], [sxA x cu qn k.1], [arL G cu 5 k.2], hiW G h pa sn n S g false, stW G sn v0Z, [orO G o sg 0], [arC G sg 60 (fun _ => 0)]] s.heap H locs := hW
  have w0 := i.w
  have hn := w0.n
  have ht := w0.t
  have hP9 : v 126 = 0 := hP9
  refine z_al_n C hl dL_law_71 1 rfl 72 rfl ?_
  refine z_al_n C hl dL_law_72 2 rfl 73 rfl ?_
  refine z_iconst C dL_law_73 74 rfl ?_
  refine z_il_n C hl dL_law_74 0 rfl 75 rfl ?_
  refine z_imul C dL_law_75 76 rfl (2 * ee) (rfl) ?_
  refine z_SRz (r := .int (celX xs L (2 * ee))) (rest := [.ref (tb)]) C (m_cell l G b L xs (2 * ee) (by omega) (by omega)) kS_L_80 ⟨Nat.le_of_ble_eq_true rfl, Nat.le_of_ble_eq_true rfl⟩ (gP_nil) hK zx_blind (zx_of hX hbl hW.2.2.2) rfl hl.1 rfl (Nat.le_of_ble_eq_true rfl) dL_law_76 ⟨Nat.le_of_ble_eq_true rfl, Nat.le_of_ble_eq_true rfl⟩ 79 rfl ?_
  refine z_al_n C hl dL_law_79 2 rfl 80 rfl ?_
  refine z_iconst C dL_law_80 81 rfl ?_
  refine z_il_n C hl dL_law_81 0 rfl 82 rfl ?_
  refine z_imul C dL_law_82 83 rfl (2 * ee) (rfl) ?_
  refine z_iconst C dL_law_83 84 rfl ?_
  refine z_iadd C dL_law_84 85 rfl (1 + 2 * ee) (by omega) ?_
  refine z_SRz (r := .int (celX xs L (1 + 2 * ee))) (rest := [.int (celX xs L (2 * ee)), .ref (tb)]) C (m_cell l G b L xs (1 + 2 * ee) (by omega) (by omega)) kS_L_80 ⟨Nat.le_of_ble_eq_true rfl, Nat.le_of_ble_eq_true rfl⟩ (gP_nil) hK zx_blind (zx_of hX hbl hW.2.2.2) rfl hl.1 rfl (Nat.le_of_ble_eq_true rfl) dL_law_85 ⟨Nat.le_of_ble_eq_true rfl, Nat.le_of_ble_eq_true rfl⟩ 88 rfl ?_
  obtain ⟨t9, ht9, et9⟩ := and3_ex (celX xs L (2 * ee))
  have ra := lowZ_rng (celX xs L (1 + 2 * ee)) (n := 36) (by omega)
  have rb := lowZ_rng (celX xs L (1 + 2 * ee)) (n := 4) (by omega)
  rcases (show t9 = 0 ∨ t9 = 1 ∨ t9 = 2 ∨ t9 = 3 by omega) with e9 | e9 | e9 | e9
  · skip
    rw [e9] at et9
    refine z_SWi (r := .int (iI (bZ (true)))) (rest := []) C (m_lwLay0 l G tb r x cu h pa o sg qn qb sn S u v g n (celX xs L (2 * ee)) (celX xs L (1 + 2 * ee)) i (by omega) hP9 et9 (gD_rg hW.2.1 [0, 3, 1, 2, 6, 8] (by decide) rfl)) kS_L_84 ⟨Nat.le_of_ble_eq_true rfl, Nat.le_of_ble_eq_true rfl⟩ hW hK [0, 3, 1, 2, 6, 8] rfl ((sameA_eq rfl (sameA_eq rfl (sameA_eq rfl (sameA_eq rfl (sameA_cons (hi_permA _ _) (sameA_eq rfl sameA_nil))))))) rfl hl.1 rfl (Nat.le_of_ble_eq_true rfl) dL_law_88 ⟨Nat.le_of_ble_eq_true rfl, Nat.le_of_ble_eq_true rfl⟩ 91 rfl (rs' := [[tbO tb qn qb r x h o], stW G qn (layV v (lowZ (celX xs L (1 + 2 * ee)) 36) (lowZ ((celX xs L (1 + 2 * ee)) >>> (iI (6) &&& 31)) 4) (bZ (decide (lwK (celX xs L (1 + 2 * ee)) = 0)))), stW G qb v, [(r, .inr (3, [.ref (qn 0)]))], [sxA x cu qn k.1], [arL G cu 5 k.2], hiW G h pa sn (actN (layR v (lowZ (celX xs L (1 + 2 * ee)) 36) (lowZ ((celX xs L (1 + 2 * ee)) >>> (iI (6) &&& 31)) 4) (bZ (decide (lwK (celX xs L (1 + 2 * ee)) = 0)))) n) (actS (layR v (lowZ (celX xs L (1 + 2 * ee)) 36) (lowZ ((celX xs L (1 + 2 * ee)) >>> (iI (6) &&& 31)) 4) (bZ (decide (lwK (celX xs L (1 + 2 * ee)) = 0)))) n S) (actG (layR v (lowZ (celX xs L (1 + 2 * ee)) 36) (lowZ ((celX xs L (1 + 2 * ee)) >>> (iI (6) &&& 31)) 4) (bZ (decide (lwK (celX xs L (1 + 2 * ee)) = 0)))) n g v) false, stW G sn v0Z, [orO G o sg 0], [arC G sg 60 (fun _ => 0)]]) rfl (fun H locs hW hkeep => ?_)
    refine z_top (b := .int (iI (1))) (congrArg (fun z => Value.int (iI z)) (rfl)) ?_
    refine z_if_ne C dL_law_91 96 94 (by decide) rfl (by omega) (fun c91 => ?_) (fun c91 => ?_)
    · skip
      exact K (actS (layR v (lowZ (celX xs L (1 + 2 * ee)) 36) (lowZ ((celX xs L (1 + 2 * ee)) >>> (iI (6) &&& 31)) 4) (bZ (decide (lwK (celX xs L (1 + 2 * ee)) = 0)))) n S) (layV v (lowZ (celX xs L (1 + 2 * ee)) 36) (lowZ ((celX xs L (1 + 2 * ee)) >>> (iI (6) &&& 31)) 4) (bZ (decide (lwK (celX xs L (1 + 2 * ee)) = 0)))) v (actG (layR v (lowZ (celX xs L (1 + 2 * ee)) 36) (lowZ ((celX xs L (1 + 2 * ee)) >>> (iI (6) &&& 31)) 4) (bZ (decide (lwK (celX xs L (1 + 2 * ee)) = 0)))) n g v) (actN (layR v (lowZ (celX xs L (1 + 2 * ee)) 36) (lowZ ((celX xs L (1 + 2 * ee)) >>> (iI (6) &&& 31)) 4) (bZ (decide (lwK (celX xs L (1 + 2 * ee)) = 0)))) n) k _ _ ls (i.lay (lowZ (celX xs L (1 + 2 * ee)) 36) (lowZ ((celX xs L (1 + 2 * ee)) >>> (iI (6) &&& 31)) 4) (bZ (decide (lwK (celX xs L (1 + 2 * ee)) = 0))) (bZ_rng _)) (act_rng hn9) ((lay_126 (by omega) (by omega)).trans hP9) hW (lv_sub hl [0, 1, 2] rfl)
    · exfalso; omega
  · skip
    rw [e9] at et9
    refine z_SWi (r := .int (iI (bZ (true)))) (rest := []) C (m_lwLay1 l G tb r x cu h pa o sg qn qb sn S u v g n (celX xs L (2 * ee)) (celX xs L (1 + 2 * ee)) i (by omega) hP9 et9 (gD_rg hW.2.1 [0, 3, 1, 2, 6, 8] (by decide) rfl)) kS_L_84 ⟨Nat.le_of_ble_eq_true rfl, Nat.le_of_ble_eq_true rfl⟩ hW hK [0, 3, 1, 2, 6, 8] rfl ((sameA_eq rfl (sameA_eq rfl (sameA_eq rfl (sameA_eq rfl (sameA_cons (hi_permA _ _) (sameA_eq rfl sameA_nil))))))) rfl hl.1 rfl (Nat.le_of_ble_eq_true rfl) dL_law_88 ⟨Nat.le_of_ble_eq_true rfl, Nat.le_of_ble_eq_true rfl⟩ 91 rfl (rs' := [[tbO tb qn qb r x h o], stW G qn (layV v (lowZ (celX xs L (1 + 2 * ee)) 36) (lowZ ((celX xs L (1 + 2 * ee)) >>> (iI (6) &&& 31)) 4) (bZ (decide (lwK (celX xs L (1 + 2 * ee)) = 0)))), stW G qb v, [(r, .inr (3, [.ref (qn 0)]))], [sxA x cu qn k.1], [arL G cu 5 k.2], hiW G h pa sn (actN (layR v (lowZ (celX xs L (1 + 2 * ee)) 36) (lowZ ((celX xs L (1 + 2 * ee)) >>> (iI (6) &&& 31)) 4) (bZ (decide (lwK (celX xs L (1 + 2 * ee)) = 0)))) n) (actS (layR v (lowZ (celX xs L (1 + 2 * ee)) 36) (lowZ ((celX xs L (1 + 2 * ee)) >>> (iI (6) &&& 31)) 4) (bZ (decide (lwK (celX xs L (1 + 2 * ee)) = 0)))) n S) (actG (layR v (lowZ (celX xs L (1 + 2 * ee)) 36) (lowZ ((celX xs L (1 + 2 * ee)) >>> (iI (6) &&& 31)) 4) (bZ (decide (lwK (celX xs L (1 + 2 * ee)) = 0)))) n g v) false, stW G sn v0Z, [orO G o sg 0], [arC G sg 60 (fun _ => 0)]]) rfl (fun H locs hW hkeep => ?_)
    refine z_top (b := .int (iI (1))) (congrArg (fun z => Value.int (iI z)) (rfl)) ?_
    refine z_if_ne C dL_law_91 96 94 (by decide) rfl (by omega) (fun c91 => ?_) (fun c91 => ?_)
    · skip
      exact K (actS (layR v (lowZ (celX xs L (1 + 2 * ee)) 36) (lowZ ((celX xs L (1 + 2 * ee)) >>> (iI (6) &&& 31)) 4) (bZ (decide (lwK (celX xs L (1 + 2 * ee)) = 0)))) n S) (layV v (lowZ (celX xs L (1 + 2 * ee)) 36) (lowZ ((celX xs L (1 + 2 * ee)) >>> (iI (6) &&& 31)) 4) (bZ (decide (lwK (celX xs L (1 + 2 * ee)) = 0)))) v (actG (layR v (lowZ (celX xs L (1 + 2 * ee)) 36) (lowZ ((celX xs L (1 + 2 * ee)) >>> (iI (6) &&& 31)) 4) (bZ (decide (lwK (celX xs L (1 + 2 * ee)) = 0)))) n g v) (actN (layR v (lowZ (celX xs L (1 + 2 * ee)) 36) (lowZ ((celX xs L (1 + 2 * ee)) >>> (iI (6) &&& 31)) 4) (bZ (decide (lwK (celX xs L (1 + 2 * ee)) = 0)))) n) k _ _ ls (i.lay (lowZ (celX xs L (1 + 2 * ee)) 36) (lowZ ((celX xs L (1 + 2 * ee)) >>> (iI (6) &&& 31)) 4) (bZ (decide (lwK (celX xs L (1 + 2 * ee)) = 0))) (bZ_rng _)) (act_rng hn9) ((lay_126 (by omega) (by omega)).trans hP9) hW (lv_sub hl [0, 1, 2] rfl)
    · exfalso; omega
  · skip
    rw [e9] at et9
    refine z_SWi (r := .int (iI (bZ (true)))) (rest := []) C (m_lwLay2 l G tb r x cu h pa o sg qn qb sn S u v g n (celX xs L (2 * ee)) (celX xs L (1 + 2 * ee)) i (by omega) hP9 et9 (gD_rg hW.2.1 [0, 3, 1, 2, 6, 8] (by decide) rfl)) kS_L_84 ⟨Nat.le_of_ble_eq_true rfl, Nat.le_of_ble_eq_true rfl⟩ hW hK [0, 3, 1, 2, 6, 8] rfl ((sameA_eq rfl (sameA_eq rfl (sameA_eq rfl (sameA_eq rfl (sameA_cons (hi_permA _ _) (sameA_eq rfl sameA_nil))))))) rfl hl.1 rfl (Nat.le_of_ble_eq_true rfl) dL_law_88 ⟨Nat.le_of_ble_eq_true rfl, Nat.le_of_ble_eq_true rfl⟩ 91 rfl (rs' := [[tbO tb qn qb r x h o], stW G qn (addV v (lwP (celX xs L (1 + 2 * ee))) (1 + lowZ ((celX xs L (1 + 2 * ee)) >>> (iI (13) &&& 31)) 2) (lowZ (celX xs L (1 + 2 * ee)) 36)), stW G qb v, [(r, .inr (3, [.ref (qn 0)]))], [sxA x cu qn k.1], [arL G cu 5 k.2], hiW G h pa sn (actN (addR v (lwP (celX xs L (1 + 2 * ee))) (1 + lowZ ((celX xs L (1 + 2 * ee)) >>> (iI (13) &&& 31)) 2) (lowZ (celX xs L (1 + 2 * ee)) 36)) n) (actS (addR v (lwP (celX xs L (1 + 2 * ee))) (1 + lowZ ((celX xs L (1 + 2 * ee)) >>> (iI (13) &&& 31)) 2) (lowZ (celX xs L (1 + 2 * ee)) 36)) n S) (actG (addR v (lwP (celX xs L (1 + 2 * ee))) (1 + lowZ ((celX xs L (1 + 2 * ee)) >>> (iI (13) &&& 31)) 2) (lowZ (celX xs L (1 + 2 * ee)) 36)) n g v) false, stW G sn v0Z, [orO G o sg 0], [arC G sg 60 (fun _ => 0)]]) rfl (fun H locs hW hkeep => ?_)
    refine z_top (b := .int (iI (1))) (congrArg (fun z => Value.int (iI z)) (rfl)) ?_
    refine z_if_ne C dL_law_91 96 94 (by decide) rfl (by omega) (fun c91 => ?_) (fun c91 => ?_)
    · skip
      exact K (actS (addR v (lwP (celX xs L (1 + 2 * ee))) (1 + lowZ ((celX xs L (1 + 2 * ee)) >>> (iI (13) &&& 31)) 2) (lowZ (celX xs L (1 + 2 * ee)) 36)) n S) (addV v (lwP (celX xs L (1 + 2 * ee))) (1 + lowZ ((celX xs L (1 + 2 * ee)) >>> (iI (13) &&& 31)) 2) (lowZ (celX xs L (1 + 2 * ee)) 36)) v (actG (addR v (lwP (celX xs L (1 + 2 * ee))) (1 + lowZ ((celX xs L (1 + 2 * ee)) >>> (iI (13) &&& 31)) 2) (lowZ (celX xs L (1 + 2 * ee)) 36)) n g v) (actN (addR v (lwP (celX xs L (1 + 2 * ee))) (1 + lowZ ((celX xs L (1 + 2 * ee)) >>> (iI (13) &&& 31)) 2) (lowZ (celX xs L (1 + 2 * ee)) 36)) n) k _ _ ls (i.add (lwP (celX xs L (1 + 2 * ee))) (1 + lowZ ((celX xs L (1 + 2 * ee)) >>> (iI (13) &&& 31)) 2) (lowZ (celX xs L (1 + 2 * ee)) 36)) (act_rng hn9) ((add_126 w0).trans hP9) hW (lv_sub hl [0, 1, 2] rfl)
    · exfalso; omega
  · skip
    rw [e9] at et9
    refine z_SWzi (r := .int (iI (bZ (true)))) (rest := []) C (m_lwLay3 l G E tb r x cu h pa o sg qn qb sn S u v g n (celX xs L (2 * ee)) (celX xs L (1 + 2 * ee)) i (by omega) hP9 et9 (gD_rg hW.2.1 [0, 3, 1, 2, 6, 8] (by decide) rfl)) kS_L_84 ⟨Nat.le_of_ble_eq_true rfl, Nat.le_of_ble_eq_true rfl⟩ hW hK [0, 3, 1, 2, 6, 8] rfl ((sameA_eq rfl (sameA_eq rfl (sameA_eq rfl (sameA_eq rfl (sameA_cons (hi_permA _ _) (sameA_eq rfl sameA_nil))))))) zw_blind (zw_of hE hW.2.2.2 (hW.in [0, 3, 1, 2, 6, 8] rfl)) rfl hl.1 rfl (Nat.le_of_ble_eq_true rfl) dL_law_88 ⟨Nat.le_of_ble_eq_true rfl, Nat.le_of_ble_eq_true rfl⟩ 91 rfl (rs' := [[tbO tb qn qb r x h o], stW G qn (chsV v (lowZ (celX xs L (1 + 2 * ee)) 4) (valW (celX xs L (1 + 2 * ee)))), stW G qb v, [(r, .inr (3, [.ref (qn 0)]))], [sxA x cu qn k.1], [arL G cu 5 k.2], hiW G h pa sn (actN (chsR v (lowZ (celX xs L (1 + 2 * ee)) 4) (valW (celX xs L (1 + 2 * ee)))) n) (actS (chsR v (lowZ (celX xs L (1 + 2 * ee)) 4) (valW (celX xs L (1 + 2 * ee)))) n S) (actG (chsR v (lowZ (celX xs L (1 + 2 * ee)) 4) (valW (celX xs L (1 + 2 * ee)))) n g v) false, stW G sn v0Z, [orO G o sg 0], [arC G sg 60 (fun _ => 0)]]) rfl (fun H locs hW hkeep => ?_)
    refine z_top (b := .int (iI (1))) (congrArg (fun z => Value.int (iI z)) (rfl)) ?_
    refine z_if_ne C dL_law_91 96 94 (by decide) rfl (by omega) (fun c91 => ?_) (fun c91 => ?_)
    · skip
      exact K (actS (chsR v (lowZ (celX xs L (1 + 2 * ee)) 4) (valW (celX xs L (1 + 2 * ee)))) n S) (chsV v (lowZ (celX xs L (1 + 2 * ee)) 4) (valW (celX xs L (1 + 2 * ee)))) v (actG (chsR v (lowZ (celX xs L (1 + 2 * ee)) 4) (valW (celX xs L (1 + 2 * ee)))) n g v) (actN (chsR v (lowZ (celX xs L (1 + 2 * ee)) 4) (valW (celX xs L (1 + 2 * ee)))) n) k _ _ ls (i.chs (lowZ (celX xs L (1 + 2 * ee)) 4) (valW (celX xs L (1 + 2 * ee)))) (act_rng hn9) ((chs_126 (by omega) (by omega)).trans hP9) hW (lv_sub hl [0, 1, 2] rfl)
    · exfalso; omega

set_option maxHeartbeats 16000000 in
set_option maxRecDepth 100000 in
theorem law_8 (l : Launch) {p : Program} {e : Env} {s : State} {m : MethodId} {below : List Frame} {meth : Method} {c : Code} {G : gT} {b tb r x cu h pa o sg : Nat} {qn qb sn : Nat → Nat} {L : Nat} {xs : Nat → Int32} {E : eT} (C : CX p s m #[Value.ref b] meth c RL cL_law 10 ret) (hK : gK G s) (hE : EV E (fun q => s.heap.size ≤ q) s s.heap) (hX : va_X b L xs s s.heap) (hbl : b < s.heap.size) (hL : L ≤ 260) (K : LQ p l e s m below meth c G b tb r x cu h pa o sg qn qb sn (fun v => v 126 = 0) 0 65) (S : Nat → Nat → Nat) (H : Heap) (locs : List Loc) (ls : Array Slot) (hW : Wd G (fun q => s.heap.size ≤ q) (lwR G tb r x cu h pa o sg qn qb sn S v0Z v0Z (fun _ => v0Z) 0 lw0k) s.heap H locs) (hl : lv_has ls 10 [(1, .ref tb), (0, .ref b)]) : W p l e room_1 s m #[Value.ref b] below meth c H locs 64 1041 (lw_Z below #[Value.ref b] s) (F0 m 8 ls []) := by
  have hW : Wd G (fun q => s.heap.size ≤ q) [[tbO tb qn qb r x h o], stW G qn v0Z, stW G qb v0Z, [(r, .inr (3, [.ref (qn 0)]))], [sxA x cu qn lw0k.1], [arL G cu 5 lw0k.2], hiW G h pa sn 0 S (fun _ => v0Z) false, stW G sn v0Z, [orO G o sg 0], [arC G sg 60 (fun _ => 0)]] s.heap H locs := hW
  have w0 := Wf.v0
  have i := Ia.v0
  have ov0 : overB v0Z = true := by decide
  refine z_al_n C hl dL_law_8 0 rfl 9 rfl ?_
  refine z_bipush C dL_law_9 (by decide) 11 rfl ?_
  refine z_VR (r := .int (iI (cntR v0Z 0 0 11))) (rest := []) C (m_count l G tb r x cu h pa o sg qn qb sn S (fun _ => v0Z) 0 false v0Z 0 11 w0 (by omega)) kV_L_8 ⟨Nat.le_of_ble_eq_true rfl, Nat.le_of_ble_eq_true rfl⟩ (gP_rg hW.1 [0, 3, 1, 6, 8] rfl) hK 0 rfl rfl rfl hl.1 rfl (Nat.le_of_ble_eq_true rfl) dL_law_11 ⟨Nat.le_of_ble_eq_true rfl, Nat.le_of_ble_eq_true rfl⟩ 14 rfl ?_
  refine z_top (b := .int (iI (bZ (overB v0Z)))) (congrArg (fun z => Value.int (iI z)) (rfl)) ?_
  refine z_iconst C dL_law_14 15 rfl ?_
  refine z_icmp_ne C dL_law_15 61 18 (by decide) rfl (by have := bZ_rng (overB v0Z); omega) (fun c15 => ?_) (fun c15 => ?_)
  · exfalso; exact c15 (bZ_t ov0)
  · skip
    refine z_al_n C hl dL_law_18 0 rfl 19 rfl ?_
    refine z_VWi (r := .int (iI (waiR v0Z))) (rest := []) C (m_pause l G tb r x cu h pa o sg qn qb sn S (fun _ => v0Z) 0 false v0Z v0Z  (by omega) w0  (gD_rg hW.2.1 [0, 3, 1, 2, 6] (by decide) rfl)) kV_L_41 ⟨Nat.le_of_ble_eq_true rfl, Nat.le_of_ble_eq_true rfl⟩ hW hK [0, 3, 1, 2, 6] rfl ((sameA_eq rfl (sameA_eq rfl (sameA_eq rfl (sameA_eq rfl (sameA_cons (hi_permA _ _) sameA_nil)))))) 0 rfl rfl rfl hl.1 rfl (Nat.le_of_ble_eq_true rfl) dL_law_19 ⟨Nat.le_of_ble_eq_true rfl, Nat.le_of_ble_eq_true rfl⟩ 22 rfl (rs' := [[tbO tb qn qb r x h o], stW G qn (waiV v0Z), stW G qb v0Z, [(r, .inr (3, [.ref (qn 0)]))], [sxA x cu qn lw0k.1], [arL G cu 5 lw0k.2], hiW G h pa sn (actN (waiR v0Z) 0) (actS (waiR v0Z) 0 S) (actG (waiR v0Z) 0 (fun _ => v0Z) v0Z) false, stW G sn v0Z, [orO G o sg 0], [arC G sg 60 (fun _ => 0)]]) rfl (fun H locs hW hkeep => ?_)
    refine z_top (b := .int (iI (-4))) (congrArg (fun z => Value.int (iI z)) ((wai_over ov0).1)) ?_
    rw [(wai_over ov0).2, (wai_over ov0).1] at hW
    have hW := hW.re (rs' := [[tbO tb qn qb r x h o], stW G qn v0Z, stW G qb v0Z, [(r, .inr (3, [.ref (qn 0)]))], [sxA x cu qn lw0k.1], [arL G cu 5 lw0k.2], hiW G h pa sn 0 S (fun _ => v0Z) false, stW G sn v0Z, [orO G o sg 0], [arC G sg 60 (fun _ => 0)]]) rfl
    refine z_bipush C dL_law_22 (by decide) 24 rfl ?_
    refine z_icmp_ne C dL_law_24 61 27 (by decide) rfl (by omega) (fun c24 => ?_) (fun c24 => ?_)
    · exfalso; omega
    · skip
      refine z_al_n C hl dL_law_27 0 rfl 28 rfl ?_
      refine z_VWi (r := .int (iI (besR v0Z))) (rest := []) C (m_best l G tb r x cu h pa o sg qn qb sn v0Z lw0k w0 (gD_rg hW.2.1 [0, 3, 4, 5, 1] (by decide) rfl)) kV_L_53 ⟨Nat.le_of_ble_eq_true rfl, Nat.le_of_ble_eq_true rfl⟩ hW hK [0, 3, 4, 5, 1] rfl (sameA_of rfl) 0 rfl rfl rfl hl.1 rfl (Nat.le_of_ble_eq_true rfl) dL_law_28 ⟨Nat.le_of_ble_eq_true rfl, Nat.le_of_ble_eq_true rfl⟩ 31 rfl (rs' := [[tbO tb qn qb r x h o], stW G qn v0Z, stW G qb v0Z, [(r, .inr (3, [.ref (qn 0)]))], [sxA x cu qn (besK v0Z lw0k).1], [arL G cu 5 (besK v0Z lw0k).2], hiW G h pa sn 0 S (fun _ => v0Z) false, stW G sn v0Z, [orO G o sg 0], [arC G sg 60 (fun _ => 0)]]) rfl (fun H locs hW hkeep => ?_)
      have rb28 := besR_rng w0
      refine z_top (b := .int (iI (-4))) (congrArg (fun z => Value.int (iI z)) (bes_ov ov0)) ?_
      refine z_bipush C dL_law_31 (by decide) 33 rfl ?_
      refine z_icmp_ne C dL_law_33 61 36 (by decide) rfl (by omega) (fun c33 => ?_) (fun c33 => ?_)
      · exfalso; omega
      · skip
        refine z_al_n C hl dL_law_36 0 rfl 37 rfl ?_
        refine z_VWi (r := .int (iI (undR 0))) (rest := []) C (m_undo l G tb r x cu h pa o sg qn qb sn S (fun _ => v0Z) 0 false v0Z (by omega) (gD_rg hW.2.1 [0, 6, 1] (by decide) rfl)) kV_L_56 ⟨Nat.le_of_ble_eq_true rfl, Nat.le_of_ble_eq_true rfl⟩ hW hK [0, 6, 1] rfl (sameA_of rfl) 0 rfl rfl rfl hl.1 rfl (Nat.le_of_ble_eq_true rfl) dL_law_37 ⟨Nat.le_of_ble_eq_true rfl, Nat.le_of_ble_eq_true rfl⟩ 40 rfl (rs' := [[tbO tb qn qb r x h o], stW G qn (undV 0 (fun _ => v0Z) v0Z), stW G qb v0Z, [(r, .inr (3, [.ref (qn 0)]))], [sxA x cu qn (besK v0Z lw0k).1], [arL G cu 5 (besK v0Z lw0k).2], hiW G h pa sn (undN 0) S (fun _ => v0Z) false, stW G sn v0Z, [orO G o sg 0], [arC G sg 60 (fun _ => 0)]]) rfl (fun H locs hW hkeep => ?_)
        refine z_top (b := .int (iI (-5))) (congrArg (fun z => Value.int (iI z)) (rfl)) ?_
        have hW := hW.re (rs' := [[tbO tb qn qb r x h o], stW G qn v0Z, stW G qb v0Z, [(r, .inr (3, [.ref (qn 0)]))], [sxA x cu qn (besK v0Z lw0k).1], [arL G cu 5 (besK v0Z lw0k).2], hiW G h pa sn 0 S (fun _ => v0Z) false, stW G sn v0Z, [orO G o sg 0], [arC G sg 60 (fun _ => 0)]]) rfl
        refine z_bipush C dL_law_40 (by decide) 42 rfl ?_
        refine z_icmp_ne C dL_law_42 61 45 (by decide) rfl (by omega) (fun c42 => ?_) (fun c42 => ?_)
        · exfalso; omega
        · skip
          refine z_al_n C hl dL_law_45 0 rfl 46 rfl ?_
          refine z_VWi (r := .int (iI (rstR false v0Z))) (rest := []) C (m_restore l G tb r x cu h pa o sg qn qb sn S (fun _ => v0Z) 0 false v0Z v0Z v0Z (by omega) Wf.v0 (gD_rg hW.2.1 [0, 6, 7, 1, 2] (by decide) rfl)) kV_L_73 ⟨Nat.le_of_ble_eq_true rfl, Nat.le_of_ble_eq_true rfl⟩ hW hK [0, 6, 7, 1, 2] rfl ((sameA_eq rfl (sameA_cons (hi_permA _ _) (sameA_eq rfl (sameA_eq rfl (sameA_eq rfl sameA_nil)))))) 0 rfl rfl rfl hl.1 rfl (Nat.le_of_ble_eq_true rfl) dL_law_46 ⟨Nat.le_of_ble_eq_true rfl, Nat.le_of_ble_eq_true rfl⟩ 49 rfl (rs' := [[tbO tb qn qb r x h o], stW G qn (rstV false v0Z v0Z), stW G qb v0Z, [(r, .inr (3, [.ref (qn 0)]))], [sxA x cu qn (besK v0Z lw0k).1], [arL G cu 5 (besK v0Z lw0k).2], hiW G h pa sn (actN (rstR false v0Z) 0) (actS (rstR false v0Z) 0 S) (actG (rstR false v0Z) 0 (fun _ => v0Z) v0Z) false, stW G sn v0Z, [orO G o sg 0], [arC G sg 60 (fun _ => 0)]]) rfl (fun H locs hW hkeep => ?_)
          refine z_top (b := .int (iI (-5))) (congrArg (fun z => Value.int (iI z)) (rfl)) ?_
          have hW := hW.re (rs' := [[tbO tb qn qb r x h o], stW G qn v0Z, stW G qb v0Z, [(r, .inr (3, [.ref (qn 0)]))], [sxA x cu qn (besK v0Z lw0k).1], [arL G cu 5 (besK v0Z lw0k).2], hiW G h pa sn 0 S (fun _ => v0Z) false, stW G sn v0Z, [orO G o sg 0], [arC G sg 60 (fun _ => 0)]]) rfl
          refine z_bipush C dL_law_49 (by decide) 51 rfl ?_
          refine z_icmp_ne C dL_law_51 61 54 (by decide) rfl (by omega) (fun c51 => ?_) (fun c51 => ?_)
          · exfalso; omega
          · skip
            refine z_al_n C hl dL_law_54 0 rfl 55 rfl ?_
            refine z_SR (r := .int (iI (bZ (true)))) (rest := []) C (m_areCells l G tb r x cu h pa o sg qn qb sn S v0Z (fun _ => v0Z) 0 i) kS_L_76 ⟨Nat.le_of_ble_eq_true rfl, Nat.le_of_ble_eq_true rfl⟩ (gP_rg hW.1 [0, 3, 1, 6, 8] rfl) hK rfl hl.1 rfl (Nat.le_of_ble_eq_true rfl) dL_law_55 ⟨Nat.le_of_ble_eq_true rfl, Nat.le_of_ble_eq_true rfl⟩ 58 rfl ?_
            refine z_top (b := .int (iI (1))) (congrArg (fun z => Value.int (iI z)) (rfl)) ?_
            refine z_if_ne C dL_law_58 63 61 (by decide) rfl (by omega) (fun c58 => ?_) (fun c58 => ?_)
            · skip
              refine z_iconst C dL_law_63 64 rfl ?_
              refine z_is_n C hl dL_law_64 65 rfl (by decide) (lv' := [(2, .int (iI (0))), (1, .ref (tb)), (0, .ref (b))]) rfl (fun ls hl => ?_)
              exact K S v0Z v0Z (fun _ => v0Z) 0 (besK v0Z lw0k) _ _ ls Ia.v0 (by omega) (show v0Z 126 = 0 from rfl) hW (lv_sub hl [0, 1, 2] rfl)
            · exfalso; omega
