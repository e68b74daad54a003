set_option maxHeartbeats 4000000 in
set_option maxRecDepth 100000 in
theorem lc_12 (l : Launch) {p : Program} {e : Env} {s : State} {m : MethodId} {below : List Frame} {meth : Method} {c : Code} {Q : State → Prop} {G : gT} {b tb r x cu h pa o sg : Nat} {qn qb sn X : Nat → Nat} {i : Int} {L : Nat} {xs : Nat → Int32} {E : eT} (C : CX p s m #[Value.ref b] meth c RL cL_law 8 ret) (hK : gK G s) (hE : EV E (fun q => s.heap.size ≤ q) s s.heap) (hX : va_X b L xs s s.heap) (hbl : b < s.heap.size) (hL : L ≤ 2048) (hi : 0 ≤ i ∧ i + 4 ≤ L) (K : LK p l e s m below meth c Q G b tb r x cu h pa o sg qn qb sn X i 740) : LK p l e s m below meth c Q G b tb r x cu h pa o sg qn qb sn X i 430 := by
  intro S v u y sv sv' g g' n ln has tx k S1 T1 L1 A1 H locs ls hI hW hl
  obtain ⟨hn, w, wt, hag, wsv, hsv⟩ := id hI
  have hW : Wd G (fun q => s.heap.size ≤ q) [[tbO tb qn qb r x h o], stW G qn v, stW G qb u, [(r, .inr (3, [.ref (qn 0)]))], [sxA x cu qn k.1], [arL G cu 5 k.2], hiW G h pa sn n S g has, stW G sn sv, [orO G o sg ln], [arC G sg 60 tx], [moO X n has ln], [arI G (X 1) 258 (s2Z v y)], [arI G (X 2) 516 (paF g')], [arI G (X 3) 129 sv'], [arI G (X 4) 60 tx], [arB G (X 5) 36 S1], [arB G (X 6) 36 T1], [arI G (X 7) 36 L1], [arI G (X 8) 36 A1]] s.heap H locs := hW
  obtain ⟨a1, h1, e1⟩ := iI_ex (xs (i + 1).toNat)
  obtain ⟨a2, h2, e2⟩ := iI_ex (xs (i + 2).toNat)
  refine z_al_n C hl dL_law_430 2 rfl 431 rfl ?_
  refine z_al_n C hl dL_law_431 3 rfl 432 rfl ?_
  refine z_il_n C hl dL_law_432 0 rfl 433 rfl ?_
  refine z_iconst C dL_law_433 434 rfl ?_
  refine z_iadd C dL_law_434 435 rfl (i + 1) rfl ?_
  refine z_sld C hX hbl hW (by omega) hL e1 dL_law_435 436 rfl ?_
  refine z_al_n C hl dL_law_436 3 rfl 437 rfl ?_
  refine z_il_n C hl dL_law_437 0 rfl 438 rfl ?_
  refine z_iconst C dL_law_438 439 rfl ?_
  refine z_iadd C dL_law_439 440 rfl (i + 2) rfl ?_
  refine z_sld C hX hbl hW (by omega) hL e2 dL_law_440 441 rfl ?_
  refine z_VR (r := .int (iI (celR v a1 a2))) (rest := []) C (m_cellOf l G tb r x cu h pa o sg qn qb sn v a1 a2 w h1 h2) kV_L_66 ⟨Nat.le_of_ble_eq_true rfl, Nat.le_of_ble_eq_true rfl⟩ (gP_rg hW.1 [0, 1] rfl) hK 0 rfl rfl rfl hl.1 rfl (Nat.le_of_ble_eq_true rfl) dL_law_441 ⟨Nat.le_of_ble_eq_true rfl, Nat.le_of_ble_eq_true rfl⟩ 444 rfl ?_
  refine z_al_n C hl dL_law_444 1 rfl 445 rfl ?_
  refine z_al_n C hl dL_law_445 3 rfl 446 rfl ?_
  refine z_il_n C hl dL_law_446 0 rfl 447 rfl ?_
  refine z_iconst C dL_law_447 448 rfl ?_
  refine z_iadd C dL_law_448 449 rfl (i + 1) rfl ?_
  refine z_sld C hX hbl hW (by omega) hL e1 dL_law_449 450 rfl ?_
  refine z_al_n C hl dL_law_450 3 rfl 451 rfl ?_
  refine z_il_n C hl dL_law_451 0 rfl 452 rfl ?_
  refine z_iconst C dL_law_452 453 rfl ?_
  refine z_iadd C dL_law_453 454 rfl (i + 2) rfl ?_
  refine z_sld C hX hbl hW (by omega) hL e2 dL_law_454 455 rfl ?_
  refine z_VR (r := .int (iI (celR v a1 a2))) (rest := [.int (iI (celR v a1 a2))]) C (m_xcellOf l G X n ln has v y a1 a2 w h1 h2) kV_L_69 ⟨Nat.le_of_ble_eq_true rfl, Nat.le_of_ble_eq_true rfl⟩ (gP_rg hW.1 [10, 11] rfl) hK 0 rfl rfl rfl hl.1 rfl (Nat.le_of_ble_eq_true rfl) dL_law_455 ⟨Nat.le_of_ble_eq_true rfl, Nat.le_of_ble_eq_true rfl⟩ 458 rfl ?_
  refine z_same C dL_law_458 740 (by decide) ?_
  exact K S v u y sv sv' g g' n ln has tx k S1 T1 L1 A1 _ _ ls (hI) hW (hl)
set_option maxHeartbeats 4000000 in
set_option maxRecDepth 100000 in
theorem lc_13 (l : Launch) {p : Program} {e : Env} {s : State} {m : MethodId} {below : List Frame} {meth : Method} {c : Code} {Q : State → Prop} {G : gT} {b tb r x cu h pa o sg : Nat} {qn qb sn X : Nat → Nat} {i : Int} {L : Nat} {xs : Nat → Int32} {E : eT} (C : CX p s m #[Value.ref b] meth c RL cL_law 8 ret) (hK : gK G s) (hE : EV E (fun q => s.heap.size ≤ q) s s.heap) (hX : va_X b L xs s s.heap) (hbl : b < s.heap.size) (hL : L ≤ 2048) (hi : 0 ≤ i ∧ i + 4 ≤ L) (K : LK p l e s m below meth c Q G b tb r x cu h pa o sg qn qb sn X i 740) : LK p l e s m below meth c Q G b tb r x cu h pa o sg qn qb sn X i 463 := by
  intro S v u y sv sv' g g' n ln has tx k S1 T1 L1 A1 H locs ls hI hW hl
  obtain ⟨hn, w, wt, hag, wsv, hsv⟩ := id hI
  have hW : Wd G (fun q => s.heap.size ≤ q) [[tbO tb qn qb r x h o], stW G qn v, stW G qb u, [(r, .inr (3, [.ref (qn 0)]))], [sxA x cu qn k.1], [arL G cu 5 k.2], hiW G h pa sn n S g has, stW G sn sv, [orO G o sg ln], [arC G sg 60 tx], [moO X n has ln], [arI G (X 1) 258 (s2Z v y)], [arI G (X 2) 516 (paF g')], [arI G (X 3) 129 sv'], [arI G (X 4) 60 tx], [arB G (X 5) 36 S1], [arB G (X 6) 36 T1], [arI G (X 7) 36 L1], [arI G (X 8) 36 A1]] s.heap H locs := hW
  obtain ⟨a1, h1, e1⟩ := iI_ex (xs (i + 1).toNat)
  obtain ⟨a2, h2, e2⟩ := iI_ex (xs (i + 2).toNat)
  refine z_al_n C hl dL_law_463 2 rfl 464 rfl ?_
  refine z_al_n C hl dL_law_464 3 rfl 465 rfl ?_
  refine z_il_n C hl dL_law_465 0 rfl 466 rfl ?_
  refine z_iconst C dL_law_466 467 rfl ?_
  refine z_iadd C dL_law_467 468 rfl (i + 1) rfl ?_
  refine z_sld C hX hbl hW (by omega) hL e1 dL_law_468 469 rfl ?_
  refine z_al_n C hl dL_law_469 3 rfl 470 rfl ?_
  refine z_il_n C hl dL_law_470 0 rfl 471 rfl ?_
  refine z_iconst C dL_law_471 472 rfl ?_
  refine z_iadd C dL_law_472 473 rfl (i + 2) rfl ?_
  refine z_sld C hX hbl hW (by omega) hL e2 dL_law_473 474 rfl ?_
  refine z_VR (r := .int (iI (boaR v a1 a2))) (rest := []) C (m_boatOf l G tb r x cu h pa o sg qn qb sn v a1 a2 w h1 h2) kV_L_70 ⟨Nat.le_of_ble_eq_true rfl, Nat.le_of_ble_eq_true rfl⟩ (gP_rg hW.1 [0, 3, 1] rfl) hK 0 rfl rfl rfl hl.1 rfl (Nat.le_of_ble_eq_true rfl) dL_law_474 ⟨Nat.le_of_ble_eq_true rfl, Nat.le_of_ble_eq_true rfl⟩ 477 rfl ?_
  refine z_al_n C hl dL_law_477 1 rfl 478 rfl ?_
  refine z_al_n C hl dL_law_478 3 rfl 479 rfl ?_
  refine z_il_n C hl dL_law_479 0 rfl 480 rfl ?_
  refine z_iconst C dL_law_480 481 rfl ?_
  refine z_iadd C dL_law_481 482 rfl (i + 1) rfl ?_
  refine z_sld C hX hbl hW (by omega) hL e1 dL_law_482 483 rfl ?_
  refine z_al_n C hl dL_law_483 3 rfl 484 rfl ?_
  refine z_il_n C hl dL_law_484 0 rfl 485 rfl ?_
  refine z_iconst C dL_law_485 486 rfl ?_
  refine z_iadd C dL_law_486 487 rfl (i + 2) rfl ?_
  refine z_sld C hX hbl hW (by omega) hL e2 dL_law_487 488 rfl ?_
  refine z_VR (r := .int (iI (boaR v a1 a2))) (rest := [.int (iI (boaR v a1 a2))]) C (m_xboatOf l G X n ln has v y a1 a2 w h1 h2) kV_L_73 ⟨Nat.le_of_ble_eq_true rfl, Nat.le_of_ble_eq_true rfl⟩ (gP_rg hW.1 [10, 11] rfl) hK 0 rfl rfl rfl hl.1 rfl (Nat.le_of_ble_eq_true rfl) dL_law_488 ⟨Nat.le_of_ble_eq_true rfl, Nat.le_of_ble_eq_true rfl⟩ 491 rfl ?_
  refine z_same C dL_law_491 740 (by decide) ?_
  exact K S v u y sv sv' g g' n ln has tx k S1 T1 L1 A1 _ _ ls (hI) hW (hl)
set_option maxHeartbeats 4000000 in
set_option maxRecDepth 100000 in
theorem lc_14 (l : Launch) {p : Program} {e : Env} {s : State} {m : MethodId} {below : List Frame} {meth : Method} {c : Code} {Q : State → Prop} {G : gT} {b tb r x cu h pa o sg : Nat} {qn qb sn X : Nat → Nat} {i : Int} {L : Nat} {xs : Nat → Int32} {E : eT} (C : CX p s m #[Value.ref b] meth c RL cL_law 8 ret) (hK : gK G s) (hE : EV E (fun q => s.heap.size ≤ q) s s.heap) (hX : va_X b L xs s s.heap) (hbl : b < s.heap.size) (hL : L ≤ 2048) (hi : 0 ≤ i ∧ i + 4 ≤ L) (K : LK p l e s m below meth c Q G b tb r x cu h pa o sg qn qb sn X i 740) : LK p l e s m below meth c Q G b tb r x cu h pa o sg qn qb sn X i 496 := by
  intro S v u y sv sv' g g' n ln has tx k S1 T1 L1 A1 H locs ls hI hW hl
  obtain ⟨hn, w, wt, hag, wsv, hsv⟩ := id hI
  have hW : Wd G (fun q => s.heap.size ≤ q) [[tbO tb qn qb r x h o], stW G qn v, stW G qb u, [(r, .inr (3, [.ref (qn 0)]))], [sxA x cu qn k.1], [arL G cu 5 k.2], hiW G h pa sn n S g has, stW G sn sv, [orO G o sg ln], [arC G sg 60 tx], [moO X n has ln], [arI G (X 1) 258 (s2Z v y)], [arI G (X 2) 516 (paF g')], [arI G (X 3) 129 sv'], [arI G (X 4) 60 tx], [arB G (X 5) 36 S1], [arB G (X 6) 36 T1], [arI G (X 7) 36 L1], [arI G (X 8) 36 A1]] s.heap H locs := hW
  obtain ⟨a1, h1, e1⟩ := iI_ex (xs (i + 1).toNat)
  refine z_al_n C hl dL_law_496 2 rfl 497 rfl ?_
  refine z_al_n C hl dL_law_497 3 rfl 498 rfl ?_
  refine z_il_n C hl dL_law_498 0 rfl 499 rfl ?_
  refine z_iconst C dL_law_499 500 rfl ?_
  refine z_iadd C dL_law_500 501 rfl (i + 1) rfl ?_
  refine z_sld C hX hbl hW (by omega) hL e1 dL_law_501 502 rfl ?_
  refine z_VR (r := .int (iI (tidR v a1))) (rest := []) C (m_tide l G tb r x cu h pa o sg qn qb sn v a1 w h1) kV_L_74 ⟨Nat.le_of_ble_eq_true rfl, Nat.le_of_ble_eq_true rfl⟩ (gP_rg hW.1 [0, 1] rfl) hK 0 rfl rfl rfl hl.1 rfl (Nat.le_of_ble_eq_true rfl) dL_law_502 ⟨Nat.le_of_ble_eq_true rfl, Nat.le_of_ble_eq_true rfl⟩ 505 rfl ?_
  refine z_al_n C hl dL_law_505 1 rfl 506 rfl ?_
  refine z_al_n C hl dL_law_506 3 rfl 507 rfl ?_
  refine z_il_n C hl dL_law_507 0 rfl 508 rfl ?_
  refine z_iconst C dL_law_508 509 rfl ?_
  refine z_iadd C dL_law_509 510 rfl (i + 1) rfl ?_
  refine z_sld C hX hbl hW (by omega) hL e1 dL_law_510 511 rfl ?_
  refine z_VR (r := .int (iI (tidR v a1))) (rest := [.int (iI (tidR v a1))]) C (m_xtideT l G X n ln has v y a1 w h1) kV_L_78 ⟨Nat.le_of_ble_eq_true rfl, Nat.le_of_ble_eq_true rfl⟩ (gP_rg hW.1 [10, 11] rfl) hK 0 rfl rfl rfl hl.1 rfl (Nat.le_of_ble_eq_true rfl) dL_law_511 ⟨Nat.le_of_ble_eq_true rfl, Nat.le_of_ble_eq_true rfl⟩ 514 rfl ?_
  refine z_same C dL_law_514 740 (by decide) ?_
  exact K S v u y sv sv' g g' n ln has tx k S1 T1 L1 A1 _ _ ls (hI) hW (hl)
set_option maxHeartbeats 4000000 in
set_option maxRecDepth 100000 in
theorem lc_15 (l : Launch) {p : Program} {e : Env} {s : State} {m : MethodId} {below : List Frame} {meth : Method} {c : Code} {Q : State → Prop} {G : gT} {b tb r x cu h pa o sg : Nat} {qn qb sn X : Nat → Nat} {i : Int} {L : Nat} {xs : Nat → Int32} {E : eT} (C : CX p s m #[Value.ref b] meth c RL cL_law 8 ret) (hK : gK G s) (hE : EV E (fun q => s.heap.size ≤ q) s s.heap) (hX : va_X b L xs s s.heap) (hbl : b < s.heap.size) (hL : L ≤ 2048) (hi : 0 ≤ i ∧ i + 4 ≤ L) (K : LK p l e s m below meth c Q G b tb r x cu h pa o sg qn qb sn X i 740) : LK p l e s m below meth c Q G b tb r x cu h pa o sg qn qb sn X i 519 := by
  intro S v u y sv sv' g g' n ln has tx k S1 T1 L1 A1 H locs ls hI hW hl
  obtain ⟨hn, w, wt, hag, wsv, hsv⟩ := id hI
  have hW : Wd G (fun q => s.heap.size ≤ q) [[tbO tb qn qb r x h o], stW G qn v, stW G qb u, [(r, .inr (3, [.ref (qn 0)]))], [sxA x cu qn k.1], [arL G cu 5 k.2], hiW G h pa sn n S g has, stW G sn sv, [orO G o sg ln], [arC G sg 60 tx], [moO X n has ln], [arI G (X 1) 258 (s2Z v y)], [arI G (X 2) 516 (paF g')], [arI G (X 3) 129 sv'], [arI G (X 4) 60 tx], [arB G (X 5) 36 S1], [arB G (X 6) 36 T1], [arI G (X 7) 36 L1], [arI G (X 8) 36 A1]] s.heap H locs := hW
  obtain ⟨a1, h1, e1⟩ := iI_ex (xs (i + 1).toNat)
  obtain ⟨a2, h2, e2⟩ := iI_ex (xs (i + 2).toNat)
  obtain ⟨a3, h3, e3⟩ := iI_ex (xs (i + 3).toNat)
  refine z_al_n C hl dL_law_519 2 rfl 520 rfl ?_
  refine z_al_n C hl dL_law_520 3 rfl 521 rfl ?_
  refine z_il_n C hl dL_law_521 0 rfl 522 rfl ?_
  refine z_iconst C dL_law_522 523 rfl ?_
  refine z_iadd C dL_law_523 524 rfl (i + 1) rfl ?_
  refine z_sld C hX hbl hW (by omega) hL e1 dL_law_524 525 rfl ?_
  refine z_al_n C hl dL_law_525 3 rfl 526 rfl ?_
  refine z_il_n C hl dL_law_526 0 rfl 527 rfl ?_
  refine z_iconst C dL_law_527 528 rfl ?_
  refine z_iadd C dL_law_528 529 rfl (i + 2) rfl ?_
  refine z_sld C hX hbl hW (by omega) hL e2 dL_law_529 530 rfl ?_
  refine z_al_n C hl dL_law_530 3 rfl 531 rfl ?_
  refine z_il_n C hl dL_law_531 0 rfl 532 rfl ?_
  refine z_iconst C dL_law_532 533 rfl ?_
  refine z_iadd C dL_law_533 534 rfl (i + 3) rfl ?_
  refine z_sld C hX hbl hW (by omega) hL e3 dL_law_534 535 rfl ?_
  refine z_VR (r := .int (iI (whyR v a1 a2 a3))) (rest := []) C (m_why l G tb r x cu h pa o sg qn qb sn v a1 a2 a3 w h1 h2 h3) kV_L_79 ⟨Nat.le_of_ble_eq_true rfl, Nat.le_of_ble_eq_true rfl⟩ (gP_rg hW.1 [0, 3, 1] rfl) hK 0 rfl rfl rfl hl.1 rfl (Nat.le_of_ble_eq_true rfl) dL_law_535 ⟨Nat.le_of_ble_eq_true rfl, Nat.le_of_ble_eq_true rfl⟩ 538 rfl ?_
  refine z_al_n C hl dL_law_538 1 rfl 539 rfl ?_
  refine z_al_n C hl dL_law_539 3 rfl 540 rfl ?_
  refine z_il_n C hl dL_law_540 0 rfl 541 rfl ?_
  refine z_iconst C dL_law_541 542 rfl ?_
  refine z_iadd C dL_law_542 543 rfl (i + 1) rfl ?_
  refine z_sld C hX hbl hW (by omega) hL e1 dL_law_543 544 rfl ?_
  refine z_al_n C hl dL_law_544 3 rfl 545 rfl ?_
  refine z_il_n C hl dL_law_545 0 rfl 546 rfl ?_
  refine z_iconst C dL_law_546 547 rfl ?_
  refine z_iadd C dL_law_547 548 rfl (i + 2) rfl ?_
  refine z_sld C hX hbl hW (by omega) hL e2 dL_law_548 549 rfl ?_
  refine z_al_n C hl dL_law_549 3 rfl 550 rfl ?_
  refine z_il_n C hl dL_law_550 0 rfl 551 rfl ?_
  refine z_iconst C dL_law_551 552 rfl ?_
  refine z_iadd C dL_law_552 553 rfl (i + 3) rfl ?_
  refine z_sld C hX hbl hW (by omega) hL e3 dL_law_553 554 rfl ?_
  refine z_VR (r := .int (iI (whyR v a1 a2 a3))) (rest := [.int (iI (whyR v a1 a2 a3))]) C (m_xwhyT l G X n ln has v y a1 a2 a3 w h1 h2 h3) kV_L_82 ⟨Nat.le_of_ble_eq_true rfl, Nat.le_of_ble_eq_true rfl⟩ (gP_rg hW.1 [10, 11] rfl) hK 0 rfl rfl rfl hl.1 rfl (Nat.le_of_ble_eq_true rfl) dL_law_554 ⟨Nat.le_of_ble_eq_true rfl, Nat.le_of_ble_eq_true rfl⟩ 557 rfl ?_
  refine z_same C dL_law_557 740 (by decide) ?_
  exact K S v u y sv sv' g g' n ln has tx k S1 T1 L1 A1 _ _ ls (hI) hW (hl)
set_option maxHeartbeats 4000000 in
set_option maxRecDepth 100000 in
theorem lc_16 (l : Launch) {p : Program} {e : Env} {s : State} {m : MethodId} {below : List Frame} {meth : Method} {c : Code} {Q : State → Prop} {G : gT} {b tb r x cu h pa o sg : Nat} {qn qb sn X : Nat → Nat} {i : Int} {L : Nat} {xs : Nat → Int32} {E : eT} (C : CX p s m #[Value.ref b] meth c RL cL_law 8 ret) (hK : gK G s) (hE : EV E (fun q => s.heap.size ≤ q) s s.heap) (hX : va_X b L xs s s.heap) (hbl : b < s.heap.size) (hL : L ≤ 2048) (hi : 0 ≤ i ∧ i + 4 ≤ L) (K : LK p l e s m below meth c Q G b tb r x cu h pa o sg qn qb sn X i 740) : LK p l e s m below meth c Q G b tb r x cu h pa o sg qn qb sn X i 562 := by
  intro S v u y sv sv' g g' n ln has tx k S1 T1 L1 A1 H locs ls hI hW hl
  obtain ⟨hn, w, wt, hag, wsv, hsv⟩ := id hI
  have hW : Wd G (fun q => s.heap.size ≤ q) [[tbO tb qn qb r x h o], stW G qn v, stW G qb u, [(r, .inr (3, [.ref (qn 0)]))], [sxA x cu qn k.1], [arL G cu 5 k.2], hiW G h pa sn n S g has, stW G sn sv, [orO G o sg ln], [arC G sg 60 tx], [moO X n has ln], [arI G (X 1) 258 (s2Z v y)], [arI G (X 2) 516 (paF g')], [arI G (X 3) 129 sv'], [arI G (X 4) 60 tx], [arB G (X 5) 36 S1], [arB G (X 6) 36 T1], [arI G (X 7) 36 L1], [arI G (X 8) 36 A1]] s.heap H locs := hW
  obtain ⟨a1, h1, e1⟩ := iI_ex (xs (i + 1).toNat)
  refine z_al_n C hl dL_law_562 2 rfl 563 rfl ?_
  refine z_al_n C hl dL_law_563 3 rfl 564 rfl ?_
  refine z_il_n C hl dL_law_564 0 rfl 565 rfl ?_
  refine z_iconst C dL_law_565 566 rfl ?_
  refine z_iadd C dL_law_566 567 rfl (i + 1) rfl ?_
  refine z_sld C hX hbl hW (by omega) hL e1 dL_law_567 568 rfl ?_
  refine z_VR (r := .int (iI (cntR v n ln a1))) (rest := []) C (m_count l G tb r x cu h pa o sg qn qb sn S g n has v ln a1 w h1) kV_L_83 ⟨Nat.le_of_ble_eq_true rfl, Nat.le_of_ble_eq_true rfl⟩ (gP_rg hW.1 [0, 3, 1, 6, 8] rfl) hK 0 rfl rfl rfl hl.1 rfl (Nat.le_of_ble_eq_true rfl) dL_law_568 ⟨Nat.le_of_ble_eq_true rfl, Nat.le_of_ble_eq_true rfl⟩ 571 rfl ?_
  refine z_al_n C hl dL_law_571 1 rfl 572 rfl ?_
  refine z_al_n C hl dL_law_572 3 rfl 573 rfl ?_
  refine z_il_n C hl dL_law_573 0 rfl 574 rfl ?_
  refine z_iconst C dL_law_574 575 rfl ?_
  refine z_iadd C dL_law_575 576 rfl (i + 1) rfl ?_
  refine z_sld C hX hbl hW (by omega) hL e1 dL_law_576 577 rfl ?_
  refine z_VR (r := .int (iI (cntR v n ln a1))) (rest := [.int (iI (cntR v n ln a1))]) C (m_xcount l G X n ln has v y a1 w h1) kV_L_86 ⟨Nat.le_of_ble_eq_true rfl, Nat.le_of_ble_eq_true rfl⟩ (gP_rg hW.1 [10, 11] rfl) hK 0 rfl rfl rfl hl.1 rfl (Nat.le_of_ble_eq_true rfl) dL_law_577 ⟨Nat.le_of_ble_eq_true rfl, Nat.le_of_ble_eq_true rfl⟩ 580 rfl ?_
  refine z_same C dL_law_580 740 (by decide) ?_
  exact K S v u y sv sv' g g' n ln has tx k S1 T1 L1 A1 _ _ ls (hI) hW (hl)
set_option maxHeartbeats 4000000 in
set_option maxRecDepth 100000 in
theorem lc_17 (l : Launch) {p : Program} {e : Env} {s : State} {m : MethodId} {below : List Frame} {meth : Method} {c : Code} {Q : State → Prop} {G : gT} {b tb r x cu h pa o sg : Nat} {qn qb sn X : Nat → Nat} {i : Int} {L : Nat} {xs : Nat → Int32} {E : eT} (C : CX p s m #[Value.ref b] meth c RL cL_law 8 ret) (hK : gK G s) (hE : EV E (fun q => s.heap.size ≤ q) s s.heap) (hX : va_X b L xs s s.heap) (hbl : b < s.heap.size) (hL : L ≤ 2048) (hi : 0 ≤ i ∧ i + 4 ≤ L) (K : LK p l e s m below meth c Q G b tb r x cu h pa o sg qn qb sn X i 740) : LK p l e s m below meth c Q G b tb r x cu h pa o sg qn qb sn X i 585 := by
  intro S v u y sv sv' g g' n ln has tx k S1 T1 L1 A1 H locs ls hI hW hl
  obtain ⟨hn, w, wt, hag, wsv, hsv⟩ := id hI
  have hW : Wd G (fun q => s.heap.size ≤ q) [[tbO tb qn qb r x h o], stW G qn v, stW G qb u, [(r, .inr (3, [.ref (qn 0)]))], [sxA x cu qn k.1], [arL G cu 5 k.2], hiW G h pa sn n S g has, stW G sn sv, [orO G o sg ln], [arC G sg 60 tx], [moO X n has ln], [arI G (X 1) 258 (s2Z v y)], [arI G (X 2) 516 (paF g')], [arI G (X 3) 129 sv'], [arI G (X 4) 60 tx], [arB G (X 5) 36 S1], [arB G (X 6) 36 T1], [arI G (X 7) 36 L1], [arI G (X 8) 36 A1]] s.heap H locs := hW
  obtain ⟨a1, h1, e1⟩ := iI_ex (xs (i + 1).toNat)
  obtain ⟨a2, h2, e2⟩ := iI_ex (xs (i + 2).toNat)
  have hok := afl_ok w a1 a2
  refine z_al_n C hl dL_law_585 2 rfl 586 rfl ?_
  refine z_al_n C hl dL_law_586 3 rfl 587 rfl ?_
  refine z_il_n C hl dL_law_587 0 rfl 588 rfl ?_
  refine z_iconst C dL_law_588 589 rfl ?_
  refine z_iadd C dL_law_589 590 rfl (i + 1) rfl ?_
  refine z_sld C hX hbl hW (by omega) hL e1 dL_law_590 591 rfl ?_
  refine z_al_n C hl dL_law_591 3 rfl 592 rfl ?_
  refine z_il_n C hl dL_law_592 0 rfl 593 rfl ?_
  refine z_iconst C dL_law_593 594 rfl ?_
  refine z_iadd C dL_law_594 595 rfl (i + 2) rfl ?_
  refine z_sld C hX hbl hW (by omega) hL e2 dL_law_595 596 rfl ?_
  refine z_VR (r := .float (aflF v a1 a2)) (rest := []) C (m_afloat l G tb r x cu h pa o sg qn qb sn v a1 a2 w h1 h2) kV_L_87 ⟨Nat.le_of_ble_eq_true rfl, Nat.le_of_ble_eq_true rfl⟩ (gP_rg hW.1 [0, 1] rfl) hK 0 rfl rfl rfl hl.1 rfl (Nat.le_of_ble_eq_true rfl) dL_law_596 ⟨Nat.le_of_ble_eq_true rfl, Nat.le_of_ble_eq_true rfl⟩ 599 rfl ?_
  refine z_f2dL C hok.1 dL_law_599 600 rfl ?_
  refine z_dsto C hl dL_law_600 602 rfl (by decide) (lv' := [(4, .double (FP.f2d (aflF v a1 a2))), (3, .int (iI i)), (2, .ref (X 0)), (1, .ref tb), (0, .ref b)]) rfl (fun ls hl => ?_)
  refine z_al_n C hl dL_law_602 2 rfl 603 rfl ?_
  refine z_al_n C hl dL_law_603 4 rfl 604 rfl ?_
  refine z_il_n C hl dL_law_604 1 rfl 605 rfl ?_
  refine z_iconst C dL_law_605 606 rfl ?_
  refine z_iadd C dL_law_606 607 rfl (i + 1) rfl ?_
  refine z_sld C hX hbl hW (by omega) hL e1 dL_law_607 608 rfl ?_
  refine z_al_n C hl dL_law_608 4 rfl 609 rfl ?_
  refine z_il_n C hl dL_law_609 1 rfl 610 rfl ?_
  refine z_iconst C dL_law_610 611 rfl ?_
  refine z_iadd C dL_law_611 612 rfl (i + 2) rfl ?_
  refine z_sld C hX hbl hW (by omega) hL e2 dL_law_612 613 rfl ?_
  refine z_VR (r := .float (aflF v a1 a2)) (rest := []) C (m_xafloat l G X n ln has v y a1 a2 w h1 h2) kV_L_91 ⟨Nat.le_of_ble_eq_true rfl, Nat.le_of_ble_eq_true rfl⟩ (gP_rg hW.1 [10, 11] rfl) hK 0 rfl rfl rfl hl.1 rfl (Nat.le_of_ble_eq_true rfl) dL_law_613 ⟨Nat.le_of_ble_eq_true rfl, Nat.le_of_ble_eq_true rfl⟩ 616 rfl ?_
  refine z_f2dL C hok.1 dL_law_616 617 rfl ?_
  refine z_dsto C hl dL_law_617 619 rfl (by decide) (lv' := [(6, .double (FP.f2d (aflF v a1 a2))), (4, .double (FP.f2d (aflF v a1 a2))), (3, .int (iI i)), (2, .ref (X 0)), (1, .ref tb), (0, .ref b)]) rfl (fun ls hl => ?_)
  refine z_dlo C hl dL_law_619 1 rfl 621 rfl ?_
  refine z_dlo C hl dL_law_621 0 rfl 623 rfl ?_
  refine z_dcm C dL_law_623 624 rfl ?_
  refine z_top (b := .int (iI 0)) (congrArg Value.int hok.2) ?_
  refine z_if_eq C dL_law_624 645 627 (by decide) rfl (by omega) (fun _ => ?_) (fun hne => absurd rfl hne)
  refine z_goto C dL_law_645 740 (by decide) ?_
  exact K S v u y sv sv' g g' n ln has tx k S1 T1 L1 A1 _ _ ls (hI) hW (lv_sub hl [2, 3, 4, 5] rfl)
set_option maxHeartbeats 4000000 in
set_option maxRecDepth 100000 in
theorem lc_18 (l : Launch) {p : Program} {e : Env} {s : State} {m : MethodId} {below : List Frame} {meth : Method} {c : Code} {Q : State → Prop} {G : gT} {b tb r x cu h pa o sg : Nat} {qn qb sn X : Nat → Nat} {i : Int} {L : Nat} {xs : Nat → Int32} {E : eT} (C : CX p s m #[Value.ref b] meth c RL cL_law 8 ret) (hK : gK G s) (hE : EV E (fun q => s.heap.size ≤ q) s s.heap) (hX : va_X b L xs s s.heap) (hbl : b < s.heap.size) (hL : L ≤ 2048) (hi : 0 ≤ i ∧ i + 4 ≤ L) (K : LK p l e s m below meth c Q G b tb r x cu h pa o sg qn qb sn X i 740) : LK p l e s m below meth c Q G b tb r x cu h pa o sg qn qb sn X i 648 := by
  intro S v u y sv sv' g g' n ln has tx k S1 T1 L1 A1 H locs ls hI hW hl
  obtain ⟨hn, w, wt, hag, wsv, hsv⟩ := id hI
  have hW : Wd G (fun q => s.heap.size ≤ q) [[tbO tb qn qb r x h o], stW G qn v, stW G qb u, [(r, .inr (3, [.ref (qn 0)]))], [sxA x cu qn k.1], [arL G cu 5 k.2], hiW G h pa sn n S g has, stW G sn sv, [orO G o sg ln], [arC G sg 60 tx], [moO X n has ln], [arI G (X 1) 258 (s2Z v y)], [arI G (X 2) 516 (paF g')], [arI G (X 3) 129 sv'], [arI G (X 4) 60 tx], [arB G (X 5) 36 S1], [arB G (X 6) 36 T1], [arI G (X 7) 36 L1], [arI G (X 8) 36 A1]] s.heap H locs := hW
  obtain ⟨a1, h1, e1⟩ := iI_ex (xs (i + 1).toNat)
  refine z_al_n C hl dL_law_648 2 rfl 649 rfl ?_
  refine z_al_n C hl dL_law_649 3 rfl 650 rfl ?_
  refine z_il_n C hl dL_law_650 0 rfl 651 rfl ?_
  refine z_iconst C dL_law_651 652 rfl ?_
  refine z_iadd C dL_law_652 653 rfl (i + 1) rfl ?_
  refine z_sld C hX hbl hW (by omega) hL e1 dL_law_653 654 rfl ?_
  refine z_VR (r := .int (iI (floR v a1))) (rest := []) C (m_floatsIn l G tb r x cu h pa o sg qn qb sn v a1 w h1) kV_L_92 ⟨Nat.le_of_ble_eq_true rfl, Nat.le_of_ble_eq_true rfl⟩ (gP_rg hW.1 [0, 1] rfl) hK 0 rfl rfl rfl hl.1 rfl (Nat.le_of_ble_eq_true rfl) dL_law_654 ⟨Nat.le_of_ble_eq_true rfl, Nat.le_of_ble_eq_true rfl⟩ 657 rfl ?_
  refine z_al_n C hl dL_law_657 1 rfl 658 rfl ?_
  refine z_al_n C hl dL_law_658 3 rfl 659 rfl ?_
  refine z_il_n C hl dL_law_659 0 rfl 660 rfl ?_
  refine z_iconst C dL_law_660 661 rfl ?_
  refine z_iadd C dL_law_661 662 rfl (i + 1) rfl ?_
  refine z_sld C hX hbl hW (by omega) hL e1 dL_law_662 663 rfl ?_
  refine z_VR (r := .int (iI (floR v a1))) (rest := [.int (iI (floR v a1))]) C (m_xflo l G X n ln has v y a1 w h1) kV_L_95 ⟨Nat.le_of_ble_eq_true rfl, Nat.le_of_ble_eq_true rfl⟩ (gP_rg hW.1 [10, 11] rfl) hK 0 rfl rfl rfl hl.1 rfl (Nat.le_of_ble_eq_true rfl) dL_law_663 ⟨Nat.le_of_ble_eq_true rfl, Nat.le_of_ble_eq_true rfl⟩ 666 rfl ?_
  refine z_same C dL_law_666 740 (by decide) ?_
  exact K S v u y sv sv' g g' n ln has tx k S1 T1 L1 A1 _ _ ls (hI) hW (hl)
set_option maxHeartbeats 4000000 in
set_option maxRecDepth 100000 in
theorem lc_19 (l : Launch) {p : Program} {e : Env} {s : State} {m : MethodId} {below : List Frame} {meth : Method} {c : Code} {Q : State → Prop} {G : gT} {b tb r x cu h pa o sg : Nat} {qn qb sn X : Nat → Nat} {i : Int} {L : Nat} {xs : Nat → Int32} {E : eT} (C : CX p s m #[Value.ref b] meth c RL cL_law 8 ret) (hK : gK G s) (hE : EV E (fun q => s.heap.size ≤ q) s s.heap) (hX : va_X b L xs s s.heap) (hbl : b < s.heap.size) (hL : L ≤ 2048) (hi : 0 ≤ i ∧ i + 4 ≤ L) (K : LK p l e s m below meth c Q G b tb r x cu h pa o sg qn qb sn X i 740) : LK p l e s m below meth c Q G b tb r x cu h pa o sg qn qb sn X i 671 := by
  intro S v u y sv sv' g g' n ln has tx k S1 T1 L1 A1 H locs ls hI hW hl
  obtain ⟨hn, w, wt, hag, wsv, hsv⟩ := id hI
  have hW : Wd G (fun q => s.heap.size ≤ q) [[tbO tb qn qb r x h o], stW G qn v, stW G qb u, [(r, .inr (3, [.ref (qn 0)]))], [sxA x cu qn k.1], [arL G cu 5 k.2], hiW G h pa sn n S g has, stW G sn sv, [orO G o sg ln], [arC G sg 60 tx], [moO X n has ln], [arI G (X 1) 258 (s2Z v y)], [arI G (X 2) 516 (paF g')], [arI G (X 3) 129 sv'], [arI G (X 4) 60 tx], [arB G (X 5) 36 S1], [arB G (X 6) 36 T1], [arI G (X 7) 36 L1], [arI G (X 8) 36 A1]] s.heap H locs := hW
  obtain ⟨a1, h1, e1⟩ := iI_ex (xs (i + 1).toNat)
  obtain ⟨a2, h2, e2⟩ := iI_ex (xs (i + 2).toNat)
  refine z_al_n C hl dL_law_671 2 rfl 672 rfl ?_
  refine z_al_n C hl dL_law_672 3 rfl 673 rfl ?_
  refine z_il_n C hl dL_law_673 0 rfl 674 rfl ?_
  refine z_iconst C dL_law_674 675 rfl ?_
  refine z_iadd C dL_law_675 676 rfl (i + 1) rfl ?_
  refine z_sld C hX hbl hW (by omega) hL e1 dL_law_676 677 rfl ?_
  refine z_al_n C hl dL_law_677 3 rfl 678 rfl ?_
  refine z_il_n C hl dL_law_678 0 rfl 679 rfl ?_
  refine z_iconst C dL_law_679 680 rfl ?_
  refine z_iadd C dL_law_680 681 rfl (i + 2) rfl ?_
  refine z_sld C hX hbl hW (by omega) hL e2 dL_law_681 682 rfl ?_
  refine z_VWi (r := .int (iI (homR v a1 a2))) (rest := []) C (m_homeIn l G tb r x cu h pa o sg qn qb sn v k a1 a2 w h1 h2 (gD_rg hW.2.1 [0, 4, 5, 1] (by decide) rfl)) kV_L_96 ⟨Nat.le_of_ble_eq_true rfl, Nat.le_of_ble_eq_true rfl⟩ hW hK [0, 4, 5, 1] rfl (sameA_of rfl) 0 rfl rfl rfl hl.1 rfl (Nat.le_of_ble_eq_true rfl) dL_law_682 ⟨Nat.le_of_ble_eq_true rfl, Nat.le_of_ble_eq_true rfl⟩ 685 rfl (rs' := [[tbO tb qn qb r x h o], stW G qn v, stW G qb u, [(r, .inr (3, [.ref (qn 0)]))], [sxA x cu qn (homK v a1 a2 k).1], [arL G cu 5 (homK v a1 a2 k).2], hiW G h pa sn n S g has, stW G sn sv, [orO G o sg ln], [arC G sg 60 tx], [moO X n has ln], [arI G (X 1) 258 (s2Z v y)], [arI G (X 2) 516 (paF g')], [arI G (X 3) 129 sv'], [arI G (X 4) 60 tx], [arB G (X 5) 36 S1], [arB G (X 6) 36 T1], [arI G (X 7) 36 L1], [arI G (X 8) 36 A1]]) rfl (fun H locs hW hkeep => ?_)
  refine z_al_n C hl dL_law_685 1 rfl 686 rfl ?_
  refine z_al_n C hl dL_law_686 3 rfl 687 rfl ?_
  refine z_il_n C hl dL_law_687 0 rfl 688 rfl ?_
  refine z_iconst C dL_law_688 689 rfl ?_
  refine z_iadd C dL_law_689 690 rfl (i + 1) rfl ?_
  refine z_sld C hX hbl hW (by omega) hL e1 dL_law_690 691 rfl ?_
  refine z_al_n C hl dL_law_691 3 rfl 692 rfl ?_
  refine z_il_n C hl dL_law_692 0 rfl 693 rfl ?_
  refine z_iconst C dL_law_693 694 rfl ?_
  refine z_iadd C dL_law_694 695 rfl (i + 2) rfl ?_
  refine z_sld C hX hbl hW (by omega) hL e2 dL_law_695 696 rfl ?_
  refine z_VWi (r := .int (iI (hoxR v a1 a2))) (rest := [.int (iI (homR v a1 a2))]) C (m_xhomeIn l G X n ln has v y L1 A1 S1 T1 a1 a2 w h1 h2 (gD_rg hW.2.1 [10, 11, 15, 16, 17, 18] (by decide) rfl)) kV_L_99 ⟨Nat.le_of_ble_eq_true rfl, Nat.le_of_ble_eq_true rfl⟩ hW hK [10, 11, 15, 16, 17, 18] rfl (sameA_of rfl) 0 rfl rfl rfl hl.1 rfl (Nat.le_of_ble_eq_true rfl) dL_law_696 ⟨Nat.le_of_ble_eq_true rfl, Nat.le_of_ble_eq_true rfl⟩ 699 rfl (rs' := [[tbO tb qn qb r x h o], stW G qn v, stW G qb u, [(r, .inr (3, [.ref (qn 0)]))], [sxA x cu qn (homK v a1 a2 k).1], [arL G cu 5 (homK v a1 a2 k).2], hiW G h pa sn n S g has, stW G sn sv, [orO G o sg ln], [arC G sg 60 tx], [moO X n has ln], [arI G (X 1) 258 (s2Z v y)], [arI G (X 2) 516 (paF g')], [arI G (X 3) 129 sv'], [arI G (X 4) 60 tx], [arB G (X 5) 36 ((hoxS v a1 a2 (S1, T1)).1)], [arB G (X 6) 36 ((hoxS v a1 a2 (S1, T1)).2)], [arI G (X 7) 36 ((hoxL v a1 a2 (L1, A1)).1)], [arI G (X 8) 36 ((hoxL v a1 a2 (L1, A1)).2)]]) rfl (fun H locs hW hkeep => ?_)
  rw [hom_eq w]
  refine z_same C dL_law_699 740 (by decide) ?_
  exact K S v u y sv sv' g g' n ln has tx (homK v a1 a2 k) ((hoxS v a1 a2 (S1, T1)).1) ((hoxS v a1 a2 (S1, T1)).2) ((hoxL v a1 a2 (L1, A1)).1) ((hoxL v a1 a2 (L1, A1)).2) _ _ ls (hI) hW (hl)
set_option maxHeartbeats 4000000 in
set_option maxRecDepth 100000 in
theorem lc_20 (l : Launch) {p : Program} {e : Env} {s : State} {m : MethodId} {below : List Frame} {meth : Method} {c : Code} {Q : State → Prop} {G : gT} {b tb r x cu h pa o sg : Nat} {qn qb sn X : Nat → Nat} {i : Int} {L : Nat} {xs : Nat → Int32} {E : eT} (C : CX p s m #[Value.ref b] meth c RL cL_law 8 ret) (hK : gK G s) (hE : EV E (fun q => s.heap.size ≤ q) s s.heap) (hX : va_X b L xs s s.heap) (hbl : b < s.heap.size) (hL : L ≤ 2048) (hi : 0 ≤ i ∧ i + 4 ≤ L) (K : LK p l e s m below meth c Q G b tb r x cu h pa o sg qn qb sn X i 740) : LK p l e s m below meth c Q G b tb r x cu h pa o sg qn qb sn X i 704 := by
  intro S v u y sv sv' g g' n ln has tx k S1 T1 L1 A1 H locs ls hI hW hl
  obtain ⟨hn, w, wt, hag, wsv, hsv⟩ := id hI
  have hW : Wd G (fun q => s.heap.size ≤ q) [[tbO tb qn qb r x h o], stW G qn v, stW G qb u, [(r, .inr (3, [.ref (qn 0)]))], [sxA x cu qn k.1], [arL G cu 5 k.2], hiW G h pa sn n S g has, stW G sn sv, [orO G o sg ln], [arC G sg 60 tx], [moO X n has ln], [arI G (X 1) 258 (s2Z v y)], [arI G (X 2) 516 (paF g')], [arI G (X 3) 129 sv'], [arI G (X 4) 60 tx], [arB G (X 5) 36 S1], [arB G (X 6) 36 T1], [arI G (X 7) 36 L1], [arI G (X 8) 36 A1]] s.heap H locs := hW
  obtain ⟨a1, h1, e1⟩ := iI_ex (xs (i + 1).toNat)
  refine z_al_n C hl dL_law_704 2 rfl 705 rfl ?_
  refine z_al_n C hl dL_law_705 3 rfl 706 rfl ?_
  refine z_il_n C hl dL_law_706 0 rfl 707 rfl ?_
  refine z_iconst C dL_law_707 708 rfl ?_
  refine z_iadd C dL_law_708 709 rfl (i + 1) rfl ?_
  refine z_sld C hX hbl hW (by omega) hL e1 dL_law_709 710 rfl ?_
  refine z_VR (r := .int (danR v a1)) (rest := []) C (m_inDanger l G tb r x cu h pa o sg qn qb sn v a1 w h1) kV_L_100 ⟨Nat.le_of_ble_eq_true rfl, Nat.le_of_ble_eq_true rfl⟩ (gP_rg hW.1 [0, 1] rfl) hK 0 rfl rfl rfl hl.1 rfl (Nat.le_of_ble_eq_true rfl) dL_law_710 ⟨Nat.le_of_ble_eq_true rfl, Nat.le_of_ble_eq_true rfl⟩ 713 rfl ?_
  refine z_al_n C hl dL_law_713 1 rfl 714 rfl ?_
  refine z_al_n C hl dL_law_714 3 rfl 715 rfl ?_
  refine z_il_n C hl dL_law_715 0 rfl 716 rfl ?_
  refine z_iconst C dL_law_716 717 rfl ?_
  refine z_iadd C dL_law_717 718 rfl (i + 1) rfl ?_
  refine z_sld C hX hbl hW (by omega) hL e1 dL_law_718 719 rfl ?_
  refine z_VR (r := .int (danR v a1)) (rest := [.int (danR v a1)]) C (m_xdan l G X n ln has v y a1 w h1) kV_L_103 ⟨Nat.le_of_ble_eq_true rfl, Nat.le_of_ble_eq_true rfl⟩ (gP_rg hW.1 [10, 11] rfl) hK 0 rfl rfl rfl hl.1 rfl (Nat.le_of_ble_eq_true rfl) dL_law_719 ⟨Nat.le_of_ble_eq_true rfl, Nat.le_of_ble_eq_true rfl⟩ 722 rfl ?_
  refine z_same C dL_law_722 740 (by decide) ?_
  exact K S v u y sv sv' g g' n ln has tx k S1 T1 L1 A1 _ _ ls (hI) hW (hl)
set_option maxHeartbeats 4000000 in
set_option maxRecDepth 100000 in
theorem lc_21 (l : Launch) {p : Program} {e : Env} {s : State} {m : MethodId} {below : List Frame} {meth : Method} {c : Code} {Q : State → Prop} {G : gT} {b tb r x cu h pa o sg : Nat} {qn qb sn X : Nat → Nat} {i : Int} {L : Nat} {xs : Nat → Int32} {E : eT} (C : CX p s m #[Value.ref b] meth c RL cL_law 8 ret) (hK : gK G s) (hE : EV E (fun q => s.heap.size ≤ q) s s.heap) (hX : va_X b L xs s s.heap) (hbl : b < s.heap.size) (hL : L ≤ 2048) (hi : 0 ≤ i ∧ i + 4 ≤ L) (K : LK p l e s m below meth c Q G b tb r x cu h pa o sg qn qb sn X i 740) : LK p l e s m below meth c Q G b tb r x cu h pa o sg qn qb sn X i 727 := by
  intro S v u y sv sv' g g' n ln has tx k S1 T1 L1 A1 H locs ls hI hW hl
  obtain ⟨hn, w, wt, hag, wsv, hsv⟩ := id hI
  have hW : Wd G (fun q => s.heap.size ≤ q) [[tbO tb qn qb r x h o], stW G qn v, stW G qb u, [(r, .inr (3, [.ref (qn 0)]))], [sxA x cu qn k.1], [arL G cu 5 k.2], hiW G h pa sn n S g has, stW G sn sv, [orO G o sg ln], [arC G sg 60 tx], [moO X n has ln], [arI G (X 1) 258 (s2Z v y)], [arI G (X 2) 516 (paF g')], [arI G (X 3) 129 sv'], [arI G (X 4) 60 tx], [arB G (X 5) 36 S1], [arB G (X 6) 36 T1], [arI G (X 7) 36 L1], [arI G (X 8) 36 A1]] s.heap H locs := hW
  refine z_al_n C hl dL_law_727 2 rfl 728 rfl ?_
  refine z_VWi (r := .int (iI (besR v))) (rest := []) C (m_best l G tb r x cu h pa o sg qn qb sn v k w (gD_rg hW.2.1 [0, 3, 4, 5, 1] (by decide) rfl)) kV_L_104 ⟨Nat.le_of_ble_eq_true rfl, Nat.le_of_ble_eq_true rfl⟩ hW hK [0, 3, 4, 5, 1] rfl (sameA_of rfl) 0 rfl rfl rfl hl.1 rfl (Nat.le_of_ble_eq_true rfl) dL_law_728 ⟨Nat.le_of_ble_eq_true rfl, Nat.le_of_ble_eq_true rfl⟩ 731 rfl (rs' := [[tbO tb qn qb r x h o], stW G qn v, stW G qb u, [(r, .inr (3, [.ref (qn 0)]))], [sxA x cu qn (besK v k).1], [arL G cu 5 (besK v k).2], hiW G h pa sn n S g has, stW G sn sv, [orO G o sg ln], [arC G sg 60 tx], [moO X n has ln], [arI G (X 1) 258 (s2Z v y)], [arI G (X 2) 516 (paF g')], [arI G (X 3) 129 sv'], [arI G (X 4) 60 tx], [arB G (X 5) 36 S1], [arB G (X 6) 36 T1], [arI G (X 7) 36 L1], [arI G (X 8) 36 A1]]) rfl (fun H locs hW hkeep => ?_)
  refine z_al_n C hl dL_law_731 1 rfl 732 rfl ?_
  refine z_VWi (r := .int (iI (besM v))) (rest := [.int (iI (besR v))]) C (m_xbest l G X n ln has v y S1 T1 w (gD_rg hW.2.1 [10, 11, 15, 16] (by decide) rfl)) kV_L_107 ⟨Nat.le_of_ble_eq_true rfl, Nat.le_of_ble_eq_true rfl⟩ hW hK [10, 11, 15, 16] rfl (sameA_of rfl) 0 rfl rfl rfl hl.1 rfl (Nat.le_of_ble_eq_true rfl) dL_law_732 ⟨Nat.le_of_ble_eq_true rfl, Nat.le_of_ble_eq_true rfl⟩ 735 rfl (rs' := [[tbO tb qn qb r x h o], stW G qn v, stW G qb u, [(r, .inr (3, [.ref (qn 0)]))], [sxA x cu qn (besK v k).1], [arL G cu 5 (besK v k).2], hiW G h pa sn n S g has, stW G sn sv, [orO G o sg ln], [arC G sg 60 tx], [moO X n has ln], [arI G (X 1) 258 (s2Z v (beY v y))], [arI G (X 2) 516 (paF g')], [arI G (X 3) 129 sv'], [arI G (X 4) 60 tx], [arB G (X 5) 36 ((beA v (S1, T1)).1)], [arB G (X 6) 36 ((beA v (S1, T1)).2)], [arI G (X 7) 36 L1], [arI G (X 8) 36 A1]]) rfl (fun H locs hW hkeep => ?_)
  rw [bes_eq w]
  refine z_same C dL_law_735 740 (by decide) ?_
  exact K S v u (beY v y) sv sv' g g' n ln has tx (besK v k) ((beA v (S1, T1)).1) ((beA v (S1, T1)).2) L1 A1 _ _ ls (hI) hW (hl)
