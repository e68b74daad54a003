set_option maxHeartbeats 4000000 in
set_option maxRecDepth 100000 in
theorem law_740 (l : Launch) {p : Program} {e : Env} {s : State} {m : MethodId} {below : List Frame} {meth : Method} {c : Code} {Q : State → Prop} {G : gT} {b tb r x cu h pa o sg : Nat} {qn qb sn X : Nat → Nat} {i : Int} {L : Nat} {xs : Nat → Int32} {E : eT} (C : CX p s m #[Value.ref b] meth c RL cL_law 8 ret) (hK : gK G s) (hE : EV E (fun q => s.heap.size ≤ q) s s.heap) (hX : va_X b L xs s s.heap) (hbl : b < s.heap.size) (hL : L ≤ 2048) (hi : 0 ≤ i ∧ i + 4 ≤ L) (K : LK p l e s m below meth c Q G b tb r x cu h pa o sg qn qb sn X (i + 4) 18) : LK p l e s m below meth c Q G b tb r x cu h pa o sg qn qb sn X i 740 := by
  intro S v u y sv sv' g g' n ln has tx k S1 T1 L1 A1 H locs ls hI hW hl
  refine z_iinc C hl dL_law_740 743 rfl 0 rfl (z := i + 4) rfl (by decide) (lv' := [(3, .int (iI (i + 4))), (2, .ref (X 0)), (1, .ref tb), (0, .ref b)]) rfl (fun ls hl => ?_)
  refine z_goto C dL_law_743 18 (by decide) ?_
  exact K S v u y sv sv' g g' n ln has tx k S1 T1 L1 A1 _ _ ls hI hW hl
set_option maxHeartbeats 4000000 in
set_option maxRecDepth 100000 in
theorem law_26 (l : Launch) {p : Program} {e : Env} {s : State} {m : MethodId} {below : List Frame} {meth : Method} {c : Code} {Q : State → Prop} {G : gT} {b tb r x cu h pa o sg : Nat} {qn qb sn X : Nat → Nat} {i : Int} {L : Nat} {xs : Nat → Int32} {E : eT} (C : CX p s m #[Value.ref b] meth c RL cL_law 8 ret) (hK : gK G s) (hE : EV E (fun q => s.heap.size ≤ q) s s.heap) (hX : va_X b L xs s s.heap) (hbl : b < s.heap.size) (hL : L ≤ 2048) (hi : 0 ≤ i ∧ i + 4 ≤ L) (K : LK p l e s m below meth c Q G b tb r x cu h pa o sg qn qb sn X i 740) : LK p l e s m below meth c Q G b tb r x cu h pa o sg qn qb sn X i 26 := by
  intro S v u y sv sv' g g' n ln has tx k S1 T1 L1 A1 H locs ls hI hW hl
  obtain ⟨a0, h0, e0⟩ := iI_ex (xs i.toNat)
  obtain ⟨t, ht, et⟩ := and31_ex (iI a0)
  refine z_al_n C hl dL_law_26 3 rfl 27 rfl ?_
  refine z_il_n C hl dL_law_27 0 rfl 28 rfl ?_
  refine z_sld C hX hbl hW (by omega) hL e0 dL_law_28 29 rfl ?_
  refine z_bipush C dL_law_29 (by decide) 31 rfl ?_
  refine z_iand C dL_law_31 32 rfl ?_
  refine z_top (b := .int (iI t)) (congrArg Value.int et) ?_
  have hsw : t = 0 ∨ t = 1 ∨ t = 2 ∨ t = 3 ∨ t = 4 ∨ t = 5 ∨ t = 6 ∨ t = 7 ∨ t = 8 ∨ t = 9 ∨ t = 10 ∨ t = 11 ∨ t = 12 ∨ t = 13 ∨ t = 14 ∨ t = 15 ∨ t = 16 ∨ t = 17 ∨ t = 18 ∨ t = 19 ∨ t = 20 ∨ t = 21 ∨ 21 < t := by omega
  rcases hsw with hs | hs | hs | hs | hs | hs | hs | hs | hs | hs | hs | hs | hs | hs | hs | hs | hs | hs | hs | hs | hs | hs | hs
  · refine z_swIn C dL_law_32 (by omega) (by omega) 104 136 (by rw [hs]; rfl) (by decide) ?_
    exact lc_0 l C hK hE hX hbl hL hi K S v u y sv sv' g g' n ln has tx k S1 T1 L1 A1 _ _ ls hI hW hl
  · refine z_swIn C dL_law_32 (by omega) (by omega) 163 195 (by rw [hs]; rfl) (by decide) ?_
    exact lc_1 l C hK hE hX hbl hL hi K S v u y sv sv' g g' n ln has tx k S1 T1 L1 A1 _ _ ls hI hW hl
  · refine z_swIn C dL_law_32 (by omega) (by omega) 206 238 (by rw [hs]; rfl) (by decide) ?_
    exact lc_2 l C hK hE hX hbl hL hi K S v u y sv sv' g g' n ln has tx k S1 T1 L1 A1 _ _ ls hI hW hl
  · refine z_swIn C dL_law_32 (by omega) (by omega) 239 271 (by rw [hs]; rfl) (by decide) ?_
    exact lc_3 l C hK hE hX hbl hL hi K S v u y sv sv' g g' n ln has tx k S1 T1 L1 A1 _ _ ls hI hW hl
  · refine z_swIn C dL_law_32 (by omega) (by omega) 282 314 (by rw [hs]; rfl) (by decide) ?_
    exact lc_4 l C hK hE hX hbl hL hi K S v u y sv sv' g g' n ln has tx k S1 T1 L1 A1 _ _ ls hI hW hl
  · refine z_swIn C dL_law_32 (by omega) (by omega) 295 327 (by rw [hs]; rfl) (by decide) ?_
    exact lc_5 l C hK hE hX hbl hL hi K S v u y sv sv' g g' n ln has tx k S1 T1 L1 A1 _ _ ls hI hW hl
  · refine z_swIn C dL_law_32 (by omega) (by omega) 320 352 (by rw [hs]; rfl) (by decide) ?_
    exact lc_6 l C hK hE hX hbl hL hi K S v u y sv sv' g g' n ln has tx k S1 T1 L1 A1 _ _ ls hI hW hl
  · refine z_swIn C dL_law_32 (by omega) (by omega) 333 365 (by rw [hs]; rfl) (by decide) ?_
    exact lc_7 l C hK hE hX hbl hL hi K S v u y sv sv' g g' n ln has tx k S1 T1 L1 A1 _ _ ls hI hW hl
  · refine z_swIn C dL_law_32 (by omega) (by omega) 346 378 (by rw [hs]; rfl) (by decide) ?_
    exact lc_8 l C hK hE hX hbl hL hi K S v u y sv sv' g g' n ln has tx k S1 T1 L1 A1 _ _ ls hI hW hl
  · refine z_swIn C dL_law_32 (by omega) (by omega) 359 391 (by rw [hs]; rfl) (by decide) ?_
    exact lc_9 l C hK hE hX hbl hL hi K S v u y sv sv' g g' n ln has tx k S1 T1 L1 A1 _ _ ls hI hW hl
  · refine z_swIn C dL_law_32 (by omega) (by omega) 372 404 (by rw [hs]; rfl) (by decide) ?_
    exact lc_10 l C hK hE hX hbl hL hi K S v u y sv sv' g g' n ln has tx k S1 T1 L1 A1 _ _ ls hI hW hl
  · refine z_swIn C dL_law_32 (by omega) (by omega) 385 417 (by rw [hs]; rfl) (by decide) ?_
    exact lc_11 l C hK hE hX hbl hL hi K S v u y sv sv' g g' n ln has tx k S1 T1 L1 A1 _ _ ls hI hW hl
  · refine z_swIn C dL_law_32 (by omega) (by omega) 398 430 (by rw [hs]; rfl) (by decide) ?_
    exact lc_12 l C hK hE hX hbl hL hi K S v u y sv sv' g g' n ln has tx k S1 T1 L1 A1 _ _ ls hI hW hl
  · refine z_swIn C dL_law_32 (by omega) (by omega) 431 463 (by rw [hs]; rfl) (by decide) ?_
    exact lc_13 l C hK hE hX hbl hL hi K S v u y sv sv' g g' n ln has tx k S1 T1 L1 A1 _ _ ls hI hW hl
  · refine z_swIn C dL_law_32 (by omega) (by omega) 464 496 (by rw [hs]; rfl) (by decide) ?_
    exact lc_14 l C hK hE hX hbl hL hi K S v u y sv sv' g g' n ln has tx k S1 T1 L1 A1 _ _ ls hI hW hl
  · refine z_swIn C dL_law_32 (by omega) (by omega) 487 519 (by rw [hs]; rfl) (by decide) ?_
    exact lc_15 l C hK hE hX hbl hL hi K S v u y sv sv' g g' n ln has tx k S1 T1 L1 A1 _ _ ls hI hW hl
  · refine z_swIn C dL_law_32 (by omega) (by omega) 530 562 (by rw [hs]; rfl) (by decide) ?_
    exact lc_16 l C hK hE hX hbl hL hi K S v u y sv sv' g g' n ln has tx k S1 T1 L1 A1 _ _ ls hI hW hl
  · refine z_swIn C dL_law_32 (by omega) (by omega) 553 585 (by rw [hs]; rfl) (by decide) ?_
    exact lc_17 l C hK hE hX hbl hL hi K S v u y sv sv' g g' n ln has tx k S1 T1 L1 A1 _ _ ls hI hW hl
  · refine z_swIn C dL_law_32 (by omega) (by omega) 616 648 (by rw [hs]; rfl) (by decide) ?_
    exact lc_18 l C hK hE hX hbl hL hi K S v u y sv sv' g g' n ln has tx k S1 T1 L1 A1 _ _ ls hI hW hl
  · refine z_swIn C dL_law_32 (by omega) (by omega) 639 671 (by rw [hs]; rfl) (by decide) ?_
    exact lc_19 l C hK hE hX hbl hL hi K S v u y sv sv' g g' n ln has tx k S1 T1 L1 A1 _ _ ls hI hW hl
  · refine z_swIn C dL_law_32 (by omega) (by omega) 672 704 (by rw [hs]; rfl) (by decide) ?_
    exact lc_20 l C hK hE hX hbl hL hi K S v u y sv sv' g g' n ln has tx k S1 T1 L1 A1 _ _ ls hI hW hl
  · refine z_swIn C dL_law_32 (by omega) (by omega) 695 727 (by rw [hs]; rfl) (by decide) ?_
    exact lc_21 l C hK hE hX hbl hL hi K S v u y sv sv' g g' n ln has tx k S1 T1 L1 A1 _ _ ls hI hW hl
  · refine z_swOut C dL_law_32 (by omega) (Or.inr hs) 740 (by decide) ?_
    exact K S v u y sv sv' g g' n ln has tx k S1 T1 L1 A1 _ _ ls hI hW hl
