set_option maxHeartbeats 4000000 in
set_option maxRecDepth 100000 in
theorem m_xcopies (l : Launch) (G : gT) (X : Nat → Nat) (kn ml : Int) (kp : Bool) (v y : Int → Int)  (hD : gD ([[moO X kn kp ml], [arI G (X 1) 258 (s2Z v y)]] : List va_W).flatten) : MW l G yX6_copies cX6_copies 2 (none) 0 [.ref (X 0)] [[moO X kn kp ml], [arI G (X 1) 258 (s2Z v y)]] [[moO X kn kp ml], [arI G (X 1) 258 (s2Z v v)]] ZT none := by
  refine enterW (own := RX6) (by decide +kernel) rfl (Nat.le_of_ble_eq_true rfl) hD ?_
  intro p e s m below meth c C hW hK hZ ls hl
  have hl : lv_has ls 2 [(0, .ref (X 0))] := hl
  refine z_iconst C dX6_copies_0 1 rfl ?_
  have hW := Wd.ceq (rs' := [[moO X kn kp ml], [arI G (X 1) 258 (s2Z v (mixZ v y 0))]]) hW ⟨ceq.rf, ⟨ceq.I (fun k h8 h9 => by unfold s2Z; split <;> first | rfl | exact (mixZ_0 (by omega)).symm), trivial⟩⟩
  refine z_is_n C hl dX6_copies_1 2 rfl (by decide) (lv' := [(1, .int (iI (0))), (0, .ref (X 0))]) rfl (fun ls hl => ?_)
  have L2 : ∀ (fu : Nat) (k : Int) (h1 : 0 ≤ k ∧ k ≤ 129) (H : Heap) (locs : List Loc) (hW : Wd G (adr ([[moO X kn kp ml], [arI G (X 1) 258 (s2Z v y)]] : List va_W).flatten) [[moO X kn kp ml], [arI G (X 1) 258 (s2Z v (mixZ v y k))]] s.heap H locs) (hm : 129 - k < (fu : Int)) (ls : Array Slot) (hl : lv_has ls 2 [(1, .int (iI (k))), (0, .ref (X 0))]), W p l e (rmN 0) s m [.ref (X 0)].toArray below meth c H locs 0 0 (MQ below (QW G [[moO X kn kp ml], [arI G (X 1) 258 (s2Z v y)]] [[moO X kn kp ml], [arI G (X 1) 258 (s2Z v v)]] none) [.ref (X 0)].toArray s 0 0 (adr ([[moO X kn kp ml], [arI G (X 1) 258 (s2Z v y)]] : List va_W).flatten)) (F0 m 2 ls []) := by
    intro fu
    induction fu with
    | zero => intro k h1 H locs hW hm ls hl; exfalso; omega
    | succ fu ih =>
      intro k h1 H locs hW hm ls hl
      have ih2 := ih
      refine z_il_n C hl dX6_copies_2 0 rfl 3 rfl ?_
      refine z_sipush C dX6_copies_3 (by decide) 6 rfl ?_
      refine z_icmp_ge C dX6_copies_6 31 9 (by decide) rfl (by omega) (fun c6 => ?_) (fun c6 => ?_)
      · skip
        rw [show k = 129 by omega] at hW
        have hW := Wd.ceq (rs' := [[moO X kn kp ml], [arI G (X 1) 258 (s2Z v v)]]) hW ⟨ceq.rf, ⟨ceq.I (fun k h8 h9 => by unfold s2Z; split <;> first | rfl | exact mixZ_n (by omega)), trivial⟩⟩
        exact z_wv C hW dX6_copies_31 rfl
      · skip
        refine z_al_n C hl dX6_copies_9 1 rfl 10 rfl ?_
        refine z_get C hW.1 hK fl_X6_7 0 rfl rfl dX6_copies_10 13 rfl ?_
        refine z_sipush C dX6_copies_13 (by decide) 16 rfl ?_
        refine z_il_n C hl dX6_copies_16 0 rfl 17 rfl ?_
        refine z_iadd C dX6_copies_17 18 rfl (129 + k) (rfl) ?_
        refine z_al_n C hl dX6_copies_18 1 rfl 19 rfl ?_
        refine z_get C hW.1 hK fl_X6_7 0 rfl rfl dX6_copies_19 22 rfl ?_
        refine z_il_n C hl dX6_copies_22 0 rfl 23 rfl ?_
        refine z_iaZ C (s2Z v (mixZ v y k)) hW.1 hK 1 rfl (by omega) (by decide) (v k) (s2_lo (by omega)) dX6_copies_23 24 rfl ?_
        refine z_iasZ C (s2Z v (mixZ v y k)) hW hK 1 rfl (by omega) (by decide) dX6_copies_24 25 rfl (rs' := [[moO X kn kp ml], [arI G (X 1) 258 (s2Z v (updZ (mixZ v y k) k (v k)))]]) (by rw [show updZ (s2Z v (mixZ v y k)) (129 + k) (v k) = s2Z v (updZ (mixZ v y k) k (v k)) from (congrArg (fun j => updZ (s2Z v (mixZ v y k)) j (v k)) (show (129 + k : Int) = 129 + k by omega)).trans (s2_up (by omega))]; rfl) (fun H locs hW => ?_)
        rw [mixZ_s, Int.add_comm k 1] at hW
        refine z_iinc C hl dX6_copies_25 28 rfl 0 rfl (z := 1 + k) (by omega) (by decide) (lv' := [(1, .int (iI (1 + k))), (0, .ref (X 0))]) rfl (fun ls hl => ?_)
        refine z_goto C dX6_copies_28 2 (by decide) ?_
        exact ih2 (1 + k) (by omega) _ _ hW (by omega) ls (lv_sub hl [0, 1] rfl)
  exact L2 (Int.toNat (129 - 0) + 1) 0 (by omega) _ _ hW (by omega) ls (lv_sub hl [0, 1] rfl)

set_option maxHeartbeats 4000000 in
set_option maxRecDepth 100000 in
theorem m_xrem (l : Launch) (G : gT) (X : Nat → Nat) (kn ml : Int) (kp : Bool) (v y : Int → Int) (g : Nat → Int → Int) (hkn : 0 ≤ kn ∧ kn ≤ 4) (hD : gD ([[moO X kn kp ml], [arI G (X 1) 258 (s2Z v y)], [arI G (X 2) 516 (paF g)]] : List va_W).flatten) : MW l G yX6_remembers cX6_remembers 2 (none) 0 [.ref (X 0)] [[moO X kn kp ml], [arI G (X 1) 258 (s2Z v y)], [arI G (X 2) 516 (paF g)]] [[moO X (recN kn) kp ml], [arI G (X 1) 258 (s2Z v y)], [arI G (X 2) 516 (paF (recG kn g v))]] ZT none := by
  refine enterW (own := RX6) (by decide +kernel) rfl (Nat.le_of_ble_eq_true rfl) hD ?_
  intro p e s m below meth c C hW hK hZ ls hl
  have hl : lv_has ls 2 [(0, .ref (X 0))] := hl
  refine z_al_n C hl dX6_remembers_0 0 rfl 1 rfl ?_
  refine z_get C hW.1 hK fl_X6_43 0 rfl rfl dX6_remembers_1 4 rfl ?_
  refine z_iconst C dX6_remembers_4 5 rfl ?_
  refine z_icmp_ne C dX6_remembers_5 49 8 (by decide) rfl (by omega) (fun c5 => ?_) (fun c5 => ?_)
  · skip
    skip
    refine z_iconst C dX6_remembers_49 50 rfl ?_
    have hW := hW.re (rs' := [[moO X kn kp ml], [arI G (X 1) 258 (s2Z v y)], [arI G (X 2) 516 (paF g)]]) rfl
    have hW := Wd.ceq (rs' := [[moO X kn kp ml], [arI G (X 1) 258 (s2Z v y)], [arI G (X 2) 516 (wrZ (paF g) (129 * kn) v 0)]]) hW ⟨ceq.rf, ⟨ceq.rf, ⟨ceq.I (fun k h8 h9 => (congrFun (wrZ_0 (b := paF g) (o := 129 * kn) (v := v)) k).symm), trivial⟩⟩⟩
    refine z_is_n C hl dX6_remembers_50 51 rfl (by decide) (lv' := [(1, .int (iI (0))), (0, .ref (X 0))]) rfl (fun ls hl => ?_)
    have L51 : ∀ (fu : Nat) (k : Int) (h1 : 0 ≤ k ∧ k ≤ 129) (H : Heap) (locs : List Loc) (hW : Wd G (adr ([[moO X kn kp ml], [arI G (X 1) 258 (s2Z v y)], [arI G (X 2) 516 (paF g)]] : List va_W).flatten) [[moO X kn kp ml], [arI G (X 1) 258 (s2Z v y)], [arI G (X 2) 516 (wrZ (paF g) (129 * kn) v (k))]] s.heap H locs) (hm : 129 - k < (fu : Int)) (ls : Array Slot) (hl : lv_has ls 2 [(1, .int (iI (k))), (0, .ref (X 0))]), W p l e (rmN 0) s m [.ref (X 0)].toArray below meth c H locs 0 0 (MQ below (QW G [[moO X kn kp ml], [arI G (X 1) 258 (s2Z v y)], [arI G (X 2) 516 (paF g)]] [[moO X (recN kn) kp ml], [arI G (X 1) 258 (s2Z v y)], [arI G (X 2) 516 (paF (recG kn g v))]] none) [.ref (X 0)].toArray s 0 0 (adr ([[moO X kn kp ml], [arI G (X 1) 258 (s2Z v y)], [arI G (X 2) 516 (paF g)]] : List va_W).flatten)) (F0 m 51 ls []) := by
      intro fu
      induction fu with
      | zero => intro k h1 H locs hW hm ls hl; exfalso; omega
      | succ fu ih =>
        intro k h1 H locs hW hm ls hl
        have ih51 := ih
        refine z_il_n C hl dX6_remembers_51 0 rfl 52 rfl ?_
        refine z_sipush C dX6_remembers_52 (by decide) 55 rfl ?_
        refine z_icmp_ge C dX6_remembers_55 85 58 (by decide) rfl (by omega) (fun c55 => ?_) (fun c55 => ?_)
        · skip
          refine z_al_n C hl dX6_remembers_85 1 rfl 86 rfl ?_
          refine z_dup C dX6_remembers_86 rfl 87 rfl ?_
          refine z_get C hW.1 hK fl_X6_43 0 rfl rfl dX6_remembers_87 90 rfl ?_
          refine z_iconst C dX6_remembers_90 91 rfl ?_
          refine z_iadd C dX6_remembers_91 92 rfl (1 + kn) (by omega) ?_
          refine z_put C hW hK fl_X6_43 fc_X6_2 0 rfl (rfl) (rfl) (Nat.le_of_ble_eq_true rfl) dX6_remembers_92 95 rfl (rs' := [[(X 0, .inr (6, [.ref (X 1), .ref (X 2), .int (iI (1 + kn)), .ref (X 3), .int (iI (bZ (kp))), .ref (X 4), .int (iI (ml)), .ref (X 5), .ref (X 6), .ref (X 7), .ref (X 8)]))], [arI G (X 1) 258 (s2Z v y)], [arI G (X 2) 516 (wrZ (paF g) (129 * kn) v (k))]]) rfl (fun H locs hW => ?_)
          rw [show k = 129 by omega] at hW
          have hW := Wd.ceq (rs' := [[(X 0, .inr (6, [.ref (X 1), .ref (X 2), .int (iI (1 + kn)), .ref (X 3), .int (iI (bZ (kp))), .ref (X 4), .int (iI (ml)), .ref (X 5), .ref (X 6), .ref (X 7), .ref (X 8)]))], [arI G (X 1) 258 (s2Z v y)], [arI G (X 2) 516 (paF (recG kn g v))]]) hW ⟨ceq.rf, ⟨ceq.rf, ⟨ceq.I (fun k h8 h9 => pa_rec (by omega) h8), trivial⟩⟩⟩
          have hW := hW.re (rs' := [[moO X (1 + kn) kp ml], [arI G (X 1) 258 (s2Z v y)], [arI G (X 2) 516 (paF (recG kn g v))]]) rfl
          have e1 : recN kn = 1 + kn := by unfold recN; rw [if_neg (by omega)]; omega
          rw [e1]
          exact z_wv C hW dX6_remembers_95 rfl
        · skip
          refine z_al_n C hl dX6_remembers_58 1 rfl 59 rfl ?_
          refine z_get C hW.1 hK fl_X6_13 0 rfl rfl dX6_remembers_59 62 rfl ?_
          refine z_sipush C dX6_remembers_62 (by decide) 65 rfl ?_
          refine z_al_n C hl dX6_remembers_65 1 rfl 66 rfl ?_
          refine z_get C hW.1 hK fl_X6_43 0 rfl rfl dX6_remembers_66 69 rfl ?_
          refine z_imul C dX6_remembers_69 70 rfl (129 * kn) (rfl) ?_
          refine z_il_n C hl dX6_remembers_70 0 rfl 71 rfl ?_
          refine z_iadd C dX6_remembers_71 72 rfl (k + 129 * kn) (by omega) ?_
          refine z_al_n C hl dX6_remembers_72 1 rfl 73 rfl ?_
          refine z_get C hW.1 hK fl_X6_7 0 rfl rfl dX6_remembers_73 76 rfl ?_
          refine z_il_n C hl dX6_remembers_76 0 rfl 77 rfl ?_
          refine z_iaZ C (s2Z v y) hW.1 hK 1 rfl (by omega) (by decide) (v k) (s2_lo (by omega)) dX6_remembers_77 78 rfl ?_
          refine z_iasZ C (wrZ (paF g) (129 * kn) v (k)) hW hK 2 rfl (by omega) (by decide) dX6_remembers_78 79 rfl (rs' := [[moO X kn kp ml], [arI G (X 1) 258 (s2Z v y)], [arI G (X 2) 516 (updZ (wrZ (paF g) (129 * kn) v (k)) (k + 129 * kn) (v k))]]) rfl (fun H locs hW => ?_)
          rw [Int.add_comm k (129 * kn), wrZ_s h1.1] at hW
          refine z_iinc C hl dX6_remembers_79 82 rfl 0 rfl (z := 1 + k) (by omega) (by decide) (lv' := [(1, .int (iI (1 + k))), (0, .ref (X 0))]) rfl (fun ls hl => ?_)
          refine z_goto C dX6_remembers_82 51 (by decide) ?_
          exact ih51 (1 + k) (by omega) _ _ hW (by omega) ls (lv_sub hl [0, 1] rfl)
    exact L51 (Int.toNat (129 - 0) + 1) 0 (by omega) _ _ hW (by omega) ls (lv_sub hl [0, 1] rfl)
  · skip
    skip
    refine z_iconst C dX6_remembers_8 9 rfl ?_
    have hW := Wd.ceq (rs' := [[moO X kn kp ml], [arI G (X 1) 258 (s2Z v y)], [arI G (X 2) 516 (mixZ (fun j => paF g (129 + j)) (paF g) 0)]]) hW ⟨ceq.rf, ⟨ceq.rf, ⟨ceq.I (fun k h8 h9 => (mixZ_0 h8).symm), trivial⟩⟩⟩
    refine z_is_n C hl dX6_remembers_9 10 rfl (by decide) (lv' := [(1, .int (iI (0))), (0, .ref (X 0))]) rfl (fun ls hl => ?_)
    have L10 : ∀ (fu : Nat) (k : Int) (h1 : 0 ≤ k ∧ k ≤ 387) (H : Heap) (locs : List Loc) (hW : Wd G (adr ([[moO X kn kp ml], [arI G (X 1) 258 (s2Z v y)], [arI G (X 2) 516 (paF g)]] : List va_W).flatten) [[moO X kn kp ml], [arI G (X 1) 258 (s2Z v y)], [arI G (X 2) 516 (mixZ (fun j => paF g (129 + j)) (paF g) k)]] s.heap H locs) (hm : 387 - k < (fu : Int)) (ls : Array Slot) (hl : lv_has ls 2 [(1, .int (iI (k))), (0, .ref (X 0))]), W p l e (rmN 0) s m [.ref (X 0)].toArray below meth c H locs 0 0 (MQ below (QW G [[moO X kn kp ml], [arI G (X 1) 258 (s2Z v y)], [arI G (X 2) 516 (paF g)]] [[moO X (recN kn) kp ml], [arI G (X 1) 258 (s2Z v y)], [arI G (X 2) 516 (paF (recG kn g v))]] none) [.ref (X 0)].toArray s 0 0 (adr ([[moO X kn kp ml], [arI G (X 1) 258 (s2Z v y)], [arI G (X 2) 516 (paF g)]] : List va_W).flatten)) (F0 m 10 ls []) := by
      intro fu
      induction fu with
      | zero => intro k h1 H locs hW hm ls hl; exfalso; omega
      | succ fu ih =>
        intro k h1 H locs hW hm ls hl
        have ih10 := ih
        refine z_il_n C hl dX6_remembers_10 0 rfl 11 rfl ?_
        refine z_sipush C dX6_remembers_11 (by decide) 14 rfl ?_
        refine z_icmp_ge C dX6_remembers_14 39 17 (by decide) rfl (by omega) (fun c14 => ?_) (fun c14 => ?_)
        · skip
          rw [show k = 387 by omega] at hW
          refine z_al_n C hl dX6_remembers_39 1 rfl 40 rfl ?_
          refine z_dup C dX6_remembers_40 rfl 41 rfl ?_
          refine z_get C hW.1 hK fl_X6_43 0 rfl rfl dX6_remembers_41 44 rfl ?_
          refine z_top (b := .int (iI 4)) (congrArg (fun z => Value.int (iI z)) c5) ?_
          refine z_iconst C dX6_remembers_44 45 rfl ?_
          refine z_isub C dX6_remembers_45 46 rfl (3) (by omega) ?_
          refine z_put C hW hK fl_X6_43 fc_X6_2 0 rfl (rfl) (rfl) (Nat.le_of_ble_eq_true rfl) dX6_remembers_46 49 rfl (rs' := [[(X 0, .inr (6, [.ref (X 1), .ref (X 2), .int (iI (3)), .ref (X 3), .int (iI (bZ (kp))), .ref (X 4), .int (iI (ml)), .ref (X 5), .ref (X 6), .ref (X 7), .ref (X 8)]))], [arI G (X 1) 258 (s2Z v y)], [arI G (X 2) 516 (mixZ (fun j => paF g (129 + j)) (paF g) 387)]]) rfl (fun H locs hW => ?_)
          refine z_iconst C dX6_remembers_49 50 rfl ?_
          have hW := hW.re (rs' := [[moO X 3 kp ml], [arI G (X 1) 258 (s2Z v y)], [arI G (X 2) 516 (mixZ (fun j => paF g (129 + j)) (paF g) 387)]]) rfl
          have hW := Wd.ceq (rs' := [[moO X 3 kp ml], [arI G (X 1) 258 (s2Z v y)], [arI G (X 2) 516 (wrZ (mixZ (fun j => paF g (129 + j)) (paF g) 387) (387) v 0)]]) hW ⟨ceq.rf, ⟨ceq.rf, ⟨ceq.I (fun k h8 h9 => (congrFun (wrZ_0 (b := mixZ (fun j => paF g (129 + j)) (paF g) 387) (o := 387) (v := v)) k).symm), trivial⟩⟩⟩
          refine z_is_n C hl dX6_remembers_50 51 rfl (by decide) (lv' := [(1, .int (iI (0))), (0, .ref (X 0))]) rfl (fun ls hl => ?_)
          have L51 : ∀ (fu : Nat) (k : Int) (h1 : 0 ≤ k ∧ k ≤ 129) (H : Heap) (locs : List Loc) (hW : Wd G (adr ([[moO X kn kp ml], [arI G (X 1) 258 (s2Z v y)], [arI G (X 2) 516 (paF g)]] : List va_W).flatten) [[moO X 3 kp ml], [arI G (X 1) 258 (s2Z v y)], [arI G (X 2) 516 (wrZ (mixZ (fun j => paF g (129 + j)) (paF g) 387) (387) v (k))]] s.heap H locs) (hm : 129 - k < (fu : Int)) (ls : Array Slot) (hl : lv_has ls 2 [(1, .int (iI (k))), (0, .ref (X 0))]), W p l e (rmN 0) s m [.ref (X 0)].toArray below meth c H locs 0 0 (MQ below (QW G [[moO X kn kp ml], [arI G (X 1) 258 (s2Z v y)], [arI G (X 2) 516 (paF g)]] [[moO X (recN kn) kp ml], [arI G (X 1) 258 (s2Z v y)], [arI G (X 2) 516 (paF (recG kn g v))]] none) [.ref (X 0)].toArray s 0 0 (adr ([[moO X kn kp ml], [arI G (X 1) 258 (s2Z v y)], [arI G (X 2) 516 (paF g)]] : List va_W).flatten)) (F0 m 51 ls []) := by
            intro fu
            induction fu with
            | zero => intro k h1 H locs hW hm ls hl; exfalso; omega
            | succ fu ih =>
              intro k h1 H locs hW hm ls hl
              have ih51 := ih
              refine z_il_n C hl dX6_remembers_51 0 rfl 52 rfl ?_
              refine z_sipush C dX6_remembers_52 (by decide) 55 rfl ?_
              refine z_icmp_ge C dX6_remembers_55 85 58 (by decide) rfl (by omega) (fun c55 => ?_) (fun c55 => ?_)
              · skip
                refine z_al_n C hl dX6_remembers_85 1 rfl 86 rfl ?_
                refine z_dup C dX6_remembers_86 rfl 87 rfl ?_
                refine z_get C hW.1 hK fl_X6_43 0 rfl rfl dX6_remembers_87 90 rfl ?_
                refine z_iconst C dX6_remembers_90 91 rfl ?_
                refine z_iadd C dX6_remembers_91 92 rfl (4) (by omega) ?_
                refine z_put C hW hK fl_X6_43 fc_X6_2 0 rfl (rfl) (rfl) (Nat.le_of_ble_eq_true rfl) dX6_remembers_92 95 rfl (rs' := [[(X 0, .inr (6, [.ref (X 1), .ref (X 2), .int (iI (4)), .ref (X 3), .int (iI (bZ (kp))), .ref (X 4), .int (iI (ml)), .ref (X 5), .ref (X 6), .ref (X 7), .ref (X 8)]))], [arI G (X 1) 258 (s2Z v y)], [arI G (X 2) 516 (wrZ (mixZ (fun j => paF g (129 + j)) (paF g) 387) (387) v (k))]]) rfl (fun H locs hW => ?_)
                rw [show k = 129 by omega] at hW
                have hW := Wd.ceq (rs' := [[(X 0, .inr (6, [.ref (X 1), .ref (X 2), .int (iI (4)), .ref (X 3), .int (iI (bZ (kp))), .ref (X 4), .int (iI (ml)), .ref (X 5), .ref (X 6), .ref (X 7), .ref (X 8)]))], [arI G (X 1) 258 (s2Z v y)], [arI G (X 2) 516 (paF (recG kn g v))]]) hW ⟨ceq.rf, ⟨ceq.rf, ⟨ceq.I (fun k h8 h9 => by rw [c5]; exact pa_rec4 h8 h9), trivial⟩⟩⟩
                have hW := hW.re (rs' := [[moO X 4 kp ml], [arI G (X 1) 258 (s2Z v y)], [arI G (X 2) 516 (paF (recG kn g v))]]) rfl
                have e1 : recN kn = 4 := by unfold recN; rw [if_pos c5]
                rw [e1]
                exact z_wv C hW dX6_remembers_95 rfl
              · skip
                refine z_al_n C hl dX6_remembers_58 1 rfl 59 rfl ?_
                refine z_get C hW.1 hK fl_X6_13 0 rfl rfl dX6_remembers_59 62 rfl ?_
                refine z_sipush C dX6_remembers_62 (by decide) 65 rfl ?_
                refine z_al_n C hl dX6_remembers_65 1 rfl 66 rfl ?_
                refine z_get C hW.1 hK fl_X6_43 0 rfl rfl dX6_remembers_66 69 rfl ?_
                refine z_imul C dX6_remembers_69 70 rfl (387) (by omega) ?_
                refine z_il_n C hl dX6_remembers_70 0 rfl 71 rfl ?_
                refine z_iadd C dX6_remembers_71 72 rfl (387 + k) (rfl) ?_
                refine z_al_n C hl dX6_remembers_72 1 rfl 73 rfl ?_
                refine z_get C hW.1 hK fl_X6_7 0 rfl rfl dX6_remembers_73 76 rfl ?_
                refine z_il_n C hl dX6_remembers_76 0 rfl 77 rfl ?_
                refine z_iaZ C (s2Z v y) hW.1 hK 1 rfl (by omega) (by decide) (v k) (s2_lo (by omega)) dX6_remembers_77 78 rfl ?_
                refine z_iasZ C (wrZ (mixZ (fun j => paF g (129 + j)) (paF g) 387) (387) v (k)) hW hK 2 rfl (by omega) (by decide) dX6_remembers_78 79 rfl (rs' := [[moO X 3 kp ml], [arI G (X 1) 258 (s2Z v y)], [arI G (X 2) 516 (updZ (wrZ (mixZ (fun j => paF g (129 + j)) (paF g) 387) (387) v (k)) (387 + k) (v k))]]) rfl (fun H locs hW => ?_)
                rw [wrZ_s h1.1] at hW
                refine z_iinc C hl dX6_remembers_79 82 rfl 0 rfl (z := 1 + k) (by omega) (by decide) (lv' := [(1, .int (iI (1 + k))), (0, .ref (X 0))]) rfl (fun ls hl => ?_)
                refine z_goto C dX6_remembers_82 51 (by decide) ?_
                exact ih51 (1 + k) (by omega) _ _ hW (by omega) ls (lv_sub hl [0, 1] rfl)
          exact L51 (Int.toNat (129 - 0) + 1) 0 (by omega) _ _ hW (by omega) ls (lv_sub hl [0, 1] rfl)
        · skip
          refine z_al_n C hl dX6_remembers_17 1 rfl 18 rfl ?_
          refine z_get C hW.1 hK fl_X6_13 0 rfl rfl dX6_remembers_18 21 rfl ?_
          refine z_il_n C hl dX6_remembers_21 0 rfl 22 rfl ?_
          refine z_al_n C hl dX6_remembers_22 1 rfl 23 rfl ?_
          refine z_get C hW.1 hK fl_X6_13 0 rfl rfl dX6_remembers_23 26 rfl ?_
          refine z_sipush C dX6_remembers_26 (by decide) 29 rfl ?_
          refine z_il_n C hl dX6_remembers_29 0 rfl 30 rfl ?_
          refine z_iadd C dX6_remembers_30 31 rfl (129 + k) (rfl) ?_
          refine z_iaZ C (mixZ (fun j => paF g (129 + j)) (paF g) k) hW.1 hK 2 rfl (by omega) (by decide) (paF g (129 + k)) (if_neg (by omega)) dX6_remembers_31 32 rfl ?_
          refine z_iasZ C (mixZ (fun j => paF g (129 + j)) (paF g) k) hW hK 2 rfl (by omega) (by decide) dX6_remembers_32 33 rfl (rs' := [[moO X kn kp ml], [arI G (X 1) 258 (s2Z v y)], [arI G (X 2) 516 (updZ (mixZ (fun j => paF g (129 + j)) (paF g) k) k (paF g (129 + k)))]]) rfl (fun H locs hW => ?_)
          rw [show updZ (mixZ (fun j => paF g (129 + j)) (paF g) k) k (paF g (129 + k)) = mixZ (fun j => paF g (129 + j)) (paF g) (1 + k) from (mixZ_s (f := (fun j => paF g (129 + j)))).trans (by rw [Int.add_comm k 1])] at hW
          refine z_iinc C hl dX6_remembers_33 36 rfl 0 rfl (z := 1 + k) (by omega) (by decide) (lv' := [(1, .int (iI (1 + k))), (0, .ref (X 0))]) rfl (fun ls hl => ?_)
          refine z_goto C dX6_remembers_36 10 (by decide) ?_
          exact ih10 (1 + k) (by omega) _ _ hW (by omega) ls (lv_sub hl [0, 1] rfl)
    exact L10 (Int.toNat (387 - 0) + 1) 0 (by omega) _ _ hW (by omega) ls (lv_sub hl [0, 1] rfl)

set_option maxHeartbeats 4000000 in
set_option maxRecDepth 100000 in
theorem m_xacts (l : Launch) (G : gT) (X : Nat → Nat) (kn ml : Int) (kp : Bool) (v y : Int → Int) (g : Nat → Int → Int) (r : Int) (hkn : 0 ≤ kn ∧ kn ≤ 4) (hr : -2147483648 ≤ r ∧ r < 2147483648) (hD : gD ([[moO X kn kp ml], [arI G (X 1) 258 (s2Z v y)], [arI G (X 2) 516 (paF g)]] : List va_W).flatten) : MW l G yX6_acts cX6_acts 3 (some .int) 1 [.ref (X 0), .int (iI (r))] [[moO X kn kp ml], [arI G (X 1) 258 (s2Z v y)], [arI G (X 2) 516 (paF g)]] [[moO X (actN r kn) kp ml], [arI G (X 1) 258 (s2Z (acV r v y) y)], [arI G (X 2) 516 (paF (actG r kn g v))]] ZT (some (.int (iI (r)))) := by
  refine enterW (own := RX6) (by decide +kernel) rfl (Nat.le_of_ble_eq_true rfl) hD ?_
  intro p e s m below meth c C hW hK hZ ls hl
  have hl : lv_has ls 3 [(0, .ref (X 0)), (1, .int (iI (r)))] := hl
  refine z_il_n C hl dX6_acts_0 1 rfl 1 rfl ?_
  refine z_if_lt C dX6_acts_1 39 4 (by decide) rfl (by omega) (fun c1 => ?_) (fun c1 => ?_)
  · skip
    skip
    skip
    refine z_il_n C hl dX6_acts_39 1 rfl 40 rfl ?_
    have e1 : actN r kn = kn := by unfold actN; exact if_neg (by omega)
    have e3 : actG r kn g v = g := by unfold actG; exact if_neg (by omega)
    have e4 : acV r v y = v := by unfold acV; exact if_neg (by omega)
    rw [e1, e3, e4]
    exact z_wi C hW dX6_acts_40 rfl rfl
  · skip
    refine z_al_n C hl dX6_acts_4 0 rfl 5 rfl ?_
    refine z_VWv (rest := []) C (m_xrem l G X kn ml kp v y g (by omega) (gD_rg hW.2.1 [0, 1, 2] (by decide) rfl)) kV_X6_47 ⟨Nat.le_of_ble_eq_true rfl, Nat.le_of_ble_eq_true rfl⟩ hW hK [0, 1, 2] rfl (sameA_of rfl) 0 rfl rfl rfl hl.1 rfl (Nat.le_of_ble_eq_true rfl) dX6_acts_5 ⟨Nat.le_of_ble_eq_true rfl, Nat.le_of_ble_eq_true rfl⟩ 8 rfl (rs' := [[moO X (recN kn) kp ml], [arI G (X 1) 258 (s2Z v y)], [arI G (X 2) 516 (paF (recG kn g v))]]) rfl (fun H locs hW hkeep => ?_)
    refine z_iconst C dX6_acts_8 9 rfl ?_
    skip
    have hW := Wd.ceq (rs' := [[moO X (recN kn) kp ml], [arI G (X 1) 258 (s2Z (mixZ y v 0) y)], [arI G (X 2) 516 (paF (recG kn g v))]]) hW ⟨ceq.rf, ⟨ceq.I (fun k h8 h9 => by unfold s2Z; split <;> first | rfl | exact (mixZ_0 (by omega)).symm), ceqs.rf⟩⟩
    refine z_is_n C hl dX6_acts_9 10 rfl (by decide) (lv' := [(2, .int (iI (0))), (0, .ref (X 0)), (1, .int (iI (r)))]) rfl (fun ls hl => ?_)
    have L10 : ∀ (fu : Nat) (k : Int) (h1 : 0 ≤ k ∧ k ≤ 129) (H : Heap) (locs : List Loc) (hW : Wd G (adr ([[moO X kn kp ml], [arI G (X 1) 258 (s2Z v y)], [arI G (X 2) 516 (paF g)]] : List va_W).flatten) [[moO X (recN kn) kp ml], [arI G (X 1) 258 (s2Z (mixZ y v k) y)], [arI G (X 2) 516 (paF (recG kn g v))]] s.heap H locs) (hm : 129 - k < (fu : Int)) (ls : Array Slot) (hl : lv_has ls 3 [(2, .int (iI (k))), (1, .int (iI (r))), (0, .ref (X 0))]), W p l e (rmN 1) s m [.ref (X 0), .int (iI (r))].toArray below meth c H locs 0 0 (MQ below (QW G [[moO X kn kp ml], [arI G (X 1) 258 (s2Z v y)], [arI G (X 2) 516 (paF g)]] [[moO X (actN r kn) kp ml], [arI G (X 1) 258 (s2Z (acV r v y) y)], [arI G (X 2) 516 (paF (actG r kn g v))]] (some (.int (iI (r))))) [.ref (X 0), .int (iI (r))].toArray s 0 0 (adr ([[moO X kn kp ml], [arI G (X 1) 258 (s2Z v y)], [arI G (X 2) 516 (paF g)]] : List va_W).flatten)) (F0 m 10 ls []) := by
      intro fu
      induction fu with
      | zero => intro k h1 H locs hW hm ls hl; exfalso; omega
      | succ fu ih =>
        intro k h1 H locs hW hm ls hl
        have ih10 := ih
        refine z_il_n C hl dX6_acts_10 0 rfl 11 rfl ?_
        refine z_sipush C dX6_acts_11 (by decide) 14 rfl ?_
        refine z_icmp_ge C dX6_acts_14 39 17 (by decide) rfl (by omega) (fun c14 => ?_) (fun c14 => ?_)
        · skip
          rw [show k = 129 by omega] at hW
          have hW := Wd.ceq (rs' := [[moO X (recN kn) kp ml], [arI G (X 1) 258 (s2Z y y)], [arI G (X 2) 516 (paF (recG kn g v))]]) hW ⟨ceq.rf, ⟨ceq.I (fun k h8 h9 => by unfold s2Z; split <;> first | rfl | exact mixZ_n (by omega)), ceqs.rf⟩⟩
          refine z_il_n C hl dX6_acts_39 1 rfl 40 rfl ?_
          have e1 : actN r kn = recN kn := by unfold actN; exact if_pos (by omega)
          have e3 : actG r kn g v = recG kn g v := by unfold actG; exact if_pos (by omega)
          have e4 : acV r v y = y := by unfold acV; exact if_pos (by omega)
          rw [e1, e3, e4]
          exact z_wi C hW dX6_acts_40 rfl rfl
        · skip
          refine z_al_n C hl dX6_acts_17 2 rfl 18 rfl ?_
          refine z_get C hW.1 hK fl_X6_7 0 rfl rfl dX6_acts_18 21 rfl ?_
          refine z_il_n C hl dX6_acts_21 0 rfl 22 rfl ?_
          refine z_al_n C hl dX6_acts_22 2 rfl 23 rfl ?_
          refine z_get C hW.1 hK fl_X6_7 0 rfl rfl dX6_acts_23 26 rfl ?_
          refine z_sipush C dX6_acts_26 (by decide) 29 rfl ?_
          refine z_il_n C hl dX6_acts_29 0 rfl 30 rfl ?_
          refine z_iadd C dX6_acts_30 31 rfl (129 + k) (rfl) ?_
          refine z_iaZ C (s2Z (mixZ y v k) y) hW.1 hK 1 rfl (by omega) (by decide) (y k) ((congrArg (s2Z (mixZ y v k) y) (show (129 + k : Int) = 129 + k by omega)).trans (s2_hi (by omega))) dX6_acts_31 32 rfl ?_
          refine z_iasZ C (s2Z (mixZ y v k) y) hW hK 1 rfl (by omega) (by decide) dX6_acts_32 33 rfl (rs' := [[moO X (recN kn) kp ml], [arI G (X 1) 258 (s2Z (updZ (mixZ y v k) k (y k)) y)], [arI G (X 2) 516 (paF (recG kn g v))]]) (by rw [show updZ (s2Z (mixZ y v k) y) k (y k) = s2Z (updZ (mixZ y v k) k (y k)) y from s2_lw (by omega)]; rfl) (fun H locs hW => ?_)
          rw [mixZ_s, Int.add_comm k 1] at hW
          refine z_iinc C hl dX6_acts_33 36 rfl 0 rfl (z := 1 + k) (by omega) (by decide) (lv' := [(2, .int (iI (1 + k))), (1, .int (iI (r))), (0, .ref (X 0))]) rfl (fun ls hl => ?_)
          refine z_goto C dX6_acts_36 10 (by decide) ?_
          exact ih10 (1 + k) (by omega) _ _ hW (by omega) ls (lv_sub hl [0, 1, 2] rfl)
    exact L10 (Int.toNat (129 - 0) + 1) 0 (by omega) _ _ hW (by omega) ls (lv_sub hl [0, 2, 1] rfl)

set_option maxHeartbeats 4000000 in
set_option maxRecDepth 100000 in
theorem m_xsands (l : Launch) (G : gT) (X : Nat → Nat) (kn ml : Int) (kp : Bool) (v y : Int → Int) (x h k : Int) (w : Wf y) (hk : 0 ≤ k ∧ k ≤ 1) (hx : -2147483648 ≤ x ∧ x < 2147483648) (hh : -2147483648 ≤ h ∧ h < 2147483648) (hD : gD ([[moO X kn kp ml], [arI G (X 1) 258 (s2Z v y)]] : List va_W).flatten) : MW l G yX6_sands cX6_sands 6 (some .int) 2 [.ref (X 0), .int (iI (129)), .int (iI (x)), .int (iI (h)), .int (iI (k))] [[moO X kn kp ml], [arI G (X 1) 258 (s2Z v y)]] [[moO X kn kp ml], [arI G (X 1) 258 (s2Z v (layV y x h k))]] ZT (some (.int (iI (layR y x h k)))) := by
  refine enterW (own := RX6) (by decide +kernel) rfl (Nat.le_of_ble_eq_true rfl) hD ?_
  intro p e s m below meth c C hW hK hZ ls hl
  have hl : lv_has ls 6 [(0, .ref (X 0)), (1, .int (iI (129))), (2, .int (iI (x))), (3, .int (iI (h))), (4, .int (iI (k)))] := hl
  have ht := w.t
  have h127 := w.n
  refine z_il_n C hl dX6_sands_0 2 rfl 1 rfl ?_
  refine z_SR (r := .int (iI (bZ (decide (0 ≤ x ∧ x < 36))))) (rest := []) C (m_xisCell l G x (by omega)) kS_X6_98 ⟨Nat.le_of_ble_eq_true rfl, Nat.le_of_ble_eq_true rfl⟩ (gP_nil) hK rfl hl.1 rfl (Nat.le_of_ble_eq_true rfl) dX6_sands_1 ⟨Nat.le_of_ble_eq_true rfl, Nat.le_of_ble_eq_true rfl⟩ 4 rfl ?_
  refine z_ifb_ne C dX6_sands_4 9 7 (by decide) rfl (fun c4 => ?_) (fun c4 => ?_)
  · skip
    simp only [decide_eq_true_eq, decide_eq_false_iff_not] at c4
    refine z_il_n C hl dX6_sands_9 3 rfl 10 rfl ?_
    refine z_iconst C dX6_sands_10 11 rfl ?_
    refine z_iconst C dX6_sands_11 12 rfl ?_
    refine z_SR (r := .int (iI (bZ (decide (0 ≤ h ∧ h ≤ 4))))) (rest := []) C (m_xin l G h 0 4 (by omega) (by omega) (by omega)) kS_X6_35 ⟨Nat.le_of_ble_eq_true rfl, Nat.le_of_ble_eq_true rfl⟩ (gP_nil) hK rfl hl.1 rfl (Nat.le_of_ble_eq_true rfl) dX6_sands_12 ⟨Nat.le_of_ble_eq_true rfl, Nat.le_of_ble_eq_true rfl⟩ 15 rfl ?_
    refine z_ifb_ne C dX6_sands_15 21 18 (by decide) rfl (fun c15 => ?_) (fun c15 => ?_)
    · skip
      simp only [decide_eq_true_eq, decide_eq_false_iff_not] at c15
      refine z_il_n C hl dX6_sands_21 2 rfl 22 rfl ?_
      refine z_if_eq C dX6_sands_22 43 25 (by decide) rfl (by omega) (fun c22 => ?_) (fun c22 => ?_)
      · skip
        refine z_bipush C dX6_sands_43 (by decide) 45 rfl ?_
        have hr : layR y x h k = -4 := by unfold layR; (repeat' split) <;> first | rfl | omega | (exfalso; omega)
        have hv : layV y x h k = y := by unfold layV; exact if_neg (by rw [hr]; omega)
        rw [hr, hv]
        exact z_wi C hW dX6_sands_45 rfl rfl
      · skip
        refine z_il_n C hl dX6_sands_25 2 rfl 26 rfl ?_
        refine z_bipush C dX6_sands_26 (by decide) 28 rfl ?_
        refine z_icmp_eq C dX6_sands_28 43 31 (by decide) rfl (by omega) (fun c28 => ?_) (fun c28 => ?_)
        · skip
          refine z_bipush C dX6_sands_43 (by decide) 45 rfl ?_
          have hr : layR y x h k = -4 := by unfold layR; (repeat' split) <;> first | rfl | omega | (exfalso; omega)
          have hv : layV y x h k = y := by unfold layV; exact if_neg (by rw [hr]; omega)
          rw [hr, hv]
          exact z_wi C hW dX6_sands_45 rfl rfl
        · skip
          refine z_al_n C hl dX6_sands_31 0 rfl 32 rfl ?_
          refine z_get C hW.1 hK fl_X6_7 0 rfl rfl dX6_sands_32 35 rfl ?_
          refine z_il_n C hl dX6_sands_35 1 rfl 36 rfl ?_
          refine z_bipush C dX6_sands_36 (by decide) 38 rfl ?_
          refine z_iadd C dX6_sands_38 39 rfl (255) (by omega) ?_
          refine z_iaZ C (s2Z v y) hW.1 hK 1 rfl (by omega) (by decide) (y 126) ((congrArg (s2Z v y) (show (255 : Int) = 129 + 126 by omega)).trans (s2_hi (by omega))) dX6_sands_39 40 rfl ?_
          refine z_if_eq C dX6_sands_40 46 43 (by decide) rfl (by omega) (fun c40 => ?_) (fun c40 => ?_)
          · skip
            have hx2 := w.h x (by omega)
            have hx3 := w.r x (by omega)
            refine z_al_n C hl dX6_sands_46 0 rfl 47 rfl ?_
            refine z_get C hW.1 hK fl_X6_7 0 rfl rfl dX6_sands_47 50 rfl ?_
            refine z_il_n C hl dX6_sands_50 1 rfl 51 rfl ?_
            refine z_iconst C dX6_sands_51 52 rfl ?_
            refine z_iadd C dX6_sands_52 53 rfl (129) (by omega) ?_
            refine z_il_n C hl dX6_sands_53 2 rfl 54 rfl ?_
            refine z_iadd C dX6_sands_54 55 rfl (129 + x) (rfl) ?_
            refine z_iaZ C (s2Z v y) hW.1 hK 1 rfl (by omega) (by decide) (y x) ((congrArg (s2Z v y) (show (129 + x : Int) = 129 + x by omega)).trans (s2_hi (by omega))) dX6_sands_55 56 rfl ?_
            refine z_is C hl dX6_sands_56 58 rfl (by decide) (lv' := [(5, .int (iI (y x))), (0, .ref (X 0)), (1, .int (iI (129))), (2, .int (iI (x))), (3, .int (iI (h))), (4, .int (iI (k)))]) rfl (fun ls hl => ?_)
            refine z_il C hl dX6_sands_58 0 rfl 60 rfl ?_
            refine z_il_n C hl dX6_sands_60 4 rfl 61 rfl ?_
            refine z_icmp_ne C dX6_sands_61 83 64 (by decide) rfl (by omega) (fun c61 => ?_) (fun c61 => ?_)
            · skip
              refine z_al_n C hl dX6_sands_83 1 rfl 84 rfl ?_
              refine z_get C hW.1 hK fl_X6_7 0 rfl rfl dX6_sands_84 87 rfl ?_
              refine z_il_n C hl dX6_sands_87 2 rfl 88 rfl ?_
              refine z_iconst C dX6_sands_88 89 rfl ?_
              refine z_iadd C dX6_sands_89 90 rfl (129) (by omega) ?_
              refine z_il_n C hl dX6_sands_90 3 rfl 91 rfl ?_
              refine z_iadd C dX6_sands_91 92 rfl (129 + x) (rfl) ?_
              refine z_il_n C hl dX6_sands_92 4 rfl 93 rfl ?_
              refine z_iasZ C (s2Z v y) hW hK 1 rfl (by omega) (by decide) dX6_sands_93 94 rfl (rs' := [[moO X kn kp ml], [arI G (X 1) 258 (s2Z v (updZ y x h))]]) (by rw [show updZ (s2Z v y) (129 + x) h = s2Z v (updZ y x h) from (congrArg (fun j => updZ (s2Z v y) j h) (show (129 + x : Int) = 129 + x by omega)).trans (s2_up (by omega))]; rfl) (fun H locs hW => ?_)
              refine z_al_n C hl dX6_sands_94 1 rfl 95 rfl ?_
              refine z_get C hW.1 hK fl_X6_7 0 rfl rfl dX6_sands_95 98 rfl ?_
              refine z_il_n C hl dX6_sands_98 2 rfl 99 rfl ?_
              refine z_bipush C dX6_sands_99 (by decide) 101 rfl ?_
              refine z_iadd C dX6_sands_101 102 rfl (165) (by omega) ?_
              refine z_il_n C hl dX6_sands_102 3 rfl 103 rfl ?_
              refine z_iadd C dX6_sands_103 104 rfl (165 + x) (rfl) ?_
              refine z_il C hl dX6_sands_104 5 rfl 106 rfl ?_
              refine z_iasZ C (s2Z v (updZ y x h)) hW hK 1 rfl (by omega) (by decide) dX6_sands_106 107 rfl (rs' := [[moO X kn kp ml], [arI G (X 1) 258 (s2Z v (updZ (updZ y x h) (36 + x) k))]]) (by rw [show updZ (s2Z v (updZ y x h)) (165 + x) k = s2Z v (updZ (updZ y x h) (36 + x) k) from (congrArg (fun j => updZ (s2Z v (updZ y x h)) j k) (show (165 + x : Int) = 129 + (36 + x) by omega)).trans (s2_up (by omega))]; rfl) (fun H locs hW => ?_)
              refine z_il C hl dX6_sands_107 0 rfl 109 rfl ?_
              have hr : layR y x h k = y x := by unfold layR; (repeat' split) <;> first | rfl | omega | (exfalso; omega)
              have hv : layV y x h k = updZ (updZ y x h) (36 + x) k := by unfold layV; rw [if_pos (by rw [hr]; omega)]
              rw [hr, hv]
              exact z_wi C hW dX6_sands_109 rfl rfl
            · skip
              refine z_al_n C hl dX6_sands_64 1 rfl 65 rfl ?_
              refine z_get C hW.1 hK fl_X6_7 0 rfl rfl dX6_sands_65 68 rfl ?_
              refine z_il_n C hl dX6_sands_68 2 rfl 69 rfl ?_
              refine z_bipush C dX6_sands_69 (by decide) 71 rfl ?_
              refine z_iadd C dX6_sands_71 72 rfl (165) (by omega) ?_
              refine z_il_n C hl dX6_sands_72 3 rfl 73 rfl ?_
              refine z_iadd C dX6_sands_73 74 rfl (165 + x) (rfl) ?_
              refine z_iaZ C (s2Z v y) hW.1 hK 1 rfl (by omega) (by decide) (y (36 + x)) ((congrArg (s2Z v y) (show (165 + x : Int) = 129 + (36 + x) by omega)).trans (s2_hi (by omega))) dX6_sands_74 75 rfl ?_
              refine z_il C hl dX6_sands_75 5 rfl 77 rfl ?_
              refine z_icmp_ne C dX6_sands_77 83 80 (by decide) rfl (by omega) (fun c77 => ?_) (fun c77 => ?_)
              · skip
                refine z_al_n C hl dX6_sands_83 1 rfl 84 rfl ?_
                refine z_get C hW.1 hK fl_X6_7 0 rfl rfl dX6_sands_84 87 rfl ?_
                refine z_il_n C hl dX6_sands_87 2 rfl 88 rfl ?_
                refine z_iconst C dX6_sands_88 89 rfl ?_
                refine z_iadd C dX6_sands_89 90 rfl (129) (by omega) ?_
                refine z_il_n C hl dX6_sands_90 3 rfl 91 rfl ?_
                refine z_iadd C dX6_sands_91 92 rfl (129 + x) (rfl) ?_
                refine z_il_n C hl dX6_sands_92 4 rfl 93 rfl ?_
                refine z_iasZ C (s2Z v y) hW hK 1 rfl (by omega) (by decide) dX6_sands_93 94 rfl (rs' := [[moO X kn kp ml], [arI G (X 1) 258 (s2Z v (updZ y x h))]]) (by rw [show updZ (s2Z v y) (129 + x) h = s2Z v (updZ y x h) from (congrArg (fun j => updZ (s2Z v y) j h) (show (129 + x : Int) = 129 + x by omega)).trans (s2_up (by omega))]; rfl) (fun H locs hW => ?_)
                refine z_al_n C hl dX6_sands_94 1 rfl 95 rfl ?_
                refine z_get C hW.1 hK fl_X6_7 0 rfl rfl dX6_sands_95 98 rfl ?_
                refine z_il_n C hl dX6_sands_98 2 rfl 99 rfl ?_
                refine z_bipush C dX6_sands_99 (by decide) 101 rfl ?_
                refine z_iadd C dX6_sands_101 102 rfl (165) (by omega) ?_
                refine z_il_n C hl dX6_sands_102 3 rfl 103 rfl ?_
                refine z_iadd C dX6_sands_103 104 rfl (165 + x) (rfl) ?_
                refine z_il C hl dX6_sands_104 5 rfl 106 rfl ?_
                refine z_iasZ C (s2Z v (updZ y x h)) hW hK 1 rfl (by omega) (by decide) dX6_sands_106 107 rfl (rs' := [[moO X kn kp ml], [arI G (X 1) 258 (s2Z v (updZ (updZ y x h) (36 + x) k))]]) (by rw [show updZ (s2Z v (updZ y x h)) (165 + x) k = s2Z v (updZ (updZ y x h) (36 + x) k) from (congrArg (fun j => updZ (s2Z v (updZ y x h)) j k) (show (165 + x : Int) = 129 + (36 + x) by omega)).trans (s2_up (by omega))]; rfl) (fun H locs hW => ?_)
                refine z_il C hl dX6_sands_107 0 rfl 109 rfl ?_
                have hr : layR y x h k = y x := by unfold layR; (repeat' split) <;> first | rfl | omega | (exfalso; omega)
                have hv : layV y x h k = updZ (updZ y x h) (36 + x) k := by unfold layV; rw [if_pos (by rw [hr]; omega)]
                rw [hr, hv]
                exact z_wi C hW dX6_sands_109 rfl rfl
              · skip
                refine z_bipush C dX6_sands_80 (by decide) 82 rfl ?_
                have hr : layR y x h k = -5 := by unfold layR; (repeat' split) <;> first | rfl | omega | (exfalso; omega)
                have hv : layV y x h k = y := by unfold layV; exact if_neg (by rw [hr]; omega)
                rw [hr, hv]
                exact z_wi C hW dX6_sands_82 rfl rfl
          · skip
            refine z_bipush C dX6_sands_43 (by decide) 45 rfl ?_
            have hr : layR y x h k = -4 := by unfold layR; (repeat' split) <;> first | rfl | omega | (exfalso; omega)
            have hv : layV y x h k = y := by unfold layV; exact if_neg (by rw [hr]; omega)
            rw [hr, hv]
            exact z_wi C hW dX6_sands_45 rfl rfl
    · skip
      simp only [decide_eq_true_eq, decide_eq_false_iff_not] at c15
      refine z_bipush C dX6_sands_18 (by decide) 20 rfl ?_
      have hr : layR y x h k = -2 := by unfold layR; (repeat' split) <;> first | rfl | omega | (exfalso; omega)
      have hv : layV y x h k = y := by unfold layV; exact if_neg (by rw [hr]; omega)
      rw [hr, hv]
      exact z_wi C hW dX6_sands_20 rfl rfl
  · skip
    simp only [decide_eq_true_eq, decide_eq_false_iff_not] at c4
    refine z_iconst C dX6_sands_7 8 rfl ?_
    have hr : layR y x h k = -1 := by unfold layR; (repeat' split) <;> first | rfl | omega | (exfalso; omega)
    have hv : layV y x h k = y := by unfold layV; exact if_neg (by rw [hr]; omega)
    rw [hr, hv]
    exact z_wi C hW dX6_sands_8 rfl rfl

set_option maxHeartbeats 4000000 in
set_option maxRecDepth 100000 in
theorem m_xcomes (l : Launch) (G : gT) (X : Nat → Nat) (kn ml : Int) (kp : Bool) (v y : Int → Int) (p0 dr x : Int) (w : Wf y) (hp0 : -2147483648 ≤ p0 ∧ p0 < 2147483648) (hdr : -2147483648 ≤ dr ∧ dr < 2147483648) (hx : -2147483648 ≤ x ∧ x < 2147483648) (hD : gD ([[moO X kn kp ml], [arI G (X 1) 258 (s2Z v y)]] : List va_W).flatten) : MW l G yX6_comes cX6_comes 6 (some .int) 3 [.ref (X 0), .int (iI (129)), .int (iI (p0)), .int (iI (dr)), .int (iI (x))] [[moO X kn kp ml], [arI G (X 1) 258 (s2Z v y)]] [[moO X kn kp ml], [arI G (X 1) 258 (s2Z v (addV y p0 dr x))]] ZT (some (.int (iI (addR y p0 dr x)))) := by
  refine enterW (own := RX6) (by decide +kernel) rfl (Nat.le_of_ble_eq_true rfl) hD ?_
  intro p e s m below meth c C hW hK hZ ls hl
  have hl : lv_has ls 6 [(0, .ref (X 0)), (1, .int (iI (129))), (2, .int (iI (p0))), (3, .int (iI (dr))), (4, .int (iI (x)))] := hl
  have ht := w.t
  have h127 := w.n
  refine z_il_n C hl dX6_comes_0 2 rfl 1 rfl ?_
  refine z_iconst C dX6_comes_1 2 rfl ?_
  refine z_iconst C dX6_comes_2 3 rfl ?_
  refine z_SR (r := .int (iI (bZ (decide (0 ≤ p0 ∧ p0 ≤ 1))))) (rest := []) C (m_xin l G p0 0 1 (by omega) (by omega) (by omega)) kS_X6_35 ⟨Nat.le_of_ble_eq_true rfl, Nat.le_of_ble_eq_true rfl⟩ (gP_nil) hK rfl hl.1 rfl (Nat.le_of_ble_eq_true rfl) dX6_comes_3 ⟨Nat.le_of_ble_eq_true rfl, Nat.le_of_ble_eq_true rfl⟩ 6 rfl ?_
  refine z_ifb_eq C dX6_comes_6 17 9 (by decide) rfl (fun c6 => ?_) (fun c6 => ?_)
  · skip
    simp only [decide_eq_true_eq, decide_eq_false_iff_not] at c6
    refine z_iconst C dX6_comes_17 18 rfl ?_
    have hr : addR y p0 dr x = -1 := by unfold addR; (repeat' split) <;> first | rfl | omega | (exfalso; omega)
    have hv : addV y p0 dr x = y := by unfold addV; exact if_neg (by rw [hr]; omega)
    rw [hr, hv]
    exact z_wi C hW dX6_comes_18 rfl rfl
  · skip
    simp only [decide_eq_true_eq, decide_eq_false_iff_not] at c6
    refine z_il C hl dX6_comes_9 4 rfl 11 rfl ?_
    refine z_SR (r := .int (iI (bZ (decide (0 ≤ x ∧ x < 36))))) (rest := []) C (m_xisCell l G x (by omega)) kS_X6_98 ⟨Nat.le_of_ble_eq_true rfl, Nat.le_of_ble_eq_true rfl⟩ (gP_nil) hK rfl hl.1 rfl (Nat.le_of_ble_eq_true rfl) dX6_comes_11 ⟨Nat.le_of_ble_eq_true rfl, Nat.le_of_ble_eq_true rfl⟩ 14 rfl ?_
    refine z_ifb_ne C dX6_comes_14 19 17 (by decide) rfl (fun c14 => ?_) (fun c14 => ?_)
    · skip
      simp only [decide_eq_true_eq, decide_eq_false_iff_not] at c14
      refine z_il_n C hl dX6_comes_19 3 rfl 20 rfl ?_
      refine z_iconst C dX6_comes_20 21 rfl ?_
      refine z_iconst C dX6_comes_21 22 rfl ?_
      refine z_SR (r := .int (iI (bZ (decide (1 ≤ dr ∧ dr ≤ 3))))) (rest := []) C (m_xin l G dr 1 3 (by omega) (by omega) (by omega)) kS_X6_35 ⟨Nat.le_of_ble_eq_true rfl, Nat.le_of_ble_eq_true rfl⟩ (gP_nil) hK rfl hl.1 rfl (Nat.le_of_ble_eq_true rfl) dX6_comes_22 ⟨Nat.le_of_ble_eq_true rfl, Nat.le_of_ble_eq_true rfl⟩ 25 rfl ?_
      refine z_ifb_ne C dX6_comes_25 31 28 (by decide) rfl (fun c25 => ?_) (fun c25 => ?_)
      · skip
        simp only [decide_eq_true_eq, decide_eq_false_iff_not] at c25
        refine z_al_n C hl dX6_comes_31 0 rfl 32 rfl ?_
        refine z_get C hW.1 hK fl_X6_7 0 rfl rfl dX6_comes_32 35 rfl ?_
        refine z_il_n C hl dX6_comes_35 1 rfl 36 rfl ?_
        refine z_bipush C dX6_comes_36 (by decide) 38 rfl ?_
        refine z_iadd C dX6_comes_38 39 rfl (255) (by omega) ?_
        refine z_iaZ C (s2Z v y) hW.1 hK 1 rfl (by omega) (by decide) (y 126) ((congrArg (s2Z v y) (show (255 : Int) = 129 + 126 by omega)).trans (s2_hi (by omega))) dX6_comes_39 40 rfl ?_
        refine z_if_ne C dX6_comes_40 67 43 (by decide) rfl (by omega) (fun c40 => ?_) (fun c40 => ?_)
        · skip
          refine z_bipush C dX6_comes_67 (by decide) 69 rfl ?_
          have hr : addR y p0 dr x = -4 := by unfold addR; (repeat' split) <;> first | rfl | omega | (exfalso; omega)
          have hv : addV y p0 dr x = y := by unfold addV; exact if_neg (by rw [hr]; omega)
          rw [hr, hv]
          exact z_wi C hW dX6_comes_69 rfl rfl
        · skip
          refine z_il C hl dX6_comes_43 4 rfl 45 rfl ?_
          refine z_if_eq C dX6_comes_45 67 48 (by decide) rfl (by omega) (fun c45 => ?_) (fun c45 => ?_)
          · skip
            refine z_bipush C dX6_comes_67 (by decide) 69 rfl ?_
            have hr : addR y p0 dr x = -4 := by unfold addR; (repeat' split) <;> first | rfl | omega | (exfalso; omega)
            have hv : addV y p0 dr x = y := by unfold addV; exact if_neg (by rw [hr]; omega)
            rw [hr, hv]
            exact z_wi C hW dX6_comes_69 rfl rfl
          · skip
            refine z_il C hl dX6_comes_48 4 rfl 50 rfl ?_
            refine z_bipush C dX6_comes_50 (by decide) 52 rfl ?_
            refine z_icmp_eq C dX6_comes_52 67 55 (by decide) rfl (by omega) (fun c52 => ?_) (fun c52 => ?_)
            · skip
              refine z_bipush C dX6_comes_67 (by decide) 69 rfl ?_
              have hr : addR y p0 dr x = -4 := by unfold addR; (repeat' split) <;> first | rfl | omega | (exfalso; omega)
              have hv : addV y p0 dr x = y := by unfold addV; exact if_neg (by rw [hr]; omega)
              rw [hr, hv]
              exact z_wi C hW dX6_comes_69 rfl rfl
            · skip
              refine z_al_n C hl dX6_comes_55 0 rfl 56 rfl ?_
              refine z_il_n C hl dX6_comes_56 1 rfl 57 rfl ?_
              refine z_il C hl dX6_comes_57 4 rfl 59 rfl ?_
              refine z_VR (r := .int (iI (batZ y x))) (rest := []) C (m_xbat l G X kn ml kp (s2Z v y) 129 y x w (by omega) (s2_1 v y) (by omega)) kV_X6_71 ⟨Nat.le_of_ble_eq_true rfl, Nat.le_of_ble_eq_true rfl⟩ hW.1 hK 0 rfl rfl rfl hl.1 rfl (Nat.le_of_ble_eq_true rfl) dX6_comes_59 ⟨Nat.le_of_ble_eq_true rfl, Nat.le_of_ble_eq_true rfl⟩ 62 rfl ?_
              have r59 := batZ_rng w x
              refine z_bipush C dX6_comes_62 (by decide) 64 rfl ?_
              refine z_icmp_eq C dX6_comes_64 70 67 (by decide) rfl (by omega) (fun c64 => ?_) (fun c64 => ?_)
              · skip
                refine z_al_n C hl dX6_comes_70 0 rfl 71 rfl ?_
                refine z_get C hW.1 hK fl_X6_7 0 rfl rfl dX6_comes_71 74 rfl ?_
                refine z_il_n C hl dX6_comes_74 1 rfl 75 rfl ?_
                refine z_bipush C dX6_comes_75 (by decide) 77 rfl ?_
                refine z_iadd C dX6_comes_77 78 rfl (256) (by omega) ?_
                refine z_iaZ C (s2Z v y) hW.1 hK 1 rfl (by omega) (by decide) (y 127) ((congrArg (s2Z v y) (show (256 : Int) = 129 + 127 by omega)).trans (s2_hi (by omega))) dX6_comes_78 79 rfl ?_
                refine z_bipush C dX6_comes_79 (by decide) 81 rfl ?_
                refine z_icmp_ne C dX6_comes_81 87 84 (by decide) rfl (by omega) (fun c81 => ?_) (fun c81 => ?_)
                · skip
                  refine z_il_n C hl dX6_comes_87 1 rfl 88 rfl ?_
                  refine z_al_n C hl dX6_comes_88 0 rfl 89 rfl ?_
                  refine z_get C hW.1 hK fl_X6_7 0 rfl rfl dX6_comes_89 92 rfl ?_
                  refine z_il_n C hl dX6_comes_92 1 rfl 93 rfl ?_
                  refine z_bipush C dX6_comes_93 (by decide) 95 rfl ?_
                  refine z_iadd C dX6_comes_95 96 rfl (256) (by omega) ?_
                  refine z_iaZ C (s2Z v y) hW.1 hK 1 rfl (by omega) (by decide) (y 127) ((congrArg (s2Z v y) (show (256 : Int) = 129 + 127 by omega)).trans (s2_hi (by omega))) dX6_comes_96 97 rfl ?_
                  refine z_SR (r := .int (iI ((72 + 5 * (y 127) + 129)))) (rest := []) C (m_xat l G 129 (y 127)) kS_X6_39 ⟨Nat.le_of_ble_eq_true rfl, Nat.le_of_ble_eq_true rfl⟩ (gP_nil) hK rfl hl.1 rfl (Nat.le_of_ble_eq_true rfl) dX6_comes_97 ⟨Nat.le_of_ble_eq_true rfl, Nat.le_of_ble_eq_true rfl⟩ 100 rfl ?_
                  refine z_top (b := .int (iI (201 + 5 * y 127))) (congrArg (fun z => Value.int (iI z)) (by omega)) ?_
                  refine z_is C hl dX6_comes_100 102 rfl (by decide) (lv' := [(5, .int (iI (201 + 5 * y 127))), (0, .ref (X 0)), (1, .int (iI (129))), (2, .int (iI (p0))), (3, .int (iI (dr))), (4, .int (iI (x)))]) rfl (fun ls hl => ?_)
                  refine z_al_n C hl dX6_comes_102 1 rfl 103 rfl ?_
                  refine z_get C hW.1 hK fl_X6_7 0 rfl rfl dX6_comes_103 106 rfl ?_
                  refine z_il C hl dX6_comes_106 0 rfl 108 rfl ?_
                  refine z_iconst C dX6_comes_108 109 rfl ?_
                  refine z_iadd C dX6_comes_109 110 rfl (201 + 5 * y 127) (by omega) ?_
                  refine z_il_n C hl dX6_comes_110 3 rfl 111 rfl ?_
                  refine z_iasZ C (s2Z v y) hW hK 1 rfl (by omega) (by decide) dX6_comes_111 112 rfl (rs' := [[moO X kn kp ml], [arI G (X 1) 258 (s2Z v (updZ y (72 + 5 * y 127) p0))]]) (by rw [show updZ (s2Z v y) (201 + 5 * y 127) p0 = s2Z v (updZ y (72 + 5 * y 127) p0) from (congrArg (fun j => updZ (s2Z v y) j p0) (show (201 + 5 * y 127 : Int) = 129 + (72 + 5 * y 127) by omega)).trans (s2_up (by omega))]; rfl) (fun H locs hW => ?_)
                  refine z_al_n C hl dX6_comes_112 1 rfl 113 rfl ?_
                  refine z_get C hW.1 hK fl_X6_7 0 rfl rfl dX6_comes_113 116 rfl ?_
                  refine z_il C hl dX6_comes_116 0 rfl 118 rfl ?_
                  refine z_iconst C dX6_comes_118 119 rfl ?_
                  refine z_iadd C dX6_comes_119 120 rfl (202 + 5 * y 127) (by omega) ?_
                  refine z_il_n C hl dX6_comes_120 4 rfl 121 rfl ?_
                  refine z_iasZ C (s2Z v (updZ y (72 + 5 * y 127) p0)) hW hK 1 rfl (by omega) (by decide) dX6_comes_121 122 rfl (rs' := [[moO X kn kp ml], [arI G (X 1) 258 (s2Z v (updZ (updZ y (72 + 5 * y 127) p0) (73 + 5 * y 127) dr))]]) (by rw [show updZ (s2Z v (updZ y (72 + 5 * y 127) p0)) (202 + 5 * y 127) dr = s2Z v (updZ (updZ y (72 + 5 * y 127) p0) (73 + 5 * y 127) dr) from (congrArg (fun j => updZ (s2Z v (updZ y (72 + 5 * y 127) p0)) j dr) (show (202 + 5 * y 127 : Int) = 129 + (73 + 5 * y 127) by omega)).trans (s2_up (by omega))]; rfl) (fun H locs hW => ?_)
                  refine z_al_n C hl dX6_comes_122 1 rfl 123 rfl ?_
                  refine z_get C hW.1 hK fl_X6_7 0 rfl rfl dX6_comes_123 126 rfl ?_
                  refine z_il C hl dX6_comes_126 0 rfl 128 rfl ?_
                  refine z_iconst C dX6_comes_128 129 rfl ?_
                  refine z_iadd C dX6_comes_129 130 rfl (203 + 5 * y 127) (by omega) ?_
                  refine z_iconst C dX6_comes_130 131 rfl ?_
                  refine z_iasZ C (s2Z v (updZ (updZ y (72 + 5 * y 127) p0) (73 + 5 * y 127) dr)) hW hK 1 rfl (by omega) (by decide) dX6_comes_131 132 rfl (rs' := [[moO X kn kp ml], [arI G (X 1) 258 (s2Z v (updZ (updZ (updZ y (72 + 5 * y 127) p0) (73 + 5 * y 127) dr) (74 + 5 * y 127) 0))]]) (by rw [show updZ (s2Z v (updZ (updZ y (72 + 5 * y 127) p0) (73 + 5 * y 127) dr)) (203 + 5 * y 127) 0 = s2Z v (updZ (updZ (updZ y (72 + 5 * y 127) p0) (73 + 5 * y 127) dr) (74 + 5 * y 127) 0) from (congrArg (fun j => updZ (s2Z v (updZ (updZ y (72 + 5 * y 127) p0) (73 + 5 * y 127) dr)) j 0) (show (203 + 5 * y 127 : Int) = 129 + (74 + 5 * y 127) by omega)).trans (s2_up (by omega))]; rfl) (fun H locs hW => ?_)
                  refine z_al_n C hl dX6_comes_132 1 rfl 133 rfl ?_
                  refine z_get C hW.1 hK fl_X6_7 0 rfl rfl dX6_comes_133 136 rfl ?_
                  refine z_il C hl dX6_comes_136 0 rfl 138 rfl ?_
                  refine z_iconst C dX6_comes_138 139 rfl ?_
                  refine z_iadd C dX6_comes_139 140 rfl (204 + 5 * y 127) (by omega) ?_
                  refine z_il C hl dX6_comes_140 5 rfl 142 rfl ?_
                  refine z_iasZ C (s2Z v (updZ (updZ (updZ y (72 + 5 * y 127) p0) (73 + 5 * y 127) dr) (74 + 5 * y 127) 0)) hW hK 1 rfl (by omega) (by decide) dX6_comes_142 143 rfl (rs' := [[moO X kn kp ml], [arI G (X 1) 258 (s2Z v (updZ (updZ (updZ (updZ y (72 + 5 * y 127) p0) (73 + 5 * y 127) dr) (74 + 5 * y 127) 0) (75 + 5 * y 127) x))]]) (by rw [show updZ (s2Z v (updZ (updZ (updZ y (72 + 5 * y 127) p0) (73 + 5 * y 127) dr) (74 + 5 * y 127) 0)) (204 + 5 * y 127) x = s2Z v (updZ (updZ (updZ (updZ y (72 + 5 * y 127) p0) (73 + 5 * y 127) dr) (74 + 5 * y 127) 0) (75 + 5 * y 127) x) from (congrArg (fun j => updZ (s2Z v (updZ (updZ (updZ y (72 + 5 * y 127) p0) (73 + 5 * y 127) dr) (74 + 5 * y 127) 0)) j x) (show (204 + 5 * y 127 : Int) = 129 + (75 + 5 * y 127) by omega)).trans (s2_up (by omega))]; rfl) (fun H locs hW => ?_)
                  refine z_al_n C hl dX6_comes_143 1 rfl 144 rfl ?_
                  refine z_get C hW.1 hK fl_X6_7 0 rfl rfl dX6_comes_144 147 rfl ?_
                  refine z_il C hl dX6_comes_147 0 rfl 149 rfl ?_
                  refine z_iconst C dX6_comes_149 150 rfl ?_
                  refine z_iadd C dX6_comes_150 151 rfl (205 + 5 * y 127) (by omega) ?_
                  refine z_iconst C dX6_comes_151 152 rfl ?_
                  refine z_iasZ C (s2Z v (updZ (updZ (updZ (updZ y (72 + 5 * y 127) p0) (73 + 5 * y 127) dr) (74 + 5 * y 127) 0) (75 + 5 * y 127) x)) hW hK 1 rfl (by omega) (by decide) dX6_comes_152 153 rfl (rs' := [[moO X kn kp ml], [arI G (X 1) 258 (s2Z v (updZ (updZ (updZ (updZ (updZ y (72 + 5 * y 127) p0) (73 + 5 * y 127) dr) (74 + 5 * y 127) 0) (75 + 5 * y 127) x) (76 + 5 * y 127) 0))]]) (by rw [show updZ (s2Z v (updZ (updZ (updZ (updZ y (72 + 5 * y 127) p0) (73 + 5 * y 127) dr) (74 + 5 * y 127) 0) (75 + 5 * y 127) x)) (205 + 5 * y 127) 0 = s2Z v (updZ (updZ (updZ (updZ (updZ y (72 + 5 * y 127) p0) (73 + 5 * y 127) dr) (74 + 5 * y 127) 0) (75 + 5 * y 127) x) (76 + 5 * y 127) 0) from (congrArg (fun j => updZ (s2Z v (updZ (updZ (updZ (updZ y (72 + 5 * y 127) p0) (73 + 5 * y 127) dr) (74 + 5 * y 127) 0) (75 + 5 * y 127) x)) j 0) (show (205 + 5 * y 127 : Int) = 129 + (76 + 5 * y 127) by omega)).trans (s2_up (by omega))]; rfl) (fun H locs hW => ?_)
                  refine z_al_n C hl dX6_comes_153 1 rfl 154 rfl ?_
                  refine z_get C hW.1 hK fl_X6_7 0 rfl rfl dX6_comes_154 157 rfl ?_
                  refine z_il_n C hl dX6_comes_157 2 rfl 158 rfl ?_
                  refine z_bipush C dX6_comes_158 (by decide) 160 rfl ?_
                  refine z_iadd C dX6_comes_160 161 rfl (256) (by omega) ?_
                  refine z_dup2 C dX6_comes_161 rfl rfl 162 rfl ?_
                  refine z_iaZ C (s2Z v (updZ (updZ (updZ (updZ (updZ y (72 + 5 * y 127) p0) (73 + 5 * y 127) dr) (74 + 5 * y 127) 0) (75 + 5 * y 127) x) (76 + 5 * y 127) 0)) hW.1 hK 1 rfl (by omega) (by decide) (y 127) ((congrArg (s2Z v (updZ (updZ (updZ (updZ (updZ y (72 + 5 * y 127) p0) (73 + 5 * y 127) dr) (74 + 5 * y 127) 0) (75 + 5 * y 127) x) (76 + 5 * y 127) 0)) (show (256 : Int) = 129 + 127 by omega)).trans ((s2_hi (by omega)).trans (by rw [updZ_n (by omega), updZ_n (by omega), updZ_n (by omega), updZ_n (by omega), updZ_n (by omega)]))) dX6_comes_162 163 rfl ?_
                  refine z_iconst C dX6_comes_163 164 rfl ?_
                  refine z_iadd C dX6_comes_164 165 rfl (1 + y 127) (by omega) ?_
                  refine z_iasZ C (s2Z v (updZ (updZ (updZ (updZ (updZ y (72 + 5 * y 127) p0) (73 + 5 * y 127) dr) (74 + 5 * y 127) 0) (75 + 5 * y 127) x) (76 + 5 * y 127) 0)) hW hK 1 rfl (by omega) (by decide) dX6_comes_165 166 rfl (rs' := [[moO X kn kp ml], [arI G (X 1) 258 (s2Z v (updZ (updZ (updZ (updZ (updZ (updZ y (72 + 5 * y 127) p0) (73 + 5 * y 127) dr) (74 + 5 * y 127) 0) (75 + 5 * y 127) x) (76 + 5 * y 127) 0) 127 (1 + y 127)))]]) (by rw [show updZ (s2Z v (updZ (updZ (updZ (updZ (updZ y (72 + 5 * y 127) p0) (73 + 5 * y 127) dr) (74 + 5 * y 127) 0) (75 + 5 * y 127) x) (76 + 5 * y 127) 0)) 256 (1 + y 127) = s2Z v (updZ (updZ (updZ (updZ (updZ (updZ y (72 + 5 * y 127) p0) (73 + 5 * y 127) dr) (74 + 5 * y 127) 0) (75 + 5 * y 127) x) (76 + 5 * y 127) 0) 127 (1 + y 127)) from (congrArg (fun j => updZ (s2Z v (updZ (updZ (updZ (updZ (updZ y (72 + 5 * y 127) p0) (73 + 5 * y 127) dr) (74 + 5 * y 127) 0) (75 + 5 * y 127) x) (76 + 5 * y 127) 0)) j (1 + y 127)) (show (256 : Int) = 129 + 127 by omega)).trans (s2_up (by omega))]; rfl) (fun H locs hW => ?_)
                  refine z_al_n C hl dX6_comes_166 1 rfl 167 rfl ?_
                  refine z_get C hW.1 hK fl_X6_7 0 rfl rfl dX6_comes_167 170 rfl ?_
                  refine z_il_n C hl dX6_comes_170 2 rfl 171 rfl ?_
                  refine z_bipush C dX6_comes_171 (by decide) 173 rfl ?_
                  refine z_iadd C dX6_comes_173 174 rfl (256) (by omega) ?_
                  refine z_iaZ C (s2Z v (updZ (updZ (updZ (updZ (updZ (updZ y (72 + 5 * y 127) p0) (73 + 5 * y 127) dr) (74 + 5 * y 127) 0) (75 + 5 * y 127) x) (76 + 5 * y 127) 0) 127 (1 + y 127))) hW.1 hK 1 rfl (by omega) (by decide) (1 + y 127) ((congrArg (s2Z v (updZ (updZ (updZ (updZ (updZ (updZ y (72 + 5 * y 127) p0) (73 + 5 * y 127) dr) (74 + 5 * y 127) 0) (75 + 5 * y 127) x) (76 + 5 * y 127) 0) 127 (1 + y 127))) (show (256 : Int) = 129 + 127 by omega)).trans ((s2_hi (by omega)).trans (updZ_s))) dX6_comes_174 175 rfl ?_
                  refine z_iconst C dX6_comes_175 176 rfl ?_
                  refine z_isub C dX6_comes_176 177 rfl ((1 + y 127) - 1) (rfl) ?_
                  have hr : addR y p0 dr x = (1 + y 127) - 1 := by unfold addR; (repeat' split) <;> first | rfl | omega | (exfalso; omega)
                  have hv : addV y p0 dr x = updZ (updZ (updZ (updZ (updZ (updZ y (72 + 5 * y 127) p0) (73 + 5 * y 127) dr) (74 + 5 * y 127) 0) (75 + 5 * y 127) x) (76 + 5 * y 127) 0) 127 (1 + y 127) := by unfold addV; rw [if_pos (by rw [hr]; omega)]
                  rw [hr, hv]
                  exact z_wi C hW dX6_comes_177 rfl rfl
                · skip
                  refine z_bipush C dX6_comes_84 (by decide) 86 rfl ?_
                  have hr : addR y p0 dr x = -3 := by unfold addR; (repeat' split) <;> first | rfl | omega | (exfalso; omega)
                  have hv : addV y p0 dr x = y := by unfold addV; exact if_neg (by rw [hr]; omega)
                  rw [hr, hv]
                  exact z_wi C hW dX6_comes_86 rfl rfl
              · skip
                refine z_bipush C dX6_comes_67 (by decide) 69 rfl ?_
                have hr : addR y p0 dr x = -4 := by unfold addR; (repeat' split) <;> first | rfl | omega | (exfalso; omega)
                have hv : addV y p0 dr x = y := by unfold addV; exact if_neg (by rw [hr]; omega)
                rw [hr, hv]
                exact z_wi C hW dX6_comes_69 rfl rfl
      · skip
        simp only [decide_eq_true_eq, decide_eq_false_iff_not] at c25
        refine z_bipush C dX6_comes_28 (by decide) 30 rfl ?_
        have hr : addR y p0 dr x = -2 := by unfold addR; (repeat' split) <;> first | rfl | omega | (exfalso; omega)
        have hv : addV y p0 dr x = y := by unfold addV; exact if_neg (by rw [hr]; omega)
        rw [hr, hv]
        exact z_wi C hW dX6_comes_30 rfl rfl
    · skip
      simp only [decide_eq_true_eq, decide_eq_false_iff_not] at c14
      refine z_iconst C dX6_comes_17 18 rfl ?_
      have hr : addR y p0 dr x = -1 := by unfold addR; (repeat' split) <;> first | rfl | omega | (exfalso; omega)
      have hv : addV y p0 dr x = y := by unfold addV; exact if_neg (by rw [hr]; omega)
      rw [hr, hv]
      exact z_wi C hW dX6_comes_18 rfl rfl

set_option maxHeartbeats 4000000 in
set_option maxRecDepth 100000 in
theorem m_xpasses (l : Launch) (G : gT) (X : Nat → Nat) (kn ml : Int) (kp : Bool) (v y : Int → Int) (w : Wf y) (hD : gD ([[moO X kn kp ml], [arI G (X 1) 258 (s2Z v y)]] : List va_W).flatten) : MW l G yX6_passes cX6_passes 4 (none) 4 [.ref (X 0), .int (iI (129))] [[moO X kn kp ml], [arI G (X 1) 258 (s2Z v y)]] [[moO X kn kp ml], [arI G (X 1) 258 (s2Z v (pasV y))]] ZT none := by
  refine enterW (own := RX6) (by decide +kernel) rfl (Nat.le_of_ble_eq_true rfl) hD ?_
  intro p e s m below meth c C hW hK hZ ls hl
  have hl : lv_has ls 4 [(0, .ref (X 0)), (1, .int (iI (129)))] := hl
  have ht := w.t
  have h127 := w.n
  refine z_iconst C dX6_passes_0 1 rfl ?_
  have hW := hW.re (rs' := [[moO X kn kp ml], [arI G (X 1) 258 (s2Z v (pasP y 0))]]) (by rw [pasP_0])
  refine z_is_n C hl dX6_passes_1 2 rfl (by decide) (lv' := [(2, .int (iI (0))), (0, .ref (X 0)), (1, .int (iI (129)))]) rfl (fun ls hl => ?_)
  have L2 : ∀ (fu : Nat) (i : Int) (h1 : 0 ≤ i ∧ i ≤ y 127) (H : Heap) (locs : List Loc) (hW : Wd G (adr ([[moO X kn kp ml], [arI G (X 1) 258 (s2Z v y)]] : List va_W).flatten) [[moO X kn kp ml], [arI G (X 1) 258 (s2Z v (pasP y i))]] s.heap H locs) (hm : y 127 - i < (fu : Int)) (ls : Array Slot) (hl : lv_has ls 4 [(2, .int (iI (i))), (1, .int (iI (129))), (0, .ref (X 0))]), W p l e (rmN 4) s m [.ref (X 0), .int (iI (129))].toArray below meth c H locs 0 0 (MQ below (QW G [[moO X kn kp ml], [arI G (X 1) 258 (s2Z v y)]] [[moO X kn kp ml], [arI G (X 1) 258 (s2Z v (pasV y))]] none) [.ref (X 0), .int (iI (129))].toArray s 0 0 (adr ([[moO X kn kp ml], [arI G (X 1) 258 (s2Z v y)]] : List va_W).flatten)) (F0 m 2 ls []) := by
    intro fu
    induction fu with
    | zero => intro i h1 H locs hW hm ls hl; exfalso; omega
    | succ fu ih =>
      intro i h1 H locs hW hm ls hl
      have wi := w.paq i h1
      have e127 : pasP y i 127 = y 127 := pasP_o (by omega)
      have e126 : pasP y i 126 = y 126 := pasP_o (by omega)
      have ih2 := ih
      refine z_il_n C hl dX6_passes_2 0 rfl 3 rfl ?_
      refine z_al_n C hl dX6_passes_3 2 rfl 4 rfl ?_
      refine z_get C hW.1 hK fl_X6_7 0 rfl rfl dX6_passes_4 7 rfl ?_
      refine z_il_n C hl dX6_passes_7 1 rfl 8 rfl ?_
      refine z_bipush C dX6_passes_8 (by decide) 10 rfl ?_
      refine z_iadd C dX6_passes_10 11 rfl (256) (by omega) ?_
      refine z_iaZ C (s2Z v (pasP y i)) hW.1 hK 1 rfl (by omega) (by decide) (pasP y i 127) ((congrArg (s2Z v (pasP y i)) (show (256 : Int) = 129 + 127 by omega)).trans (s2_hi (by omega))) dX6_passes_11 12 rfl ?_
      refine z_icmp_ge C dX6_passes_12 95 15 (by decide) rfl (by omega) (fun c12 => ?_) (fun c12 => ?_)
      · skip
        rw [show i = y 127 by omega] at hW
        refine z_al_n C hl dX6_passes_95 2 rfl 96 rfl ?_
        refine z_get C hW.1 hK fl_X6_7 0 rfl rfl dX6_passes_96 99 rfl ?_
        refine z_il_n C hl dX6_passes_99 1 rfl 100 rfl ?_
        refine z_bipush C dX6_passes_100 (by decide) 102 rfl ?_
        refine z_iadd C dX6_passes_102 103 rfl (255) (by omega) ?_
        refine z_dup2 C dX6_passes_103 rfl rfl 104 rfl ?_
        refine z_iaZ C (s2Z v (pasP y (y 127))) hW.1 hK 1 rfl (by omega) (by decide) (y 126) ((congrArg (s2Z v (pasP y (y 127))) (show (255 : Int) = 129 + 126 by omega)).trans ((s2_hi (by omega)).trans (pasP_o (by omega)))) dX6_passes_104 105 rfl ?_
        refine z_iconst C dX6_passes_105 106 rfl ?_
        refine z_iadd C dX6_passes_106 107 rfl (1 + y 126) (by omega) ?_
        refine z_iasZ C (s2Z v (pasP y (y 127))) hW hK 1 rfl (by omega) (by decide) dX6_passes_107 108 rfl (rs' := [[moO X kn kp ml], [arI G (X 1) 258 (s2Z v (updZ (pasP y (y 127)) 126 (1 + y 126)))]]) (by rw [show updZ (s2Z v (pasP y (y 127))) 255 (1 + y 126) = s2Z v (updZ (pasP y (y 127)) 126 (1 + y 126)) from (congrArg (fun j => updZ (s2Z v (pasP y (y 127))) j (1 + y 126)) (show (255 : Int) = 129 + 126 by omega)).trans (s2_up (by omega))]; rfl) (fun H locs hW => ?_)
        exact z_wv C hW dX6_passes_108 rfl
      · skip
        have hk := w.b i (by omega)
        have hk2 := wi.b i (by omega)
        have hk3 := wi.bb i (by omega)
        refine z_al_n C hl dX6_passes_15 2 rfl 16 rfl ?_
        refine z_il_n C hl dX6_passes_16 1 rfl 17 rfl ?_
        refine z_il_n C hl dX6_passes_17 0 rfl 18 rfl ?_
        refine z_iconst C dX6_passes_18 19 rfl ?_
        refine z_VR (r := .int (iI (((pasP y i) (74 + 5 * i))))) (rest := []) C (m_xits l G X kn ml kp (s2Z v (pasP y i)) 129 (pasP y i) i 2 (74 + 5 * i)  (by omega) (s2_1 v (pasP y i)) (by omega) (by omega)) kV_X6_68 ⟨Nat.le_of_ble_eq_true rfl, Nat.le_of_ble_eq_true rfl⟩ hW.1 hK 0 rfl rfl rfl hl.1 rfl (Nat.le_of_ble_eq_true rfl) dX6_passes_19 ⟨Nat.le_of_ble_eq_true rfl, Nat.le_of_ble_eq_true rfl⟩ 22 rfl ?_
        refine z_if_ne C dX6_passes_22 60 25 (by decide) rfl (by omega) (fun c22 => ?_) (fun c22 => ?_)
        · skip
          refine z_iconst C dX6_passes_60 61 rfl ?_
          have c21 : hitB (pasP y i) i = false := by simp [hitB, onB, c22]
          rw [hitB_pasP (by omega) (by omega) (by omega)] at c21
          refine z_is_n C hl dX6_passes_61 62 rfl (by decide) (lv' := [(3, .int (iI (0))), (2, .int (iI (i))), (1, .int (iI (129))), (0, .ref (X 0))]) rfl (fun ls hl => ?_)
          refine z_al_n C hl dX6_passes_62 3 rfl 63 rfl ?_
          refine z_get C hW.1 hK fl_X6_7 0 rfl rfl dX6_passes_63 66 rfl ?_
          refine z_il_n C hl dX6_passes_66 2 rfl 67 rfl ?_
          refine z_il_n C hl dX6_passes_67 1 rfl 68 rfl ?_
          refine z_SR (r := .int (iI ((72 + 5 * i + 129)))) (rest := [.ref (X 1)]) C (m_xat l G 129 i) kS_X6_39 ⟨Nat.le_of_ble_eq_true rfl, Nat.le_of_ble_eq_true rfl⟩ (gP_nil) hK rfl hl.1 rfl (Nat.le_of_ble_eq_true rfl) dX6_passes_68 ⟨Nat.le_of_ble_eq_true rfl, Nat.le_of_ble_eq_true rfl⟩ 71 rfl ?_
          refine z_top (b := .int (iI (201 + 5 * i))) (congrArg (fun z => Value.int (iI z)) (by omega)) ?_
          refine z_iconst C dX6_passes_71 72 rfl ?_
          refine z_iadd C dX6_passes_72 73 rfl (203 + 5 * i) (by omega) ?_
          refine z_il_n C hl dX6_passes_73 0 rfl 74 rfl ?_
          refine z_if_eq C dX6_passes_74 81 77 (by decide) rfl (by omega) (fun c74 => ?_) (fun c74 => ?_)
          · skip
            refine z_al_n C hl dX6_passes_81 3 rfl 82 rfl ?_
            refine z_il_n C hl dX6_passes_82 2 rfl 83 rfl ?_
            refine z_il_n C hl dX6_passes_83 1 rfl 84 rfl ?_
            refine z_iconst C dX6_passes_84 85 rfl ?_
            refine z_VR (r := .int (iI (((pasP y i) (74 + 5 * i))))) (rest := [.int (iI (203 + 5 * i)), .ref (X 1)]) C (m_xits l G X kn ml kp (s2Z v (pasP y i)) 129 (pasP y i) i 2 (74 + 5 * i)  (by omega) (s2_1 v (pasP y i)) (by omega) (by omega)) kV_X6_68 ⟨Nat.le_of_ble_eq_true rfl, Nat.le_of_ble_eq_true rfl⟩ hW.1 hK 0 rfl rfl rfl hl.1 rfl (Nat.le_of_ble_eq_true rfl) dX6_passes_85 ⟨Nat.le_of_ble_eq_true rfl, Nat.le_of_ble_eq_true rfl⟩ 88 rfl ?_
            refine z_iasZ C (s2Z v (pasP y i)) hW hK 1 rfl (by omega) (by decide) dX6_passes_88 89 rfl (rs' := [[moO X kn kp ml], [arI G (X 1) 258 (s2Z v (updZ (pasP y i) (74 + 5 * i) ((pasP y i) (74 + 5 * i))))]]) (by rw [show updZ (s2Z v (pasP y i)) (203 + 5 * i) ((pasP y i) (74 + 5 * i)) = s2Z v (updZ (pasP y i) (74 + 5 * i) ((pasP y i) (74 + 5 * i))) from (congrArg (fun j => updZ (s2Z v (pasP y i)) j ((pasP y i) (74 + 5 * i))) (show (203 + 5 * i : Int) = 129 + (74 + 5 * i) by omega)).trans (s2_up (by omega))]; rfl) (fun H locs hW => ?_)
            rw [updZ_id rfl, ← pasP_f h1.1 c21] at hW
            refine z_iinc C hl dX6_passes_89 92 rfl 1 rfl (z := 1 + i) (by omega) (by decide) (lv' := [(2, .int (iI (1 + i))), (3, .int (iI (0))), (1, .int (iI (129))), (0, .ref (X 0))]) rfl (fun ls hl => ?_)
            refine z_goto C dX6_passes_92 2 (by decide) ?_
            exact ih2 (1 + i) (by omega) _ _ hW (by omega) ls (lv_sub hl [0, 2, 3] rfl)
          · exfalso; omega
        · skip
          refine z_al_n C hl dX6_passes_25 2 rfl 26 rfl ?_
          refine z_il_n C hl dX6_passes_26 1 rfl 27 rfl ?_
          refine z_al_n C hl dX6_passes_27 2 rfl 28 rfl ?_
          refine z_il_n C hl dX6_passes_28 1 rfl 29 rfl ?_
          refine z_il_n C hl dX6_passes_29 0 rfl 30 rfl ?_
          refine z_iconst C dX6_passes_30 31 rfl ?_
          refine z_VR (r := .int (iI (((pasP y i) (75 + 5 * i))))) (rest := [.int (iI (129)), .ref (X 0)]) C (m_xits l G X kn ml kp (s2Z v (pasP y i)) 129 (pasP y i) i 3 (75 + 5 * i)  (by omega) (s2_1 v (pasP y i)) (by omega) (by omega)) kV_X6_68 ⟨Nat.le_of_ble_eq_true rfl, Nat.le_of_ble_eq_true rfl⟩ hW.1 hK 0 rfl rfl rfl hl.1 rfl (Nat.le_of_ble_eq_true rfl) dX6_passes_31 ⟨Nat.le_of_ble_eq_true rfl, Nat.le_of_ble_eq_true rfl⟩ 34 rfl ?_
          refine z_al_n C hl dX6_passes_34 2 rfl 35 rfl ?_
          refine z_il_n C hl dX6_passes_35 1 rfl 36 rfl ?_
          refine z_il_n C hl dX6_passes_36 0 rfl 37 rfl ?_
          refine z_iconst C dX6_passes_37 38 rfl ?_
          refine z_VR (r := .int (iI (((pasP y i) (73 + 5 * i))))) (rest := [.int (iI (((pasP y i) (75 + 5 * i)))), .int (iI (129)), .ref (X 0)]) C (m_xits l G X kn ml kp (s2Z v (pasP y i)) 129 (pasP y i) i 1 (73 + 5 * i)  (by omega) (s2_1 v (pasP y i)) (by omega) (by omega)) kV_X6_68 ⟨Nat.le_of_ble_eq_true rfl, Nat.le_of_ble_eq_true rfl⟩ hW.1 hK 0 rfl rfl rfl hl.1 rfl (Nat.le_of_ble_eq_true rfl) dX6_passes_38 ⟨Nat.le_of_ble_eq_true rfl, Nat.le_of_ble_eq_true rfl⟩ 41 rfl ?_
          refine z_al_n C hl dX6_passes_41 2 rfl 42 rfl ?_
          refine z_get C hW.1 hK fl_X6_7 0 rfl rfl dX6_passes_42 45 rfl ?_
          refine z_il_n C hl dX6_passes_45 1 rfl 46 rfl ?_
          refine z_bipush C dX6_passes_46 (by decide) 48 rfl ?_
          refine z_iadd C dX6_passes_48 49 rfl (255) (by omega) ?_
          refine z_iaZ C (s2Z v (pasP y i)) hW.1 hK 1 rfl (by omega) (by decide) (pasP y i 126) ((congrArg (s2Z v (pasP y i)) (show (255 : Int) = 129 + 126 by omega)).trans (s2_hi (by omega))) dX6_passes_49 50 rfl ?_
          refine z_VR (r := .int (iI (bZ (wreckB (pasP y i) ((pasP y i) (75 + 5 * i)) ((pasP y i) (73 + 5 * i)) (pasP y i 126))))) (rest := []) C (m_xwrecks l G X kn ml kp (s2Z v (pasP y i)) 129 (pasP y i) ((pasP y i) (75 + 5 * i)) ((pasP y i) (73 + 5 * i)) (pasP y i 126) wi (by omega) (s2_1 v (pasP y i)) (by omega) (by omega) (by omega)) kV_X6_101 ⟨Nat.le_of_ble_eq_true rfl, Nat.le_of_ble_eq_true rfl⟩ hW.1 hK 0 rfl rfl rfl hl.1 rfl (Nat.le_of_ble_eq_true rfl) dX6_passes_50 ⟨Nat.le_of_ble_eq_true rfl, Nat.le_of_ble_eq_true rfl⟩ 53 rfl ?_
          refine z_ifb_eq C dX6_passes_53 60 56 (by decide) rfl (fun c53 => ?_) (fun c53 => ?_)
          · skip
            refine z_iconst C dX6_passes_60 61 rfl ?_
            have c21 : hitB (pasP y i) i = false := by simp [hitB, onB, c22, c53]
            rw [hitB_pasP (by omega) (by omega) (by omega)] at c21
            refine z_is_n C hl dX6_passes_61 62 rfl (by decide) (lv' := [(3, .int (iI (0))), (2, .int (iI (i))), (1, .int (iI (129))), (0, .ref (X 0))]) rfl (fun ls hl => ?_)
            refine z_al_n C hl dX6_passes_62 3 rfl 63 rfl ?_
            refine z_get C hW.1 hK fl_X6_7 0 rfl rfl dX6_passes_63 66 rfl ?_
            refine z_il_n C hl dX6_passes_66 2 rfl 67 rfl ?_
            refine z_il_n C hl dX6_passes_67 1 rfl 68 rfl ?_
            refine z_SR (r := .int (iI ((72 + 5 * i + 129)))) (rest := [.ref (X 1)]) C (m_xat l G 129 i) kS_X6_39 ⟨Nat.le_of_ble_eq_true rfl, Nat.le_of_ble_eq_true rfl⟩ (gP_nil) hK rfl hl.1 rfl (Nat.le_of_ble_eq_true rfl) dX6_passes_68 ⟨Nat.le_of_ble_eq_true rfl, Nat.le_of_ble_eq_true rfl⟩ 71 rfl ?_
            refine z_top (b := .int (iI (201 + 5 * i))) (congrArg (fun z => Value.int (iI z)) (by omega)) ?_
            refine z_iconst C dX6_passes_71 72 rfl ?_
            refine z_iadd C dX6_passes_72 73 rfl (203 + 5 * i) (by omega) ?_
            refine z_il_n C hl dX6_passes_73 0 rfl 74 rfl ?_
            refine z_if_eq C dX6_passes_74 81 77 (by decide) rfl (by omega) (fun c74 => ?_) (fun c74 => ?_)
            · skip
              refine z_al_n C hl dX6_passes_81 3 rfl 82 rfl ?_
              refine z_il_n C hl dX6_passes_82 2 rfl 83 rfl ?_
              refine z_il_n C hl dX6_passes_83 1 rfl 84 rfl ?_
              refine z_iconst C dX6_passes_84 85 rfl ?_
              refine z_VR (r := .int (iI (((pasP y i) (74 + 5 * i))))) (rest := [.int (iI (203 + 5 * i)), .ref (X 1)]) C (m_xits l G X kn ml kp (s2Z v (pasP y i)) 129 (pasP y i) i 2 (74 + 5 * i)  (by omega) (s2_1 v (pasP y i)) (by omega) (by omega)) kV_X6_68 ⟨Nat.le_of_ble_eq_true rfl, Nat.le_of_ble_eq_true rfl⟩ hW.1 hK 0 rfl rfl rfl hl.1 rfl (Nat.le_of_ble_eq_true rfl) dX6_passes_85 ⟨Nat.le_of_ble_eq_true rfl, Nat.le_of_ble_eq_true rfl⟩ 88 rfl ?_
              refine z_iasZ C (s2Z v (pasP y i)) hW hK 1 rfl (by omega) (by decide) dX6_passes_88 89 rfl (rs' := [[moO X kn kp ml], [arI G (X 1) 258 (s2Z v (updZ (pasP y i) (74 + 5 * i) ((pasP y i) (74 + 5 * i))))]]) (by rw [show updZ (s2Z v (pasP y i)) (203 + 5 * i) ((pasP y i) (74 + 5 * i)) = s2Z v (updZ (pasP y i) (74 + 5 * i) ((pasP y i) (74 + 5 * i))) from (congrArg (fun j => updZ (s2Z v (pasP y i)) j ((pasP y i) (74 + 5 * i))) (show (203 + 5 * i : Int) = 129 + (74 + 5 * i) by omega)).trans (s2_up (by omega))]; rfl) (fun H locs hW => ?_)
              rw [updZ_id rfl, ← pasP_f h1.1 c21] at hW
              refine z_iinc C hl dX6_passes_89 92 rfl 1 rfl (z := 1 + i) (by omega) (by decide) (lv' := [(2, .int (iI (1 + i))), (3, .int (iI (0))), (1, .int (iI (129))), (0, .ref (X 0))]) rfl (fun ls hl => ?_)
              refine z_goto C dX6_passes_92 2 (by decide) ?_
              exact ih2 (1 + i) (by omega) _ _ hW (by omega) ls (lv_sub hl [0, 2, 3] rfl)
            · exfalso; omega
          · skip
            refine z_iconst C dX6_passes_56 57 rfl ?_
            refine z_goto C dX6_passes_57 61 (by decide) ?_
            have c21 : hitB (pasP y i) i = true := by simp [hitB, onB, c22, c53]
            rw [hitB_pasP (by omega) (by omega) (by omega)] at c21
            refine z_is_n C hl dX6_passes_61 62 rfl (by decide) (lv' := [(3, .int (iI (1))), (2, .int (iI (i))), (1, .int (iI (129))), (0, .ref (X 0))]) rfl (fun ls hl => ?_)
            refine z_al_n C hl dX6_passes_62 3 rfl 63 rfl ?_
            refine z_get C hW.1 hK fl_X6_7 0 rfl rfl dX6_passes_63 66 rfl ?_
            refine z_il_n C hl dX6_passes_66 2 rfl 67 rfl ?_
            refine z_il_n C hl dX6_passes_67 1 rfl 68 rfl ?_
            refine z_SR (r := .int (iI ((72 + 5 * i + 129)))) (rest := [.ref (X 1)]) C (m_xat l G 129 i) kS_X6_39 ⟨Nat.le_of_ble_eq_true rfl, Nat.le_of_ble_eq_true rfl⟩ (gP_nil) hK rfl hl.1 rfl (Nat.le_of_ble_eq_true rfl) dX6_passes_68 ⟨Nat.le_of_ble_eq_true rfl, Nat.le_of_ble_eq_true rfl⟩ 71 rfl ?_
            refine z_top (b := .int (iI (201 + 5 * i))) (congrArg (fun z => Value.int (iI z)) (by omega)) ?_
            refine z_iconst C dX6_passes_71 72 rfl ?_
            refine z_iadd C dX6_passes_72 73 rfl (203 + 5 * i) (by omega) ?_
            refine z_il_n C hl dX6_passes_73 0 rfl 74 rfl ?_
            refine z_if_eq C dX6_passes_74 81 77 (by decide) rfl (by omega) (fun c74 => ?_) (fun c74 => ?_)
            · exfalso; omega
            · skip
              refine z_iconst C dX6_passes_77 78 rfl ?_
              refine z_goto C dX6_passes_78 88 (by decide) ?_
              refine z_iasZ C (s2Z v (pasP y i)) hW hK 1 rfl (by omega) (by decide) dX6_passes_88 89 rfl (rs' := [[moO X kn kp ml], [arI G (X 1) 258 (s2Z v (updZ (pasP y i) (74 + 5 * i) 2))]]) (by rw [show updZ (s2Z v (pasP y i)) (203 + 5 * i) 2 = s2Z v (updZ (pasP y i) (74 + 5 * i) 2) from (congrArg (fun j => updZ (s2Z v (pasP y i)) j 2) (show (203 + 5 * i : Int) = 129 + (74 + 5 * i) by omega)).trans (s2_up (by omega))]; rfl) (fun H locs hW => ?_)
              rw [← pasP_s h1.1 c21] at hW
              refine z_iinc C hl dX6_passes_89 92 rfl 1 rfl (z := 1 + i) (by omega) (by decide) (lv' := [(2, .int (iI (1 + i))), (3, .int (iI (1))), (1, .int (iI (129))), (0, .ref (X 0))]) rfl (fun ls hl => ?_)
              refine z_goto C dX6_passes_92 2 (by decide) ?_
              exact ih2 (1 + i) (by omega) _ _ hW (by omega) ls (lv_sub hl [0, 2, 3] rfl)
  exact L2 (Int.toNat (y 127 - 0) + 1) 0 (by omega) _ _ hW (by omega) ls (lv_sub hl [0, 2, 1] rfl)

set_option maxHeartbeats 4000000 in
set_option maxRecDepth 100000 in
theorem m_xwaits (l : Launch) (G : gT) (X : Nat → Nat) (kn ml : Int) (kp : Bool) (v y : Int → Int) (w : Wf y) (hD : gD ([[moO X kn kp ml], [arI G (X 1) 258 (s2Z v y)]] : List va_W).flatten) : MW l G yX6_waits cX6_waits 2 (some .int) 5 [.ref (X 0), .int (iI (129))] [[moO X kn kp ml], [arI G (X 1) 258 (s2Z v y)]] [[moO X kn kp ml], [arI G (X 1) 258 (s2Z v (waiV y))]] ZT (some (.int (iI (waiR y)))) := by
  refine enterW (own := RX6) (by decide +kernel) rfl (Nat.le_of_ble_eq_true rfl) hD ?_
  intro p e s m below meth c C hW hK hZ ls hl
  have hl : lv_has ls 2 [(0, .ref (X 0)), (1, .int (iI (129)))] := hl
  have ht := w.t
  have hs := w.s
  refine z_al_n C hl dX6_waits_0 0 rfl 1 rfl ?_
  refine z_il_n C hl dX6_waits_1 1 rfl 2 rfl ?_
  refine z_VR (r := .int (iI (bZ (overB y)))) (rest := []) C (m_xover l G X kn ml kp (s2Z v y) 129 y  w (by omega) (s2_1 v y) ) kV_X6_81 ⟨Nat.le_of_ble_eq_true rfl, Nat.le_of_ble_eq_true rfl⟩ hW.1 hK 0 rfl rfl rfl hl.1 rfl (Nat.le_of_ble_eq_true rfl) dX6_waits_2 ⟨Nat.le_of_ble_eq_true rfl, Nat.le_of_ble_eq_true rfl⟩ 5 rfl ?_
  refine z_ifb_eq C dX6_waits_5 11 8 (by decide) rfl (fun c5 => ?_) (fun c5 => ?_)
  · skip
    have ho := over0 c5
    have wp := w.pas (by omega)
    have hp6 : pasV y 126 = 1 + y 126 := updZ_s
    refine z_al_n C hl dX6_waits_11 0 rfl 12 rfl ?_
    refine z_il_n C hl dX6_waits_12 1 rfl 13 rfl ?_
    refine z_VWv (rest := []) C (m_xpasses l G X kn ml kp v y w (gD_rg hW.2.1 [0, 1] (by decide) rfl)) kV_X6_110 ⟨Nat.le_of_ble_eq_true rfl, Nat.le_of_ble_eq_true rfl⟩ hW hK [0, 1] rfl (sameA_of rfl) 0 rfl rfl rfl hl.1 rfl (Nat.le_of_ble_eq_true rfl) dX6_waits_13 ⟨Nat.le_of_ble_eq_true rfl, Nat.le_of_ble_eq_true rfl⟩ 16 rfl (rs' := [[moO X kn kp ml], [arI G (X 1) 258 (s2Z v (pasV y))]]) rfl (fun H locs hW hkeep => ?_)
    refine z_al_n C hl dX6_waits_16 0 rfl 17 rfl ?_
    refine z_il_n C hl dX6_waits_17 1 rfl 18 rfl ?_
    refine z_al_n C hl dX6_waits_18 0 rfl 19 rfl ?_
    refine z_get C hW.1 hK fl_X6_7 0 rfl rfl dX6_waits_19 22 rfl ?_
    refine z_il_n C hl dX6_waits_22 1 rfl 23 rfl ?_
    refine z_bipush C dX6_waits_23 (by decide) 25 rfl ?_
    refine z_iadd C dX6_waits_25 26 rfl (255) (by omega) ?_
    refine z_iaZ C (s2Z v (pasV y)) hW.1 hK 1 rfl (by omega) (by decide) ((pasV y) 126) ((congrArg (s2Z v (pasV y)) (show (255 : Int) = 129 + 126 by omega)).trans (s2_hi (by omega))) dX6_waits_26 27 rfl ?_
    refine z_VR (r := .int (iI (tideZ (pasV y) ((pasV y) 126)))) (rest := []) C (m_xtide l G X kn ml kp (s2Z v (pasV y)) 129 (pasV y) ((pasV y) 126) wp (by omega) (s2_1 v (pasV y)) (by omega)) kV_X6_50 ⟨Nat.le_of_ble_eq_true rfl, Nat.le_of_ble_eq_true rfl⟩ hW.1 hK 0 rfl rfl rfl hl.1 rfl (Nat.le_of_ble_eq_true rfl) dX6_waits_27 ⟨Nat.le_of_ble_eq_true rfl, Nat.le_of_ble_eq_true rfl⟩ 30 rfl ?_
    have r27 := tideZ_rng wp ((pasV y) 126)
    have hr : waiR y = tideZ (pasV y) ((pasV y) 126) := by unfold waiR; rw [if_neg (by rw [c5]; decide)]
    have hv : waiV y = (pasV y) := by unfold waiV; rw [if_neg (by rw [c5]; decide)]
    rw [hr, hv]
    exact z_wi C hW dX6_waits_30 rfl rfl
  · skip
    refine z_bipush C dX6_waits_8 (by decide) 10 rfl ?_
    have hr : waiR y = -4 := by unfold waiR; rw [if_pos c5]
    have hv : waiV y = y := by unfold waiV; rw [if_pos c5]
    rw [hr, hv]
    exact z_wi C hW dX6_waits_10 rfl rfl

set_option maxHeartbeats 4000000 in
set_option maxRecDepth 100000 in
theorem m_xmoves (l : Launch) (G : gT) (X : Nat → Nat) (kn ml : Int) (kp : Bool) (v y : Int → Int) (b d n : Int) (w : Wf y) (hb : -2147483648 ≤ b ∧ b < 2147483648) (hd : -2147483648 ≤ d ∧ d < 2147483648) (hn : -2147483648 ≤ n ∧ n < 2147483648) (hD : gD ([[moO X kn kp ml], [arI G (X 1) 258 (s2Z v y)]] : List va_W).flatten) : MW l G yX6_moves cX6_moves 8 (some .int) 7 [.ref (X 0), .int (iI (129)), .int (iI (b)), .int (iI (wofZ d n))] [[moO X kn kp ml], [arI G (X 1) 258 (s2Z v y)]] [[moO X kn kp ml], [arI G (X 1) 258 (s2Z v (saiV y b d n))]] ZT (some (.int (iI (saiR y b d n)))) := by
  refine enterW (own := RX6) (by decide +kernel) rfl (Nat.le_of_ble_eq_true rfl) hD ?_
  intro p e s m below meth c C hW hK hZ ls hl
  have hl : lv_has ls 8 [(0, .ref (X 0)), (1, .int (iI (129))), (2, .int (iI (b))), (3, .int (iI (wofZ d n)))] := hl
  have ht := w.t
  have hs := w.s
  have h127 := w.n
  have hwr := wof_rng d n
  refine z_al_n C hl dX6_moves_0 0 rfl 1 rfl ?_
  refine z_il_n C hl dX6_moves_1 1 rfl 2 rfl ?_
  refine z_il_n C hl dX6_moves_2 2 rfl 3 rfl ?_
  refine z_VR (r := .int (iI (bZ (decide (0 ≤ b ∧ b < y 127))))) (rest := []) C (m_xisBoat l G X kn ml kp (s2Z v y) 129 y b w (by omega) (s2_1 v y) (by omega)) kV_X6_104 ⟨Nat.le_of_ble_eq_true rfl, Nat.le_of_ble_eq_true rfl⟩ hW.1 hK 0 rfl rfl rfl hl.1 rfl (Nat.le_of_ble_eq_true rfl) dX6_moves_3 ⟨Nat.le_of_ble_eq_true rfl, Nat.le_of_ble_eq_true rfl⟩ 6 rfl ?_
  refine z_ifb_ne C dX6_moves_6 11 9 (by decide) rfl (fun c6 => ?_) (fun c6 => ?_)
  · skip
    simp only [decide_eq_true_eq, decide_eq_false_iff_not] at c6
    have hw := w.b b (by omega)
    have hbb := w.bb b (by omega)
    have hpp := harZ_c (p := y (72 + 5 * b)) (by omega)
    refine z_il_n C hl dX6_moves_11 3 rfl 12 rfl ?_
    refine z_bipush C dX6_moves_12 (by decide) 14 rfl ?_
    refine z_icmp_ne C dX6_moves_14 20 17 (by decide) rfl (by omega) (fun c14 => ?_) (fun c14 => ?_)
    · skip
      obtain ⟨hd0, hn0, hwe⟩ := wof_e c14
      have herr : errZ y b d n = 0 := by unfold errZ; rw [if_neg (by omega), if_neg (by omega)]
      refine z_al_n C hl dX6_moves_20 0 rfl 21 rfl ?_
      refine z_il_n C hl dX6_moves_21 1 rfl 22 rfl ?_
      refine z_il_n C hl dX6_moves_22 2 rfl 23 rfl ?_
      refine z_il_n C hl dX6_moves_23 3 rfl 24 rfl ?_
      refine z_VR (r := .int (iI (reaZ y b d n false))) (rest := []) C (m_xwhy l G X kn ml kp (s2Z v y) 129 y b (wofZ d n) d n w (by omega) (s2_1 v y) (by omega) (by omega) (by omega) (by omega)) kV_X6_107 ⟨Nat.le_of_ble_eq_true rfl, Nat.le_of_ble_eq_true rfl⟩ hW.1 hK 0 rfl rfl rfl hl.1 rfl (Nat.le_of_ble_eq_true rfl) dX6_moves_24 ⟨Nat.le_of_ble_eq_true rfl, Nat.le_of_ble_eq_true rfl⟩ 27 rfl ?_
      have r24 := reaZ_rng y b d n false
      refine z_is C hl dX6_moves_27 29 rfl (by decide) (lv' := [(4, .int (iI (reaZ y b d n false))), (0, .ref (X 0)), (1, .int (iI (129))), (2, .int (iI (b))), (3, .int (iI (wofZ d n)))]) rfl (fun ls hl => ?_)
      refine z_il C hl dX6_moves_29 0 rfl 31 rfl ?_
      refine z_if_le C dX6_moves_31 40 34 (by decide) rfl (by omega) (fun c31 => ?_) (fun c31 => ?_)
      · skip
        have c31z : reaZ y b d n false = 0 := by omega
        obtain ⟨q1, q2, q3, q4, q5, q6⟩ := rea0 c31z
        obtain ⟨g1, g2, g3⟩ := gol_rng w c6 c31z
        have hon : y (74 + 5 * b) = 0 := of_decide_eq_true q2
        have wm := w.mv c6 c31z
        refine z_al_n C hl dX6_moves_40 1 rfl 41 rfl ?_
        refine z_il_n C hl dX6_moves_41 2 rfl 42 rfl ?_
        refine z_al_n C hl dX6_moves_42 1 rfl 43 rfl ?_
        refine z_il_n C hl dX6_moves_43 2 rfl 44 rfl ?_
        refine z_il_n C hl dX6_moves_44 3 rfl 45 rfl ?_
        refine z_VR (r := .int (iI (100 * y (72 + 5 * b) + y (73 + 5 * b)))) (rest := [.int (iI (129)), .ref (X 0)]) C (m_xkind l G X kn ml kp (s2Z v y) 129 y b w (by omega) (s2_1 v y) (by omega)) kV_X6_85 ⟨Nat.le_of_ble_eq_true rfl, Nat.le_of_ble_eq_true rfl⟩ hW.1 hK 0 rfl rfl rfl hl.1 rfl (Nat.le_of_ble_eq_true rfl) dX6_moves_45 ⟨Nat.le_of_ble_eq_true rfl, Nat.le_of_ble_eq_true rfl⟩ 48 rfl ?_
        refine z_al_n C hl dX6_moves_48 1 rfl 49 rfl ?_
        refine z_il_n C hl dX6_moves_49 2 rfl 50 rfl ?_
        refine z_il_n C hl dX6_moves_50 3 rfl 51 rfl ?_
        refine z_iconst C dX6_moves_51 52 rfl ?_
        refine z_VR (r := .int (iI (y (75 + 5 * b)))) (rest := [.int (iI (100 * y (72 + 5 * b) + y (73 + 5 * b))), .int (iI (129)), .ref (X 0)]) C (m_xits l G X kn ml kp (s2Z v y) 129 y b 3 (75 + 5 * b)  (by omega) (s2_1 v y) (by omega) (by omega)) kV_X6_68 ⟨Nat.le_of_ble_eq_true rfl, Nat.le_of_ble_eq_true rfl⟩ hW.1 hK 0 rfl rfl rfl hl.1 rfl (Nat.le_of_ble_eq_true rfl) dX6_moves_52 ⟨Nat.le_of_ble_eq_true rfl, Nat.le_of_ble_eq_true rfl⟩ 55 rfl ?_
        refine z_il_n C hl dX6_moves_55 4 rfl 56 rfl ?_
        refine z_al_n C hl dX6_moves_56 1 rfl 57 rfl ?_
        refine z_get C hW.1 hK fl_X6_7 0 rfl rfl dX6_moves_57 60 rfl ?_
        refine z_il_n C hl dX6_moves_60 2 rfl 61 rfl ?_
        refine z_bipush C dX6_moves_61 (by decide) 63 rfl ?_
        refine z_iadd C dX6_moves_63 64 rfl (255) (by omega) ?_
        refine z_iaZ C (s2Z v y) hW.1 hK 1 rfl (by omega) (by decide) (y 126) ((congrArg (s2Z v y) (show (255 : Int) = 129 + 126 by omega)).trans (s2_hi (by omega))) dX6_moves_64 65 rfl ?_
        refine z_VR (r := .int (iI (wayN y (y (72 + 5 * b)) (y (73 + 5 * b)) (y 126) d (Int.toNat n) (y (75 + 5 * b))))) (rest := []) C (m_xway l G X kn ml kp (s2Z v y) 129 y (100 * y (72 + 5 * b) + y (73 + 5 * b)) (y (75 + 5 * b)) (wofZ d n) (y 126) (y (72 + 5 * b)) (y (73 + 5 * b)) d n w (by omega) (s2_1 v y) (by omega) (by omega) (by omega) (by omega) (by omega) (by omega) (by omega) (by omega)) kV_X6_88 ⟨Nat.le_of_ble_eq_true rfl, Nat.le_of_ble_eq_true rfl⟩ hW.1 hK 0 rfl rfl rfl hl.1 rfl (Nat.le_of_ble_eq_true rfl) dX6_moves_65 ⟨Nat.le_of_ble_eq_true rfl, Nat.le_of_ble_eq_true rfl⟩ 68 rfl ?_
        refine z_top (b := .int (iI (golZ y b d n))) (congrArg (fun z => Value.int (iI z)) g2) ?_
        refine z_is C hl dX6_moves_68 70 rfl (by decide) (lv' := [(5, .int (iI (golZ y b d n))), (4, .int (iI (reaZ y b d n false))), (0, .ref (X 0)), (1, .int (iI (129))), (2, .int (iI (b))), (3, .int (iI (wofZ d n)))]) rfl (fun ls hl => ?_)
        refine z_al_n C hl dX6_moves_70 2 rfl 71 rfl ?_
        refine z_il_n C hl dX6_moves_71 3 rfl 72 rfl ?_
        refine z_il C hl dX6_moves_72 0 rfl 74 rfl ?_
        refine z_VR (r := .int (iI (batZ y (golZ y b d n)))) (rest := []) C (m_xbat l G X kn ml kp (s2Z v y) 129 y (golZ y b d n) w (by omega) (s2_1 v y) (by omega)) kV_X6_71 ⟨Nat.le_of_ble_eq_true rfl, Nat.le_of_ble_eq_true rfl⟩ hW.1 hK 0 rfl rfl rfl hl.1 rfl (Nat.le_of_ble_eq_true rfl) dX6_moves_74 ⟨Nat.le_of_ble_eq_true rfl, Nat.le_of_ble_eq_true rfl⟩ 77 rfl ?_
        have r74 := batZ_rng w (golZ y b d n)
        have ob : batZ y (golZ y b d n) ≠ b := by rintro e9; have h8 := r74.resolve_left (by omega); have h7 := gol_ne hd0 hn0 c31z; rw [e9] at h8; omega
        refine z_is C hl dX6_moves_77 79 rfl (by decide) (lv' := [(6, .int (iI (batZ y (golZ y b d n)))), (5, .int (iI (golZ y b d n))), (4, .int (iI (reaZ y b d n false))), (0, .ref (X 0)), (1, .int (iI (129))), (2, .int (iI (b))), (3, .int (iI (wofZ d n)))]) rfl (fun ls hl => ?_)
        refine z_iconst C dX6_moves_79 80 rfl ?_
        refine z_is C hl dX6_moves_80 82 rfl (by decide) (lv' := [(7, .int (iI (0))), (6, .int (iI (batZ y (golZ y b d n)))), (5, .int (iI (golZ y b d n))), (4, .int (iI (reaZ y b d n false))), (0, .ref (X 0)), (1, .int (iI (129))), (2, .int (iI (b))), (3, .int (iI (wofZ d n)))]) rfl (fun ls hl => ?_)
        refine z_il C hl dX6_moves_82 1 rfl 84 rfl ?_
        refine z_bipush C dX6_moves_84 (by decide) 86 rfl ?_
        refine z_icmp_eq C dX6_moves_86 127 89 (by decide) rfl (by omega) (fun c86 => ?_) (fun c86 => ?_)
        · skip
          have hu1 : ramV y (batZ y (golZ y b d n)) = y := by unfold ramV; rw [if_pos c86]
          obtain ⟨u, hu⟩ : ∃ u, u = ramV y (batZ y (golZ y b d n)) := ⟨_, rfl⟩
          have hu2 := hu.trans hu1
          skip
          have hW := hW.re (rs' := [[moO X kn kp ml], [arI G (X 1) 258 (s2Z v u)]]) (by rw [hu2])
          have wu : Wf u := by rw [hu]; exact w.ram _ (by omega)
          have eu : ∀ j : Int, j ≠ 128 → j ≠ 74 + 5 * batZ y (golZ y b d n) → u j = y j := fun j h1 h2 => by rw [hu]; exact ramV_o h1 h2
          refine z_al_n C hl dX6_moves_127 4 rfl 128 rfl ?_
          refine z_get C hW.1 hK fl_X6_7 0 rfl rfl dX6_moves_128 131 rfl ?_
          refine z_il_n C hl dX6_moves_131 5 rfl 132 rfl ?_
          refine z_il_n C hl dX6_moves_132 6 rfl 133 rfl ?_
          refine z_SR (r := .int (iI ((72 + 5 * b + 129)))) (rest := [.ref (X 1)]) C (m_xat l G 129 b) kS_X6_39 ⟨Nat.le_of_ble_eq_true rfl, Nat.le_of_ble_eq_true rfl⟩ (gP_nil) hK rfl hl.1 rfl (Nat.le_of_ble_eq_true rfl) dX6_moves_133 ⟨Nat.le_of_ble_eq_true rfl, Nat.le_of_ble_eq_true rfl⟩ 136 rfl ?_
          refine z_top (b := .int (iI (201 + 5 * b))) (congrArg (fun z => Value.int (iI z)) (by omega)) ?_
          refine z_iconst C dX6_moves_136 137 rfl ?_
          refine z_iadd C dX6_moves_137 138 rfl (204 + 5 * b) (by omega) ?_
          refine z_il C hl dX6_moves_138 2 rfl 140 rfl ?_
          refine z_iasZ C (s2Z v u) hW hK 1 rfl (by omega) (by decide) dX6_moves_140 141 rfl (rs' := [[moO X kn kp ml], [arI G (X 1) 258 (s2Z v (updZ u (75 + 5 * b) (golZ y b d n)))]]) (by rw [show updZ (s2Z v u) (204 + 5 * b) (golZ y b d n) = s2Z v (updZ u (75 + 5 * b) (golZ y b d n)) from (congrArg (fun j => updZ (s2Z v u) j (golZ y b d n)) (show (204 + 5 * b : Int) = 129 + (75 + 5 * b) by omega)).trans (s2_up (by omega))]; rfl) (fun H locs hW => ?_)
          refine z_al_n C hl dX6_moves_141 4 rfl 142 rfl ?_
          refine z_get C hW.1 hK fl_X6_7 0 rfl rfl dX6_moves_142 145 rfl ?_
          refine z_il_n C hl dX6_moves_145 5 rfl 146 rfl ?_
          refine z_il_n C hl dX6_moves_146 6 rfl 147 rfl ?_
          refine z_SR (r := .int (iI ((72 + 5 * b + 129)))) (rest := [.ref (X 1)]) C (m_xat l G 129 b) kS_X6_39 ⟨Nat.le_of_ble_eq_true rfl, Nat.le_of_ble_eq_true rfl⟩ (gP_nil) hK rfl hl.1 rfl (Nat.le_of_ble_eq_true rfl) dX6_moves_147 ⟨Nat.le_of_ble_eq_true rfl, Nat.le_of_ble_eq_true rfl⟩ 150 rfl ?_
          refine z_top (b := .int (iI (201 + 5 * b))) (congrArg (fun z => Value.int (iI z)) (by omega)) ?_
          refine z_iconst C dX6_moves_150 151 rfl ?_
          refine z_iadd C dX6_moves_151 152 rfl (205 + 5 * b) (by omega) ?_
          refine z_dup2 C dX6_moves_152 rfl rfl 153 rfl ?_
          refine z_iaZ C (s2Z v (updZ u (75 + 5 * b) (golZ y b d n))) hW.1 hK 1 rfl (by omega) (by decide) (y (76 + 5 * b)) ((congrArg (s2Z v (updZ u (75 + 5 * b) (golZ y b d n))) (show (205 + 5 * b : Int) = 129 + (76 + 5 * b) by omega)).trans ((s2_hi (by omega)).trans (by rw [updZ_n (by omega)]; exact eu _ (by omega) (by omega)))) dX6_moves_153 154 rfl ?_
          refine z_il_n C hl dX6_moves_154 7 rfl 155 rfl ?_
          refine z_bipush C dX6_moves_155 (by decide) 157 rfl ?_
          refine z_irem C dX6_moves_157 158 rfl (by omega) (n) (by omega) ?_
          refine z_iadd C dX6_moves_158 159 rfl (n + y (76 + 5 * b)) (by omega) ?_
          refine z_iasZ C (s2Z v (updZ u (75 + 5 * b) (golZ y b d n))) hW hK 1 rfl (by omega) (by decide) dX6_moves_159 160 rfl (rs' := [[moO X kn kp ml], [arI G (X 1) 258 (s2Z v (updZ (updZ u (75 + 5 * b) (golZ y b d n)) (76 + 5 * b) (n + y (76 + 5 * b))))]]) (by rw [show updZ (s2Z v (updZ u (75 + 5 * b) (golZ y b d n))) (205 + 5 * b) (n + y (76 + 5 * b)) = s2Z v (updZ (updZ u (75 + 5 * b) (golZ y b d n)) (76 + 5 * b) (n + y (76 + 5 * b))) from (congrArg (fun j => updZ (s2Z v (updZ u (75 + 5 * b) (golZ y b d n))) j (n + y (76 + 5 * b))) (show (205 + 5 * b : Int) = 129 + (76 + 5 * b) by omega)).trans (s2_up (by omega))]; rfl) (fun H locs hW => ?_)
          refine z_al_n C hl dX6_moves_160 4 rfl 161 rfl ?_
          refine z_get C hW.1 hK fl_X6_7 0 rfl rfl dX6_moves_161 164 rfl ?_
          refine z_il_n C hl dX6_moves_164 5 rfl 165 rfl ?_
          refine z_il_n C hl dX6_moves_165 6 rfl 166 rfl ?_
          refine z_SR (r := .int (iI ((72 + 5 * b + 129)))) (rest := [.ref (X 1)]) C (m_xat l G 129 b) kS_X6_39 ⟨Nat.le_of_ble_eq_true rfl, Nat.le_of_ble_eq_true rfl⟩ (gP_nil) hK rfl hl.1 rfl (Nat.le_of_ble_eq_true rfl) dX6_moves_166 ⟨Nat.le_of_ble_eq_true rfl, Nat.le_of_ble_eq_true rfl⟩ 169 rfl ?_
          refine z_top (b := .int (iI (201 + 5 * b))) (congrArg (fun z => Value.int (iI z)) (by omega)) ?_
          refine z_iconst C dX6_moves_169 170 rfl ?_
          refine z_iadd C dX6_moves_170 171 rfl (203 + 5 * b) (by omega) ?_
          refine z_il C hl dX6_moves_171 2 rfl 173 rfl ?_
          refine z_al_n C hl dX6_moves_173 4 rfl 174 rfl ?_
          refine z_il_n C hl dX6_moves_174 5 rfl 175 rfl ?_
          refine z_il_n C hl dX6_moves_175 6 rfl 176 rfl ?_
          refine z_iconst C dX6_moves_176 177 rfl ?_
          refine z_VR (r := .int (iI (((updZ (updZ u (75 + 5 * b) (golZ y b d n)) (76 + 5 * b) (n + y (76 + 5 * b))) (72 + 5 * b))))) (rest := [.int (iI (golZ y b d n)), .int (iI (203 + 5 * b)), .ref (X 1)]) C (m_xits l G X kn ml kp (s2Z v (updZ (updZ u (75 + 5 * b) (golZ y b d n)) (76 + 5 * b) (n + y (76 + 5 * b)))) 129 (updZ (updZ u (75 + 5 * b) (golZ y b d n)) (76 + 5 * b) (n + y (76 + 5 * b))) b 0 (72 + 5 * b)  (by omega) (s2_1 v (updZ (updZ u (75 + 5 * b) (golZ y b d n)) (76 + 5 * b) (n + y (76 + 5 * b)))) (by omega) (by omega)) kV_X6_68 ⟨Nat.le_of_ble_eq_true rfl, Nat.le_of_ble_eq_true rfl⟩ hW.1 hK 0 rfl rfl rfl hl.1 rfl (Nat.le_of_ble_eq_true rfl) dX6_moves_177 ⟨Nat.le_of_ble_eq_true rfl, Nat.le_of_ble_eq_true rfl⟩ 180 rfl ?_
          refine z_top (b := .int (iI (y (72 + 5 * b)))) (congrArg (fun z => Value.int (iI z)) (by rw [updZ_n (by omega), updZ_n (by omega)]; exact eu _ (by omega) (by omega))) ?_
          refine z_SR (r := .int (iI (harZ (y (72 + 5 * b))))) (rest := [.int (iI (golZ y b d n)), .int (iI (203 + 5 * b)), .ref (X 1)]) C (m_xhar l G (y (72 + 5 * b)) (by omega)) kS_X6_61 ⟨Nat.le_of_ble_eq_true rfl, Nat.le_of_ble_eq_true rfl⟩ (gP_nil) hK rfl hl.1 rfl (Nat.le_of_ble_eq_true rfl) dX6_moves_180 ⟨Nat.le_of_ble_eq_true rfl, Nat.le_of_ble_eq_true rfl⟩ 183 rfl ?_
          have hh180 := harZ_rng (y (72 + 5 * b))
          refine z_icmp_ne C dX6_moves_183 190 186 (by decide) rfl (by omega) (fun c183 => ?_) (fun c183 => ?_)
          · skip
            refine z_iconst C dX6_moves_190 191 rfl ?_
            refine z_iasZ C (s2Z v (updZ (updZ u (75 + 5 * b) (golZ y b d n)) (76 + 5 * b) (n + y (76 + 5 * b)))) hW hK 1 rfl (by omega) (by decide) dX6_moves_191 192 rfl (rs' := [[moO X kn kp ml], [arI G (X 1) 258 (s2Z v (updZ (updZ (updZ u (75 + 5 * b) (golZ y b d n)) (76 + 5 * b) (n + y (76 + 5 * b))) (74 + 5 * b) 0))]]) (by rw [show updZ (s2Z v (updZ (updZ u (75 + 5 * b) (golZ y b d n)) (76 + 5 * b) (n + y (76 + 5 * b)))) (203 + 5 * b) 0 = s2Z v (updZ (updZ (updZ u (75 + 5 * b) (golZ y b d n)) (76 + 5 * b) (n + y (76 + 5 * b))) (74 + 5 * b) 0) from (congrArg (fun j => updZ (s2Z v (updZ (updZ u (75 + 5 * b) (golZ y b d n)) (76 + 5 * b) (n + y (76 + 5 * b)))) j 0) (show (203 + 5 * b : Int) = 129 + (74 + 5 * b) by omega)).trans (s2_up (by omega))]; rfl) (fun H locs hW => ?_)
            rw [show updZ (updZ (updZ u (75 + 5 * b) (golZ y b d n)) (76 + 5 * b) (n + y (76 + 5 * b))) (74 + 5 * b) 0 = mvV y b d n by unfold mvV; rw [← hu, if_neg c183, updZ_comm (show (75 + 5 * b : Int) ≠ 76 + 5 * b by omega)]] at hW
            refine z_al_n C hl dX6_moves_192 4 rfl 193 rfl ?_
            refine z_il_n C hl dX6_moves_193 5 rfl 194 rfl ?_
            refine z_VWv (rest := []) C (m_xpasses l G X kn ml kp v (mvV y b d n) wm (gD_rg hW.2.1 [0, 1] (by decide) rfl)) kV_X6_110 ⟨Nat.le_of_ble_eq_true rfl, Nat.le_of_ble_eq_true rfl⟩ hW hK [0, 1] rfl (sameA_of rfl) 0 rfl rfl rfl hl.1 rfl (Nat.le_of_ble_eq_true rfl) dX6_moves_194 ⟨Nat.le_of_ble_eq_true rfl, Nat.le_of_ble_eq_true rfl⟩ 197 rfl (rs' := [[moO X kn kp ml], [arI G (X 1) 258 (s2Z v (pasV (mvV y b d n)))]]) rfl (fun H locs hW hkeep => ?_)
            refine z_il C hl dX6_moves_197 0 rfl 199 rfl ?_
            have hr := saiR_k herr c31z
            have hr2 := ramR_rng w (batZ y (golZ y b d n)) (by omega)
            have hv : saiV y b d n = pasV (mvV y b d n) := by unfold saiV; exact if_pos (by rw [hr]; omega)
            have hr3 : ramR y (batZ y (golZ y b d n)) = 0 := by unfold ramR; rw [if_pos c86]
            rw [hr3] at hr
            rw [hr, hv]
            exact z_wi C hW dX6_moves_199 rfl rfl
          · skip
            refine z_iconst C dX6_moves_186 187 rfl ?_
            refine z_goto C dX6_moves_187 191 (by decide) ?_
            refine z_iasZ C (s2Z v (updZ (updZ u (75 + 5 * b) (golZ y b d n)) (76 + 5 * b) (n + y (76 + 5 * b)))) hW hK 1 rfl (by omega) (by decide) dX6_moves_191 192 rfl (rs' := [[moO X kn kp ml], [arI G (X 1) 258 (s2Z v (updZ (updZ (updZ u (75 + 5 * b) (golZ y b d n)) (76 + 5 * b) (n + y (76 + 5 * b))) (74 + 5 * b) 1))]]) (by rw [show updZ (s2Z v (updZ (updZ u (75 + 5 * b) (golZ y b d n)) (76 + 5 * b) (n + y (76 + 5 * b)))) (203 + 5 * b) 1 = s2Z v (updZ (updZ (updZ u (75 + 5 * b) (golZ y b d n)) (76 + 5 * b) (n + y (76 + 5 * b))) (74 + 5 * b) 1) from (congrArg (fun j => updZ (s2Z v (updZ (updZ u (75 + 5 * b) (golZ y b d n)) (76 + 5 * b) (n + y (76 + 5 * b)))) j 1) (show (203 + 5 * b : Int) = 129 + (74 + 5 * b) by omega)).trans (s2_up (by omega))]; rfl) (fun H locs hW => ?_)
            rw [show updZ (updZ (updZ u (75 + 5 * b) (golZ y b d n)) (76 + 5 * b) (n + y (76 + 5 * b))) (74 + 5 * b) 1 = mvV y b d n by unfold mvV; rw [← hu, if_pos c183, updZ_comm (show (75 + 5 * b : Int) ≠ 76 + 5 * b by omega)]] at hW
            refine z_al_n C hl dX6_moves_192 4 rfl 193 rfl ?_
            refine z_il_n C hl dX6_moves_193 5 rfl 194 rfl ?_
            refine z_VWv (rest := []) C (m_xpasses l G X kn ml kp v (mvV y b d n) wm (gD_rg hW.2.1 [0, 1] (by decide) rfl)) kV_X6_110 ⟨Nat.le_of_ble_eq_true rfl, Nat.le_of_ble_eq_true rfl⟩ hW hK [0, 1] rfl (sameA_of rfl) 0 rfl rfl rfl hl.1 rfl (Nat.le_of_ble_eq_true rfl) dX6_moves_194 ⟨Nat.le_of_ble_eq_true rfl, Nat.le_of_ble_eq_true rfl⟩ 197 rfl (rs' := [[moO X kn kp ml], [arI G (X 1) 258 (s2Z v (pasV (mvV y b d n)))]]) rfl (fun H locs hW hkeep => ?_)
            refine z_il C hl dX6_moves_197 0 rfl 199 rfl ?_
            have hr := saiR_k herr c31z
            have hr2 := ramR_rng w (batZ y (golZ y b d n)) (by omega)
            have hv : saiV y b d n = pasV (mvV y b d n) := by unfold saiV; exact if_pos (by rw [hr]; omega)
            have hr3 : ramR y (batZ y (golZ y b d n)) = 0 := by unfold ramR; rw [if_pos c86]
            rw [hr3] at hr
            rw [hr, hv]
            exact z_wi C hW dX6_moves_199 rfl rfl
        · skip
          have ho := r74.resolve_left c86
          have ho2 := w.b (batZ y (golZ y b d n)) (by omega)
          refine z_al_n C hl dX6_moves_89 4 rfl 90 rfl ?_
          refine z_il_n C hl dX6_moves_90 5 rfl 91 rfl ?_
          refine z_il C hl dX6_moves_91 1 rfl 93 rfl ?_
          refine z_iconst C dX6_moves_93 94 rfl ?_
          refine z_VR (r := .int (iI (y (73 + 5 * batZ y (golZ y b d n))))) (rest := []) C (m_xits l G X kn ml kp (s2Z v y) 129 y (batZ y (golZ y b d n)) 1 (73 + 5 * batZ y (golZ y b d n))  (by omega) (s2_1 v y) (by omega) (by omega)) kV_X6_68 ⟨Nat.le_of_ble_eq_true rfl, Nat.le_of_ble_eq_true rfl⟩ hW.1 hK 0 rfl rfl rfl hl.1 rfl (Nat.le_of_ble_eq_true rfl) dX6_moves_94 ⟨Nat.le_of_ble_eq_true rfl, Nat.le_of_ble_eq_true rfl⟩ 97 rfl ?_
          refine z_is C hl dX6_moves_97 99 rfl (by decide) (lv' := [(7, .int (iI (y (73 + 5 * batZ y (golZ y b d n))))), (6, .int (iI (batZ y (golZ y b d n)))), (5, .int (iI (golZ y b d n))), (4, .int (iI (reaZ y b d n false))), (0, .ref (X 0)), (1, .int (iI (129))), (2, .int (iI (b))), (3, .int (iI (wofZ d n)))]) rfl (fun ls hl => ?_)
          refine z_al_n C hl dX6_moves_99 4 rfl 100 rfl ?_
          refine z_get C hW.1 hK fl_X6_7 0 rfl rfl dX6_moves_100 103 rfl ?_
          refine z_il_n C hl dX6_moves_103 5 rfl 104 rfl ?_
          refine z_il C hl dX6_moves_104 1 rfl 106 rfl ?_
          refine z_SR (r := .int (iI ((72 + 5 * (batZ y (golZ y b d n)) + 129)))) (rest := [.ref (X 1)]) C (m_xat l G 129 (batZ y (golZ y b d n))) kS_X6_39 ⟨Nat.le_of_ble_eq_true rfl, Nat.le_of_ble_eq_true rfl⟩ (gP_nil) hK rfl hl.1 rfl (Nat.le_of_ble_eq_true rfl) dX6_moves_106 ⟨Nat.le_of_ble_eq_true rfl, Nat.le_of_ble_eq_true rfl⟩ 109 rfl ?_
          refine z_top (b := .int (iI (201 + 5 * batZ y (golZ y b d n)))) (congrArg (fun z => Value.int (iI z)) (by omega)) ?_
          refine z_iconst C dX6_moves_109 110 rfl ?_
          refine z_iadd C dX6_moves_110 111 rfl (203 + 5 * batZ y (golZ y b d n)) (by omega) ?_
          refine z_iconst C dX6_moves_111 112 rfl ?_
          refine z_iasZ C (s2Z v y) hW hK 1 rfl (by omega) (by decide) dX6_moves_112 113 rfl (rs' := [[moO X kn kp ml], [arI G (X 1) 258 (s2Z v (updZ y (74 + 5 * batZ y (golZ y b d n)) 2))]]) (by rw [show updZ (s2Z v y) (203 + 5 * batZ y (golZ y b d n)) 2 = s2Z v (updZ y (74 + 5 * batZ y (golZ y b d n)) 2) from (congrArg (fun j => updZ (s2Z v y) j 2) (show (203 + 5 * batZ y (golZ y b d n) : Int) = 129 + (74 + 5 * batZ y (golZ y b d n)) by omega)).trans (s2_up (by omega))]; rfl) (fun H locs hW => ?_)
          refine z_al_n C hl dX6_moves_113 4 rfl 114 rfl ?_
          refine z_get C hW.1 hK fl_X6_7 0 rfl rfl dX6_moves_114 117 rfl ?_
          refine z_il_n C hl dX6_moves_117 5 rfl 118 rfl ?_
          refine z_sipush C dX6_moves_118 (by decide) 121 rfl ?_
          refine z_iadd C dX6_moves_121 122 rfl (257) (by omega) ?_
          refine z_dup2 C dX6_moves_122 rfl rfl 123 rfl ?_
          refine z_iaZ C (s2Z v (updZ y (74 + 5 * batZ y (golZ y b d n)) 2)) hW.1 hK 1 rfl (by omega) (by decide) (y 128) ((congrArg (s2Z v (updZ y (74 + 5 * batZ y (golZ y b d n)) 2)) (show (257 : Int) = 129 + 128 by omega)).trans ((s2_hi (by omega)).trans (updZ_n (by omega)))) dX6_moves_123 124 rfl ?_
          refine z_iconst C dX6_moves_124 125 rfl ?_
          refine z_iadd C dX6_moves_125 126 rfl (1 + y 128) (by omega) ?_
          refine z_iasZ C (s2Z v (updZ y (74 + 5 * batZ y (golZ y b d n)) 2)) hW hK 1 rfl (by omega) (by decide) dX6_moves_126 127 rfl (rs' := [[moO X kn kp ml], [arI G (X 1) 258 (s2Z v (updZ (updZ y (74 + 5 * batZ y (golZ y b d n)) 2) 128 (1 + y 128)))]]) (by rw [show updZ (s2Z v (updZ y (74 + 5 * batZ y (golZ y b d n)) 2)) 257 (1 + y 128) = s2Z v (updZ (updZ y (74 + 5 * batZ y (golZ y b d n)) 2) 128 (1 + y 128)) from (congrArg (fun j => updZ (s2Z v (updZ y (74 + 5 * batZ y (golZ y b d n)) 2)) j (1 + y 128)) (show (257 : Int) = 129 + 128 by omega)).trans (s2_up (by omega))]; rfl) (fun H locs hW => ?_)
          have hu1 : ramV y (batZ y (golZ y b d n)) = updZ (updZ y (74 + 5 * batZ y (golZ y b d n)) 2) 128 (1 + y 128) := by unfold ramV; rw [if_neg c86]
          obtain ⟨u, hu⟩ : ∃ u, u = ramV y (batZ y (golZ y b d n)) := ⟨_, rfl⟩
          have hu2 := hu.trans hu1
          rw [← hu2] at hW
          skip
          have wu : Wf u := by rw [hu]; exact w.ram _ (by omega)
          have eu : ∀ j : Int, j ≠ 128 → j ≠ 74 + 5 * batZ y (golZ y b d n) → u j = y j := fun j h1 h2 => by rw [hu]; exact ramV_o h1 h2
          refine z_al_n C hl dX6_moves_127 4 rfl 128 rfl ?_
          refine z_get C hW.1 hK fl_X6_7 0 rfl rfl dX6_moves_128 131 rfl ?_
          refine z_il_n C hl dX6_moves_131 5 rfl 132 rfl ?_
          refine z_il_n C hl dX6_moves_132 6 rfl 133 rfl ?_
          refine z_SR (r := .int (iI ((72 + 5 * b + 129)))) (rest := [.ref (X 1)]) C (m_xat l G 129 b) kS_X6_39 ⟨Nat.le_of_ble_eq_true rfl, Nat.le_of_ble_eq_true rfl⟩ (gP_nil) hK rfl hl.1 rfl (Nat.le_of_ble_eq_true rfl) dX6_moves_133 ⟨Nat.le_of_ble_eq_true rfl, Nat.le_of_ble_eq_true rfl⟩ 136 rfl ?_
          refine z_top (b := .int (iI (201 + 5 * b))) (congrArg (fun z => Value.int (iI z)) (by omega)) ?_
          refine z_iconst C dX6_moves_136 137 rfl ?_
          refine z_iadd C dX6_moves_137 138 rfl (204 + 5 * b) (by omega) ?_
          refine z_il C hl dX6_moves_138 2 rfl 140 rfl ?_
          refine z_iasZ C (s2Z v u) hW hK 1 rfl (by omega) (by decide) dX6_moves_140 141 rfl (rs' := [[moO X kn kp ml], [arI G (X 1) 258 (s2Z v (updZ u (75 + 5 * b) (golZ y b d n)))]]) (by rw [show updZ (s2Z v u) (204 + 5 * b) (golZ y b d n) = s2Z v (updZ u (75 + 5 * b) (golZ y b d n)) from (congrArg (fun j => updZ (s2Z v u) j (golZ y b d n)) (show (204 + 5 * b : Int) = 129 + (75 + 5 * b) by omega)).trans (s2_up (by omega))]; rfl) (fun H locs hW => ?_)
          refine z_al_n C hl dX6_moves_141 4 rfl 142 rfl ?_
          refine z_get C hW.1 hK fl_X6_7 0 rfl rfl dX6_moves_142 145 rfl ?_
          refine z_il_n C hl dX6_moves_145 5 rfl 146 rfl ?_
          refine z_il_n C hl dX6_moves_146 6 rfl 147 rfl ?_
          refine z_SR (r := .int (iI ((72 + 5 * b + 129)))) (rest := [.ref (X 1)]) C (m_xat l G 129 b) kS_X6_39 ⟨Nat.le_of_ble_eq_true rfl, Nat.le_of_ble_eq_true rfl⟩ (gP_nil) hK rfl hl.1 rfl (Nat.le_of_ble_eq_true rfl) dX6_moves_147 ⟨Nat.le_of_ble_eq_true rfl, Nat.le_of_ble_eq_true rfl⟩ 150 rfl ?_
          refine z_top (b := .int (iI (201 + 5 * b))) (congrArg (fun z => Value.int (iI z)) (by omega)) ?_
          refine z_iconst C dX6_moves_150 151 rfl ?_
          refine z_iadd C dX6_moves_151 152 rfl (205 + 5 * b) (by omega) ?_
          refine z_dup2 C dX6_moves_152 rfl rfl 153 rfl ?_
          refine z_iaZ C (s2Z v (updZ u (75 + 5 * b) (golZ y b d n))) hW.1 hK 1 rfl (by omega) (by decide) (y (76 + 5 * b)) ((congrArg (s2Z v (updZ u (75 + 5 * b) (golZ y b d n))) (show (205 + 5 * b : Int) = 129 + (76 + 5 * b) by omega)).trans ((s2_hi (by omega)).trans (by rw [updZ_n (by omega)]; exact eu _ (by omega) (by omega)))) dX6_moves_153 154 rfl ?_
          refine z_il_n C hl dX6_moves_154 7 rfl 155 rfl ?_
          refine z_bipush C dX6_moves_155 (by decide) 157 rfl ?_
          refine z_irem C dX6_moves_157 158 rfl (by omega) (n) (by omega) ?_
          refine z_iadd C dX6_moves_158 159 rfl (n + y (76 + 5 * b)) (by omega) ?_
          refine z_iasZ C (s2Z v (updZ u (75 + 5 * b) (golZ y b d n))) hW hK 1 rfl (by omega) (by decide) dX6_moves_159 160 rfl (rs' := [[moO X kn kp ml], [arI G (X 1) 258 (s2Z v (updZ (updZ u (75 + 5 * b) (golZ y b d n)) (76 + 5 * b) (n + y (76 + 5 * b))))]]) (by rw [show updZ (s2Z v (updZ u (75 + 5 * b) (golZ y b d n))) (205 + 5 * b) (n + y (76 + 5 * b)) = s2Z v (updZ (updZ u (75 + 5 * b) (golZ y b d n)) (76 + 5 * b) (n + y (76 + 5 * b))) from (congrArg (fun j => updZ (s2Z v (updZ u (75 + 5 * b) (golZ y b d n))) j (n + y (76 + 5 * b))) (show (205 + 5 * b : Int) = 129 + (76 + 5 * b) by omega)).trans (s2_up (by omega))]; rfl) (fun H locs hW => ?_)
          refine z_al_n C hl dX6_moves_160 4 rfl 161 rfl ?_
          refine z_get C hW.1 hK fl_X6_7 0 rfl rfl dX6_moves_161 164 rfl ?_
          refine z_il_n C hl dX6_moves_164 5 rfl 165 rfl ?_
          refine z_il_n C hl dX6_moves_165 6 rfl 166 rfl ?_
          refine z_SR (r := .int (iI ((72 + 5 * b + 129)))) (rest := [.ref (X 1)]) C (m_xat l G 129 b) kS_X6_39 ⟨Nat.le_of_ble_eq_true rfl, Nat.le_of_ble_eq_true rfl⟩ (gP_nil) hK rfl hl.1 rfl (Nat.le_of_ble_eq_true rfl) dX6_moves_166 ⟨Nat.le_of_ble_eq_true rfl, Nat.le_of_ble_eq_true rfl⟩ 169 rfl ?_
          refine z_top (b := .int (iI (201 + 5 * b))) (congrArg (fun z => Value.int (iI z)) (by omega)) ?_
          refine z_iconst C dX6_moves_169 170 rfl ?_
          refine z_iadd C dX6_moves_170 171 rfl (203 + 5 * b) (by omega) ?_
          refine z_il C hl dX6_moves_171 2 rfl 173 rfl ?_
          refine z_al_n C hl dX6_moves_173 4 rfl 174 rfl ?_
          refine z_il_n C hl dX6_moves_174 5 rfl 175 rfl ?_
          refine z_il_n C hl dX6_moves_175 6 rfl 176 rfl ?_
          refine z_iconst C dX6_moves_176 177 rfl ?_
          refine z_VR (r := .int (iI (((updZ (updZ u (75 + 5 * b) (golZ y b d n)) (76 + 5 * b) (n + y (76 + 5 * b))) (72 + 5 * b))))) (rest := [.int (iI (golZ y b d n)), .int (iI (203 + 5 * b)), .ref (X 1)]) C (m_xits l G X kn ml kp (s2Z v (updZ (updZ u (75 + 5 * b) (golZ y b d n)) (76 + 5 * b) (n + y (76 + 5 * b)))) 129 (updZ (updZ u (75 + 5 * b) (golZ y b d n)) (76 + 5 * b) (n + y (76 + 5 * b))) b 0 (72 + 5 * b)  (by omega) (s2_1 v (updZ (updZ u (75 + 5 * b) (golZ y b d n)) (76 + 5 * b) (n + y (76 + 5 * b)))) (by omega) (by omega)) kV_X6_68 ⟨Nat.le_of_ble_eq_true rfl, Nat.le_of_ble_eq_true rfl⟩ hW.1 hK 0 rfl rfl rfl hl.1 rfl (Nat.le_of_ble_eq_true rfl) dX6_moves_177 ⟨Nat.le_of_ble_eq_true rfl, Nat.le_of_ble_eq_true rfl⟩ 180 rfl ?_
          refine z_top (b := .int (iI (y (72 + 5 * b)))) (congrArg (fun z => Value.int (iI z)) (by rw [updZ_n (by omega), updZ_n (by omega)]; exact eu _ (by omega) (by omega))) ?_
          refine z_SR (r := .int (iI (harZ (y (72 + 5 * b))))) (rest := [.int (iI (golZ y b d n)), .int (iI (203 + 5 * b)), .ref (X 1)]) C (m_xhar l G (y (72 + 5 * b)) (by omega)) kS_X6_61 ⟨Nat.le_of_ble_eq_true rfl, Nat.le_of_ble_eq_true rfl⟩ (gP_nil) hK rfl hl.1 rfl (Nat.le_of_ble_eq_true rfl) dX6_moves_180 ⟨Nat.le_of_ble_eq_true rfl, Nat.le_of_ble_eq_true rfl⟩ 183 rfl ?_
          have hh180 := harZ_rng (y (72 + 5 * b))
          refine z_icmp_ne C dX6_moves_183 190 186 (by decide) rfl (by omega) (fun c183 => ?_) (fun c183 => ?_)
          · skip
            refine z_iconst C dX6_moves_190 191 rfl ?_
            refine z_iasZ C (s2Z v (updZ (updZ u (75 + 5 * b) (golZ y b d n)) (76 + 5 * b) (n + y (76 + 5 * b)))) hW hK 1 rfl (by omega) (by decide) dX6_moves_191 192 rfl (rs' := [[moO X kn kp ml], [arI G (X 1) 258 (s2Z v (updZ (updZ (updZ u (75 + 5 * b) (golZ y b d n)) (76 + 5 * b) (n + y (76 + 5 * b))) (74 + 5 * b) 0))]]) (by rw [show updZ (s2Z v (updZ (updZ u (75 + 5 * b) (golZ y b d n)) (76 + 5 * b) (n + y (76 + 5 * b)))) (203 + 5 * b) 0 = s2Z v (updZ (updZ (updZ u (75 + 5 * b) (golZ y b d n)) (76 + 5 * b) (n + y (76 + 5 * b))) (74 + 5 * b) 0) from (congrArg (fun j => updZ (s2Z v (updZ (updZ u (75 + 5 * b) (golZ y b d n)) (76 + 5 * b) (n + y (76 + 5 * b)))) j 0) (show (203 + 5 * b : Int) = 129 + (74 + 5 * b) by omega)).trans (s2_up (by omega))]; rfl) (fun H locs hW => ?_)
            rw [show updZ (updZ (updZ u (75 + 5 * b) (golZ y b d n)) (76 + 5 * b) (n + y (76 + 5 * b))) (74 + 5 * b) 0 = mvV y b d n by unfold mvV; rw [← hu, if_neg c183, updZ_comm (show (75 + 5 * b : Int) ≠ 76 + 5 * b by omega)]] at hW
            refine z_al_n C hl dX6_moves_192 4 rfl 193 rfl ?_
            refine z_il_n C hl dX6_moves_193 5 rfl 194 rfl ?_
            refine z_VWv (rest := []) C (m_xpasses l G X kn ml kp v (mvV y b d n) wm (gD_rg hW.2.1 [0, 1] (by decide) rfl)) kV_X6_110 ⟨Nat.le_of_ble_eq_true rfl, Nat.le_of_ble_eq_true rfl⟩ hW hK [0, 1] rfl (sameA_of rfl) 0 rfl rfl rfl hl.1 rfl (Nat.le_of_ble_eq_true rfl) dX6_moves_194 ⟨Nat.le_of_ble_eq_true rfl, Nat.le_of_ble_eq_true rfl⟩ 197 rfl (rs' := [[moO X kn kp ml], [arI G (X 1) 258 (s2Z v (pasV (mvV y b d n)))]]) rfl (fun H locs hW hkeep => ?_)
            refine z_il C hl dX6_moves_197 0 rfl 199 rfl ?_
            have hr := saiR_k herr c31z
            have hr2 := ramR_rng w (batZ y (golZ y b d n)) (by omega)
            have hv : saiV y b d n = pasV (mvV y b d n) := by unfold saiV; exact if_pos (by rw [hr]; omega)
            have hr3 : ramR y (batZ y (golZ y b d n)) = y (73 + 5 * batZ y (golZ y b d n)) := by unfold ramR; rw [if_neg c86]
            rw [hr3] at hr
            rw [hr, hv]
            exact z_wi C hW dX6_moves_199 rfl rfl
          · skip
            refine z_iconst C dX6_moves_186 187 rfl ?_
            refine z_goto C dX6_moves_187 191 (by decide) ?_
            refine z_iasZ C (s2Z v (updZ (updZ u (75 + 5 * b) (golZ y b d n)) (76 + 5 * b) (n + y (76 + 5 * b)))) hW hK 1 rfl (by omega) (by decide) dX6_moves_191 192 rfl (rs' := [[moO X kn kp ml], [arI G (X 1) 258 (s2Z v (updZ (updZ (updZ u (75 + 5 * b) (golZ y b d n)) (76 + 5 * b) (n + y (76 + 5 * b))) (74 + 5 * b) 1))]]) (by rw [show updZ (s2Z v (updZ (updZ u (75 + 5 * b) (golZ y b d n)) (76 + 5 * b) (n + y (76 + 5 * b)))) (203 + 5 * b) 1 = s2Z v (updZ (updZ (updZ u (75 + 5 * b) (golZ y b d n)) (76 + 5 * b) (n + y (76 + 5 * b))) (74 + 5 * b) 1) from (congrArg (fun j => updZ (s2Z v (updZ (updZ u (75 + 5 * b) (golZ y b d n)) (76 + 5 * b) (n + y (76 + 5 * b)))) j 1) (show (203 + 5 * b : Int) = 129 + (74 + 5 * b) by omega)).trans (s2_up (by omega))]; rfl) (fun H locs hW => ?_)
            rw [show updZ (updZ (updZ u (75 + 5 * b) (golZ y b d n)) (76 + 5 * b) (n + y (76 + 5 * b))) (74 + 5 * b) 1 = mvV y b d n by unfold mvV; rw [← hu, if_pos c183, updZ_comm (show (75 + 5 * b : Int) ≠ 76 + 5 * b by omega)]] at hW
            refine z_al_n C hl dX6_moves_192 4 rfl 193 rfl ?_
            refine z_il_n C hl dX6_moves_193 5 rfl 194 rfl ?_
            refine z_VWv (rest := []) C (m_xpasses l G X kn ml kp v (mvV y b d n) wm (gD_rg hW.2.1 [0, 1] (by decide) rfl)) kV_X6_110 ⟨Nat.le_of_ble_eq_true rfl, Nat.le_of_ble_eq_true rfl⟩ hW hK [0, 1] rfl (sameA_of rfl) 0 rfl rfl rfl hl.1 rfl (Nat.le_of_ble_eq_true rfl) dX6_moves_194 ⟨Nat.le_of_ble_eq_true rfl, Nat.le_of_ble_eq_true rfl⟩ 197 rfl (rs' := [[moO X kn kp ml], [arI G (X 1) 258 (s2Z v (pasV (mvV y b d n)))]]) rfl (fun H locs hW hkeep => ?_)
            refine z_il C hl dX6_moves_197 0 rfl 199 rfl ?_
            have hr := saiR_k herr c31z
            have hr2 := ramR_rng w (batZ y (golZ y b d n)) (by omega)
            have hv : saiV y b d n = pasV (mvV y b d n) := by unfold saiV; exact if_pos (by rw [hr]; omega)
            have hr3 : ramR y (batZ y (golZ y b d n)) = y (73 + 5 * batZ y (golZ y b d n)) := by unfold ramR; rw [if_neg c86]
            rw [hr3] at hr
            rw [hr, hv]
            exact z_wi C hW dX6_moves_199 rfl rfl
      · skip
        refine z_bipush C dX6_moves_34 (by decide) 36 rfl ?_
        refine z_il C hl dX6_moves_36 0 rfl 38 rfl ?_
        refine z_isub C dX6_moves_38 39 rfl (-10 - reaZ y b d n false) (by omega) ?_
        have hr := saiR_r herr (show ¬ reaZ y b d n false = 0 by omega)
        have hv : saiV y b d n = y := by unfold saiV; exact if_neg (by rw [hr]; omega)
        rw [hr, hv]
        exact z_wi C hW dX6_moves_39 rfl rfl
    · skip
      refine z_bipush C dX6_moves_17 (by decide) 19 rfl ?_
      have hr : saiR y b d n = -2 := by unfold saiR; rw [if_neg (by omega), if_pos (by have := wof_m c14; omega)]
      have hv : saiV y b d n = y := by unfold saiV; exact if_neg (by rw [hr]; omega)
      rw [hr, hv]
      exact z_wi C hW dX6_moves_19 rfl rfl
  · skip
    simp only [decide_eq_true_eq, decide_eq_false_iff_not] at c6
    refine z_iconst C dX6_moves_9 10 rfl ?_
    have hr : saiR y b d n = -1 := by unfold saiR; rw [if_pos c6]
    have hv : saiV y b d n = y := by unfold saiV; exact if_neg (by rw [hr]; omega)
    rw [hr, hv]
    exact z_wi C hW dX6_moves_10 rfl rfl
