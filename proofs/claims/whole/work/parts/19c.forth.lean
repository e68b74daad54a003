set_option maxHeartbeats 4000000 in
set_option maxRecDepth 100000 in
theorem m_xforth (l : Launch) (G : gT) (X : Nat → Nat) (kn ml : Int) (kp : Bool) (f : Int → Int) (z : Int) (u : Int → Int) (b : Int) (S0 T0 : Int → Bool) (w : Wf u) (hz : 0 ≤ z ∧ z ≤ 129) (hu : ∀ k : Int, 0 ≤ k → k < 129 → f (z + k) = u k) (hb : 0 ≤ b ∧ b < u 127) (hD : gD ([[moO X kn kp ml], [arI G (X 1) 258 f], [arB G (X 5) 36 S0], [arB G (X 6) 36 T0]] : List va_W).flatten) : MW l G yX6_forth cX6_forth 5 (some .int) 5 [.ref (X 0), .int (iI (z)), .int (iI (b))] [[moO X kn kp ml], [arI G (X 1) 258 f], [arB G (X 5) 36 S0], [arB G (X 6) 36 T0]] [[moO X kn kp ml], [arI G (X 1) 258 f], [arB G (X 5) 36 ((fwAZ u (u (72 + 5 * b)) (u (73 + 5 * b)) (u (75 + 5 * b)) (u 126) T0).1)], [arB G (X 6) 36 ((fwAZ u (u (72 + 5 * b)) (u (73 + 5 * b)) (u (75 + 5 * b)) (u 126) T0).2)]] ZT (some (.int (iI (fwZ u (u (72 + 5 * b)) (u (73 + 5 * b)) (u (75 + 5 * b)) (u 126))))) := by
  refine enterW (own := RX6) (by decide +kernel) rfl (Nat.le_of_ble_eq_true rfl) hD ?_
  intro p e s m below meth c C hW hK hZ ls hl
  have hl : lv_has ls 5 [(0, .ref (X 0)), (1, .int (iI (z))), (2, .int (iI (b)))] := hl
  have h127 := w.n
  have hw := w.b b (by omega)
  have hbb := w.bb b hb
  have ht := w.t
  have hs := w.s
  refine z_iconst C dX6_forth_0 1 rfl ?_
  have hW := Wd.ceq (rs' := [[moO X kn kp ml], [arI G (X 1) 258 f], [arB G (X 5) 36 (mixB (oneS (u (75 + 5 * b))) S0 0)], [arB G (X 6) 36 T0]]) hW ⟨ceq.rf, ⟨ceq.rf, ⟨ceq.B (fun k h8 h9 => (mixB_0 h8).symm), ceqs.rf⟩⟩⟩
  refine z_is_n C hl dX6_forth_1 2 rfl (by decide) (lv' := [(3, .int (iI (0))), (0, .ref (X 0)), (1, .int (iI (z))), (2, .int (iI (b)))]) rfl (fun ls hl => ?_)
  have L2 : ∀ (fu : Nat) (k : Int) (h1 : 0 ≤ k ∧ k ≤ 36) (H : Heap) (locs : List Loc) (hW : Wd G (adr ([[moO X kn kp ml], [arI G (X 1) 258 f], [arB G (X 5) 36 S0], [arB G (X 6) 36 T0]] : List va_W).flatten) [[moO X kn kp ml], [arI G (X 1) 258 f], [arB G (X 5) 36 (mixB (oneS (u (75 + 5 * b))) S0 k)], [arB G (X 6) 36 T0]] s.heap H locs) (hm : 36 - k < (fu : Int)) (ls : Array Slot) (hl : lv_has ls 5 [(3, .int (iI (k))), (2, .int (iI (b))), (1, .int (iI (z))), (0, .ref (X 0))]), W p l e (rmN 5) s m [.ref (X 0), .int (iI (z)), .int (iI (b))].toArray below meth c H locs 0 0 (MQ below (QW G [[moO X kn kp ml], [arI G (X 1) 258 f], [arB G (X 5) 36 S0], [arB G (X 6) 36 T0]] [[moO X kn kp ml], [arI G (X 1) 258 f], [arB G (X 5) 36 ((fwAZ u (u (72 + 5 * b)) (u (73 + 5 * b)) (u (75 + 5 * b)) (u 126) T0).1)], [arB G (X 6) 36 ((fwAZ u (u (72 + 5 * b)) (u (73 + 5 * b)) (u (75 + 5 * b)) (u 126) T0).2)]] (some (.int (iI (fwZ u (u (72 + 5 * b)) (u (73 + 5 * b)) (u (75 + 5 * b)) (u 126)))))) [.ref (X 0), .int (iI (z)), .int (iI (b))].toArray s 0 0 (adr ([[moO X kn kp ml], [arI G (X 1) 258 f], [arB G (X 5) 36 S0], [arB G (X 6) 36 T0]] : List va_W).flatten)) (F0 m 2 ls []) := by
    intro fu
    induction fu with
    | zero => intro k h1 H locs hW hm ls hl; exfalso; omega
    | succ fu ih =>
      intro k h1 H locs hW hm ls hl
      have ih2 := ih
      refine z_il_n C hl dX6_forth_2 0 rfl 3 rfl ?_
      refine z_bipush C dX6_forth_3 (by decide) 5 rfl ?_
      refine z_icmp_ge C dX6_forth_5 36 8 (by decide) rfl (by omega) (fun c5 => ?_) (fun c5 => ?_)
      · skip
        rw [show k = 36 by omega] at hW
        have hW := Wd.ceq (rs' := [[moO X kn kp ml], [arI G (X 1) 258 f], [arB G (X 5) 36 (oneS (u (75 + 5 * b)))], [arB G (X 6) 36 T0]]) hW ⟨ceq.rf, ⟨ceq.rf, ⟨ceq.B (fun k h8 h9 => mixB_n (by omega)), ceqs.rf⟩⟩⟩
        refine z_al_n C hl dX6_forth_36 3 rfl 37 rfl ?_
        refine z_get C hW.1 hK fl_X6_7 0 rfl rfl dX6_forth_37 40 rfl ?_
        refine z_il_n C hl dX6_forth_40 2 rfl 41 rfl ?_
        refine z_bipush C dX6_forth_41 (by decide) 43 rfl ?_
        refine z_iadd C dX6_forth_43 44 rfl (126 + z) (by omega) ?_
        refine z_iaZ C (f) hW.1 hK 1 rfl (by omega) (by decide) (u 126) ((congrArg f (show (126 + z : Int) = z + 126 by omega)).trans (hu 126 (by omega) (by omega))) dX6_forth_44 45 rfl ?_
        refine z_is_n C hl dX6_forth_45 46 rfl (by decide) (lv' := [(3, .int (iI (u 126))), (2, .int (iI (b))), (1, .int (iI (z))), (0, .ref (X 0))]) rfl (fun ls hl => ?_)
        have L46 : ∀ (fu : Nat) (S : Int → Bool) (T : Int → Bool) (t : Int) (f1 : u 126 ≤ t ∧ t ≤ 300) (f2 : fwN u (u (72 + 5 * b)) (u (73 + 5 * b)) (u 126) (u 125 + 1 - t).toNat S t = fwZ u (u (72 + 5 * b)) (u (73 + 5 * b)) (u (75 + 5 * b)) (u 126)) (f3 : fwA u (u (72 + 5 * b)) (u (73 + 5 * b)) (u 125 + 1 - t).toNat S T t = fwAZ u (u (72 + 5 * b)) (u (73 + 5 * b)) (u (75 + 5 * b)) (u 126) T0) (H : Heap) (locs : List Loc) (hW : Wd G (adr ([[moO X kn kp ml], [arI G (X 1) 258 f], [arB G (X 5) 36 S0], [arB G (X 6) 36 T0]] : List va_W).flatten) [[moO X kn kp ml], [arI G (X 1) 258 f], [arB G (X 5) 36 S], [arB G (X 6) 36 T]] s.heap H locs) (hm : 300 - t < (fu : Int)) (ls : Array Slot) (hl : lv_has ls 5 [(3, .int (iI (t))), (2, .int (iI (b))), (1, .int (iI (z))), (0, .ref (X 0))]), W p l e (rmN 5) s m [.ref (X 0), .int (iI (z)), .int (iI (b))].toArray below meth c H locs 0 0 (MQ below (QW G [[moO X kn kp ml], [arI G (X 1) 258 f], [arB G (X 5) 36 S0], [arB G (X 6) 36 T0]] [[moO X kn kp ml], [arI G (X 1) 258 f], [arB G (X 5) 36 ((fwAZ u (u (72 + 5 * b)) (u (73 + 5 * b)) (u (75 + 5 * b)) (u 126) T0).1)], [arB G (X 6) 36 ((fwAZ u (u (72 + 5 * b)) (u (73 + 5 * b)) (u (75 + 5 * b)) (u 126) T0).2)]] (some (.int (iI (fwZ u (u (72 + 5 * b)) (u (73 + 5 * b)) (u (75 + 5 * b)) (u 126)))))) [.ref (X 0), .int (iI (z)), .int (iI (b))].toArray s 0 0 (adr ([[moO X kn kp ml], [arI G (X 1) 258 f], [arB G (X 5) 36 S0], [arB G (X 6) 36 T0]] : List va_W).flatten)) (F0 m 46 ls []) := by
          intro fu
          induction fu with
          | zero => intro S T t f1 f2 f3 H locs hW hm ls hl; exfalso; omega
          | succ fu ih =>
            intro S T t f1 f2 f3 H locs hW hm ls hl
            have ih46 := ih
            refine z_il_n C hl dX6_forth_46 0 rfl 47 rfl ?_
            refine z_al_n C hl dX6_forth_47 3 rfl 48 rfl ?_
            refine z_get C hW.1 hK fl_X6_7 0 rfl rfl dX6_forth_48 51 rfl ?_
            refine z_il_n C hl dX6_forth_51 2 rfl 52 rfl ?_
            refine z_bipush C dX6_forth_52 (by decide) 54 rfl ?_
            refine z_iadd C dX6_forth_54 55 rfl (122 + z) (by omega) ?_
            refine z_iconst C dX6_forth_55 56 rfl ?_
            refine z_iadd C dX6_forth_56 57 rfl (125 + z) (by omega) ?_
            refine z_iaZ C (f) hW.1 hK 1 rfl (by omega) (by decide) (u 125) ((congrArg f (show (125 + z : Int) = z + 125 by omega)).trans (hu 125 (by omega) (by omega))) dX6_forth_57 58 rfl ?_
            refine z_icmp_gt C dX6_forth_58 150 61 (by decide) rfl (by omega) (fun c58 => ?_) (fun c58 => ?_)
            · skip
              skip
              refine z_bipush C dX6_forth_150 (by decide) 152 rfl ?_
              rw [show fwZ u (u (72 + 5 * b)) (u (73 + 5 * b)) (u (75 + 5 * b)) (u 126) = -5 from by rw [← f2, fwN_0 (by omega)], show fwAZ u (u (72 + 5 * b)) (u (73 + 5 * b)) (u (75 + 5 * b)) (u 126) T0 = (S, T) from by rw [← f3, fwA_0 (by omega)]]
              exact z_wi C hW dX6_forth_152 rfl rfl
            · skip
              refine z_iconst C dX6_forth_61 62 rfl ?_
              have hW := Wd.ceq (rs' := [[moO X kn kp ml], [arI G (X 1) 258 f], [arB G (X 5) 36 S], [arB G (X 6) 36 (mixB botS T 0)]]) hW ⟨ceq.rf, ⟨ceq.rf, ⟨ceq.rf, ⟨ceq.B (fun k h8 h9 => (mixB_0 h8).symm), trivial⟩⟩⟩⟩
              refine z_is C hl dX6_forth_62 64 rfl (by decide) (lv' := [(4, .int (iI (0))), (3, .int (iI (t))), (2, .int (iI (b))), (1, .int (iI (z))), (0, .ref (X 0))]) rfl (fun ls hl => ?_)
              have L64 : ∀ (fu : Nat) (k : Int) (h1 : 0 ≤ k ∧ k ≤ 36) (H : Heap) (locs : List Loc) (hW : Wd G (adr ([[moO X kn kp ml], [arI G (X 1) 258 f], [arB G (X 5) 36 S0], [arB G (X 6) 36 T0]] : List va_W).flatten) [[moO X kn kp ml], [arI G (X 1) 258 f], [arB G (X 5) 36 S], [arB G (X 6) 36 (mixB botS T k)]] s.heap H locs) (hm : 36 - k < (fu : Int)) (ls : Array Slot) (hl : lv_has ls 5 [(4, .int (iI (k))), (3, .int (iI (t))), (2, .int (iI (b))), (1, .int (iI (z))), (0, .ref (X 0))]), W p l e (rmN 5) s m [.ref (X 0), .int (iI (z)), .int (iI (b))].toArray below meth c H locs 0 0 (MQ below (QW G [[moO X kn kp ml], [arI G (X 1) 258 f], [arB G (X 5) 36 S0], [arB G (X 6) 36 T0]] [[moO X kn kp ml], [arI G (X 1) 258 f], [arB G (X 5) 36 ((fwAZ u (u (72 + 5 * b)) (u (73 + 5 * b)) (u (75 + 5 * b)) (u 126) T0).1)], [arB G (X 6) 36 ((fwAZ u (u (72 + 5 * b)) (u (73 + 5 * b)) (u (75 + 5 * b)) (u 126) T0).2)]] (some (.int (iI (fwZ u (u (72 + 5 * b)) (u (73 + 5 * b)) (u (75 + 5 * b)) (u 126)))))) [.ref (X 0), .int (iI (z)), .int (iI (b))].toArray s 0 0 (adr ([[moO X kn kp ml], [arI G (X 1) 258 f], [arB G (X 5) 36 S0], [arB G (X 6) 36 T0]] : List va_W).flatten)) (F0 m 64 ls []) := by
                intro fu
                induction fu with
                | zero => intro k h1 H locs hW hm ls hl; exfalso; omega
                | succ fu ih =>
                  intro k h1 H locs hW hm ls hl
                  have ih64 := ih
                  refine z_il C hl dX6_forth_64 0 rfl 66 rfl ?_
                  refine z_bipush C dX6_forth_66 (by decide) 68 rfl ?_
                  refine z_icmp_ge C dX6_forth_68 85 71 (by decide) rfl (by omega) (fun c68 => ?_) (fun c68 => ?_)
                  · skip
                    rw [show k = 36 by omega] at hW
                    have hW := Wd.ceq (rs' := [[moO X kn kp ml], [arI G (X 1) 258 f], [arB G (X 5) 36 S], [arB G (X 6) 36 botS]]) hW ⟨ceq.rf, ⟨ceq.rf, ⟨ceq.rf, ⟨ceq.B (fun k h8 h9 => mixB_n (by omega)), trivial⟩⟩⟩⟩
                    refine z_al_n C hl dX6_forth_85 4 rfl 86 rfl ?_
                    refine z_il_n C hl dX6_forth_86 3 rfl 87 rfl ?_
                    refine z_al_n C hl dX6_forth_87 4 rfl 88 rfl ?_
                    refine z_il_n C hl dX6_forth_88 3 rfl 89 rfl ?_
                    refine z_il_n C hl dX6_forth_89 2 rfl 90 rfl ?_
                    refine z_VR (r := .int (iI (100 * u (72 + 5 * b) + u (73 + 5 * b)))) (rest := [.int (iI (z)), .ref (X 0)]) C (m_xkind l G X kn ml kp f z u b w (by omega) hu (by omega)) kV_X6_85 ⟨Nat.le_of_ble_eq_true rfl, Nat.le_of_ble_eq_true rfl⟩ (gP_rg hW.1 [0, 1] rfl) hK 0 rfl rfl rfl hl.1 rfl (Nat.le_of_ble_eq_true rfl) dX6_forth_90 ⟨Nat.le_of_ble_eq_true rfl, Nat.le_of_ble_eq_true rfl⟩ 93 rfl ?_
                    refine z_il_n C hl dX6_forth_93 1 rfl 94 rfl ?_
                    refine z_VWi (r := .int (iI (bZ ((goC u (u (72 + 5 * b)) (u (73 + 5 * b)) t S (false, botS) 36).1)))) (rest := []) C (m_xgoes l G X kn ml kp f z u (100 * u (72 + 5 * b) + u (73 + 5 * b)) t (u (72 + 5 * b)) (u (73 + 5 * b)) S botS w (by omega) hu (by omega) (by omega) (by omega) (by omega) (gD_rg hW.2.1 [0, 1, 2, 3] (by decide) rfl)) kV_X6_187 ⟨Nat.le_of_ble_eq_true rfl, Nat.le_of_ble_eq_true rfl⟩ hW hK [0, 1, 2, 3] rfl (sameA_of rfl) 0 rfl rfl rfl hl.1 rfl (Nat.le_of_ble_eq_true rfl) dX6_forth_94 ⟨Nat.le_of_ble_eq_true rfl, Nat.le_of_ble_eq_true rfl⟩ 97 rfl (rs' := [[moO X kn kp ml], [arI G (X 1) 258 f], [arB G (X 5) 36 S], [arB G (X 6) 36 ((goC u (u (72 + 5 * b)) (u (73 + 5 * b)) t S (false, botS) 36).2)]]) rfl (fun H locs hW hkeep => ?_)
                    have hW := Wd.ceq (rs' := [[moO X kn kp ml], [arI G (X 1) 258 f], [arB G (X 5) 36 S], [arB G (X 6) 36 (nxS u (u (72 + 5 * b)) (u (73 + 5 * b)) t S)]]) hW ⟨ceq.rf, ⟨ceq.rf, ⟨ceq.rf, ⟨ceq.B (fun k h8 h9 => go_then ⟨h8, h9⟩), trivial⟩⟩⟩⟩
                    refine z_top (b := .int (iI (bZ (decide (t % 2 = u (72 + 5 * b) ∧ golS (u (72 + 5 * b)) (wtS u (u (73 + 5 * b)) t) S (harZ (u (72 + 5 * b))) = true))))) (by rw [go_home]) ?_
                    refine z_ifb_eq C dX6_forth_97 114 100 (by decide) rfl (fun c97 => ?_) (fun c97 => ?_)
                    · skip
                      simp only [decide_eq_true_eq, decide_eq_false_iff_not] at c97
                      have hno := c97
                      refine z_iconst C dX6_forth_114 115 rfl ?_
                      have hW := Wd.ceq (rs' := [[moO X kn kp ml], [arI G (X 1) 258 f], [arB G (X 5) 36 (mixB (nxS u (u (72 + 5 * b)) (u (73 + 5 * b)) t S) S 0)], [arB G (X 6) 36 (nxS u (u (72 + 5 * b)) (u (73 + 5 * b)) t S)]]) hW ⟨ceq.rf, ⟨ceq.rf, ⟨ceq.B (fun k h8 h9 => (mixB_0 h8).symm), ceqs.rf⟩⟩⟩
                      refine z_is C hl dX6_forth_115 117 rfl (by decide) (lv' := [(4, .int (iI (0))), (3, .int (iI (t))), (2, .int (iI (b))), (1, .int (iI (z))), (0, .ref (X 0))]) rfl (fun ls hl => ?_)
                      have L117 : ∀ (fu : Nat) (k : Int) (h1 : 0 ≤ k ∧ k ≤ 36) (H : Heap) (locs : List Loc) (hW : Wd G (adr ([[moO X kn kp ml], [arI G (X 1) 258 f], [arB G (X 5) 36 S0], [arB G (X 6) 36 T0]] : List va_W).flatten) [[moO X kn kp ml], [arI G (X 1) 258 f], [arB G (X 5) 36 (mixB (nxS u (u (72 + 5 * b)) (u (73 + 5 * b)) t S) S k)], [arB G (X 6) 36 (nxS u (u (72 + 5 * b)) (u (73 + 5 * b)) t S)]] s.heap H locs) (hm : 36 - k < (fu : Int)) (ls : Array Slot) (hl : lv_has ls 5 [(4, .int (iI (k))), (3, .int (iI (t))), (2, .int (iI (b))), (1, .int (iI (z))), (0, .ref (X 0))]), W p l e (rmN 5) s m [.ref (X 0), .int (iI (z)), .int (iI (b))].toArray below meth c H locs 0 0 (MQ below (QW G [[moO X kn kp ml], [arI G (X 1) 258 f], [arB G (X 5) 36 S0], [arB G (X 6) 36 T0]] [[moO X kn kp ml], [arI G (X 1) 258 f], [arB G (X 5) 36 ((fwAZ u (u (72 + 5 * b)) (u (73 + 5 * b)) (u (75 + 5 * b)) (u 126) T0).1)], [arB G (X 6) 36 ((fwAZ u (u (72 + 5 * b)) (u (73 + 5 * b)) (u (75 + 5 * b)) (u 126) T0).2)]] (some (.int (iI (fwZ u (u (72 + 5 * b)) (u (73 + 5 * b)) (u (75 + 5 * b)) (u 126)))))) [.ref (X 0), .int (iI (z)), .int (iI (b))].toArray s 0 0 (adr ([[moO X kn kp ml], [arI G (X 1) 258 f], [arB G (X 5) 36 S0], [arB G (X 6) 36 T0]] : List va_W).flatten)) (F0 m 117 ls []) := by
                        intro fu
                        induction fu with
                        | zero => intro k h1 H locs hW hm ls hl; exfalso; omega
                        | succ fu ih =>
                          intro k h1 H locs hW hm ls hl
                          have ih117 := ih
                          refine z_il C hl dX6_forth_117 0 rfl 119 rfl ?_
                          refine z_bipush C dX6_forth_119 (by decide) 121 rfl ?_
                          refine z_icmp_ge C dX6_forth_121 144 124 (by decide) rfl (by omega) (fun c121 => ?_) (fun c121 => ?_)
                          · skip
                            rw [show k = 36 by omega] at hW
                            have hW := Wd.ceq (rs' := [[moO X kn kp ml], [arI G (X 1) 258 f], [arB G (X 5) 36 (nxS u (u (72 + 5 * b)) (u (73 + 5 * b)) t S)], [arB G (X 6) 36 (nxS u (u (72 + 5 * b)) (u (73 + 5 * b)) t S)]]) hW ⟨ceq.rf, ⟨ceq.rf, ⟨ceq.B (fun k h8 h9 => mixB_n (by omega)), ceqs.rf⟩⟩⟩
                            refine z_iinc C hl dX6_forth_144 147 rfl 1 rfl (z := 1 + t) (by omega) (by decide) (lv' := [(3, .int (iI (1 + t))), (4, .int (iI (k))), (2, .int (iI (b))), (1, .int (iI (z))), (0, .ref (X 0))]) rfl (fun ls hl => ?_)
                            refine z_goto C dX6_forth_147 46 (by decide) ?_
                            exact ih46 (nxS u (u (72 + 5 * b)) (u (73 + 5 * b)) t S) (nxS u (u (72 + 5 * b)) (u (73 + 5 * b)) t S) (1 + t) (by omega) (by rw [← f2, fwN_1 (k := u 125 + 1 - t) (by omega), if_neg hno, show u 125 + 1 - t - 1 = u 125 + 1 - (1 + t) by omega]) (by rw [← f3, fwA_1 (k := u 125 + 1 - t) (by omega), if_neg hno, show u 125 + 1 - t - 1 = u 125 + 1 - (1 + t) by omega]) _ _ hW (by omega) ls (lv_sub hl [0, 2, 3, 4] rfl)
                          · skip
                            refine z_al_n C hl dX6_forth_124 4 rfl 125 rfl ?_
                            refine z_get C hW.1 hK fl_X6_22 0 rfl rfl dX6_forth_125 128 rfl ?_
                            refine z_il C hl dX6_forth_128 0 rfl 130 rfl ?_
                            refine z_al_n C hl dX6_forth_130 4 rfl 131 rfl ?_
                            refine z_get C hW.1 hK fl_X6_26 0 rfl rfl dX6_forth_131 134 rfl ?_
                            refine z_il C hl dX6_forth_134 0 rfl 136 rfl ?_
                            refine z_iaB C ((nxS u (u (72 + 5 * b)) (u (73 + 5 * b)) t S)) hW.1 hK 3 rfl (by omega) (by decide) ((nxS u (u (72 + 5 * b)) (u (73 + 5 * b)) t S) k) (rfl) dX6_forth_136 137 rfl ?_
                            refine z_iasB C ((mixB (nxS u (u (72 + 5 * b)) (u (73 + 5 * b)) t S) S k)) (x := (nxS u (u (72 + 5 * b)) (u (73 + 5 * b)) t S) k) hW hK 2 rfl (by omega) (by decide) dX6_forth_137 138 rfl (rs' := [[moO X kn kp ml], [arI G (X 1) 258 f], [arB G (X 5) 36 (updB (mixB (nxS u (u (72 + 5 * b)) (u (73 + 5 * b)) t S) S k) k ((nxS u (u (72 + 5 * b)) (u (73 + 5 * b)) t S) k))], [arB G (X 6) 36 (nxS u (u (72 + 5 * b)) (u (73 + 5 * b)) t S)]]) rfl (fun H locs hW => ?_)
                            rw [mixB_s rfl] at hW
                            refine z_iinc C hl dX6_forth_138 141 rfl 0 rfl (z := 1 + k) (by omega) (by decide) (lv' := [(4, .int (iI (1 + k))), (3, .int (iI (t))), (2, .int (iI (b))), (1, .int (iI (z))), (0, .ref (X 0))]) rfl (fun ls hl => ?_)
                            refine z_goto C dX6_forth_141 117 (by decide) ?_
                            exact ih117 (1 + k) (by omega) _ _ hW (by omega) ls (lv_sub hl [0, 1, 2, 3, 4] rfl)
                      exact L117 (Int.toNat (36 - 0) + 1) 0 (by omega) _ _ hW (by omega) ls (lv_sub hl [0, 1, 2, 3, 4] rfl)
                    · skip
                      simp only [decide_eq_true_eq, decide_eq_false_iff_not] at c97
                      skip
                      refine z_il_n C hl dX6_forth_100 1 rfl 101 rfl ?_
                      refine z_al_n C hl dX6_forth_101 4 rfl 102 rfl ?_
                      refine z_get C hW.1 hK fl_X6_7 0 rfl rfl dX6_forth_102 105 rfl ?_
                      refine z_il_n C hl dX6_forth_105 3 rfl 106 rfl ?_
                      refine z_bipush C dX6_forth_106 (by decide) 108 rfl ?_
                      refine z_iadd C dX6_forth_108 109 rfl (126 + z) (by omega) ?_
                      refine z_iaZ C (f) hW.1 hK 1 rfl (by omega) (by decide) (u 126) ((congrArg f (show (126 + z : Int) = z + 126 by omega)).trans (hu 126 (by omega) (by omega))) dX6_forth_109 110 rfl ?_
                      refine z_isub C dX6_forth_110 111 rfl (t - u 126) (by omega) ?_
                      refine z_iconst C dX6_forth_111 112 rfl ?_
                      refine z_iadd C dX6_forth_112 113 rfl (1 + t - u 126) (by omega) ?_
                      rw [show fwZ u (u (72 + 5 * b)) (u (73 + 5 * b)) (u (75 + 5 * b)) (u 126) = 1 + t - u 126 from by rw [← f2, fwN_1 (k := u 125 + 1 - t) (by omega), if_pos c97], show fwAZ u (u (72 + 5 * b)) (u (73 + 5 * b)) (u (75 + 5 * b)) (u 126) T0 = (S, nxS u (u (72 + 5 * b)) (u (73 + 5 * b)) t S) from by rw [← f3, fwA_1 (k := u 125 + 1 - t) (by omega), if_pos c97]]
                      exact z_wi C hW dX6_forth_113 rfl rfl
                  · skip
                    refine z_al_n C hl dX6_forth_71 4 rfl 72 rfl ?_
                    refine z_get C hW.1 hK fl_X6_26 0 rfl rfl dX6_forth_72 75 rfl ?_
                    refine z_il C hl dX6_forth_75 0 rfl 77 rfl ?_
                    refine z_iconst C dX6_forth_77 78 rfl ?_
                    refine z_iasB C ((mixB botS T k)) (x := false) hW hK 3 rfl (by omega) (by decide) dX6_forth_78 79 rfl (rs' := [[moO X kn kp ml], [arI G (X 1) 258 f], [arB G (X 5) 36 S], [arB G (X 6) 36 (updB (mixB botS T k) k false)]]) rfl (fun H locs hW => ?_)
                    rw [show updB (mixB botS T k) k false = mixB botS T (1 + k) from mixB_s rfl] at hW
                    refine z_iinc C hl dX6_forth_79 82 rfl 0 rfl (z := 1 + k) (by omega) (by decide) (lv' := [(4, .int (iI (1 + k))), (3, .int (iI (t))), (2, .int (iI (b))), (1, .int (iI (z))), (0, .ref (X 0))]) rfl (fun ls hl => ?_)
                    refine z_goto C dX6_forth_82 64 (by decide) ?_
                    exact ih64 (1 + k) (by omega) _ _ hW (by omega) ls (lv_sub hl [0, 1, 2, 3, 4] rfl)
              exact L64 (Int.toNat (36 - 0) + 1) 0 (by omega) _ _ hW (by omega) ls (lv_sub hl [0, 1, 2, 3, 4] rfl)
        exact L46 (Int.toNat (300 - (u 126)) + 1) (oneS (u (75 + 5 * b))) T0 (u 126) (by omega) (rfl) (rfl) _ _ hW (by omega) ls (lv_sub hl [0, 1, 2, 3] rfl)
      · skip
        refine z_al_n C hl dX6_forth_8 3 rfl 9 rfl ?_
        refine z_get C hW.1 hK fl_X6_22 0 rfl rfl dX6_forth_9 12 rfl ?_
        refine z_il_n C hl dX6_forth_12 0 rfl 13 rfl ?_
        refine z_il_n C hl dX6_forth_13 0 rfl 14 rfl ?_
        refine z_al_n C hl dX6_forth_14 3 rfl 15 rfl ?_
        refine z_il_n C hl dX6_forth_15 2 rfl 16 rfl ?_
        refine z_il_n C hl dX6_forth_16 1 rfl 17 rfl ?_
        refine z_iconst C dX6_forth_17 18 rfl ?_
        refine z_VR (r := .int (iI (u (75 + 5 * b)))) (rest := [.int (iI (k)), .int (iI (k)), .ref (X 5)]) C (m_xits l G X kn ml kp f z u b 3 (75 + 5 * b)  (by omega) hu (by omega) (by omega)) kV_X6_68 ⟨Nat.le_of_ble_eq_true rfl, Nat.le_of_ble_eq_true rfl⟩ (gP_rg hW.1 [0, 1] rfl) hK 0 rfl rfl rfl hl.1 rfl (Nat.le_of_ble_eq_true rfl) dX6_forth_18 ⟨Nat.le_of_ble_eq_true rfl, Nat.le_of_ble_eq_true rfl⟩ 21 rfl ?_
        refine z_icmp_ne C dX6_forth_21 28 24 (by decide) rfl (by omega) (fun c21 => ?_) (fun c21 => ?_)
        · skip
          refine z_iconst C dX6_forth_28 29 rfl ?_
          have ho : oneS (u (75 + 5 * b)) k = false := decide_eq_false c21
          refine z_iasB C ((mixB (oneS (u (75 + 5 * b))) S0 k)) (x := false) hW hK 2 rfl (by omega) (by decide) dX6_forth_29 30 rfl (rs' := [[moO X kn kp ml], [arI G (X 1) 258 f], [arB G (X 5) 36 (updB (mixB (oneS (u (75 + 5 * b))) S0 k) k false)], [arB G (X 6) 36 T0]]) rfl (fun H locs hW => ?_)
          rw [mixB_s ho] at hW
          refine z_iinc C hl dX6_forth_30 33 rfl 0 rfl (z := 1 + k) (by omega) (by decide) (lv' := [(3, .int (iI (1 + k))), (2, .int (iI (b))), (1, .int (iI (z))), (0, .ref (X 0))]) rfl (fun ls hl => ?_)
          refine z_goto C dX6_forth_33 2 (by decide) ?_
          exact ih2 (1 + k) (by omega) _ _ hW (by omega) ls (lv_sub hl [0, 1, 2, 3] rfl)
        · skip
          refine z_iconst C dX6_forth_24 25 rfl ?_
          refine z_goto C dX6_forth_25 29 (by decide) ?_
          have ho : oneS (u (75 + 5 * b)) k = true := decide_eq_true c21
          refine z_iasB C ((mixB (oneS (u (75 + 5 * b))) S0 k)) (x := true) hW hK 2 rfl (by omega) (by decide) dX6_forth_29 30 rfl (rs' := [[moO X kn kp ml], [arI G (X 1) 258 f], [arB G (X 5) 36 (updB (mixB (oneS (u (75 + 5 * b))) S0 k) k true)], [arB G (X 6) 36 T0]]) rfl (fun H locs hW => ?_)
          rw [mixB_s ho] at hW
          refine z_iinc C hl dX6_forth_30 33 rfl 0 rfl (z := 1 + k) (by omega) (by decide) (lv' := [(3, .int (iI (1 + k))), (2, .int (iI (b))), (1, .int (iI (z))), (0, .ref (X 0))]) rfl (fun ls hl => ?_)
          refine z_goto C dX6_forth_33 2 (by decide) ?_
          exact ih2 (1 + k) (by omega) _ _ hW (by omega) ls (lv_sub hl [0, 1, 2, 3] rfl)
  exact L2 (Int.toNat (36 - 0) + 1) 0 (by omega) _ _ hW (by omega) ls (lv_sub hl [0, 3, 2, 1] rfl)

set_option maxHeartbeats 4000000 in
set_option maxRecDepth 100000 in
theorem m_xfew (l : Launch) (G : gT) (X : Nat → Nat) (kn ml : Int) (kp : Bool) (v y A : Int → Int) (kd c0 t P D : Int) (w : Wf v) (hk : kd = 100 * P + D) (hP0 : 0 ≤ P ∧ P ≤ 1) (hD0 : 1 ≤ D ∧ D ≤ 3) (hc : 0 ≤ c0 ∧ c0 < 36) (ht : 0 ≤ t ∧ t < 999999) (hA : ∀ c : Int, 0 ≤ c → c < 36 → 1 ≤ A c ∧ A c ≤ 20000) : MR l G yX6_fewest cX6_fewest 10 (some .int) 4 [.ref (X 0), .int (iI (kd)), .int (iI (c0)), .int (iI (t))] [[moO X kn kp ml], [arI G (X 1) 258 (s2Z v y)], [arI G (X 8) 36 A]] ZT (.int (iI (fewZ v P D c0 t A))) := by
  refine enterR (own := RX6) (by decide +kernel) rfl (Nat.le_of_ble_eq_true rfl) ?_
  intro p e s m below meth c C hP hK hZ ls hl
  have hl : lv_has ls 10 [(0, .ref (X 0)), (1, .int (iI (kd))), (2, .int (iI (c0))), (3, .int (iI (t)))] := hl
  have hAc := hA c0 hc.1 hc.2
  refine z_il_n C hl dX6_fewest_0 1 rfl 1 rfl ?_
  refine z_bipush C dX6_fewest_1 (by decide) 3 rfl ?_
  refine z_irem C dX6_fewest_3 4 rfl (by omega) (D) (by omega) ?_
  refine z_is C hl dX6_fewest_4 6 rfl (by decide) (lv' := [(4, .int (iI (D))), (0, .ref (X 0)), (1, .int (iI (kd))), (2, .int (iI (c0))), (3, .int (iI (t)))]) rfl (fun ls hl => ?_)
  refine z_al_n C hl dX6_fewest_6 1 rfl 7 rfl ?_
  refine z_iconst C dX6_fewest_7 8 rfl ?_
  refine z_il_n C hl dX6_fewest_8 3 rfl 9 rfl ?_
  refine z_il C hl dX6_fewest_9 0 rfl 11 rfl ?_
  refine z_il_n C hl dX6_fewest_11 4 rfl 12 rfl ?_
  refine z_VR (r := .int (iI (bZ (wreckB v c0 D t)))) (rest := []) C (m_xwrecks l G X kn ml kp (s2Z v y) 0 v c0 D t w (by omega) (s2_0 v y) (by omega) (by omega) (by omega)) kV_X6_101 ⟨Nat.le_of_ble_eq_true rfl, Nat.le_of_ble_eq_true rfl⟩ (gP_rg hP [0, 1] rfl) hK 0 rfl rfl rfl hl.1 rfl (Nat.le_of_ble_eq_true rfl) dX6_fewest_12 ⟨Nat.le_of_ble_eq_true rfl, Nat.le_of_ble_eq_true rfl⟩ 15 rfl ?_
  refine z_ifb_eq C dX6_fewest_15 24 18 (by decide) rfl (fun c15 => ?_) (fun c15 => ?_)
  · skip
    refine z_iconst C dX6_fewest_24 25 rfl ?_
    refine z_al_n C hl dX6_fewest_25 1 rfl 26 rfl ?_
    refine z_get C hP hK fl_X6_32 0 rfl rfl dX6_fewest_26 29 rfl ?_
    refine z_il_n C hl dX6_fewest_29 3 rfl 30 rfl ?_
    refine z_iaZ C (A) hP hK 2 rfl (by omega) (by decide) (A c0) (rfl) dX6_fewest_30 31 rfl ?_
    refine z_iadd C dX6_fewest_31 32 rfl (1 + A c0) (by omega) ?_
    refine z_is C hl dX6_fewest_32 34 rfl (by decide) (lv' := [(5, .int (iI (1 + A c0))), (4, .int (iI (D))), (0, .ref (X 0)), (1, .int (iI (kd))), (2, .int (iI (c0))), (3, .int (iI (t)))]) rfl (fun ls hl => ?_)
    refine z_il_n C hl dX6_fewest_34 5 rfl 35 rfl ?_
    refine z_iconst C dX6_fewest_35 36 rfl ?_
    refine z_irem C dX6_fewest_36 37 rfl (by omega) ((t % 2)) (rfl) ?_
    refine z_il_n C hl dX6_fewest_37 3 rfl 38 rfl ?_
    refine z_bipush C dX6_fewest_38 (by decide) 40 rfl ?_
    refine z_idiv C dX6_fewest_40 41 rfl (by omega) (P) (by omega) ?_
    refine z_icmp_ne C dX6_fewest_41 60 44 (by decide) rfl (by omega) (fun c41 => ?_) (fun c41 => ?_)
    · skip
      refine z_iconst C dX6_fewest_60 61 rfl ?_
      skip
      refine z_is C hl dX6_fewest_61 63 rfl (by decide) (lv' := [(6, .int (iI (0))), (5, .int (iI (1 + A c0))), (4, .int (iI (D))), (0, .ref (X 0)), (1, .int (iI (kd))), (2, .int (iI (c0))), (3, .int (iI (t)))]) rfl (fun ls hl => ?_)
      refine z_iconst C dX6_fewest_63 64 rfl ?_
      refine z_is C hl dX6_fewest_64 66 rfl (by decide) (lv' := [(7, .int (iI (0))), (6, .int (iI (0))), (5, .int (iI (1 + A c0))), (4, .int (iI (D))), (0, .ref (X 0)), (1, .int (iI (kd))), (2, .int (iI (c0))), (3, .int (iI (t)))]) rfl (fun ls hl => ?_)
      refine z_il C hl dX6_fewest_66 0 rfl 68 rfl ?_
      refine z_bipush C dX6_fewest_68 (by decide) 70 rfl ?_
      refine z_icmp_ge C dX6_fewest_70 177 73 (by decide) rfl (by omega) (fun c70 => ?_) (fun c70 => ?_)
      · exfalso; omega
      · skip
        refine z_il C hl dX6_fewest_73 1 rfl 75 rfl ?_
        refine z_if_eq C dX6_fewest_75 177 78 (by decide) rfl (by omega) (fun c75 => ?_) (fun c75 => ?_)
        · skip
          refine z_il C hl dX6_fewest_177 2 rfl 179 rfl ?_
          exact z_ri C dX6_fewest_179 (by unfold fewZ; rw [if_neg (fun z => c41 z.1)]; show _ = (if wreckB v c0 D t = true then (10000 : Int) else 1 + A c0); rw [c15]; rfl)
        · exfalso; omega
    · skip
      refine z_al_n C hl dX6_fewest_44 2 rfl 45 rfl ?_
      refine z_iconst C dX6_fewest_45 46 rfl ?_
      refine z_il_n C hl dX6_fewest_46 4 rfl 47 rfl ?_
      refine z_il C hl dX6_fewest_47 1 rfl 49 rfl ?_
      refine z_il_n C hl dX6_fewest_49 5 rfl 50 rfl ?_
      refine z_VR (r := .int (iI (bZ (wetB v c0 D t)))) (rest := []) C (m_xfloats l G X kn ml kp (s2Z v y) 0 v c0 D t w (by omega) (s2_0 v y) (by omega) (by omega) (by omega)) kV_X6_57 ⟨Nat.le_of_ble_eq_true rfl, Nat.le_of_ble_eq_true rfl⟩ (gP_rg hP [0, 1] rfl) hK 0 rfl rfl rfl hl.1 rfl (Nat.le_of_ble_eq_true rfl) dX6_fewest_50 ⟨Nat.le_of_ble_eq_true rfl, Nat.le_of_ble_eq_true rfl⟩ 53 rfl ?_
      refine z_ifb_eq C dX6_fewest_53 60 56 (by decide) rfl (fun c53 => ?_) (fun c53 => ?_)
      · skip
        refine z_iconst C dX6_fewest_60 61 rfl ?_
        skip
        refine z_is C hl dX6_fewest_61 63 rfl (by decide) (lv' := [(6, .int (iI (0))), (5, .int (iI (1 + A c0))), (4, .int (iI (D))), (0, .ref (X 0)), (1, .int (iI (kd))), (2, .int (iI (c0))), (3, .int (iI (t)))]) rfl (fun ls hl => ?_)
        refine z_iconst C dX6_fewest_63 64 rfl ?_
        refine z_is C hl dX6_fewest_64 66 rfl (by decide) (lv' := [(7, .int (iI (0))), (6, .int (iI (0))), (5, .int (iI (1 + A c0))), (4, .int (iI (D))), (0, .ref (X 0)), (1, .int (iI (kd))), (2, .int (iI (c0))), (3, .int (iI (t)))]) rfl (fun ls hl => ?_)
        refine z_il C hl dX6_fewest_66 0 rfl 68 rfl ?_
        refine z_bipush C dX6_fewest_68 (by decide) 70 rfl ?_
        refine z_icmp_ge C dX6_fewest_70 177 73 (by decide) rfl (by omega) (fun c70 => ?_) (fun c70 => ?_)
        · exfalso; omega
        · skip
          refine z_il C hl dX6_fewest_73 1 rfl 75 rfl ?_
          refine z_if_eq C dX6_fewest_75 177 78 (by decide) rfl (by omega) (fun c75 => ?_) (fun c75 => ?_)
          · skip
            refine z_il C hl dX6_fewest_177 2 rfl 179 rfl ?_
            exact z_ri C dX6_fewest_179 (by unfold fewZ; rw [if_neg (fun z => by rw [c53] at z; cases z.2)]; show _ = (if wreckB v c0 D t = true then (10000 : Int) else 1 + A c0); rw [c15]; rfl)
          · exfalso; omega
      · skip
        refine z_iconst C dX6_fewest_56 57 rfl ?_
        refine z_goto C dX6_fewest_57 61 (by decide) ?_
        skip
        refine z_is C hl dX6_fewest_61 63 rfl (by decide) (lv' := [(6, .int (iI (1))), (5, .int (iI (1 + A c0))), (4, .int (iI (D))), (0, .ref (X 0)), (1, .int (iI (kd))), (2, .int (iI (c0))), (3, .int (iI (t)))]) rfl (fun ls hl => ?_)
        refine z_iconst C dX6_fewest_63 64 rfl ?_
        refine z_is C hl dX6_fewest_64 66 rfl (by decide) (lv' := [(7, .int (iI (0))), (6, .int (iI (1))), (5, .int (iI (1 + A c0))), (4, .int (iI (D))), (0, .ref (X 0)), (1, .int (iI (kd))), (2, .int (iI (c0))), (3, .int (iI (t)))]) rfl (fun ls hl => ?_)
        have L66 : ∀ (fu : Nat) (mm : Int) (k : Int) (h1 : 0 ≤ k ∧ k ≤ 12) (h2 : mm = fewN v P D c0 t A k.toNat) (hm : 12 - k < (fu : Int)) (ls : Array Slot) (hl : lv_has ls 10 [(7, .int (iI (k))), (6, .int (iI (1))), (5, .int (iI (mm))), (4, .int (iI (D))), (3, .int (iI (t))), (2, .int (iI (c0))), (1, .int (iI (kd))), (0, .ref (X 0))]), W p l e (rmN 4) s m [.ref (X 0), .int (iI (kd)), .int (iI (c0)), .int (iI (t))].toArray below meth c s.heap [] 0 0 (MQ below (QR (.int (iI (fewZ v P D c0 t A)))) [.ref (X 0), .int (iI (kd)), .int (iI (c0)), .int (iI (t))].toArray s 0 0 (fun _ => False)) (F0 m 66 ls []) := by
          intro fu
          induction fu with
          | zero => intro mm k h1 h2 hm ls hl; exfalso; omega
          | succ fu ih =>
            intro mm k h1 h2 hm ls hl
            have ih66 := ih
            refine z_il C hl dX6_fewest_66 0 rfl 68 rfl ?_
            refine z_bipush C dX6_fewest_68 (by decide) 70 rfl ?_
            refine z_icmp_ge C dX6_fewest_70 177 73 (by decide) rfl (by omega) (fun c70 => ?_) (fun c70 => ?_)
            · skip
              refine z_il C hl dX6_fewest_177 2 rfl 179 rfl ?_
              exact z_ri C dX6_fewest_179 (by unfold fewZ; rw [if_pos ⟨c41, c53⟩, h2, show k = 12 by omega]; rfl)
            · skip
              refine z_il C hl dX6_fewest_73 1 rfl 75 rfl ?_
              refine z_if_eq C dX6_fewest_75 177 78 (by decide) rfl (by omega) (fun c75 => ?_) (fun c75 => ?_)
              · exfalso; omega
              · skip
                refine z_al_n C hl dX6_fewest_78 7 rfl 79 rfl ?_
                refine z_iconst C dX6_fewest_79 80 rfl ?_
                refine z_il_n C hl dX6_fewest_80 6 rfl 81 rfl ?_
                refine z_il_n C hl dX6_fewest_81 5 rfl 82 rfl ?_
                refine z_bipush C dX6_fewest_82 (by decide) 84 rfl ?_
                refine z_il C hl dX6_fewest_84 0 rfl 86 rfl ?_
                refine z_iconst C dX6_fewest_86 87 rfl ?_
                refine z_idiv C dX6_fewest_87 88 rfl (by omega) ((k / 3)) (rfl) ?_
                refine z_imul C dX6_fewest_88 89 rfl (10 * (k / 3)) (rfl) ?_
                refine z_il C hl dX6_fewest_89 0 rfl 91 rfl ?_
                refine z_iconst C dX6_fewest_91 92 rfl ?_
                refine z_irem C dX6_fewest_92 93 rfl (by omega) ((k % 3)) (rfl) ?_
                refine z_iadd C dX6_fewest_93 94 rfl ((k % 3) + 10 * (k / 3)) (by omega) ?_
                refine z_iconst C dX6_fewest_94 95 rfl ?_
                refine z_iadd C dX6_fewest_95 96 rfl (1 + (k % 3) + 10 * (k / 3)) (by omega) ?_
                refine z_il_n C hl dX6_fewest_96 4 rfl 97 rfl ?_
                refine z_VR (r := .int (iI (wayN v P D t (k / 3) (Int.toNat (k % 3 + 1)) c0))) (rest := []) C (m_xway l G X kn ml kp (s2Z v y) 0 v kd c0 (1 + (k % 3) + 10 * (k / 3)) t P D (k / 3) (k % 3 + 1) w (by omega) (s2_0 v y) (by omega) (by omega) (by omega) (by omega) (by omega) (by omega) (by omega) (by omega)) kV_X6_88 ⟨Nat.le_of_ble_eq_true rfl, Nat.le_of_ble_eq_true rfl⟩ (gP_rg hP [0, 1] rfl) hK 0 rfl rfl rfl hl.1 rfl (Nat.le_of_ble_eq_true rfl) dX6_fewest_97 ⟨Nat.le_of_ble_eq_true rfl, Nat.le_of_ble_eq_true rfl⟩ 100 rfl ?_
                refine z_top (b := .int (iI (wyN v P D t c0 k))) rfl ?_
                have hwy := wyN_2 (u := v) (P := P) (D := D) (t := t) (k := k) (c := c0) hc
                refine z_is C hl dX6_fewest_100 102 rfl (by decide) (lv' := [(8, .int (iI (wyN v P D t c0 k))), (7, .int (iI (k))), (6, .int (iI (1))), (5, .int (iI (mm))), (4, .int (iI (D))), (3, .int (iI (t))), (2, .int (iI (c0))), (1, .int (iI (kd))), (0, .ref (X 0))]) rfl (fun ls hl => ?_)
                refine z_il C hl dX6_fewest_102 0 rfl 104 rfl ?_
                refine z_il_n C hl dX6_fewest_104 7 rfl 105 rfl ?_
                refine z_bipush C dX6_fewest_105 (by decide) 107 rfl ?_
                refine z_idiv C dX6_fewest_107 108 rfl (by omega) (P) (by omega) ?_
                refine z_SR (r := .int (iI (harZ P))) (rest := [.int (iI (wyN v P D t c0 k))]) C (m_xhar l G P (by omega)) kS_X6_61 ⟨Nat.le_of_ble_eq_true rfl, Nat.le_of_ble_eq_true rfl⟩ (gP_nil) hK rfl hl.1 rfl (Nat.le_of_ble_eq_true rfl) dX6_fewest_108 ⟨Nat.le_of_ble_eq_true rfl, Nat.le_of_ble_eq_true rfl⟩ 111 rfl ?_
                have hh108 := harZ_rng P
                refine z_icmp_ne C dX6_fewest_111 118 114 (by decide) rfl (by omega) (fun c111 => ?_) (fun c111 => ?_)
                · skip
                  refine z_il C hl dX6_fewest_118 0 rfl 120 rfl ?_
                  refine z_bipush C dX6_fewest_120 (by decide) 122 rfl ?_
                  refine z_icmp_eq C dX6_fewest_122 138 125 (by decide) rfl (by omega) (fun c122 => ?_) (fun c122 => ?_)
                  · skip
                    refine z_sipush C dX6_fewest_138 (by decide) 141 rfl ?_
                    refine z_goto C dX6_fewest_141 153 (by decide) ?_
                    refine z_top (b := .int (iI (fewX v P D c0 t A k))) (congrArg (fun z => Value.int (iI z)) ((if_neg c111).trans (if_pos (Or.inl c122))).symm) ?_
                    have hfx := fewX_rng (v := v) (P := P) (D := D) (t := t) (k := k) (m := 20000) hc hA (by omega)
                    have hfn := fewN_rng (v := v) (P := P) (D := D) (t := t) (m := 20000) hc hA (by omega) k.toNat
                    refine z_is C hl dX6_fewest_153 155 rfl (by decide) (lv' := [(9, .int (iI (fewX v P D c0 t A k))), (8, .int (iI (wyN v P D t c0 k))), (7, .int (iI (k))), (6, .int (iI (1))), (5, .int (iI (mm))), (4, .int (iI (D))), (3, .int (iI (t))), (2, .int (iI (c0))), (1, .int (iI (kd))), (0, .ref (X 0))]) rfl (fun ls hl => ?_)
                    refine z_il C hl dX6_fewest_155 0 rfl 157 rfl ?_
                    refine z_il C hl dX6_fewest_157 4 rfl 159 rfl ?_
                    refine z_icmp_ge C dX6_fewest_159 167 162 (by decide) rfl (by omega) (fun c159 => ?_) (fun c159 => ?_)
                    · skip
                      refine z_il C hl dX6_fewest_167 4 rfl 169 rfl ?_
                      refine z_is C hl dX6_fewest_169 171 rfl (by decide) (lv' := [(5, .int (iI (mm))), (9, .int (iI (fewX v P D c0 t A k))), (8, .int (iI (wyN v P D t c0 k))), (7, .int (iI (k))), (6, .int (iI (1))), (4, .int (iI (D))), (3, .int (iI (t))), (2, .int (iI (c0))), (1, .int (iI (kd))), (0, .ref (X 0))]) rfl (fun ls hl => ?_)
                      refine z_iinc C hl dX6_fewest_171 174 rfl 3 rfl (z := 1 + k) (by omega) (by decide) (lv' := [(7, .int (iI (1 + k))), (5, .int (iI (mm))), (9, .int (iI (fewX v P D c0 t A k))), (8, .int (iI (wyN v P D t c0 k))), (6, .int (iI (1))), (4, .int (iI (D))), (3, .int (iI (t))), (2, .int (iI (c0))), (1, .int (iI (kd))), (0, .ref (X 0))]) rfl (fun ls hl => ?_)
                      refine z_goto C dX6_fewest_174 66 (by decide) ?_
                      exact ih66 mm (1 + k) (by omega) (by rw [fewN_s h1.1, ← h2, if_neg (by omega)]) (by omega) ls (lv_sub hl [0, 4, 1, 5, 6, 7, 8, 9] rfl)
                    · skip
                      refine z_il C hl dX6_fewest_162 0 rfl 164 rfl ?_
                      refine z_goto C dX6_fewest_164 169 (by decide) ?_
                      refine z_is C hl dX6_fewest_169 171 rfl (by decide) (lv' := [(5, .int (iI (fewX v P D c0 t A k))), (9, .int (iI (fewX v P D c0 t A k))), (8, .int (iI (wyN v P D t c0 k))), (7, .int (iI (k))), (6, .int (iI (1))), (4, .int (iI (D))), (3, .int (iI (t))), (2, .int (iI (c0))), (1, .int (iI (kd))), (0, .ref (X 0))]) rfl (fun ls hl => ?_)
                      refine z_iinc C hl dX6_fewest_171 174 rfl 3 rfl (z := 1 + k) (by omega) (by decide) (lv' := [(7, .int (iI (1 + k))), (5, .int (iI (fewX v P D c0 t A k))), (9, .int (iI (fewX v P D c0 t A k))), (8, .int (iI (wyN v P D t c0 k))), (6, .int (iI (1))), (4, .int (iI (D))), (3, .int (iI (t))), (2, .int (iI (c0))), (1, .int (iI (kd))), (0, .ref (X 0))]) rfl (fun ls hl => ?_)
                      refine z_goto C dX6_fewest_174 66 (by decide) ?_
                      exact ih66 (fewX v P D c0 t A k) (1 + k) (by omega) (by rw [fewN_s h1.1, ← h2, if_pos c159]) (by omega) ls (lv_sub hl [0, 4, 1, 5, 6, 7, 8, 9] rfl)
                  · skip
                    refine z_al_n C hl dX6_fewest_125 8 rfl 126 rfl ?_
                    refine z_iconst C dX6_fewest_126 127 rfl ?_
                    refine z_il C hl dX6_fewest_127 0 rfl 129 rfl ?_
                    refine z_il C hl dX6_fewest_129 4 rfl 131 rfl ?_
                    refine z_il_n C hl dX6_fewest_131 5 rfl 132 rfl ?_
                    refine z_VR (r := .int (iI (bZ (wreckB v (wyN v P D t c0 k) D t)))) (rest := []) C (m_xwrecks l G X kn ml kp (s2Z v y) 0 v (wyN v P D t c0 k) D t w (by omega) (s2_0 v y) (by omega) (by omega) (by omega)) kV_X6_101 ⟨Nat.le_of_ble_eq_true rfl, Nat.le_of_ble_eq_true rfl⟩ (gP_rg hP [0, 1] rfl) hK 0 rfl rfl rfl hl.1 rfl (Nat.le_of_ble_eq_true rfl) dX6_fewest_132 ⟨Nat.le_of_ble_eq_true rfl, Nat.le_of_ble_eq_true rfl⟩ 135 rfl ?_
                    refine z_ifb_eq C dX6_fewest_135 144 138 (by decide) rfl (fun c135 => ?_) (fun c135 => ?_)
                    · skip
                      have hAe := hA (wyN v P D t c0 k) (by omega) (by omega)
                      refine z_iconst C dX6_fewest_144 145 rfl ?_
                      refine z_al_n C hl dX6_fewest_145 8 rfl 146 rfl ?_
                      refine z_get C hP hK fl_X6_32 0 rfl rfl dX6_fewest_146 149 rfl ?_
                      refine z_il C hl dX6_fewest_149 0 rfl 151 rfl ?_
                      refine z_iaZ C (A) hP hK 2 rfl (by omega) (by decide) (A (wyN v P D t c0 k)) (rfl) dX6_fewest_151 152 rfl ?_
                      refine z_iadd C dX6_fewest_152 153 rfl (1 + A (wyN v P D t c0 k)) (by omega) ?_
                      refine z_top (b := .int (iI (fewX v P D c0 t A k))) (congrArg (fun z => Value.int (iI z)) ((if_neg c111).trans (if_neg (fun z => by rcases z with z | z; exact c122 z; rw [c135] at z; cases z))).symm) ?_
                      have hfx := fewX_rng (v := v) (P := P) (D := D) (t := t) (k := k) (m := 20000) hc hA (by omega)
                      have hfn := fewN_rng (v := v) (P := P) (D := D) (t := t) (m := 20000) hc hA (by omega) k.toNat
                      refine z_is C hl dX6_fewest_153 155 rfl (by decide) (lv' := [(9, .int (iI (fewX v P D c0 t A k))), (8, .int (iI (wyN v P D t c0 k))), (7, .int (iI (k))), (6, .int (iI (1))), (5, .int (iI (mm))), (4, .int (iI (D))), (3, .int (iI (t))), (2, .int (iI (c0))), (1, .int (iI (kd))), (0, .ref (X 0))]) rfl (fun ls hl => ?_)
                      refine z_il C hl dX6_fewest_155 0 rfl 157 rfl ?_
                      refine z_il C hl dX6_fewest_157 4 rfl 159 rfl ?_
                      refine z_icmp_ge C dX6_fewest_159 167 162 (by decide) rfl (by omega) (fun c159 => ?_) (fun c159 => ?_)
                      · skip
                        refine z_il C hl dX6_fewest_167 4 rfl 169 rfl ?_
                        refine z_is C hl dX6_fewest_169 171 rfl (by decide) (lv' := [(5, .int (iI (mm))), (9, .int (iI (fewX v P D c0 t A k))), (8, .int (iI (wyN v P D t c0 k))), (7, .int (iI (k))), (6, .int (iI (1))), (4, .int (iI (D))), (3, .int (iI (t))), (2, .int (iI (c0))), (1, .int (iI (kd))), (0, .ref (X 0))]) rfl (fun ls hl => ?_)
                        refine z_iinc C hl dX6_fewest_171 174 rfl 3 rfl (z := 1 + k) (by omega) (by decide) (lv' := [(7, .int (iI (1 + k))), (5, .int (iI (mm))), (9, .int (iI (fewX v P D c0 t A k))), (8, .int (iI (wyN v P D t c0 k))), (6, .int (iI (1))), (4, .int (iI (D))), (3, .int (iI (t))), (2, .int (iI (c0))), (1, .int (iI (kd))), (0, .ref (X 0))]) rfl (fun ls hl => ?_)
                        refine z_goto C dX6_fewest_174 66 (by decide) ?_
                        exact ih66 mm (1 + k) (by omega) (by rw [fewN_s h1.1, ← h2, if_neg (by omega)]) (by omega) ls (lv_sub hl [0, 4, 1, 5, 6, 7, 8, 9] rfl)
                      · skip
                        refine z_il C hl dX6_fewest_162 0 rfl 164 rfl ?_
                        refine z_goto C dX6_fewest_164 169 (by decide) ?_
                        refine z_is C hl dX6_fewest_169 171 rfl (by decide) (lv' := [(5, .int (iI (fewX v P D c0 t A k))), (9, .int (iI (fewX v P D c0 t A k))), (8, .int (iI (wyN v P D t c0 k))), (7, .int (iI (k))), (6, .int (iI (1))), (4, .int (iI (D))), (3, .int (iI (t))), (2, .int (iI (c0))), (1, .int (iI (kd))), (0, .ref (X 0))]) rfl (fun ls hl => ?_)
                        refine z_iinc C hl dX6_fewest_171 174 rfl 3 rfl (z := 1 + k) (by omega) (by decide) (lv' := [(7, .int (iI (1 + k))), (5, .int (iI (fewX v P D c0 t A k))), (9, .int (iI (fewX v P D c0 t A k))), (8, .int (iI (wyN v P D t c0 k))), (6, .int (iI (1))), (4, .int (iI (D))), (3, .int (iI (t))), (2, .int (iI (c0))), (1, .int (iI (kd))), (0, .ref (X 0))]) rfl (fun ls hl => ?_)
                        refine z_goto C dX6_fewest_174 66 (by decide) ?_
                        exact ih66 (fewX v P D c0 t A k) (1 + k) (by omega) (by rw [fewN_s h1.1, ← h2, if_pos c159]) (by omega) ls (lv_sub hl [0, 4, 1, 5, 6, 7, 8, 9] rfl)
                    · skip
                      refine z_sipush C dX6_fewest_138 (by decide) 141 rfl ?_
                      refine z_goto C dX6_fewest_141 153 (by decide) ?_
                      refine z_top (b := .int (iI (fewX v P D c0 t A k))) (congrArg (fun z => Value.int (iI z)) ((if_neg c111).trans (if_pos (Or.inr c135))).symm) ?_
                      have hfx := fewX_rng (v := v) (P := P) (D := D) (t := t) (k := k) (m := 20000) hc hA (by omega)
                      have hfn := fewN_rng (v := v) (P := P) (D := D) (t := t) (m := 20000) hc hA (by omega) k.toNat
                      refine z_is C hl dX6_fewest_153 155 rfl (by decide) (lv' := [(9, .int (iI (fewX v P D c0 t A k))), (8, .int (iI (wyN v P D t c0 k))), (7, .int (iI (k))), (6, .int (iI (1))), (5, .int (iI (mm))), (4, .int (iI (D))), (3, .int (iI (t))), (2, .int (iI (c0))), (1, .int (iI (kd))), (0, .ref (X 0))]) rfl (fun ls hl => ?_)
                      refine z_il C hl dX6_fewest_155 0 rfl 157 rfl ?_
                      refine z_il C hl dX6_fewest_157 4 rfl 159 rfl ?_
                      refine z_icmp_ge C dX6_fewest_159 167 162 (by decide) rfl (by omega) (fun c159 => ?_) (fun c159 => ?_)
                      · skip
                        refine z_il C hl dX6_fewest_167 4 rfl 169 rfl ?_
                        refine z_is C hl dX6_fewest_169 171 rfl (by decide) (lv' := [(5, .int (iI (mm))), (9, .int (iI (fewX v P D c0 t A k))), (8, .int (iI (wyN v P D t c0 k))), (7, .int (iI (k))), (6, .int (iI (1))), (4, .int (iI (D))), (3, .int (iI (t))), (2, .int (iI (c0))), (1, .int (iI (kd))), (0, .ref (X 0))]) rfl (fun ls hl => ?_)
                        refine z_iinc C hl dX6_fewest_171 174 rfl 3 rfl (z := 1 + k) (by omega) (by decide) (lv' := [(7, .int (iI (1 + k))), (5, .int (iI (mm))), (9, .int (iI (fewX v P D c0 t A k))), (8, .int (iI (wyN v P D t c0 k))), (6, .int (iI (1))), (4, .int (iI (D))), (3, .int (iI (t))), (2, .int (iI (c0))), (1, .int (iI (kd))), (0, .ref (X 0))]) rfl (fun ls hl => ?_)
                        refine z_goto C dX6_fewest_174 66 (by decide) ?_
                        exact ih66 mm (1 + k) (by omega) (by rw [fewN_s h1.1, ← h2, if_neg (by omega)]) (by omega) ls (lv_sub hl [0, 4, 1, 5, 6, 7, 8, 9] rfl)
                      · skip
                        refine z_il C hl dX6_fewest_162 0 rfl 164 rfl ?_
                        refine z_goto C dX6_fewest_164 169 (by decide) ?_
                        refine z_is C hl dX6_fewest_169 171 rfl (by decide) (lv' := [(5, .int (iI (fewX v P D c0 t A k))), (9, .int (iI (fewX v P D c0 t A k))), (8, .int (iI (wyN v P D t c0 k))), (7, .int (iI (k))), (6, .int (iI (1))), (4, .int (iI (D))), (3, .int (iI (t))), (2, .int (iI (c0))), (1, .int (iI (kd))), (0, .ref (X 0))]) rfl (fun ls hl => ?_)
                        refine z_iinc C hl dX6_fewest_171 174 rfl 3 rfl (z := 1 + k) (by omega) (by decide) (lv' := [(7, .int (iI (1 + k))), (5, .int (iI (fewX v P D c0 t A k))), (9, .int (iI (fewX v P D c0 t A k))), (8, .int (iI (wyN v P D t c0 k))), (6, .int (iI (1))), (4, .int (iI (D))), (3, .int (iI (t))), (2, .int (iI (c0))), (1, .int (iI (kd))), (0, .ref (X 0))]) rfl (fun ls hl => ?_)
                        refine z_goto C dX6_fewest_174 66 (by decide) ?_
                        exact ih66 (fewX v P D c0 t A k) (1 + k) (by omega) (by rw [fewN_s h1.1, ← h2, if_pos c159]) (by omega) ls (lv_sub hl [0, 4, 1, 5, 6, 7, 8, 9] rfl)
                · skip
                  refine z_iconst C dX6_fewest_114 115 rfl ?_
                  refine z_goto C dX6_fewest_115 153 (by decide) ?_
                  refine z_top (b := .int (iI (fewX v P D c0 t A k))) (congrArg (fun z => Value.int (iI z)) (if_pos c111).symm) ?_
                  have hfx := fewX_rng (v := v) (P := P) (D := D) (t := t) (k := k) (m := 20000) hc hA (by omega)
                  have hfn := fewN_rng (v := v) (P := P) (D := D) (t := t) (m := 20000) hc hA (by omega) k.toNat
                  refine z_is C hl dX6_fewest_153 155 rfl (by decide) (lv' := [(9, .int (iI (fewX v P D c0 t A k))), (8, .int (iI (wyN v P D t c0 k))), (7, .int (iI (k))), (6, .int (iI (1))), (5, .int (iI (mm))), (4, .int (iI (D))), (3, .int (iI (t))), (2, .int (iI (c0))), (1, .int (iI (kd))), (0, .ref (X 0))]) rfl (fun ls hl => ?_)
                  refine z_il C hl dX6_fewest_155 0 rfl 157 rfl ?_
                  refine z_il C hl dX6_fewest_157 4 rfl 159 rfl ?_
                  refine z_icmp_ge C dX6_fewest_159 167 162 (by decide) rfl (by omega) (fun c159 => ?_) (fun c159 => ?_)
                  · skip
                    refine z_il C hl dX6_fewest_167 4 rfl 169 rfl ?_
                    refine z_is C hl dX6_fewest_169 171 rfl (by decide) (lv' := [(5, .int (iI (mm))), (9, .int (iI (fewX v P D c0 t A k))), (8, .int (iI (wyN v P D t c0 k))), (7, .int (iI (k))), (6, .int (iI (1))), (4, .int (iI (D))), (3, .int (iI (t))), (2, .int (iI (c0))), (1, .int (iI (kd))), (0, .ref (X 0))]) rfl (fun ls hl => ?_)
                    refine z_iinc C hl dX6_fewest_171 174 rfl 3 rfl (z := 1 + k) (by omega) (by decide) (lv' := [(7, .int (iI (1 + k))), (5, .int (iI (mm))), (9, .int (iI (fewX v P D c0 t A k))), (8, .int (iI (wyN v P D t c0 k))), (6, .int (iI (1))), (4, .int (iI (D))), (3, .int (iI (t))), (2, .int (iI (c0))), (1, .int (iI (kd))), (0, .ref (X 0))]) rfl (fun ls hl => ?_)
                    refine z_goto C dX6_fewest_174 66 (by decide) ?_
                    exact ih66 mm (1 + k) (by omega) (by rw [fewN_s h1.1, ← h2, if_neg (by omega)]) (by omega) ls (lv_sub hl [0, 4, 1, 5, 6, 7, 8, 9] rfl)
                  · skip
                    refine z_il C hl dX6_fewest_162 0 rfl 164 rfl ?_
                    refine z_goto C dX6_fewest_164 169 (by decide) ?_
                    refine z_is C hl dX6_fewest_169 171 rfl (by decide) (lv' := [(5, .int (iI (fewX v P D c0 t A k))), (9, .int (iI (fewX v P D c0 t A k))), (8, .int (iI (wyN v P D t c0 k))), (7, .int (iI (k))), (6, .int (iI (1))), (4, .int (iI (D))), (3, .int (iI (t))), (2, .int (iI (c0))), (1, .int (iI (kd))), (0, .ref (X 0))]) rfl (fun ls hl => ?_)
                    refine z_iinc C hl dX6_fewest_171 174 rfl 3 rfl (z := 1 + k) (by omega) (by decide) (lv' := [(7, .int (iI (1 + k))), (5, .int (iI (fewX v P D c0 t A k))), (9, .int (iI (fewX v P D c0 t A k))), (8, .int (iI (wyN v P D t c0 k))), (6, .int (iI (1))), (4, .int (iI (D))), (3, .int (iI (t))), (2, .int (iI (c0))), (1, .int (iI (kd))), (0, .ref (X 0))]) rfl (fun ls hl => ?_)
                    refine z_goto C dX6_fewest_174 66 (by decide) ?_
                    exact ih66 (fewX v P D c0 t A k) (1 + k) (by omega) (by rw [fewN_s h1.1, ← h2, if_pos c159]) (by omega) ls (lv_sub hl [0, 4, 1, 5, 6, 7, 8, 9] rfl)
        exact L66 (Int.toNat (12 - 0) + 1) (1 + A c0) 0 (by omega) (by show _ = (if wreckB v c0 D t = true then (10000 : Int) else 1 + A c0); rw [c15]; rfl) (by omega) ls (lv_sub hl [0, 1, 2, 3, 7, 6, 5, 4] rfl)
  · skip
    refine z_sipush C dX6_fewest_18 (by decide) 21 rfl ?_
    refine z_goto C dX6_fewest_21 32 (by decide) ?_
    refine z_is C hl dX6_fewest_32 34 rfl (by decide) (lv' := [(5, .int (iI (10000))), (4, .int (iI (D))), (0, .ref (X 0)), (1, .int (iI (kd))), (2, .int (iI (c0))), (3, .int (iI (t)))]) rfl (fun ls hl => ?_)
    refine z_il_n C hl dX6_fewest_34 5 rfl 35 rfl ?_
    refine z_iconst C dX6_fewest_35 36 rfl ?_
    refine z_irem C dX6_fewest_36 37 rfl (by omega) ((t % 2)) (rfl) ?_
    refine z_il_n C hl dX6_fewest_37 3 rfl 38 rfl ?_
    refine z_bipush C dX6_fewest_38 (by decide) 40 rfl ?_
    refine z_idiv C dX6_fewest_40 41 rfl (by omega) (P) (by omega) ?_
    refine z_icmp_ne C dX6_fewest_41 60 44 (by decide) rfl (by omega) (fun c41 => ?_) (fun c41 => ?_)
    · skip
      refine z_iconst C dX6_fewest_60 61 rfl ?_
      skip
      refine z_is C hl dX6_fewest_61 63 rfl (by decide) (lv' := [(6, .int (iI (0))), (5, .int (iI (10000))), (4, .int (iI (D))), (0, .ref (X 0)), (1, .int (iI (kd))), (2, .int (iI (c0))), (3, .int (iI (t)))]) rfl (fun ls hl => ?_)
      refine z_iconst C dX6_fewest_63 64 rfl ?_
      refine z_is C hl dX6_fewest_64 66 rfl (by decide) (lv' := [(7, .int (iI (0))), (6, .int (iI (0))), (5, .int (iI (10000))), (4, .int (iI (D))), (0, .ref (X 0)), (1, .int (iI (kd))), (2, .int (iI (c0))), (3, .int (iI (t)))]) rfl (fun ls hl => ?_)
      refine z_il C hl dX6_fewest_66 0 rfl 68 rfl ?_
      refine z_bipush C dX6_fewest_68 (by decide) 70 rfl ?_
      refine z_icmp_ge C dX6_fewest_70 177 73 (by decide) rfl (by omega) (fun c70 => ?_) (fun c70 => ?_)
      · exfalso; omega
      · skip
        refine z_il C hl dX6_fewest_73 1 rfl 75 rfl ?_
        refine z_if_eq C dX6_fewest_75 177 78 (by decide) rfl (by omega) (fun c75 => ?_) (fun c75 => ?_)
        · skip
          refine z_il C hl dX6_fewest_177 2 rfl 179 rfl ?_
          exact z_ri C dX6_fewest_179 (by unfold fewZ; rw [if_neg (fun z => c41 z.1)]; show _ = (if wreckB v c0 D t = true then (10000 : Int) else 1 + A c0); rw [c15]; rfl)
        · exfalso; omega
    · skip
      refine z_al_n C hl dX6_fewest_44 2 rfl 45 rfl ?_
      refine z_iconst C dX6_fewest_45 46 rfl ?_
      refine z_il_n C hl dX6_fewest_46 4 rfl 47 rfl ?_
      refine z_il C hl dX6_fewest_47 1 rfl 49 rfl ?_
      refine z_il_n C hl dX6_fewest_49 5 rfl 50 rfl ?_
      refine z_VR (r := .int (iI (bZ (wetB v c0 D t)))) (rest := []) C (m_xfloats l G X kn ml kp (s2Z v y) 0 v c0 D t w (by omega) (s2_0 v y) (by omega) (by omega) (by omega)) kV_X6_57 ⟨Nat.le_of_ble_eq_true rfl, Nat.le_of_ble_eq_true rfl⟩ (gP_rg hP [0, 1] rfl) hK 0 rfl rfl rfl hl.1 rfl (Nat.le_of_ble_eq_true rfl) dX6_fewest_50 ⟨Nat.le_of_ble_eq_true rfl, Nat.le_of_ble_eq_true rfl⟩ 53 rfl ?_
      refine z_ifb_eq C dX6_fewest_53 60 56 (by decide) rfl (fun c53 => ?_) (fun c53 => ?_)
      · skip
        refine z_iconst C dX6_fewest_60 61 rfl ?_
        skip
        refine z_is C hl dX6_fewest_61 63 rfl (by decide) (lv' := [(6, .int (iI (0))), (5, .int (iI (10000))), (4, .int (iI (D))), (0, .ref (X 0)), (1, .int (iI (kd))), (2, .int (iI (c0))), (3, .int (iI (t)))]) rfl (fun ls hl => ?_)
        refine z_iconst C dX6_fewest_63 64 rfl ?_
        refine z_is C hl dX6_fewest_64 66 rfl (by decide) (lv' := [(7, .int (iI (0))), (6, .int (iI (0))), (5, .int (iI (10000))), (4, .int (iI (D))), (0, .ref (X 0)), (1, .int (iI (kd))), (2, .int (iI (c0))), (3, .int (iI (t)))]) rfl (fun ls hl => ?_)
        refine z_il C hl dX6_fewest_66 0 rfl 68 rfl ?_
        refine z_bipush C dX6_fewest_68 (by decide) 70 rfl ?_
        refine z_icmp_ge C dX6_fewest_70 177 73 (by decide) rfl (by omega) (fun c70 => ?_) (fun c70 => ?_)
        · exfalso; omega
        · skip
          refine z_il C hl dX6_fewest_73 1 rfl 75 rfl ?_
          refine z_if_eq C dX6_fewest_75 177 78 (by decide) rfl (by omega) (fun c75 => ?_) (fun c75 => ?_)
          · skip
            refine z_il C hl dX6_fewest_177 2 rfl 179 rfl ?_
            exact z_ri C dX6_fewest_179 (by unfold fewZ; rw [if_neg (fun z => by rw [c53] at z; cases z.2)]; show _ = (if wreckB v c0 D t = true then (10000 : Int) else 1 + A c0); rw [c15]; rfl)
          · exfalso; omega
      · skip
        refine z_iconst C dX6_fewest_56 57 rfl ?_
        refine z_goto C dX6_fewest_57 61 (by decide) ?_
        skip
        refine z_is C hl dX6_fewest_61 63 rfl (by decide) (lv' := [(6, .int (iI (1))), (5, .int (iI (10000))), (4, .int (iI (D))), (0, .ref (X 0)), (1, .int (iI (kd))), (2, .int (iI (c0))), (3, .int (iI (t)))]) rfl (fun ls hl => ?_)
        refine z_iconst C dX6_fewest_63 64 rfl ?_
        refine z_is C hl dX6_fewest_64 66 rfl (by decide) (lv' := [(7, .int (iI (0))), (6, .int (iI (1))), (5, .int (iI (10000))), (4, .int (iI (D))), (0, .ref (X 0)), (1, .int (iI (kd))), (2, .int (iI (c0))), (3, .int (iI (t)))]) rfl (fun ls hl => ?_)
        have L66 : ∀ (fu : Nat) (mm : Int) (k : Int) (h1 : 0 ≤ k ∧ k ≤ 12) (h2 : mm = fewN v P D c0 t A k.toNat) (hm : 12 - k < (fu : Int)) (ls : Array Slot) (hl : lv_has ls 10 [(7, .int (iI (k))), (6, .int (iI (1))), (5, .int (iI (mm))), (4, .int (iI (D))), (3, .int (iI (t))), (2, .int (iI (c0))), (1, .int (iI (kd))), (0, .ref (X 0))]), W p l e (rmN 4) s m [.ref (X 0), .int (iI (kd)), .int (iI (c0)), .int (iI (t))].toArray below meth c s.heap [] 0 0 (MQ below (QR (.int (iI (fewZ v P D c0 t A)))) [.ref (X 0), .int (iI (kd)), .int (iI (c0)), .int (iI (t))].toArray s 0 0 (fun _ => False)) (F0 m 66 ls []) := by
          intro fu
          induction fu with
          | zero => intro mm k h1 h2 hm ls hl; exfalso; omega
          | succ fu ih =>
            intro mm k h1 h2 hm ls hl
            have ih66 := ih
            refine z_il C hl dX6_fewest_66 0 rfl 68 rfl ?_
            refine z_bipush C dX6_fewest_68 (by decide) 70 rfl ?_
            refine z_icmp_ge C dX6_fewest_70 177 73 (by decide) rfl (by omega) (fun c70 => ?_) (fun c70 => ?_)
            · skip
              refine z_il C hl dX6_fewest_177 2 rfl 179 rfl ?_
              exact z_ri C dX6_fewest_179 (by unfold fewZ; rw [if_pos ⟨c41, c53⟩, h2, show k = 12 by omega]; rfl)
            · skip
              refine z_il C hl dX6_fewest_73 1 rfl 75 rfl ?_
              refine z_if_eq C dX6_fewest_75 177 78 (by decide) rfl (by omega) (fun c75 => ?_) (fun c75 => ?_)
              · exfalso; omega
              · skip
                refine z_al_n C hl dX6_fewest_78 7 rfl 79 rfl ?_
                refine z_iconst C dX6_fewest_79 80 rfl ?_
                refine z_il_n C hl dX6_fewest_80 6 rfl 81 rfl ?_
                refine z_il_n C hl dX6_fewest_81 5 rfl 82 rfl ?_
                refine z_bipush C dX6_fewest_82 (by decide) 84 rfl ?_
                refine z_il C hl dX6_fewest_84 0 rfl 86 rfl ?_
                refine z_iconst C dX6_fewest_86 87 rfl ?_
                refine z_idiv C dX6_fewest_87 88 rfl (by omega) ((k / 3)) (rfl) ?_
                refine z_imul C dX6_fewest_88 89 rfl (10 * (k / 3)) (rfl) ?_
                refine z_il C hl dX6_fewest_89 0 rfl 91 rfl ?_
                refine z_iconst C dX6_fewest_91 92 rfl ?_
                refine z_irem C dX6_fewest_92 93 rfl (by omega) ((k % 3)) (rfl) ?_
                refine z_iadd C dX6_fewest_93 94 rfl ((k % 3) + 10 * (k / 3)) (by omega) ?_
                refine z_iconst C dX6_fewest_94 95 rfl ?_
                refine z_iadd C dX6_fewest_95 96 rfl (1 + (k % 3) + 10 * (k / 3)) (by omega) ?_
                refine z_il_n C hl dX6_fewest_96 4 rfl 97 rfl ?_
                refine z_VR (r := .int (iI (wayN v P D t (k / 3) (Int.toNat (k % 3 + 1)) c0))) (rest := []) C (m_xway l G X kn ml kp (s2Z v y) 0 v kd c0 (1 + (k % 3) + 10 * (k / 3)) t P D (k / 3) (k % 3 + 1) w (by omega) (s2_0 v y) (by omega) (by omega) (by omega) (by omega) (by omega) (by omega) (by omega) (by omega)) kV_X6_88 ⟨Nat.le_of_ble_eq_true rfl, Nat.le_of_ble_eq_true rfl⟩ (gP_rg hP [0, 1] rfl) hK 0 rfl rfl rfl hl.1 rfl (Nat.le_of_ble_eq_true rfl) dX6_fewest_97 ⟨Nat.le_of_ble_eq_true rfl, Nat.le_of_ble_eq_true rfl⟩ 100 rfl ?_
                refine z_top (b := .int (iI (wyN v P D t c0 k))) rfl ?_
                have hwy := wyN_2 (u := v) (P := P) (D := D) (t := t) (k := k) (c := c0) hc
                refine z_is C hl dX6_fewest_100 102 rfl (by decide) (lv' := [(8, .int (iI (wyN v P D t c0 k))), (7, .int (iI (k))), (6, .int (iI (1))), (5, .int (iI (mm))), (4, .int (iI (D))), (3, .int (iI (t))), (2, .int (iI (c0))), (1, .int (iI (kd))), (0, .ref (X 0))]) rfl (fun ls hl => ?_)
                refine z_il C hl dX6_fewest_102 0 rfl 104 rfl ?_
                refine z_il_n C hl dX6_fewest_104 7 rfl 105 rfl ?_
                refine z_bipush C dX6_fewest_105 (by decide) 107 rfl ?_
                refine z_idiv C dX6_fewest_107 108 rfl (by omega) (P) (by omega) ?_
                refine z_SR (r := .int (iI (harZ P))) (rest := [.int (iI (wyN v P D t c0 k))]) C (m_xhar l G P (by omega)) kS_X6_61 ⟨Nat.le_of_ble_eq_true rfl, Nat.le_of_ble_eq_true rfl⟩ (gP_nil) hK rfl hl.1 rfl (Nat.le_of_ble_eq_true rfl) dX6_fewest_108 ⟨Nat.le_of_ble_eq_true rfl, Nat.le_of_ble_eq_true rfl⟩ 111 rfl ?_
                have hh108 := harZ_rng P
                refine z_icmp_ne C dX6_fewest_111 118 114 (by decide) rfl (by omega) (fun c111 => ?_) (fun c111 => ?_)
                · skip
                  refine z_il C hl dX6_fewest_118 0 rfl 120 rfl ?_
                  refine z_bipush C dX6_fewest_120 (by decide) 122 rfl ?_
                  refine z_icmp_eq C dX6_fewest_122 138 125 (by decide) rfl (by omega) (fun c122 => ?_) (fun c122 => ?_)
                  · skip
                    refine z_sipush C dX6_fewest_138 (by decide) 141 rfl ?_
                    refine z_goto C dX6_fewest_141 153 (by decide) ?_
                    refine z_top (b := .int (iI (fewX v P D c0 t A k))) (congrArg (fun z => Value.int (iI z)) ((if_neg c111).trans (if_pos (Or.inl c122))).symm) ?_
                    have hfx := fewX_rng (v := v) (P := P) (D := D) (t := t) (k := k) (m := 20000) hc hA (by omega)
                    have hfn := fewN_rng (v := v) (P := P) (D := D) (t := t) (m := 20000) hc hA (by omega) k.toNat
                    refine z_is C hl dX6_fewest_153 155 rfl (by decide) (lv' := [(9, .int (iI (fewX v P D c0 t A k))), (8, .int (iI (wyN v P D t c0 k))), (7, .int (iI (k))), (6, .int (iI (1))), (5, .int (iI (mm))), (4, .int (iI (D))), (3, .int (iI (t))), (2, .int (iI (c0))), (1, .int (iI (kd))), (0, .ref (X 0))]) rfl (fun ls hl => ?_)
                    refine z_il C hl dX6_fewest_155 0 rfl 157 rfl ?_
                    refine z_il C hl dX6_fewest_157 4 rfl 159 rfl ?_
                    refine z_icmp_ge C dX6_fewest_159 167 162 (by decide) rfl (by omega) (fun c159 => ?_) (fun c159 => ?_)
                    · skip
                      refine z_il C hl dX6_fewest_167 4 rfl 169 rfl ?_
                      refine z_is C hl dX6_fewest_169 171 rfl (by decide) (lv' := [(5, .int (iI (mm))), (9, .int (iI (fewX v P D c0 t A k))), (8, .int (iI (wyN v P D t c0 k))), (7, .int (iI (k))), (6, .int (iI (1))), (4, .int (iI (D))), (3, .int (iI (t))), (2, .int (iI (c0))), (1, .int (iI (kd))), (0, .ref (X 0))]) rfl (fun ls hl => ?_)
                      refine z_iinc C hl dX6_fewest_171 174 rfl 3 rfl (z := 1 + k) (by omega) (by decide) (lv' := [(7, .int (iI (1 + k))), (5, .int (iI (mm))), (9, .int (iI (fewX v P D c0 t A k))), (8, .int (iI (wyN v P D t c0 k))), (6, .int (iI (1))), (4, .int (iI (D))), (3, .int (iI (t))), (2, .int (iI (c0))), (1, .int (iI (kd))), (0, .ref (X 0))]) rfl (fun ls hl => ?_)
                      refine z_goto C dX6_fewest_174 66 (by decide) ?_
                      exact ih66 mm (1 + k) (by omega) (by rw [fewN_s h1.1, ← h2, if_neg (by omega)]) (by omega) ls (lv_sub hl [0, 4, 1, 5, 6, 7, 8, 9] rfl)
                    · skip
                      refine z_il C hl dX6_fewest_162 0 rfl 164 rfl ?_
                      refine z_goto C dX6_fewest_164 169 (by decide) ?_
                      refine z_is C hl dX6_fewest_169 171 rfl (by decide) (lv' := [(5, .int (iI (fewX v P D c0 t A k))), (9, .int (iI (fewX v P D c0 t A k))), (8, .int (iI (wyN v P D t c0 k))), (7, .int (iI (k))), (6, .int (iI (1))), (4, .int (iI (D))), (3, .int (iI (t))), (2, .int (iI (c0))), (1, .int (iI (kd))), (0, .ref (X 0))]) rfl (fun ls hl => ?_)
                      refine z_iinc C hl dX6_fewest_171 174 rfl 3 rfl (z := 1 + k) (by omega) (by decide) (lv' := [(7, .int (iI (1 + k))), (5, .int (iI (fewX v P D c0 t A k))), (9, .int (iI (fewX v P D c0 t A k))), (8, .int (iI (wyN v P D t c0 k))), (6, .int (iI (1))), (4, .int (iI (D))), (3, .int (iI (t))), (2, .int (iI (c0))), (1, .int (iI (kd))), (0, .ref (X 0))]) rfl (fun ls hl => ?_)
                      refine z_goto C dX6_fewest_174 66 (by decide) ?_
                      exact ih66 (fewX v P D c0 t A k) (1 + k) (by omega) (by rw [fewN_s h1.1, ← h2, if_pos c159]) (by omega) ls (lv_sub hl [0, 4, 1, 5, 6, 7, 8, 9] rfl)
                  · skip
                    refine z_al_n C hl dX6_fewest_125 8 rfl 126 rfl ?_
                    refine z_iconst C dX6_fewest_126 127 rfl ?_
                    refine z_il C hl dX6_fewest_127 0 rfl 129 rfl ?_
                    refine z_il C hl dX6_fewest_129 4 rfl 131 rfl ?_
                    refine z_il_n C hl dX6_fewest_131 5 rfl 132 rfl ?_
                    refine z_VR (r := .int (iI (bZ (wreckB v (wyN v P D t c0 k) D t)))) (rest := []) C (m_xwrecks l G X kn ml kp (s2Z v y) 0 v (wyN v P D t c0 k) D t w (by omega) (s2_0 v y) (by omega) (by omega) (by omega)) kV_X6_101 ⟨Nat.le_of_ble_eq_true rfl, Nat.le_of_ble_eq_true rfl⟩ (gP_rg hP [0, 1] rfl) hK 0 rfl rfl rfl hl.1 rfl (Nat.le_of_ble_eq_true rfl) dX6_fewest_132 ⟨Nat.le_of_ble_eq_true rfl, Nat.le_of_ble_eq_true rfl⟩ 135 rfl ?_
                    refine z_ifb_eq C dX6_fewest_135 144 138 (by decide) rfl (fun c135 => ?_) (fun c135 => ?_)
                    · skip
                      have hAe := hA (wyN v P D t c0 k) (by omega) (by omega)
                      refine z_iconst C dX6_fewest_144 145 rfl ?_
                      refine z_al_n C hl dX6_fewest_145 8 rfl 146 rfl ?_
                      refine z_get C hP hK fl_X6_32 0 rfl rfl dX6_fewest_146 149 rfl ?_
                      refine z_il C hl dX6_fewest_149 0 rfl 151 rfl ?_
                      refine z_iaZ C (A) hP hK 2 rfl (by omega) (by decide) (A (wyN v P D t c0 k)) (rfl) dX6_fewest_151 152 rfl ?_
                      refine z_iadd C dX6_fewest_152 153 rfl (1 + A (wyN v P D t c0 k)) (by omega) ?_
                      refine z_top (b := .int (iI (fewX v P D c0 t A k))) (congrArg (fun z => Value.int (iI z)) ((if_neg c111).trans (if_neg (fun z => by rcases z with z | z; exact c122 z; rw [c135] at z; cases z))).symm) ?_
                      have hfx := fewX_rng (v := v) (P := P) (D := D) (t := t) (k := k) (m := 20000) hc hA (by omega)
                      have hfn := fewN_rng (v := v) (P := P) (D := D) (t := t) (m := 20000) hc hA (by omega) k.toNat
                      refine z_is C hl dX6_fewest_153 155 rfl (by decide) (lv' := [(9, .int (iI (fewX v P D c0 t A k))), (8, .int (iI (wyN v P D t c0 k))), (7, .int (iI (k))), (6, .int (iI (1))), (5, .int (iI (mm))), (4, .int (iI (D))), (3, .int (iI (t))), (2, .int (iI (c0))), (1, .int (iI (kd))), (0, .ref (X 0))]) rfl (fun ls hl => ?_)
                      refine z_il C hl dX6_fewest_155 0 rfl 157 rfl ?_
                      refine z_il C hl dX6_fewest_157 4 rfl 159 rfl ?_
                      refine z_icmp_ge C dX6_fewest_159 167 162 (by decide) rfl (by omega) (fun c159 => ?_) (fun c159 => ?_)
                      · skip
                        refine z_il C hl dX6_fewest_167 4 rfl 169 rfl ?_
                        refine z_is C hl dX6_fewest_169 171 rfl (by decide) (lv' := [(5, .int (iI (mm))), (9, .int (iI (fewX v P D c0 t A k))), (8, .int (iI (wyN v P D t c0 k))), (7, .int (iI (k))), (6, .int (iI (1))), (4, .int (iI (D))), (3, .int (iI (t))), (2, .int (iI (c0))), (1, .int (iI (kd))), (0, .ref (X 0))]) rfl (fun ls hl => ?_)
                        refine z_iinc C hl dX6_fewest_171 174 rfl 3 rfl (z := 1 + k) (by omega) (by decide) (lv' := [(7, .int (iI (1 + k))), (5, .int (iI (mm))), (9, .int (iI (fewX v P D c0 t A k))), (8, .int (iI (wyN v P D t c0 k))), (6, .int (iI (1))), (4, .int (iI (D))), (3, .int (iI (t))), (2, .int (iI (c0))), (1, .int (iI (kd))), (0, .ref (X 0))]) rfl (fun ls hl => ?_)
                        refine z_goto C dX6_fewest_174 66 (by decide) ?_
                        exact ih66 mm (1 + k) (by omega) (by rw [fewN_s h1.1, ← h2, if_neg (by omega)]) (by omega) ls (lv_sub hl [0, 4, 1, 5, 6, 7, 8, 9] rfl)
                      · skip
                        refine z_il C hl dX6_fewest_162 0 rfl 164 rfl ?_
                        refine z_goto C dX6_fewest_164 169 (by decide) ?_
                        refine z_is C hl dX6_fewest_169 171 rfl (by decide) (lv' := [(5, .int (iI (fewX v P D c0 t A k))), (9, .int (iI (fewX v P D c0 t A k))), (8, .int (iI (wyN v P D t c0 k))), (7, .int (iI (k))), (6, .int (iI (1))), (4, .int (iI (D))), (3, .int (iI (t))), (2, .int (iI (c0))), (1, .int (iI (kd))), (0, .ref (X 0))]) rfl (fun ls hl => ?_)
                        refine z_iinc C hl dX6_fewest_171 174 rfl 3 rfl (z := 1 + k) (by omega) (by decide) (lv' := [(7, .int (iI (1 + k))), (5, .int (iI (fewX v P D c0 t A k))), (9, .int (iI (fewX v P D c0 t A k))), (8, .int (iI (wyN v P D t c0 k))), (6, .int (iI (1))), (4, .int (iI (D))), (3, .int (iI (t))), (2, .int (iI (c0))), (1, .int (iI (kd))), (0, .ref (X 0))]) rfl (fun ls hl => ?_)
                        refine z_goto C dX6_fewest_174 66 (by decide) ?_
                        exact ih66 (fewX v P D c0 t A k) (1 + k) (by omega) (by rw [fewN_s h1.1, ← h2, if_pos c159]) (by omega) ls (lv_sub hl [0, 4, 1, 5, 6, 7, 8, 9] rfl)
                    · skip
                      refine z_sipush C dX6_fewest_138 (by decide) 141 rfl ?_
                      refine z_goto C dX6_fewest_141 153 (by decide) ?_
                      refine z_top (b := .int (iI (fewX v P D c0 t A k))) (congrArg (fun z => Value.int (iI z)) ((if_neg c111).trans (if_pos (Or.inr c135))).symm) ?_
                      have hfx := fewX_rng (v := v) (P := P) (D := D) (t := t) (k := k) (m := 20000) hc hA (by omega)
                      have hfn := fewN_rng (v := v) (P := P) (D := D) (t := t) (m := 20000) hc hA (by omega) k.toNat
                      refine z_is C hl dX6_fewest_153 155 rfl (by decide) (lv' := [(9, .int (iI (fewX v P D c0 t A k))), (8, .int (iI (wyN v P D t c0 k))), (7, .int (iI (k))), (6, .int (iI (1))), (5, .int (iI (mm))), (4, .int (iI (D))), (3, .int (iI (t))), (2, .int (iI (c0))), (1, .int (iI (kd))), (0, .ref (X 0))]) rfl (fun ls hl => ?_)
                      refine z_il C hl dX6_fewest_155 0 rfl 157 rfl ?_
                      refine z_il C hl dX6_fewest_157 4 rfl 159 rfl ?_
                      refine z_icmp_ge C dX6_fewest_159 167 162 (by decide) rfl (by omega) (fun c159 => ?_) (fun c159 => ?_)
                      · skip
                        refine z_il C hl dX6_fewest_167 4 rfl 169 rfl ?_
                        refine z_is C hl dX6_fewest_169 171 rfl (by decide) (lv' := [(5, .int (iI (mm))), (9, .int (iI (fewX v P D c0 t A k))), (8, .int (iI (wyN v P D t c0 k))), (7, .int (iI (k))), (6, .int (iI (1))), (4, .int (iI (D))), (3, .int (iI (t))), (2, .int (iI (c0))), (1, .int (iI (kd))), (0, .ref (X 0))]) rfl (fun ls hl => ?_)
                        refine z_iinc C hl dX6_fewest_171 174 rfl 3 rfl (z := 1 + k) (by omega) (by decide) (lv' := [(7, .int (iI (1 + k))), (5, .int (iI (mm))), (9, .int (iI (fewX v P D c0 t A k))), (8, .int (iI (wyN v P D t c0 k))), (6, .int (iI (1))), (4, .int (iI (D))), (3, .int (iI (t))), (2, .int (iI (c0))), (1, .int (iI (kd))), (0, .ref (X 0))]) rfl (fun ls hl => ?_)
                        refine z_goto C dX6_fewest_174 66 (by decide) ?_
                        exact ih66 mm (1 + k) (by omega) (by rw [fewN_s h1.1, ← h2, if_neg (by omega)]) (by omega) ls (lv_sub hl [0, 4, 1, 5, 6, 7, 8, 9] rfl)
                      · skip
                        refine z_il C hl dX6_fewest_162 0 rfl 164 rfl ?_
                        refine z_goto C dX6_fewest_164 169 (by decide) ?_
                        refine z_is C hl dX6_fewest_169 171 rfl (by decide) (lv' := [(5, .int (iI (fewX v P D c0 t A k))), (9, .int (iI (fewX v P D c0 t A k))), (8, .int (iI (wyN v P D t c0 k))), (7, .int (iI (k))), (6, .int (iI (1))), (4, .int (iI (D))), (3, .int (iI (t))), (2, .int (iI (c0))), (1, .int (iI (kd))), (0, .ref (X 0))]) rfl (fun ls hl => ?_)
                        refine z_iinc C hl dX6_fewest_171 174 rfl 3 rfl (z := 1 + k) (by omega) (by decide) (lv' := [(7, .int (iI (1 + k))), (5, .int (iI (fewX v P D c0 t A k))), (9, .int (iI (fewX v P D c0 t A k))), (8, .int (iI (wyN v P D t c0 k))), (6, .int (iI (1))), (4, .int (iI (D))), (3, .int (iI (t))), (2, .int (iI (c0))), (1, .int (iI (kd))), (0, .ref (X 0))]) rfl (fun ls hl => ?_)
                        refine z_goto C dX6_fewest_174 66 (by decide) ?_
                        exact ih66 (fewX v P D c0 t A k) (1 + k) (by omega) (by rw [fewN_s h1.1, ← h2, if_pos c159]) (by omega) ls (lv_sub hl [0, 4, 1, 5, 6, 7, 8, 9] rfl)
                · skip
                  refine z_iconst C dX6_fewest_114 115 rfl ?_
                  refine z_goto C dX6_fewest_115 153 (by decide) ?_
                  refine z_top (b := .int (iI (fewX v P D c0 t A k))) (congrArg (fun z => Value.int (iI z)) (if_pos c111).symm) ?_
                  have hfx := fewX_rng (v := v) (P := P) (D := D) (t := t) (k := k) (m := 20000) hc hA (by omega)
                  have hfn := fewN_rng (v := v) (P := P) (D := D) (t := t) (m := 20000) hc hA (by omega) k.toNat
                  refine z_is C hl dX6_fewest_153 155 rfl (by decide) (lv' := [(9, .int (iI (fewX v P D c0 t A k))), (8, .int (iI (wyN v P D t c0 k))), (7, .int (iI (k))), (6, .int (iI (1))), (5, .int (iI (mm))), (4, .int (iI (D))), (3, .int (iI (t))), (2, .int (iI (c0))), (1, .int (iI (kd))), (0, .ref (X 0))]) rfl (fun ls hl => ?_)
                  refine z_il C hl dX6_fewest_155 0 rfl 157 rfl ?_
                  refine z_il C hl dX6_fewest_157 4 rfl 159 rfl ?_
                  refine z_icmp_ge C dX6_fewest_159 167 162 (by decide) rfl (by omega) (fun c159 => ?_) (fun c159 => ?_)
                  · skip
                    refine z_il C hl dX6_fewest_167 4 rfl 169 rfl ?_
                    refine z_is C hl dX6_fewest_169 171 rfl (by decide) (lv' := [(5, .int (iI (mm))), (9, .int (iI (fewX v P D c0 t A k))), (8, .int (iI (wyN v P D t c0 k))), (7, .int (iI (k))), (6, .int (iI (1))), (4, .int (iI (D))), (3, .int (iI (t))), (2, .int (iI (c0))), (1, .int (iI (kd))), (0, .ref (X 0))]) rfl (fun ls hl => ?_)
                    refine z_iinc C hl dX6_fewest_171 174 rfl 3 rfl (z := 1 + k) (by omega) (by decide) (lv' := [(7, .int (iI (1 + k))), (5, .int (iI (mm))), (9, .int (iI (fewX v P D c0 t A k))), (8, .int (iI (wyN v P D t c0 k))), (6, .int (iI (1))), (4, .int (iI (D))), (3, .int (iI (t))), (2, .int (iI (c0))), (1, .int (iI (kd))), (0, .ref (X 0))]) rfl (fun ls hl => ?_)
                    refine z_goto C dX6_fewest_174 66 (by decide) ?_
                    exact ih66 mm (1 + k) (by omega) (by rw [fewN_s h1.1, ← h2, if_neg (by omega)]) (by omega) ls (lv_sub hl [0, 4, 1, 5, 6, 7, 8, 9] rfl)
                  · skip
                    refine z_il C hl dX6_fewest_162 0 rfl 164 rfl ?_
                    refine z_goto C dX6_fewest_164 169 (by decide) ?_
                    refine z_is C hl dX6_fewest_169 171 rfl (by decide) (lv' := [(5, .int (iI (fewX v P D c0 t A k))), (9, .int (iI (fewX v P D c0 t A k))), (8, .int (iI (wyN v P D t c0 k))), (7, .int (iI (k))), (6, .int (iI (1))), (4, .int (iI (D))), (3, .int (iI (t))), (2, .int (iI (c0))), (1, .int (iI (kd))), (0, .ref (X 0))]) rfl (fun ls hl => ?_)
                    refine z_iinc C hl dX6_fewest_171 174 rfl 3 rfl (z := 1 + k) (by omega) (by decide) (lv' := [(7, .int (iI (1 + k))), (5, .int (iI (fewX v P D c0 t A k))), (9, .int (iI (fewX v P D c0 t A k))), (8, .int (iI (wyN v P D t c0 k))), (6, .int (iI (1))), (4, .int (iI (D))), (3, .int (iI (t))), (2, .int (iI (c0))), (1, .int (iI (kd))), (0, .ref (X 0))]) rfl (fun ls hl => ?_)
                    refine z_goto C dX6_fewest_174 66 (by decide) ?_
                    exact ih66 (fewX v P D c0 t A k) (1 + k) (by omega) (by rw [fewN_s h1.1, ← h2, if_pos c159]) (by omega) ls (lv_sub hl [0, 4, 1, 5, 6, 7, 8, 9] rfl)
        exact L66 (Int.toNat (12 - 0) + 1) 10000 0 (by omega) (by show _ = (if wreckB v c0 D t = true then (10000 : Int) else 1 + A c0); rw [c15]; rfl) (by omega) ls (lv_sub hl [0, 1, 2, 3, 7, 6, 5, 4] rfl)

set_option maxHeartbeats 4000000 in
set_option maxRecDepth 100000 in
theorem m_xback (l : Launch) (G : gT) (X : Nat → Nat) (kn ml : Int) (kp : Bool) (v y L A0 : Int → Int) (b : Int) (w : Wf v) (hb : 0 ≤ b ∧ b < v 127) (hD : gD ([[moO X kn kp ml], [arI G (X 1) 258 (s2Z v y)], [arI G (X 7) 36 L], [arI G (X 8) 36 A0]] : List va_W).flatten) : MW l G yX6_back cX6_back 4 (some .int) 5 [.ref (X 0), .int (iI (b))] [[moO X kn kp ml], [arI G (X 1) 258 (s2Z v y)], [arI G (X 7) 36 L], [arI G (X 8) 36 A0]] [[moO X kn kp ml], [arI G (X 1) 258 (s2Z v y)], [arI G (X 7) 36 (lsA v (v (72 + 5 * b)) (v (73 + 5 * b)) L)], [arI G (X 8) 36 (dpN v (v (72 + 5 * b)) (v (73 + 5 * b)) (v 125 + 1 - v 126).toNat)]] ZT (some (.int (iI (baZ v (v (72 + 5 * b)) (v (73 + 5 * b)) (v (75 + 5 * b)))))) := by
  refine enterW (own := RX6) (by decide +kernel) rfl (Nat.le_of_ble_eq_true rfl) hD ?_
  intro p e s m below meth c C hW hK hZ ls hl
  have hl : lv_has ls 4 [(0, .ref (X 0)), (1, .int (iI (b)))] := hl
  have h127 := w.n
  have hw := w.b b (by omega)
  have hbb := w.bb b hb
  have ht := w.t
  have hs := w.s
  refine z_iconst C dX6_back_0 1 rfl ?_
  have hW := Wd.ceq (rs' := [[moO X kn kp ml], [arI G (X 1) 258 (s2Z v y)], [arI G (X 7) 36 L], [arI G (X 8) 36 (mixZ (fun _ => 10000) A0 0)]]) hW ⟨ceq.rf, ⟨ceq.rf, ⟨ceq.rf, ⟨ceq.I (fun k h8 h9 => (mixZ_0 h8).symm), trivial⟩⟩⟩⟩
  refine z_is_n C hl dX6_back_1 2 rfl (by decide) (lv' := [(2, .int (iI (0))), (0, .ref (X 0)), (1, .int (iI (b)))]) rfl (fun ls hl => ?_)
  have L2 : ∀ (fu : Nat) (k : Int) (h1 : 0 ≤ k ∧ k ≤ 36) (H : Heap) (locs : List Loc) (hW : Wd G (adr ([[moO X kn kp ml], [arI G (X 1) 258 (s2Z v y)], [arI G (X 7) 36 L], [arI G (X 8) 36 A0]] : List va_W).flatten) [[moO X kn kp ml], [arI G (X 1) 258 (s2Z v y)], [arI G (X 7) 36 L], [arI G (X 8) 36 (mixZ (fun _ => 10000) A0 k)]] s.heap H locs) (hm : 36 - k < (fu : Int)) (ls : Array Slot) (hl : lv_has ls 4 [(2, .int (iI (k))), (1, .int (iI (b))), (0, .ref (X 0))]), W p l e (rmN 5) s m [.ref (X 0), .int (iI (b))].toArray below meth c H locs 0 0 (MQ below (QW G [[moO X kn kp ml], [arI G (X 1) 258 (s2Z v y)], [arI G (X 7) 36 L], [arI G (X 8) 36 A0]] [[moO X kn kp ml], [arI G (X 1) 258 (s2Z v y)], [arI G (X 7) 36 (lsA v (v (72 + 5 * b)) (v (73 + 5 * b)) L)], [arI G (X 8) 36 (dpN v (v (72 + 5 * b)) (v (73 + 5 * b)) (v 125 + 1 - v 126).toNat)]] (some (.int (iI (baZ v (v (72 + 5 * b)) (v (73 + 5 * b)) (v (75 + 5 * b))))))) [.ref (X 0), .int (iI (b))].toArray s 0 0 (adr ([[moO X kn kp ml], [arI G (X 1) 258 (s2Z v y)], [arI G (X 7) 36 L], [arI G (X 8) 36 A0]] : List va_W).flatten)) (F0 m 2 ls []) := by
    intro fu
    induction fu with
    | zero => intro k h1 H locs hW hm ls hl; exfalso; omega
    | succ fu ih =>
      intro k h1 H locs hW hm ls hl
      have ih2 := ih
      refine z_il_n C hl dX6_back_2 0 rfl 3 rfl ?_
      refine z_bipush C dX6_back_3 (by decide) 5 rfl ?_
      refine z_icmp_ge C dX6_back_5 23 8 (by decide) rfl (by omega) (fun c5 => ?_) (fun c5 => ?_)
      · skip
        rw [show k = 36 by omega] at hW
        have hW := Wd.ceq (rs' := [[moO X kn kp ml], [arI G (X 1) 258 (s2Z v y)], [arI G (X 7) 36 L], [arI G (X 8) 36 (dpN v (v (72 + 5 * b)) (v (73 + 5 * b)) (v 125 - v 125).toNat)]]) hW ⟨ceq.rf, ⟨ceq.rf, ⟨ceq.rf, ⟨ceq.I (fun k h8 h9 => by rw [show v 125 - v 125 = 0 by omega]; exact mixZ_n (by omega)), trivial⟩⟩⟩⟩
        refine z_al_n C hl dX6_back_23 2 rfl 24 rfl ?_
        refine z_get C hW.1 hK fl_X6_7 0 rfl rfl dX6_back_24 27 rfl ?_
        refine z_bipush C dX6_back_27 (by decide) 29 rfl ?_
        refine z_iaZ C (s2Z v y) hW.1 hK 1 rfl (by omega) (by decide) (v 125) (s2_lo (by omega)) dX6_back_29 30 rfl ?_
        refine z_is_n C hl dX6_back_30 31 rfl (by decide) (lv' := [(2, .int (iI (v 125))), (1, .int (iI (b))), (0, .ref (X 0))]) rfl (fun ls hl => ?_)
        have L31 : ∀ (fu : Nat) (M : Int → Int) (t : Int) (f1 : t ≤ v 125 ∧ (v 126 - 1 ≤ t ∨ t = v 125)) (f2 : (t = v 125 ∧ M = L) ∨ (t < v 125 ∧ M = dpN v (v (72 + 5 * b)) (v (73 + 5 * b)) (v 125 - t).toNat)) (H : Heap) (locs : List Loc) (hW : Wd G (adr ([[moO X kn kp ml], [arI G (X 1) 258 (s2Z v y)], [arI G (X 7) 36 L], [arI G (X 8) 36 A0]] : List va_W).flatten) [[moO X kn kp ml], [arI G (X 1) 258 (s2Z v y)], [arI G (X 7) 36 M], [arI G (X 8) 36 (dpN v (v (72 + 5 * b)) (v (73 + 5 * b)) (v 125 - t).toNat)]] s.heap H locs) (hm : t + 1 < (fu : Int)) (ls : Array Slot) (hl : lv_has ls 4 [(2, .int (iI (t))), (1, .int (iI (b))), (0, .ref (X 0))]), W p l e (rmN 5) s m [.ref (X 0), .int (iI (b))].toArray below meth c H locs 0 0 (MQ below (QW G [[moO X kn kp ml], [arI G (X 1) 258 (s2Z v y)], [arI G (X 7) 36 L], [arI G (X 8) 36 A0]] [[moO X kn kp ml], [arI G (X 1) 258 (s2Z v y)], [arI G (X 7) 36 (lsA v (v (72 + 5 * b)) (v (73 + 5 * b)) L)], [arI G (X 8) 36 (dpN v (v (72 + 5 * b)) (v (73 + 5 * b)) (v 125 + 1 - v 126).toNat)]] (some (.int (iI (baZ v (v (72 + 5 * b)) (v (73 + 5 * b)) (v (75 + 5 * b))))))) [.ref (X 0), .int (iI (b))].toArray s 0 0 (adr ([[moO X kn kp ml], [arI G (X 1) 258 (s2Z v y)], [arI G (X 7) 36 L], [arI G (X 8) 36 A0]] : List va_W).flatten)) (F0 m 31 ls []) := by
          intro fu
          induction fu with
          | zero => intro M t f1 f2 H locs hW hm ls hl; exfalso; omega
          | succ fu ih =>
            intro M t f1 f2 H locs hW hm ls hl
            have ih31 := ih
            refine z_il_n C hl dX6_back_31 0 rfl 32 rfl ?_
            refine z_al_n C hl dX6_back_32 2 rfl 33 rfl ?_
            refine z_get C hW.1 hK fl_X6_7 0 rfl rfl dX6_back_33 36 rfl ?_
            refine z_bipush C dX6_back_36 (by decide) 38 rfl ?_
            refine z_iaZ C (s2Z v y) hW.1 hK 1 rfl (by omega) (by decide) (v 126) (s2_lo (by omega)) dX6_back_38 39 rfl ?_
            refine z_icmp_lt C dX6_back_39 106 42 (by decide) rfl (by omega) (fun c39 => ?_) (fun c39 => ?_)
            · skip
              have hk9 : (v 125 + 1 - v 126).toNat = (v 125 - t).toNat := by omega
              have h3 : lsA v (v (72 + 5 * b)) (v (73 + 5 * b)) L = M := by unfold lsA; rcases f2 with f2 | f2 <;> (first | rw [if_neg (by omega), f2.2] | rw [if_pos (by omega), f2.2, hk9])
              have hdr := dpN_rng (v := v) (P := v (72 + 5 * b)) (D := v (73 + 5 * b)) (v 125 - t).toNat (v (75 + 5 * b)) (by omega) (by omega)
              rw [← hk9] at hW
              rw [← hk9] at hdr
              refine z_al_n C hl dX6_back_106 2 rfl 107 rfl ?_
              refine z_get C hW.1 hK fl_X6_32 0 rfl rfl dX6_back_107 110 rfl ?_
              refine z_al_n C hl dX6_back_110 2 rfl 111 rfl ?_
              refine z_iconst C dX6_back_111 112 rfl ?_
              refine z_il_n C hl dX6_back_112 1 rfl 113 rfl ?_
              refine z_iconst C dX6_back_113 114 rfl ?_
              refine z_VR (r := .int (iI (v (75 + 5 * b)))) (rest := [.ref (X 8)]) C (m_xits l G X kn ml kp (s2Z v y) 0 v b 3 (75 + 5 * b)  (by omega) (s2_0 v y) (by omega) (by omega)) kV_X6_68 ⟨Nat.le_of_ble_eq_true rfl, Nat.le_of_ble_eq_true rfl⟩ (gP_rg hW.1 [0, 1] rfl) hK 0 rfl rfl rfl hl.1 rfl (Nat.le_of_ble_eq_true rfl) dX6_back_114 ⟨Nat.le_of_ble_eq_true rfl, Nat.le_of_ble_eq_true rfl⟩ 117 rfl ?_
              refine z_iaZ C ((dpN v (v (72 + 5 * b)) (v (73 + 5 * b)) (v 125 + 1 - v 126).toNat)) hW.1 hK 3 rfl (by omega) (by decide) ((dpN v (v (72 + 5 * b)) (v (73 + 5 * b)) (v 125 + 1 - v 126).toNat) (v (75 + 5 * b))) (rfl) dX6_back_117 118 rfl ?_
              refine z_is_n C hl dX6_back_118 119 rfl (by decide) (lv' := [(2, .int (iI (((dpN v (v (72 + 5 * b)) (v (73 + 5 * b)) (v 125 + 1 - v 126).toNat) (v (75 + 5 * b)))))), (1, .int (iI (b))), (0, .ref (X 0))]) rfl (fun ls hl => ?_)
              refine z_il_n C hl dX6_back_119 0 rfl 120 rfl ?_
              refine z_sipush C dX6_back_120 (by decide) 123 rfl ?_
              refine z_icmp_ge C dX6_back_123 130 126 (by decide) rfl (by omega) (fun c123 => ?_) (fun c123 => ?_)
              · skip
                refine z_bipush C dX6_back_130 (by decide) 132 rfl ?_
                have hr : baZ v (v (72 + 5 * b)) (v (73 + 5 * b)) (v (75 + 5 * b)) = -5 := by unfold baZ; rw [if_neg (by omega)]
                rw [hr, h3]
                exact z_wi C hW dX6_back_132 rfl rfl
              · skip
                refine z_il_n C hl dX6_back_126 0 rfl 127 rfl ?_
                refine z_goto C dX6_back_127 132 (by decide) ?_
                have hr : baZ v (v (72 + 5 * b)) (v (73 + 5 * b)) (v (75 + 5 * b)) = ((dpN v (v (72 + 5 * b)) (v (73 + 5 * b)) (v 125 + 1 - v 126).toNat) (v (75 + 5 * b))) := by unfold baZ; rw [if_pos c123]
                rw [hr, h3]
                exact z_wi C hW dX6_back_132 rfl rfl
            · skip
              refine z_iconst C dX6_back_42 43 rfl ?_
              have hdr := dpN_rng (v := v) (P := v (72 + 5 * b)) (D := v (73 + 5 * b)) (v 125 - t).toNat
              have hW := Wd.ceq (rs' := [[moO X kn kp ml], [arI G (X 1) 258 (s2Z v y)], [arI G (X 7) 36 (mixZ (fun c => fewZ v (v (72 + 5 * b)) (v (73 + 5 * b)) c t (dpN v (v (72 + 5 * b)) (v (73 + 5 * b)) (v 125 - t).toNat)) M 0)], [arI G (X 8) 36 (dpN v (v (72 + 5 * b)) (v (73 + 5 * b)) (v 125 - t).toNat)]]) hW ⟨ceq.rf, ⟨ceq.rf, ⟨ceq.I (fun k h8 h9 => (mixZ_0 h8).symm), ceqs.rf⟩⟩⟩
              refine z_is_n C hl dX6_back_43 44 rfl (by decide) (lv' := [(3, .int (iI (0))), (2, .int (iI (t))), (1, .int (iI (b))), (0, .ref (X 0))]) rfl (fun ls hl => ?_)
              have L44 : ∀ (fu : Nat) (k : Int) (h1 : 0 ≤ k ∧ k ≤ 36) (H : Heap) (locs : List Loc) (hW : Wd G (adr ([[moO X kn kp ml], [arI G (X 1) 258 (s2Z v y)], [arI G (X 7) 36 L], [arI G (X 8) 36 A0]] : List va_W).flatten) [[moO X kn kp ml], [arI G (X 1) 258 (s2Z v y)], [arI G (X 7) 36 (mixZ (fun c => fewZ v (v (72 + 5 * b)) (v (73 + 5 * b)) c t (dpN v (v (72 + 5 * b)) (v (73 + 5 * b)) (v 125 - t).toNat)) M k)], [arI G (X 8) 36 (dpN v (v (72 + 5 * b)) (v (73 + 5 * b)) (v 125 - t).toNat)]] s.heap H locs) (hm : 36 - k < (fu : Int)) (ls : Array Slot) (hl : lv_has ls 4 [(3, .int (iI (k))), (2, .int (iI (t))), (1, .int (iI (b))), (0, .ref (X 0))]), W p l e (rmN 5) s m [.ref (X 0), .int (iI (b))].toArray below meth c H locs 0 0 (MQ below (QW G [[moO X kn kp ml], [arI G (X 1) 258 (s2Z v y)], [arI G (X 7) 36 L], [arI G (X 8) 36 A0]] [[moO X kn kp ml], [arI G (X 1) 258 (s2Z v y)], [arI G (X 7) 36 (lsA v (v (72 + 5 * b)) (v (73 + 5 * b)) L)], [arI G (X 8) 36 (dpN v (v (72 + 5 * b)) (v (73 + 5 * b)) (v 125 + 1 - v 126).toNat)]] (some (.int (iI (baZ v (v (72 + 5 * b)) (v (73 + 5 * b)) (v (75 + 5 * b))))))) [.ref (X 0), .int (iI (b))].toArray s 0 0 (adr ([[moO X kn kp ml], [arI G (X 1) 258 (s2Z v y)], [arI G (X 7) 36 L], [arI G (X 8) 36 A0]] : List va_W).flatten)) (F0 m 44 ls []) := by
                intro fu
                induction fu with
                | zero => intro k h1 H locs hW hm ls hl; exfalso; omega
                | succ fu ih =>
                  intro k h1 H locs hW hm ls hl
                  have ih44 := ih
                  refine z_il_n C hl dX6_back_44 0 rfl 45 rfl ?_
                  refine z_bipush C dX6_back_45 (by decide) 47 rfl ?_
                  refine z_icmp_ge C dX6_back_47 74 50 (by decide) rfl (by omega) (fun c47 => ?_) (fun c47 => ?_)
                  · skip
                    rw [show k = 36 by omega] at hW
                    have hW := Wd.ceq (rs' := [[moO X kn kp ml], [arI G (X 1) 258 (s2Z v y)], [arI G (X 7) 36 (dpN v (v (72 + 5 * b)) (v (73 + 5 * b)) (v 125 + 1 - t).toNat)], [arI G (X 8) 36 (dpN v (v (72 + 5 * b)) (v (73 + 5 * b)) (v 125 - t).toNat)]]) hW ⟨ceq.rf, ⟨ceq.rf, ⟨ceq.I (fun k h8 h9 => (mixZ_n (by omega)).trans (by rw [dpN_1 (k := v 125 + 1 - t) (by omega), show v 125 + 1 - (v 125 + 1 - t) = t by omega, show v 125 + 1 - t - 1 = v 125 - t by omega])), ceqs.rf⟩⟩⟩
                    have hW := Wd.ceq (rs' := [[moO X kn kp ml], [arI G (X 1) 258 (s2Z v y)], [arI G (X 7) 36 (dpN v (v (72 + 5 * b)) (v (73 + 5 * b)) (v 125 + 1 - t).toNat)], [arI G (X 8) 36 (mixZ (dpN v (v (72 + 5 * b)) (v (73 + 5 * b)) (v 125 + 1 - t).toNat) (dpN v (v (72 + 5 * b)) (v (73 + 5 * b)) (v 125 - t).toNat) 0)]]) hW ⟨ceq.rf, ⟨ceq.rf, ⟨ceq.rf, ⟨ceq.I (fun k h8 h9 => (mixZ_0 h8).symm), trivial⟩⟩⟩⟩
                    refine z_iconst C dX6_back_74 75 rfl ?_
                    refine z_is_n C hl dX6_back_75 76 rfl (by decide) (lv' := [(3, .int (iI (0))), (2, .int (iI (t))), (1, .int (iI (b))), (0, .ref (X 0))]) rfl (fun ls hl => ?_)
                    have L76 : ∀ (fu : Nat) (k : Int) (h1 : 0 ≤ k ∧ k ≤ 36) (H : Heap) (locs : List Loc) (hW : Wd G (adr ([[moO X kn kp ml], [arI G (X 1) 258 (s2Z v y)], [arI G (X 7) 36 L], [arI G (X 8) 36 A0]] : List va_W).flatten) [[moO X kn kp ml], [arI G (X 1) 258 (s2Z v y)], [arI G (X 7) 36 (dpN v (v (72 + 5 * b)) (v (73 + 5 * b)) (v 125 + 1 - t).toNat)], [arI G (X 8) 36 (mixZ (dpN v (v (72 + 5 * b)) (v (73 + 5 * b)) (v 125 + 1 - t).toNat) (dpN v (v (72 + 5 * b)) (v (73 + 5 * b)) (v 125 - t).toNat) k)]] s.heap H locs) (hm : 36 - k < (fu : Int)) (ls : Array Slot) (hl : lv_has ls 4 [(3, .int (iI (k))), (2, .int (iI (t))), (1, .int (iI (b))), (0, .ref (X 0))]), W p l e (rmN 5) s m [.ref (X 0), .int (iI (b))].toArray below meth c H locs 0 0 (MQ below (QW G [[moO X kn kp ml], [arI G (X 1) 258 (s2Z v y)], [arI G (X 7) 36 L], [arI G (X 8) 36 A0]] [[moO X kn kp ml], [arI G (X 1) 258 (s2Z v y)], [arI G (X 7) 36 (lsA v (v (72 + 5 * b)) (v (73 + 5 * b)) L)], [arI G (X 8) 36 (dpN v (v (72 + 5 * b)) (v (73 + 5 * b)) (v 125 + 1 - v 126).toNat)]] (some (.int (iI (baZ v (v (72 + 5 * b)) (v (73 + 5 * b)) (v (75 + 5 * b))))))) [.ref (X 0), .int (iI (b))].toArray s 0 0 (adr ([[moO X kn kp ml], [arI G (X 1) 258 (s2Z v y)], [arI G (X 7) 36 L], [arI G (X 8) 36 A0]] : List va_W).flatten)) (F0 m 76 ls []) := by
                      intro fu
                      induction fu with
                      | zero => intro k h1 H locs hW hm ls hl; exfalso; omega
                      | succ fu ih =>
                        intro k h1 H locs hW hm ls hl
                        have ih76 := ih
                        refine z_il_n C hl dX6_back_76 0 rfl 77 rfl ?_
                        refine z_bipush C dX6_back_77 (by decide) 79 rfl ?_
                        refine z_icmp_ge C dX6_back_79 100 82 (by decide) rfl (by omega) (fun c79 => ?_) (fun c79 => ?_)
                        · skip
                          rw [show k = 36 by omega] at hW
                          have hW := Wd.ceq (rs' := [[moO X kn kp ml], [arI G (X 1) 258 (s2Z v y)], [arI G (X 7) 36 (dpN v (v (72 + 5 * b)) (v (73 + 5 * b)) (v 125 + 1 - t).toNat)], [arI G (X 8) 36 (dpN v (v (72 + 5 * b)) (v (73 + 5 * b)) (v 125 - (t - 1)).toNat)]]) hW ⟨ceq.rf, ⟨ceq.rf, ⟨ceq.rf, ⟨ceq.I (fun k h8 h9 => (mixZ_n (by omega)).trans (by rw [show v 125 - (t - 1) = v 125 + 1 - t by omega])), trivial⟩⟩⟩⟩
                          refine z_iinc C hl dX6_back_100 103 rfl 1 rfl (z := t - 1) (by omega) (by decide) (lv' := [(2, .int (iI (t - 1))), (3, .int (iI (k))), (1, .int (iI (b))), (0, .ref (X 0))]) rfl (fun ls hl => ?_)
                          refine z_goto C dX6_back_103 31 (by decide) ?_
                          exact ih31 (dpN v (v (72 + 5 * b)) (v (73 + 5 * b)) (v 125 + 1 - t).toNat) (t - 1) (by omega) (Or.inr ⟨by omega, by rw [show v 125 - (t - 1) = v 125 + 1 - t by omega]⟩) _ _ hW (by omega) ls (lv_sub hl [0, 2, 3] rfl)
                        · skip
                          refine z_al_n C hl dX6_back_82 3 rfl 83 rfl ?_
                          refine z_get C hW.1 hK fl_X6_32 0 rfl rfl dX6_back_83 86 rfl ?_
                          refine z_il_n C hl dX6_back_86 0 rfl 87 rfl ?_
                          refine z_al_n C hl dX6_back_87 3 rfl 88 rfl ?_
                          refine z_get C hW.1 hK fl_X6_29 0 rfl rfl dX6_back_88 91 rfl ?_
                          refine z_il_n C hl dX6_back_91 0 rfl 92 rfl ?_
                          refine z_iaZ C ((dpN v (v (72 + 5 * b)) (v (73 + 5 * b)) (v 125 + 1 - t).toNat)) hW.1 hK 2 rfl (by omega) (by decide) ((dpN v (v (72 + 5 * b)) (v (73 + 5 * b)) (v 125 + 1 - t).toNat) k) (rfl) dX6_back_92 93 rfl ?_
                          refine z_iasZ C (mixZ (dpN v (v (72 + 5 * b)) (v (73 + 5 * b)) (v 125 + 1 - t).toNat) (dpN v (v (72 + 5 * b)) (v (73 + 5 * b)) (v 125 - t).toNat) k) hW hK 3 rfl (by omega) (by decide) dX6_back_93 94 rfl (rs' := [[moO X kn kp ml], [arI G (X 1) 258 (s2Z v y)], [arI G (X 7) 36 (dpN v (v (72 + 5 * b)) (v (73 + 5 * b)) (v 125 + 1 - t).toNat)], [arI G (X 8) 36 (updZ (mixZ (dpN v (v (72 + 5 * b)) (v (73 + 5 * b)) (v 125 + 1 - t).toNat) (dpN v (v (72 + 5 * b)) (v (73 + 5 * b)) (v 125 - t).toNat) k) k ((dpN v (v (72 + 5 * b)) (v (73 + 5 * b)) (v 125 + 1 - t).toNat) k))]]) rfl (fun H locs hW => ?_)
                          rw [mixZ_s, Int.add_comm k 1] at hW
                          refine z_iinc C hl dX6_back_94 97 rfl 0 rfl (z := 1 + k) (by omega) (by decide) (lv' := [(3, .int (iI (1 + k))), (2, .int (iI (t))), (1, .int (iI (b))), (0, .ref (X 0))]) rfl (fun ls hl => ?_)
                          refine z_goto C dX6_back_97 76 (by decide) ?_
                          exact ih76 (1 + k) (by omega) _ _ hW (by omega) ls (lv_sub hl [0, 1, 2, 3] rfl)
                    exact L76 (Int.toNat (36 - 0) + 1) 0 (by omega) _ _ hW (by omega) ls (lv_sub hl [0, 1, 2, 3] rfl)
                  · skip
                    refine z_al_n C hl dX6_back_50 3 rfl 51 rfl ?_
                    refine z_get C hW.1 hK fl_X6_29 0 rfl rfl dX6_back_51 54 rfl ?_
                    refine z_il_n C hl dX6_back_54 0 rfl 55 rfl ?_
                    refine z_al_n C hl dX6_back_55 3 rfl 56 rfl ?_
                    refine z_al_n C hl dX6_back_56 3 rfl 57 rfl ?_
                    refine z_iconst C dX6_back_57 58 rfl ?_
                    refine z_il_n C hl dX6_back_58 2 rfl 59 rfl ?_
                    refine z_VR (r := .int (iI (100 * v (72 + 5 * b) + v (73 + 5 * b)))) (rest := [.ref (X 0), .int (iI (k)), .ref (X 7)]) C (m_xkind l G X kn ml kp (s2Z v y) 0 v b w (by omega) (s2_0 v y) (by omega)) kV_X6_85 ⟨Nat.le_of_ble_eq_true rfl, Nat.le_of_ble_eq_true rfl⟩ (gP_rg hW.1 [0, 1] rfl) hK 0 rfl rfl rfl hl.1 rfl (Nat.le_of_ble_eq_true rfl) dX6_back_59 ⟨Nat.le_of_ble_eq_true rfl, Nat.le_of_ble_eq_true rfl⟩ 62 rfl ?_
                    refine z_il_n C hl dX6_back_62 0 rfl 63 rfl ?_
                    refine z_il_n C hl dX6_back_63 1 rfl 64 rfl ?_
                    refine z_VR (r := .int (iI (fewZ v (v (72 + 5 * b)) (v (73 + 5 * b)) k t (dpN v (v (72 + 5 * b)) (v (73 + 5 * b)) (v 125 - t).toNat)))) (rest := [.int (iI (k)), .ref (X 7)]) C (m_xfew l G X kn ml kp v y (dpN v (v (72 + 5 * b)) (v (73 + 5 * b)) (v 125 - t).toNat) (100 * v (72 + 5 * b) + v (73 + 5 * b)) k t (v (72 + 5 * b)) (v (73 + 5 * b)) w (by omega) (by omega) (by omega) (by omega) (by omega) (fun c g1 g2 => by have := hdr c g1 g2; omega)) kV_X6_190 ⟨Nat.le_of_ble_eq_true rfl, Nat.le_of_ble_eq_true rfl⟩ (gP_rg hW.1 [0, 1, 3] rfl) hK 0 rfl rfl rfl hl.1 rfl (Nat.le_of_ble_eq_true rfl) dX6_back_64 ⟨Nat.le_of_ble_eq_true rfl, Nat.le_of_ble_eq_true rfl⟩ 67 rfl ?_
                    refine z_iasZ C (mixZ (fun c => fewZ v (v (72 + 5 * b)) (v (73 + 5 * b)) c t (dpN v (v (72 + 5 * b)) (v (73 + 5 * b)) (v 125 - t).toNat)) M k) hW hK 2 rfl (by omega) (by decide) dX6_back_67 68 rfl (rs' := [[moO X kn kp ml], [arI G (X 1) 258 (s2Z v y)], [arI G (X 7) 36 (updZ (mixZ (fun c => fewZ v (v (72 + 5 * b)) (v (73 + 5 * b)) c t (dpN v (v (72 + 5 * b)) (v (73 + 5 * b)) (v 125 - t).toNat)) M k) k (fewZ v (v (72 + 5 * b)) (v (73 + 5 * b)) k t (dpN v (v (72 + 5 * b)) (v (73 + 5 * b)) (v 125 - t).toNat)))], [arI G (X 8) 36 (dpN v (v (72 + 5 * b)) (v (73 + 5 * b)) (v 125 - t).toNat)]]) rfl (fun H locs hW => ?_)
                    rw [show updZ (mixZ (fun c => fewZ v (v (72 + 5 * b)) (v (73 + 5 * b)) c t (dpN v (v (72 + 5 * b)) (v (73 + 5 * b)) (v 125 - t).toNat)) M k) k (fewZ v (v (72 + 5 * b)) (v (73 + 5 * b)) k t (dpN v (v (72 + 5 * b)) (v (73 + 5 * b)) (v 125 - t).toNat)) = mixZ (fun c => fewZ v (v (72 + 5 * b)) (v (73 + 5 * b)) c t (dpN v (v (72 + 5 * b)) (v (73 + 5 * b)) (v 125 - t).toNat)) M (1 + k) from (mixZ_s (f := (fun c => fewZ v (v (72 + 5 * b)) (v (73 + 5 * b)) c t (dpN v (v (72 + 5 * b)) (v (73 + 5 * b)) (v 125 - t).toNat)))).trans (by rw [Int.add_comm k 1])] at hW
                    refine z_iinc C hl dX6_back_68 71 rfl 0 rfl (z := 1 + k) (by omega) (by decide) (lv' := [(3, .int (iI (1 + k))), (2, .int (iI (t))), (1, .int (iI (b))), (0, .ref (X 0))]) rfl (fun ls hl => ?_)
                    refine z_goto C dX6_back_71 44 (by decide) ?_
                    exact ih44 (1 + k) (by omega) _ _ hW (by omega) ls (lv_sub hl [0, 1, 2, 3] rfl)
              exact L44 (Int.toNat (36 - 0) + 1) 0 (by omega) _ _ hW (by omega) ls (lv_sub hl [0, 1, 2, 3] rfl)
        exact L31 (Int.toNat ((v 125) + 1) + 1) L (v 125) (by omega) (Or.inl ⟨rfl, rfl⟩) _ _ hW (by omega) ls (lv_sub hl [0, 1, 2] rfl)
      · skip
        refine z_al_n C hl dX6_back_8 2 rfl 9 rfl ?_
        refine z_get C hW.1 hK fl_X6_32 0 rfl rfl dX6_back_9 12 rfl ?_
        refine z_il_n C hl dX6_back_12 0 rfl 13 rfl ?_
        refine z_sipush C dX6_back_13 (by decide) 16 rfl ?_
        refine z_iasZ C ((mixZ (fun _ => 10000) A0 k)) hW hK 3 rfl (by omega) (by decide) dX6_back_16 17 rfl (rs' := [[moO X kn kp ml], [arI G (X 1) 258 (s2Z v y)], [arI G (X 7) 36 L], [arI G (X 8) 36 (updZ (mixZ (fun _ => 10000) A0 k) k 10000)]]) rfl (fun H locs hW => ?_)
        rw [show updZ (mixZ (fun _ => 10000) A0 k) k 10000 = mixZ (fun _ => 10000) A0 (1 + k) from (mixZ_s (f := (fun _ => 10000))).trans (by rw [Int.add_comm k 1])] at hW
        refine z_iinc C hl dX6_back_17 20 rfl 0 rfl (z := 1 + k) (by omega) (by decide) (lv' := [(2, .int (iI (1 + k))), (1, .int (iI (b))), (0, .ref (X 0))]) rfl (fun ls hl => ?_)
        refine z_goto C dX6_back_20 2 (by decide) ?_
        exact ih2 (1 + k) (by omega) _ _ hW (by omega) ls (lv_sub hl [0, 1, 2] rfl)
  exact L2 (Int.toNat (36 - 0) + 1) 0 (by omega) _ _ hW (by omega) ls (lv_sub hl [0, 2, 1] rfl)
