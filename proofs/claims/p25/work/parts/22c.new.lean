set_option maxHeartbeats 400000 in
set_option maxRecDepth 100000 in
theorem n_State (l : Launch) (G : gT) (sz : Nat) (h : Nat) : MN l G yX4_init cX4_init 2 1 7 122 [.ref (h)] h sz (.inr (4, [.null, .null, .null, .null, .null, .null, .null, .int (iI (0)), .int (iI (0)), .int (iI (0)), .int (iI (0)), .int (iI (0)), .int (iI (0)), .int (iI (0))])) ZT (fun q : Nat → Nat => [stW G q v0Z]) (fun q => q 0 = h) := by
  refine enterN (own := RX4) (by decide +kernel) rfl rfl (Nat.le_of_ble_eq_true rfl) ?_
  intro p e s m below meth c C hini hsz hW hK hZ ls hl
  have hA : ∀ q, s.heap.size ≤ q → Afr h sz q := fun q h => Or.inr (by omega)
  have hl : lv_has ls 2 [(0, .ref (h))] := hl
  refine z_al_n C hl dX4_init_0 0 rfl 1 rfl ?_
  refine z_obj C qo_X4 hl.1 ⟨Nat.le_of_ble_eq_true rfl, Nat.le_of_ble_eq_true rfl⟩ dX4_init_1 4 rfl ?_
  refine z_al_n C hl dX4_init_4 0 rfl 5 rfl ?_
  refine z_bipush C dX4_init_5 (by decide) 7 rfl ?_
  refine z_newa (at_ := .int) 0 (N := 36) (a0 := (36, .inl (fun k : Nat => iI ((fun _ : Int => (0 : Int)) k)))) C hK hW hA qa_int rfl rfl ra_int (fun _ => rfl) (by decide) rfl (Nat.le_of_ble_eq_true rfl) (Nat.le_of_ble_eq_true rfl) (Nat.le_of_ble_eq_true rfl) dX4_init_7 9 rfl (fun a7 H hW => ?_)
  have hW := hW.re (rs' := [[(h, .inr (4, [.null, .null, .null, .null, .null, .null, .null, .int (iI (0)), .int (iI (0)), .int (iI (0)), .int (iI (0)), .int (iI (0)), .int (iI (0)), .int (iI (0))]))], [arI G a7 36 (fun _ => 0)]]) rfl
  refine z_putF C hW hK fl_X4_9 fc_X4_0 hini rfl 0 rfl (rfl) (rfl) (Nat.le_of_ble_eq_true rfl) dX4_init_9 12 rfl (rs' := [[(h, .inr (4, [.ref (a7), .null, .null, .null, .null, .null, .null, .int (iI (0)), .int (iI (0)), .int (iI (0)), .int (iI (0)), .int (iI (0)), .int (iI (0)), .int (iI (0))]))], [arI G a7 36 (fun _ => 0)]]) rfl (fun H locs hW => ?_)
  refine z_al_n C hl dX4_init_12 0 rfl 13 rfl ?_
  refine z_bipush C dX4_init_13 (by decide) 15 rfl ?_
  refine z_newa (at_ := .int) 0 (N := 36) (a0 := (36, .inl (fun k : Nat => iI ((fun _ : Int => (0 : Int)) k)))) C hK hW hA qa_int rfl rfl ra_int (fun _ => rfl) (by decide) rfl (Nat.le_of_ble_eq_true rfl) (Nat.le_of_ble_eq_true rfl) (Nat.le_of_ble_eq_true rfl) dX4_init_15 17 rfl (fun a15 H hW => ?_)
  have hW := hW.re (rs' := [[(h, .inr (4, [.ref (a7), .null, .null, .null, .null, .null, .null, .int (iI (0)), .int (iI (0)), .int (iI (0)), .int (iI (0)), .int (iI (0)), .int (iI (0)), .int (iI (0))]))], [arI G a7 36 (fun _ => 0)], [arI G a15 36 (fun _ => 0)]]) rfl
  refine z_putF C hW hK fl_X4_15 fc_X4_1 hini rfl 0 rfl (rfl) (rfl) (Nat.le_of_ble_eq_true rfl) dX4_init_17 20 rfl (rs' := [[(h, .inr (4, [.ref (a7), .ref (a15), .null, .null, .null, .null, .null, .int (iI (0)), .int (iI (0)), .int (iI (0)), .int (iI (0)), .int (iI (0)), .int (iI (0)), .int (iI (0))]))], [arI G a7 36 (fun _ => 0)], [arI G a15 36 (fun _ => 0)]]) rfl (fun H locs hW => ?_)
  refine z_al_n C hl dX4_init_20 0 rfl 21 rfl ?_
  refine z_bipush C dX4_init_21 (by decide) 23 rfl ?_
  refine z_newa (at_ := .int) 0 (N := 10) (a0 := (10, .inl (fun k : Nat => iI ((fun _ : Int => (0 : Int)) k)))) C hK hW hA qa_int rfl rfl ra_int (fun _ => rfl) (by decide) rfl (Nat.le_of_ble_eq_true rfl) (Nat.le_of_ble_eq_true rfl) (Nat.le_of_ble_eq_true rfl) dX4_init_23 25 rfl (fun a23 H hW => ?_)
  have hW := hW.re (rs' := [[(h, .inr (4, [.ref (a7), .ref (a15), .null, .null, .null, .null, .null, .int (iI (0)), .int (iI (0)), .int (iI (0)), .int (iI (0)), .int (iI (0)), .int (iI (0)), .int (iI (0))]))], [arI G a7 36 (fun _ => 0)], [arI G a15 36 (fun _ => 0)], [arI G a23 10 (fun _ => 0)]]) rfl
  refine z_putF C hW hK fl_X4_18 fc_X4_2 hini rfl 0 rfl (rfl) (rfl) (Nat.le_of_ble_eq_true rfl) dX4_init_25 28 rfl (rs' := [[(h, .inr (4, [.ref (a7), .ref (a15), .ref (a23), .null, .null, .null, .null, .int (iI (0)), .int (iI (0)), .int (iI (0)), .int (iI (0)), .int (iI (0)), .int (iI (0)), .int (iI (0))]))], [arI G a7 36 (fun _ => 0)], [arI G a15 36 (fun _ => 0)], [arI G a23 10 (fun _ => 0)]]) rfl (fun H locs hW => ?_)
  refine z_al_n C hl dX4_init_28 0 rfl 29 rfl ?_
  refine z_bipush C dX4_init_29 (by decide) 31 rfl ?_
  refine z_newa (at_ := .int) 0 (N := 10) (a0 := (10, .inl (fun k : Nat => iI ((fun _ : Int => (0 : Int)) k)))) C hK hW hA qa_int rfl rfl ra_int (fun _ => rfl) (by decide) rfl (Nat.le_of_ble_eq_true rfl) (Nat.le_of_ble_eq_true rfl) (Nat.le_of_ble_eq_true rfl) dX4_init_31 33 rfl (fun a31 H hW => ?_)
  have hW := hW.re (rs' := [[(h, .inr (4, [.ref (a7), .ref (a15), .ref (a23), .null, .null, .null, .null, .int (iI (0)), .int (iI (0)), .int (iI (0)), .int (iI (0)), .int (iI (0)), .int (iI (0)), .int (iI (0))]))], [arI G a7 36 (fun _ => 0)], [arI G a15 36 (fun _ => 0)], [arI G a23 10 (fun _ => 0)], [arI G a31 10 (fun _ => 0)]]) rfl
  refine z_putF C hW hK fl_X4_21 fc_X4_3 hini rfl 0 rfl (rfl) (rfl) (Nat.le_of_ble_eq_true rfl) dX4_init_33 36 rfl (rs' := [[(h, .inr (4, [.ref (a7), .ref (a15), .ref (a23), .ref (a31), .null, .null, .null, .int (iI (0)), .int (iI (0)), .int (iI (0)), .int (iI (0)), .int (iI (0)), .int (iI (0)), .int (iI (0))]))], [arI G a7 36 (fun _ => 0)], [arI G a15 36 (fun _ => 0)], [arI G a23 10 (fun _ => 0)], [arI G a31 10 (fun _ => 0)]]) rfl (fun H locs hW => ?_)
  refine z_al_n C hl dX4_init_36 0 rfl 37 rfl ?_
  refine z_bipush C dX4_init_37 (by decide) 39 rfl ?_
  refine z_newa (at_ := .int) 0 (N := 10) (a0 := (10, .inl (fun k : Nat => iI ((fun _ : Int => (0 : Int)) k)))) C hK hW hA qa_int rfl rfl ra_int (fun _ => rfl) (by decide) rfl (Nat.le_of_ble_eq_true rfl) (Nat.le_of_ble_eq_true rfl) (Nat.le_of_ble_eq_true rfl) dX4_init_39 41 rfl (fun a39 H hW => ?_)
  have hW := hW.re (rs' := [[(h, .inr (4, [.ref (a7), .ref (a15), .ref (a23), .ref (a31), .null, .null, .null, .int (iI (0)), .int (iI (0)), .int (iI (0)), .int (iI (0)), .int (iI (0)), .int (iI (0)), .int (iI (0))]))], [arI G a7 36 (fun _ => 0)], [arI G a15 36 (fun _ => 0)], [arI G a23 10 (fun _ => 0)], [arI G a31 10 (fun _ => 0)], [arI G a39 10 (fun _ => 0)]]) rfl
  refine z_putF C hW hK fl_X4_24 fc_X4_4 hini rfl 0 rfl (rfl) (rfl) (Nat.le_of_ble_eq_true rfl) dX4_init_41 44 rfl (rs' := [[(h, .inr (4, [.ref (a7), .ref (a15), .ref (a23), .ref (a31), .ref (a39), .null, .null, .int (iI (0)), .int (iI (0)), .int (iI (0)), .int (iI (0)), .int (iI (0)), .int (iI (0)), .int (iI (0))]))], [arI G a7 36 (fun _ => 0)], [arI G a15 36 (fun _ => 0)], [arI G a23 10 (fun _ => 0)], [arI G a31 10 (fun _ => 0)], [arI G a39 10 (fun _ => 0)]]) rfl (fun H locs hW => ?_)
  refine z_al_n C hl dX4_init_44 0 rfl 45 rfl ?_
  refine z_bipush C dX4_init_45 (by decide) 47 rfl ?_
  refine z_newa (at_ := .int) 0 (N := 10) (a0 := (10, .inl (fun k : Nat => iI ((fun _ : Int => (0 : Int)) k)))) C hK hW hA qa_int rfl rfl ra_int (fun _ => rfl) (by decide) rfl (Nat.le_of_ble_eq_true rfl) (Nat.le_of_ble_eq_true rfl) (Nat.le_of_ble_eq_true rfl) dX4_init_47 49 rfl (fun a47 H hW => ?_)
  have hW := hW.re (rs' := [[(h, .inr (4, [.ref (a7), .ref (a15), .ref (a23), .ref (a31), .ref (a39), .null, .null, .int (iI (0)), .int (iI (0)), .int (iI (0)), .int (iI (0)), .int (iI (0)), .int (iI (0)), .int (iI (0))]))], [arI G a7 36 (fun _ => 0)], [arI G a15 36 (fun _ => 0)], [arI G a23 10 (fun _ => 0)], [arI G a31 10 (fun _ => 0)], [arI G a39 10 (fun _ => 0)], [arI G a47 10 (fun _ => 0)]]) rfl
  refine z_putF C hW hK fl_X4_27 fc_X4_5 hini rfl 0 rfl (rfl) (rfl) (Nat.le_of_ble_eq_true rfl) dX4_init_49 52 rfl (rs' := [[(h, .inr (4, [.ref (a7), .ref (a15), .ref (a23), .ref (a31), .ref (a39), .ref (a47), .null, .int (iI (0)), .int (iI (0)), .int (iI (0)), .int (iI (0)), .int (iI (0)), .int (iI (0)), .int (iI (0))]))], [arI G a7 36 (fun _ => 0)], [arI G a15 36 (fun _ => 0)], [arI G a23 10 (fun _ => 0)], [arI G a31 10 (fun _ => 0)], [arI G a39 10 (fun _ => 0)], [arI G a47 10 (fun _ => 0)]]) rfl (fun H locs hW => ?_)
  refine z_al_n C hl dX4_init_52 0 rfl 53 rfl ?_
  refine z_bipush C dX4_init_53 (by decide) 55 rfl ?_
  refine z_newa (at_ := .int) 0 (N := 10) (a0 := (10, .inl (fun k : Nat => iI ((fun _ : Int => (0 : Int)) k)))) C hK hW hA qa_int rfl rfl ra_int (fun _ => rfl) (by decide) rfl (Nat.le_of_ble_eq_true rfl) (Nat.le_of_ble_eq_true rfl) (Nat.le_of_ble_eq_true rfl) dX4_init_55 57 rfl (fun a55 H hW => ?_)
  have hW := hW.re (rs' := [[(h, .inr (4, [.ref (a7), .ref (a15), .ref (a23), .ref (a31), .ref (a39), .ref (a47), .null, .int (iI (0)), .int (iI (0)), .int (iI (0)), .int (iI (0)), .int (iI (0)), .int (iI (0)), .int (iI (0))]))], [arI G a7 36 (fun _ => 0)], [arI G a15 36 (fun _ => 0)], [arI G a23 10 (fun _ => 0)], [arI G a31 10 (fun _ => 0)], [arI G a39 10 (fun _ => 0)], [arI G a47 10 (fun _ => 0)], [arI G a55 10 (fun _ => 0)]]) rfl
  refine z_putF C hW hK fl_X4_30 fc_X4_6 hini rfl 0 rfl (rfl) (rfl) (Nat.le_of_ble_eq_true rfl) dX4_init_57 60 rfl (rs' := [[(h, .inr (4, [.ref (a7), .ref (a15), .ref (a23), .ref (a31), .ref (a39), .ref (a47), .ref (a55), .int (iI (0)), .int (iI (0)), .int (iI (0)), .int (iI (0)), .int (iI (0)), .int (iI (0)), .int (iI (0))]))], [arI G a7 36 (fun _ => 0)], [arI G a15 36 (fun _ => 0)], [arI G a23 10 (fun _ => 0)], [arI G a31 10 (fun _ => 0)], [arI G a39 10 (fun _ => 0)], [arI G a47 10 (fun _ => 0)], [arI G a55 10 (fun _ => 0)]]) rfl (fun H locs hW => ?_)
  refine z_al_n C hl dX4_init_60 0 rfl 61 rfl ?_
  refine z_iconst C dX4_init_61 62 rfl ?_
  refine z_put C hW hK fl_X4_33 fc_X4_10 0 rfl (rfl) (rfl) (Nat.le_of_ble_eq_true rfl) dX4_init_62 65 rfl (rs' := [[(h, .inr (4, [.ref (a7), .ref (a15), .ref (a23), .ref (a31), .ref (a39), .ref (a47), .ref (a55), .int (iI (0)), .int (iI (0)), .int (iI (0)), .int (iI (1)), .int (iI (0)), .int (iI (0)), .int (iI (0))]))], [arI G a7 36 (fun _ => 0)], [arI G a15 36 (fun _ => 0)], [arI G a23 10 (fun _ => 0)], [arI G a31 10 (fun _ => 0)], [arI G a39 10 (fun _ => 0)], [arI G a47 10 (fun _ => 0)], [arI G a55 10 (fun _ => 0)]]) rfl (fun H locs hW => ?_)
  refine z_al_n C hl dX4_init_65 0 rfl 66 rfl ?_
  refine z_iconst C dX4_init_66 67 rfl ?_
  refine z_put C hW hK fl_X4_37 fc_X4_11 0 rfl (rfl) (rfl) (Nat.le_of_ble_eq_true rfl) dX4_init_67 70 rfl (rs' := [[(h, .inr (4, [.ref (a7), .ref (a15), .ref (a23), .ref (a31), .ref (a39), .ref (a47), .ref (a55), .int (iI (0)), .int (iI (0)), .int (iI (0)), .int (iI (1)), .int (iI (3)), .int (iI (0)), .int (iI (0))]))], [arI G a7 36 (fun _ => 0)], [arI G a15 36 (fun _ => 0)], [arI G a23 10 (fun _ => 0)], [arI G a31 10 (fun _ => 0)], [arI G a39 10 (fun _ => 0)], [arI G a47 10 (fun _ => 0)], [arI G a55 10 (fun _ => 0)]]) rfl (fun H locs hW => ?_)
  refine z_al_n C hl dX4_init_70 0 rfl 71 rfl ?_
  refine z_iconst C dX4_init_71 72 rfl ?_
  refine z_put C hW hK fl_X4_40 fc_X4_12 0 rfl (rfl) (rfl) (Nat.le_of_ble_eq_true rfl) dX4_init_72 75 rfl (rs' := [[(h, .inr (4, [.ref (a7), .ref (a15), .ref (a23), .ref (a31), .ref (a39), .ref (a47), .ref (a55), .int (iI (0)), .int (iI (0)), .int (iI (0)), .int (iI (1)), .int (iI (3)), .int (iI (1)), .int (iI (0))]))], [arI G a7 36 (fun _ => 0)], [arI G a15 36 (fun _ => 0)], [arI G a23 10 (fun _ => 0)], [arI G a31 10 (fun _ => 0)], [arI G a39 10 (fun _ => 0)], [arI G a47 10 (fun _ => 0)], [arI G a55 10 (fun _ => 0)]]) rfl (fun H locs hW => ?_)
  refine z_al_n C hl dX4_init_75 0 rfl 76 rfl ?_
  refine z_bipush C dX4_init_76 (by decide) 78 rfl ?_
  refine z_put C hW hK fl_X4_43 fc_X4_13 0 rfl (rfl) (rfl) (Nat.le_of_ble_eq_true rfl) dX4_init_78 81 rfl (rs' := [[(h, .inr (4, [.ref (a7), .ref (a15), .ref (a23), .ref (a31), .ref (a39), .ref (a47), .ref (a55), .int (iI (0)), .int (iI (0)), .int (iI (0)), .int (iI (1)), .int (iI (3)), .int (iI (1)), .int (iI (60))]))], [arI G a7 36 (fun _ => 0)], [arI G a15 36 (fun _ => 0)], [arI G a23 10 (fun _ => 0)], [arI G a31 10 (fun _ => 0)], [arI G a39 10 (fun _ => 0)], [arI G a47 10 (fun _ => 0)], [arI G a55 10 (fun _ => 0)]]) rfl (fun H locs hW => ?_)
  refine z_iconst C dX4_init_81 82 rfl ?_
  have hW := Wd.ceq (rs' := [[(h, .inr (4, [.ref (a7), .ref (a15), .ref (a23), .ref (a31), .ref (a39), .ref (a47), .ref (a55), .int (iI (0)), .int (iI (0)), .int (iI (0)), .int (iI (1)), .int (iI (3)), .int (iI (1)), .int (iI (60))]))], [arI G a7 36 (hg0 0)], [arI G a15 36 (fun _ => 0)], [arI G a23 10 (fun _ => 0)], [arI G a31 10 (fun _ => 0)], [arI G a39 10 (fun _ => 0)], [arI G a47 10 (fun _ => 0)], [arI G a55 10 (fun _ => 0)]]) hW ⟨ceq.rf, ⟨ceq.I (fun k h8 h9 => (if_neg (by omega)).symm), ceqs.rf⟩⟩
  refine z_is_n C hl dX4_init_82 83 rfl (by decide) (lv' := [(1, .int (iI (0))), (0, .ref (h))]) rfl (fun ls hl => ?_)
  have L83 : ∀ (fu : Nat) (k : Int) (h1 : 0 ≤ k ∧ k ≤ 36) (H : Heap) (locs : List Loc) (hW : Wd G (Afr h sz) [[(h, .inr (4, [.ref (a7), .ref (a15), .ref (a23), .ref (a31), .ref (a39), .ref (a47), .ref (a55), .int (iI (0)), .int (iI (0)), .int (iI (0)), .int (iI (1)), .int (iI (3)), .int (iI (1)), .int (iI (60))]))], [arI G a7 36 (hg0 k)], [arI G a15 36 (fun _ => 0)], [arI G a23 10 (fun _ => 0)], [arI G a31 10 (fun _ => 0)], [arI G a39 10 (fun _ => 0)], [arI G a47 10 (fun _ => 0)], [arI G a55 10 (fun _ => 0)]] s.heap H locs) (hm : 36 - k < (fu : Int)) (ls : Array Slot) (hl : lv_has ls 2 [(1, .int (iI (k))), (0, .ref (h))]), W p l e (rmI 1 7 122) s m [.ref (h)].toArray below meth c H locs 7 122 (MQ below (QN G h sz (fun q : Nat → Nat => [stW G q v0Z]) (fun q => q 0 = h)) [.ref (h)].toArray s 7 122 (Afr h sz)) (F0 m 83 ls []) := by
    intro fu
    induction fu with
    | zero => intro k h1 H locs hW hm ls hl; exfalso; omega
    | succ fu ih =>
      intro k h1 H locs hW hm ls hl
      have ih83 := ih
      refine z_il_n C hl dX4_init_83 0 rfl 84 rfl ?_
      refine z_bipush C dX4_init_84 (by decide) 86 rfl ?_
      refine z_icmp_ge C dX4_init_86 115 89 (by decide) rfl (by omega) (fun c86 => ?_) (fun c86 => ?_)
      · skip
        rw [show k = 36 by omega] at hW
        skip
        have hW := Wd.ceq (rs' := [stW G (qa8 h a7 a15 a23 a31 a39 a47 a55) v0Z]) hW ⟨ceq.rf, ⟨ceq.I (fun k h8 h9 => hg0_e ⟨h8, by omega⟩), ⟨ceq.I (fun k h8 h9 => v0_z (by omega) (by omega)), ⟨ceq.I (fun k h8 h9 => v0_z (by omega) (by omega)), ⟨ceq.I (fun k h8 h9 => v0_z (by omega) (by omega)), ⟨ceq.I (fun k h8 h9 => v0_z (by omega) (by omega)), ⟨ceq.I (fun k h8 h9 => v0_z (by omega) (by omega)), ⟨ceq.I (fun k h8 h9 => v0_z (by omega) (by omega)), trivial⟩⟩⟩⟩⟩⟩⟩⟩
        exact z_vn C hW dX4_init_115 (qa8 h a7 a15 a23 a31 a39 a47 a55) rfl rfl (Nat.le_of_ble_eq_true rfl) (Nat.le_of_ble_eq_true rfl)
      · skip
        refine z_al_n C hl dX4_init_89 1 rfl 90 rfl ?_
        refine z_get C hW.1 hK fl_X4_9 0 rfl rfl dX4_init_90 93 rfl ?_
        refine z_il_n C hl dX4_init_93 0 rfl 94 rfl ?_
        refine z_il_n C hl dX4_init_94 0 rfl 95 rfl ?_
        refine z_NR (r := .int (iI (bZ (decide (k = 0 ∨ k = 35))))) (rest := [.int (iI (k)), .ref (a7)]) C (m_isHarbour l G (k) (by omega)) kN_X4_46 ⟨Nat.le_of_ble_eq_true rfl, Nat.le_of_ble_eq_true rfl⟩ (gP_nil) hK rfl hl.1 rfl (Nat.le_of_ble_eq_true rfl) dX4_init_95 ⟨Nat.le_of_ble_eq_true rfl, Nat.le_of_ble_eq_true rfl⟩ 98 rfl ?_
        refine z_ifb_eq C dX4_init_98 105 101 (by decide) rfl (fun c98 => ?_) (fun c98 => ?_)
        · skip
          simp only [decide_eq_true_eq, decide_eq_false_iff_not] at c98
          refine z_iconst C dX4_init_105 106 rfl ?_
          refine z_NWv (rest := []) C (m_wr l G a7 36 (hg0 k) k 1 (by decide) (by omega) (gD_rg hW.2.1 [1] (by decide) rfl)) kN_X4_50 ⟨Nat.le_of_ble_eq_true rfl, Nat.le_of_ble_eq_true rfl⟩ hW hK [1] rfl (sameA_of rfl) rfl hl.1 rfl (Nat.le_of_ble_eq_true rfl) dX4_init_106 ⟨Nat.le_of_ble_eq_true rfl, Nat.le_of_ble_eq_true rfl⟩ 109 rfl (rs' := [[(h, .inr (4, [.ref (a7), .ref (a15), .ref (a23), .ref (a31), .ref (a39), .ref (a47), .ref (a55), .int (iI (0)), .int (iI (0)), .int (iI (0)), .int (iI (1)), .int (iI (3)), .int (iI (1)), .int (iI (60))]))], [arI G a7 36 (updZ (hg0 k) k 1)], [arI G a15 36 (fun _ => 0)], [arI G a23 10 (fun _ => 0)], [arI G a31 10 (fun _ => 0)], [arI G a39 10 (fun _ => 0)], [arI G a47 10 (fun _ => 0)], [arI G a55 10 (fun _ => 0)]]) rfl (fun H locs hW hkeep => ?_)
          rw [hg0_s (by rw [if_neg c98])] at hW
          refine z_iinc C hl dX4_init_109 112 rfl 0 rfl (z := 1 + k) (by omega) (by decide) (lv' := [(1, .int (iI (1 + k))), (0, .ref (h))]) rfl (fun ls hl => ?_)
          refine z_goto C dX4_init_112 83 (by decide) ?_
          exact ih83 (1 + k) (by omega) _ _ hW (by omega) ls (lv_sub hl [0, 1] rfl)
        · skip
          simp only [decide_eq_true_eq, decide_eq_false_iff_not] at c98
          skip
          refine z_iconst C dX4_init_101 102 rfl ?_
          refine z_goto C dX4_init_102 106 (by decide) ?_
          refine z_NWv (rest := []) C (m_wr l G a7 36 (hg0 k) k 0 (by decide) (by omega) (gD_rg hW.2.1 [1] (by decide) rfl)) kN_X4_50 ⟨Nat.le_of_ble_eq_true rfl, Nat.le_of_ble_eq_true rfl⟩ hW hK [1] rfl (sameA_of rfl) rfl hl.1 rfl (Nat.le_of_ble_eq_true rfl) dX4_init_106 ⟨Nat.le_of_ble_eq_true rfl, Nat.le_of_ble_eq_true rfl⟩ 109 rfl (rs' := [[(h, .inr (4, [.ref (a7), .ref (a15), .ref (a23), .ref (a31), .ref (a39), .ref (a47), .ref (a55), .int (iI (0)), .int (iI (0)), .int (iI (0)), .int (iI (1)), .int (iI (3)), .int (iI (1)), .int (iI (60))]))], [arI G a7 36 (updZ (hg0 k) k 0)], [arI G a15 36 (fun _ => 0)], [arI G a23 10 (fun _ => 0)], [arI G a31 10 (fun _ => 0)], [arI G a39 10 (fun _ => 0)], [arI G a47 10 (fun _ => 0)], [arI G a55 10 (fun _ => 0)]]) rfl (fun H locs hW hkeep => ?_)
          rw [hg0_s (by rw [if_pos c98])] at hW
          refine z_iinc C hl dX4_init_109 112 rfl 0 rfl (z := 1 + k) (by omega) (by decide) (lv' := [(1, .int (iI (1 + k))), (0, .ref (h))]) rfl (fun ls hl => ?_)
          refine z_goto C dX4_init_112 83 (by decide) ?_
          exact ih83 (1 + k) (by omega) _ _ hW (by omega) ls (lv_sub hl [0, 1] rfl)
  exact L83 (Int.toNat (36 - 0) + 1) 0 (by omega) _ _ hW (by omega) ls (lv_sub hl [0, 1] rfl)

set_option maxHeartbeats 400000 in
set_option maxRecDepth 100000 in
theorem n_Rules (l : Launch) (G : gT) (sz : Nat) (h : Nat) (q : Nat → Nat) : MN l G yX3_init cX3_init 2 1 0 0 [.ref (h), .ref (q 0)] h sz (.inr (3, [.null])) ZT (fun _ : Unit => [[(h, .inr (3, [.ref (q 0)]))]]) (fun _ => True) := by
  refine enterN (own := RX3) (by decide +kernel) rfl rfl (Nat.le_of_ble_eq_true rfl) ?_
  intro p e s m below meth c C hini hsz hW hK hZ ls hl
  have hA : ∀ q, s.heap.size ≤ q → Afr h sz q := fun q h => Or.inr (by omega)
  have hl : lv_has ls 2 [(0, .ref (h)), (1, .ref (q 0))] := hl
  refine z_al_n C hl dX3_init_0 0 rfl 1 rfl ?_
  refine z_obj C qo_X3 hl.1 ⟨Nat.le_of_ble_eq_true rfl, Nat.le_of_ble_eq_true rfl⟩ dX3_init_1 4 rfl ?_
  refine z_al_n C hl dX3_init_4 0 rfl 5 rfl ?_
  refine z_al_n C hl dX3_init_5 1 rfl 6 rfl ?_
  refine z_putF C hW hK fl_X3_9 fc_X3_0 hini rfl 0 rfl (rfl) (rfl) (Nat.le_of_ble_eq_true rfl) dX3_init_6 9 rfl (rs' := [[(h, .inr (3, [.ref (q 0)]))]]) rfl (fun H locs hW => ?_)
  exact z_vn C hW dX3_init_9 () trivial rfl (Nat.le_of_ble_eq_true rfl) (Nat.le_of_ble_eq_true rfl)

set_option maxHeartbeats 400000 in
set_option maxRecDepth 100000 in
theorem n_Search (l : Launch) (G : gT) (sz : Nat) (h : Nat) (q : Nat → Nat) : MN l G yX1_init cX1_init 2 1 1 5 [.ref (h), .ref (q 0)] h sz (.inr (1, [.null, .null, .long (0), .long (0), .long (0), .int (iI (0)), .int (iI (0))])) ZT (fun cu : Nat => [[sxA h cu q (0, 0, 0, 0, 0)], [arL G cu 5 (fun _ => 0)]]) (fun _ => True) := by
  refine enterN (own := RX1) (by decide +kernel) rfl rfl (Nat.le_of_ble_eq_true rfl) ?_
  intro p e s m below meth c C hini hsz hW hK hZ ls hl
  have hA : ∀ q, s.heap.size ≤ q → Afr h sz q := fun q h => Or.inr (by omega)
  have hl : lv_has ls 2 [(0, .ref (h)), (1, .ref (q 0))] := hl
  refine z_al_n C hl dX1_init_0 0 rfl 1 rfl ?_
  refine z_obj C qo_X1 hl.1 ⟨Nat.le_of_ble_eq_true rfl, Nat.le_of_ble_eq_true rfl⟩ dX1_init_1 4 rfl ?_
  refine z_al_n C hl dX1_init_4 0 rfl 5 rfl ?_
  refine z_iconst C dX1_init_5 6 rfl ?_
  refine z_newa (at_ := .long) 1 (N := 5) (a0 := (5, .inr (.inl (fun k : Nat => (fun _ : Int => (0 : Int64)) k)))) C hK hW hA qa_long rfl rfl ra_long (fun _ => rfl) (by decide) rfl (Nat.le_of_ble_eq_true rfl) (Nat.le_of_ble_eq_true rfl) (Nat.le_of_ble_eq_true rfl) dX1_init_6 8 rfl (fun a6 H hW => ?_)
  have hW := hW.re (rs' := [[(h, .inr (1, [.null, .null, .long (0), .long (0), .long (0), .int (iI (0)), .int (iI (0))]))], [arL G a6 5 (fun _ => 0)]]) rfl
  refine z_putF C hW hK fl_X1_9 fc_X1_1 hini rfl 0 rfl (rfl) (rfl) (Nat.le_of_ble_eq_true rfl) dX1_init_8 11 rfl (rs' := [[(h, .inr (1, [.null, .ref (a6), .long (0), .long (0), .long (0), .int (iI (0)), .int (iI (0))]))], [arL G a6 5 (fun _ => 0)]]) rfl (fun H locs hW => ?_)
  refine z_al_n C hl dX1_init_11 0 rfl 12 rfl ?_
  refine z_al_n C hl dX1_init_12 1 rfl 13 rfl ?_
  refine z_putF C hW hK fl_X1_15 fc_X1_0 hini rfl 0 rfl (rfl) (rfl) (Nat.le_of_ble_eq_true rfl) dX1_init_13 16 rfl (rs' := [[(h, .inr (1, [.ref (q 0), .ref (a6), .long (0), .long (0), .long (0), .int (iI (0)), .int (iI (0))]))], [arL G a6 5 (fun _ => 0)]]) rfl (fun H locs hW => ?_)
  exact z_vn C hW dX1_init_16 a6 trivial rfl (Nat.le_of_ble_eq_true rfl) (Nat.le_of_ble_eq_true rfl)

set_option maxHeartbeats 400000 in
set_option maxRecDepth 100000 in
theorem n_Orders (l : Launch) (G : gT) (sz : Nat) (h : Nat) : MN l G yX2_init cX2_init 1 1 1 60 [.ref (h)] h sz (.inr (2, [.null, .int (iI (0))])) ZT (fun sg : Nat => [[orO G h sg 0], [arC G sg 60 (fun _ => 0)]]) (fun _ => True) := by
  refine enterN (own := RX2) (by decide +kernel) rfl rfl (Nat.le_of_ble_eq_true rfl) ?_
  intro p e s m below meth c C hini hsz hW hK hZ ls hl
  have hA : ∀ q, s.heap.size ≤ q → Afr h sz q := fun q h => Or.inr (by omega)
  have hl : lv_has ls 1 [(0, .ref (h))] := hl
  refine z_al_n C hl dX2_init_0 0 rfl 1 rfl ?_
  refine z_obj C qo_X2 hl.1 ⟨Nat.le_of_ble_eq_true rfl, Nat.le_of_ble_eq_true rfl⟩ dX2_init_1 4 rfl ?_
  refine z_al_n C hl dX2_init_4 0 rfl 5 rfl ?_
  refine z_bipush C dX2_init_5 (by decide) 7 rfl ?_
  refine z_newa (at_ := .char) 2 (N := 60) (a0 := (60, .inl (fun k : Nat => iI ((fun _ : Int => (0 : Int)) k)))) C hK hW hA qa_char rfl rfl ra_char (fun _ => rfl) (by decide) rfl (Nat.le_of_ble_eq_true rfl) (Nat.le_of_ble_eq_true rfl) (Nat.le_of_ble_eq_true rfl) dX2_init_7 9 rfl (fun a7 H hW => ?_)
  have hW := hW.re (rs' := [[(h, .inr (2, [.null, .int (iI (0))]))], [arC G a7 60 (fun _ => 0)]]) rfl
  refine z_putF C hW hK fl_X2_9 fc_X2_0 hini rfl 0 rfl (rfl) (rfl) (Nat.le_of_ble_eq_true rfl) dX2_init_9 12 rfl (rs' := [[(h, .inr (2, [.ref (a7), .int (iI (0))]))], [arC G a7 60 (fun _ => 0)]]) rfl (fun H locs hW => ?_)
  exact z_vn C hW dX2_init_12 a7 trivial rfl (Nat.le_of_ble_eq_true rfl) (Nat.le_of_ble_eq_true rfl)

set_option maxHeartbeats 400000 in
set_option maxRecDepth 100000 in
theorem n_History (l : Launch) (G : gT) (sz : Nat) (h : Nat) : MN l G yX0_init cX0_init 2 2 41 684 [.ref (h)] h sz (.inr (0, [.null, .null, .int (iI (0)), .int (iI (0))])) ZO (fun x : Nat × (Nat → Nat) × (Nat → Nat → Nat) => [hiW G h x.1 x.2.1 0 x.2.2 (fun _ => v0Z) false, stW G x.2.1 v0Z]) (fun _ => True) := by
  refine enterN (own := RX0) (by decide +kernel) rfl rfl (Nat.le_of_ble_eq_true rfl) ?_
  intro p e s m below meth c C hini hsz hW hK hZ ls hl
  have hA : ∀ q, s.heap.size ≤ q → Afr h sz q := fun q h => Or.inr (by omega)
  have hl : lv_has ls 2 [(0, .ref (h))] := hl
  refine z_al_n C hl dX0_init_0 0 rfl 1 rfl ?_
  refine z_obj C qo_X0 hl.1 ⟨Nat.le_of_ble_eq_true rfl, Nat.le_of_ble_eq_true rfl⟩ dX0_init_1 4 rfl ?_
  refine z_al_n C hl dX0_init_4 0 rfl 5 rfl ?_
  refine z_iconst C dX0_init_5 6 rfl ?_
  refine z_newq (N := 4) C hK hW hA ql_state hZ (by decide) rfl (Nat.le_of_ble_eq_true rfl) (Nat.le_of_ble_eq_true rfl) (Nat.le_of_ble_eq_true rfl) dX0_init_6 9 rfl (fun a6 H hW => ?_)
  have hW := hW.re (rs' := [[(h, .inr (0, [.null, .null, .int (iI (0)), .int (iI (0))]))], [arQ G a6 4 (fun _ => none)]]) rfl
  refine z_putF C hW hK fl_X0_11 fc_X0_0 hini rfl 0 rfl (rfl) (rfl) (Nat.le_of_ble_eq_true rfl) dX0_init_9 12 rfl (rs' := [[(h, .inr (0, [.ref (a6), .null, .int (iI (0)), .int (iI (0))]))], [arQ G a6 4 (fun _ => none)]]) rfl (fun H locs hW => ?_)
  refine z_al_n C hl dX0_init_12 0 rfl 13 rfl ?_
  refine z_new C hK hW hA nw_X0_9 (Nat.le_of_ble_eq_true rfl) (Nat.le_of_ble_eq_true rfl) dX0_init_13 16 rfl (fun o13 H hW => ?_)
  have hW := hW.re (rs' := [[(h, .inr (0, [.ref (a6), .null, .int (iI (0)), .int (iI (0))]))], [arQ G a6 4 (fun _ => none)], [(o13, .inr (4, [.null, .null, .null, .null, .null, .null, .null, .int (iI (0)), .int (iI (0)), .int (iI (0)), .int (iI (0)), .int (iI (0)), .int (iI (0)), .int (iI (0))]))]]) rfl
  refine z_dup C dX0_init_16 rfl 17 rfl ?_
  refine z_I (rs := [[(h, .inr (0, [.ref (a6), .null, .int (iI (0)), .int (iI (0))]))], [arQ G a6 4 (fun _ => none)]]) (rest := [.ref (o13), .ref (h)]) C hW hA hK (n_State l G H.size o13) zt_blind zt_of kI_X0_17 ⟨Nat.le_of_ble_eq_true rfl, Nat.le_of_ble_eq_true rfl⟩ rfl hl.1 rfl (Nat.le_of_ble_eq_true rfl) dX0_init_17 ⟨Nat.le_of_ble_eq_true rfl, Nat.le_of_ble_eq_true rfl⟩ 20 rfl (fun q17 H locs hx hW => ?_)
  have hW9 := hW
  subst hx
  have hW := hW9
  have hW := hW.re (rs' := [[(h, .inr (0, [.ref (a6), .null, .int (iI (0)), .int (iI (0))]))], [arQ G a6 4 (fun _ => none)], stW G q17 v0Z]) rfl
  refine z_putF C hW hK fl_X0_18 fc_X0_1 hini rfl 0 rfl (rfl) (rfl) (Nat.le_of_ble_eq_true rfl) dX0_init_20 23 rfl (rs' := [[(h, .inr (0, [.ref (a6), .ref (q17 0), .int (iI (0)), .int (iI (0))]))], [arQ G a6 4 (fun _ => none)], stW G q17 v0Z]) rfl (fun H locs hW => ?_)
  refine z_iconst C dX0_init_23 24 rfl ?_
  refine z_is_n C hl dX0_init_24 25 rfl (by decide) (lv' := [(1, .int (iI (0))), (0, .ref (h))]) rfl (fun ls hl => ?_)
  refine z_il_n C hl dX0_init_25 0 rfl 26 rfl ?_
  refine z_al_n C hl dX0_init_26 1 rfl 27 rfl ?_
  refine z_get C hW.1 hK fl_X0_11 0 rfl rfl dX0_init_27 30 rfl ?_
  refine z_alen C hW.1 hK 1 4 rfl rfl (4) rfl dX0_init_30 31 rfl ?_
  refine z_icmp_ge C dX0_init_31 53 34 (by decide) rfl (by omega) (fun c31 => ?_) (fun c31 => ?_)
  · exfalso; omega
  · skip
    refine z_al_n C hl dX0_init_34 1 rfl 35 rfl ?_
    refine z_get C hW.1 hK fl_X0_11 0 rfl rfl dX0_init_35 38 rfl ?_
    refine z_il_n C hl dX0_init_38 0 rfl 39 rfl ?_
    refine z_new C hK hW hA nw_X0_9 (Nat.le_of_ble_eq_true rfl) (Nat.le_of_ble_eq_true rfl) dX0_init_39 42 rfl (fun o39 H hW => ?_)
    have hW := hW.re (rs' := [[(h, .inr (0, [.ref (a6), .ref (q17 0), .int (iI (0)), .int (iI (0))]))], [arQ G a6 4 (fun _ => none)], stW G q17 v0Z, [(o39, .inr (4, [.null, .null, .null, .null, .null, .null, .null, .int (iI (0)), .int (iI (0)), .int (iI (0)), .int (iI (0)), .int (iI (0)), .int (iI (0)), .int (iI (0))]))]]) rfl
    refine z_dup C dX0_init_42 rfl 43 rfl ?_
    refine z_I (rs := [[(h, .inr (0, [.ref (a6), .ref (q17 0), .int (iI (0)), .int (iI (0))]))], [arQ G a6 4 (fun _ => none)], stW G q17 v0Z]) (rest := [.ref (o39), .int (iI (0)), .ref (a6)]) C hW hA hK (n_State l G H.size o39) zt_blind zt_of kI_X0_17 ⟨Nat.le_of_ble_eq_true rfl, Nat.le_of_ble_eq_true rfl⟩ rfl hl.1 rfl (Nat.le_of_ble_eq_true rfl) dX0_init_43 ⟨Nat.le_of_ble_eq_true rfl, Nat.le_of_ble_eq_true rfl⟩ 46 rfl (fun q43a H locs hx hW => ?_)
    have hW9 := hW
    subst hx
    have hW := hW9
    have hW := hW.re (rs' := [[(h, .inr (0, [.ref (a6), .ref (q17 0), .int (iI (0)), .int (iI (0))]))], [arQ G a6 4 (fun _ => none)], stW G q17 v0Z, stW G q43a v0Z]) rfl
    refine z_qast C hW hK 1 10 rfl rfl (by decide) (by decide) _ rfl dX0_init_46 47 rfl (rs' := [[(h, .inr (0, [.ref (a6), .ref (q17 0), .int (iI (0)), .int (iI (0))]))], [arQ G a6 4 (va_up (fun _ => none) 0 (some (q43a 0)))], stW G q17 v0Z, stW G q43a v0Z]) rfl (fun H locs hW => ?_)
    refine z_iinc C hl dX0_init_47 50 rfl 0 rfl (z := 1) (by omega) (by decide) (lv' := [(1, .int (iI (1))), (0, .ref (h))]) rfl (fun ls hl => ?_)
    refine z_goto C dX0_init_50 25 (by decide) ?_
    refine z_il_n C hl dX0_init_25 0 rfl 26 rfl ?_
    refine z_al_n C hl dX0_init_26 1 rfl 27 rfl ?_
    refine z_get C hW.1 hK fl_X0_11 0 rfl rfl dX0_init_27 30 rfl ?_
    refine z_alen C hW.1 hK 1 4 rfl rfl (4) rfl dX0_init_30 31 rfl ?_
    refine z_icmp_ge C dX0_init_31 53 34 (by decide) rfl (by omega) (fun c31 => ?_) (fun c31 => ?_)
    · exfalso; omega
    · skip
      refine z_al_n C hl dX0_init_34 1 rfl 35 rfl ?_
      refine z_get C hW.1 hK fl_X0_11 0 rfl rfl dX0_init_35 38 rfl ?_
      refine z_il_n C hl dX0_init_38 0 rfl 39 rfl ?_
      refine z_new C hK hW hA nw_X0_9 (Nat.le_of_ble_eq_true rfl) (Nat.le_of_ble_eq_true rfl) dX0_init_39 42 rfl (fun o39 H hW => ?_)
      have hW := hW.re (rs' := [[(h, .inr (0, [.ref (a6), .ref (q17 0), .int (iI (0)), .int (iI (0))]))], [arQ G a6 4 (va_up (fun _ => none) 0 (some (q43a 0)))], stW G q17 v0Z, stW G q43a v0Z, [(o39, .inr (4, [.null, .null, .null, .null, .null, .null, .null, .int (iI (0)), .int (iI (0)), .int (iI (0)), .int (iI (0)), .int (iI (0)), .int (iI (0)), .int (iI (0))]))]]) rfl
      refine z_dup C dX0_init_42 rfl 43 rfl ?_
      refine z_I (rs := [[(h, .inr (0, [.ref (a6), .ref (q17 0), .int (iI (0)), .int (iI (0))]))], [arQ G a6 4 (va_up (fun _ => none) 0 (some (q43a 0)))], stW G q17 v0Z, stW G q43a v0Z]) (rest := [.ref (o39), .int (iI (1)), .ref (a6)]) C hW hA hK (n_State l G H.size o39) zt_blind zt_of kI_X0_17 ⟨Nat.le_of_ble_eq_true rfl, Nat.le_of_ble_eq_true rfl⟩ rfl hl.1 rfl (Nat.le_of_ble_eq_true rfl) dX0_init_43 ⟨Nat.le_of_ble_eq_true rfl, Nat.le_of_ble_eq_true rfl⟩ 46 rfl (fun q43b H locs hx hW => ?_)
      have hW9 := hW
      subst hx
      have hW := hW9
      have hW := hW.re (rs' := [[(h, .inr (0, [.ref (a6), .ref (q17 0), .int (iI (0)), .int (iI (0))]))], [arQ G a6 4 (va_up (fun _ => none) 0 (some (q43a 0)))], stW G q17 v0Z, stW G q43a v0Z, stW G q43b v0Z]) rfl
      refine z_qast C hW hK 1 18 rfl rfl (by decide) (by decide) _ rfl dX0_init_46 47 rfl (rs' := [[(h, .inr (0, [.ref (a6), .ref (q17 0), .int (iI (0)), .int (iI (0))]))], [arQ G a6 4 (va_up (va_up (fun _ => none) 0 (some (q43a 0))) 1 (some (q43b 0)))], stW G q17 v0Z, stW G q43a v0Z, stW G q43b v0Z]) rfl (fun H locs hW => ?_)
      refine z_iinc C hl dX0_init_47 50 rfl 0 rfl (z := 2) (by omega) (by decide) (lv' := [(1, .int (iI (2))), (0, .ref (h))]) rfl (fun ls hl => ?_)
      refine z_goto C dX0_init_50 25 (by decide) ?_
      refine z_il_n C hl dX0_init_25 0 rfl 26 rfl ?_
      refine z_al_n C hl dX0_init_26 1 rfl 27 rfl ?_
      refine z_get C hW.1 hK fl_X0_11 0 rfl rfl dX0_init_27 30 rfl ?_
      refine z_alen C hW.1 hK 1 4 rfl rfl (4) rfl dX0_init_30 31 rfl ?_
      refine z_icmp_ge C dX0_init_31 53 34 (by decide) rfl (by omega) (fun c31 => ?_) (fun c31 => ?_)
      · exfalso; omega
      · skip
        refine z_al_n C hl dX0_init_34 1 rfl 35 rfl ?_
        refine z_get C hW.1 hK fl_X0_11 0 rfl rfl dX0_init_35 38 rfl ?_
        refine z_il_n C hl dX0_init_38 0 rfl 39 rfl ?_
        refine z_new C hK hW hA nw_X0_9 (Nat.le_of_ble_eq_true rfl) (Nat.le_of_ble_eq_true rfl) dX0_init_39 42 rfl (fun o39 H hW => ?_)
        have hW := hW.re (rs' := [[(h, .inr (0, [.ref (a6), .ref (q17 0), .int (iI (0)), .int (iI (0))]))], [arQ G a6 4 (va_up (va_up (fun _ => none) 0 (some (q43a 0))) 1 (some (q43b 0)))], stW G q17 v0Z, stW G q43a v0Z, stW G q43b v0Z, [(o39, .inr (4, [.null, .null, .null, .null, .null, .null, .null, .int (iI (0)), .int (iI (0)), .int (iI (0)), .int (iI (0)), .int (iI (0)), .int (iI (0)), .int (iI (0))]))]]) rfl
        refine z_dup C dX0_init_42 rfl 43 rfl ?_
        refine z_I (rs := [[(h, .inr (0, [.ref (a6), .ref (q17 0), .int (iI (0)), .int (iI (0))]))], [arQ G a6 4 (va_up (va_up (fun _ => none) 0 (some (q43a 0))) 1 (some (q43b 0)))], stW G q17 v0Z, stW G q43a v0Z, stW G q43b v0Z]) (rest := [.ref (o39), .int (iI (2)), .ref (a6)]) C hW hA hK (n_State l G H.size o39) zt_blind zt_of kI_X0_17 ⟨Nat.le_of_ble_eq_true rfl, Nat.le_of_ble_eq_true rfl⟩ rfl hl.1 rfl (Nat.le_of_ble_eq_true rfl) dX0_init_43 ⟨Nat.le_of_ble_eq_true rfl, Nat.le_of_ble_eq_true rfl⟩ 46 rfl (fun q43c H locs hx hW => ?_)
        have hW9 := hW
        subst hx
        have hW := hW9
        have hW := hW.re (rs' := [[(h, .inr (0, [.ref (a6), .ref (q17 0), .int (iI (0)), .int (iI (0))]))], [arQ G a6 4 (va_up (va_up (fun _ => none) 0 (some (q43a 0))) 1 (some (q43b 0)))], stW G q17 v0Z, stW G q43a v0Z, stW G q43b v0Z, stW G q43c v0Z]) rfl
        refine z_qast C hW hK 1 26 rfl rfl (by decide) (by decide) _ rfl dX0_init_46 47 rfl (rs' := [[(h, .inr (0, [.ref (a6), .ref (q17 0), .int (iI (0)), .int (iI (0))]))], [arQ G a6 4 (va_up (va_up (va_up (fun _ => none) 0 (some (q43a 0))) 1 (some (q43b 0))) 2 (some (q43c 0)))], stW G q17 v0Z, stW G q43a v0Z, stW G q43b v0Z, stW G q43c v0Z]) rfl (fun H locs hW => ?_)
        refine z_iinc C hl dX0_init_47 50 rfl 0 rfl (z := 3) (by omega) (by decide) (lv' := [(1, .int (iI (3))), (0, .ref (h))]) rfl (fun ls hl => ?_)
        refine z_goto C dX0_init_50 25 (by decide) ?_
        refine z_il_n C hl dX0_init_25 0 rfl 26 rfl ?_
        refine z_al_n C hl dX0_init_26 1 rfl 27 rfl ?_
        refine z_get C hW.1 hK fl_X0_11 0 rfl rfl dX0_init_27 30 rfl ?_
        refine z_alen C hW.1 hK 1 4 rfl rfl (4) rfl dX0_init_30 31 rfl ?_
        refine z_icmp_ge C dX0_init_31 53 34 (by decide) rfl (by omega) (fun c31 => ?_) (fun c31 => ?_)
        · exfalso; omega
        · skip
          refine z_al_n C hl dX0_init_34 1 rfl 35 rfl ?_
          refine z_get C hW.1 hK fl_X0_11 0 rfl rfl dX0_init_35 38 rfl ?_
          refine z_il_n C hl dX0_init_38 0 rfl 39 rfl ?_
          refine z_new C hK hW hA nw_X0_9 (Nat.le_of_ble_eq_true rfl) (Nat.le_of_ble_eq_true rfl) dX0_init_39 42 rfl (fun o39 H hW => ?_)
          have hW := hW.re (rs' := [[(h, .inr (0, [.ref (a6), .ref (q17 0), .int (iI (0)), .int (iI (0))]))], [arQ G a6 4 (va_up (va_up (va_up (fun _ => none) 0 (some (q43a 0))) 1 (some (q43b 0))) 2 (some (q43c 0)))], stW G q17 v0Z, stW G q43a v0Z, stW G q43b v0Z, stW G q43c v0Z, [(o39, .inr (4, [.null, .null, .null, .null, .null, .null, .null, .int (iI (0)), .int (iI (0)), .int (iI (0)), .int (iI (0)), .int (iI (0)), .int (iI (0)), .int (iI (0))]))]]) rfl
          refine z_dup C dX0_init_42 rfl 43 rfl ?_
          refine z_I (rs := [[(h, .inr (0, [.ref (a6), .ref (q17 0), .int (iI (0)), .int (iI (0))]))], [arQ G a6 4 (va_up (va_up (va_up (fun _ => none) 0 (some (q43a 0))) 1 (some (q43b 0))) 2 (some (q43c 0)))], stW G q17 v0Z, stW G q43a v0Z, stW G q43b v0Z, stW G q43c v0Z]) (rest := [.ref (o39), .int (iI (3)), .ref (a6)]) C hW hA hK (n_State l G H.size o39) zt_blind zt_of kI_X0_17 ⟨Nat.le_of_ble_eq_true rfl, Nat.le_of_ble_eq_true rfl⟩ rfl hl.1 rfl (Nat.le_of_ble_eq_true rfl) dX0_init_43 ⟨Nat.le_of_ble_eq_true rfl, Nat.le_of_ble_eq_true rfl⟩ 46 rfl (fun q43d H locs hx hW => ?_)
          have hW9 := hW
          subst hx
          have hW := hW9
          have hW := hW.re (rs' := [[(h, .inr (0, [.ref (a6), .ref (q17 0), .int (iI (0)), .int (iI (0))]))], [arQ G a6 4 (va_up (va_up (va_up (fun _ => none) 0 (some (q43a 0))) 1 (some (q43b 0))) 2 (some (q43c 0)))], stW G q17 v0Z, stW G q43a v0Z, stW G q43b v0Z, stW G q43c v0Z, stW G q43d v0Z]) rfl
          refine z_qast C hW hK 1 34 rfl rfl (by decide) (by decide) _ rfl dX0_init_46 47 rfl (rs' := [[(h, .inr (0, [.ref (a6), .ref (q17 0), .int (iI (0)), .int (iI (0))]))], [arQ G a6 4 (va_up (va_up (va_up (va_up (fun _ => none) 0 (some (q43a 0))) 1 (some (q43b 0))) 2 (some (q43c 0))) 3 (some (q43d 0)))], stW G q17 v0Z, stW G q43a v0Z, stW G q43b v0Z, stW G q43c v0Z, stW G q43d v0Z]) rfl (fun H locs hW => ?_)
          refine z_iinc C hl dX0_init_47 50 rfl 0 rfl (z := 4) (by omega) (by decide) (lv' := [(1, .int (iI (4))), (0, .ref (h))]) rfl (fun ls hl => ?_)
          refine z_goto C dX0_init_50 25 (by decide) ?_
          refine z_il_n C hl dX0_init_25 0 rfl 26 rfl ?_
          refine z_al_n C hl dX0_init_26 1 rfl 27 rfl ?_
          refine z_get C hW.1 hK fl_X0_11 0 rfl rfl dX0_init_27 30 rfl ?_
          refine z_alen C hW.1 hK 1 4 rfl rfl (4) rfl dX0_init_30 31 rfl ?_
          refine z_icmp_ge C dX0_init_31 53 34 (by decide) rfl (by omega) (fun c31 => ?_) (fun c31 => ?_)
          · skip
            have hW := Wd.ceq (rs' := [[(h, .inr (0, [.ref (a6), .ref (q17 0), .int (iI (0)), .int (iI (0))]))], [arQ G a6 4 (slF (S4 q43a q43b q43c q43d))], stW G q17 v0Z, stW G q43a v0Z, stW G q43b v0Z, stW G q43c v0Z, stW G q43d v0Z]) hW ⟨ceq.rf, ⟨ceq.Q (fun k hk => by rcases (show k = 0 ∨ k = 1 ∨ k = 2 ∨ k = 3 by omega) with e | e | e | e <;> subst e <;> rfl), ceqs.rf⟩⟩
            have hW := hW.perm (rs' := [[(h, .inr (0, [.ref a6, .ref (q17 0), .int (iI 0), .int (iI 0)]))], [arQ G a6 4 (slF (S4 q43a q43b q43c q43d))], stW G q43a v0Z, stW G q43b v0Z, stW G q43c v0Z, stW G q43d v0Z, stW G q17 v0Z]) perm_end
            exact z_vn C hW dX0_init_53 (a6, q17, (S4 q43a q43b q43c q43d)) trivial rfl (Nat.le_of_ble_eq_true rfl) (Nat.le_of_ble_eq_true rfl)
          · exfalso; omega

set_option maxHeartbeats 400000 in
set_option maxRecDepth 100000 in
theorem n_TideBoats (l : Launch) (G : gT) (sz : Nat) (tb : Nat) : MN l G yX5_init cX5_init 1 3 63 1035 [.ref (tb)] tb sz (.inr (5, [.null, .null, .null, .null, .null, .null])) ZO (fun x : Nat × Nat × Nat × Nat × Nat × Nat × (Nat → Nat) × (Nat → Nat) × (Nat × (Nat → Nat) × (Nat → Nat → Nat)) => [[tbO tb x.2.2.2.2.2.2.1 x.2.2.2.2.2.2.2.1 x.1 x.2.1 x.2.2.1 x.2.2.2.1], stW G x.2.2.2.2.2.2.1 v0Z, stW G x.2.2.2.2.2.2.2.1 v0Z, [(x.1, .inr (3, [.ref (x.2.2.2.2.2.2.1 0)]))], [sxA x.2.1 x.2.2.2.2.1 x.2.2.2.2.2.2.1 (0, 0, 0, 0, 0)], [arL G x.2.2.2.2.1 5 (fun _ => 0)], hiW G x.2.2.1 x.2.2.2.2.2.2.2.2.1 x.2.2.2.2.2.2.2.2.2.1 0 x.2.2.2.2.2.2.2.2.2.2 (fun _ => v0Z) false, stW G x.2.2.2.2.2.2.2.2.2.1 v0Z, [orO G x.2.2.2.1 x.2.2.2.2.2.1 0], [arC G x.2.2.2.2.2.1 60 (fun _ => 0)]]) (fun _ => True) := by
  refine enterN (own := RX5) (by decide +kernel) rfl rfl (Nat.le_of_ble_eq_true rfl) ?_
  intro p e s m below meth c C hini hsz hW hK hZ ls hl
  have hA : ∀ q, s.heap.size ≤ q → Afr tb sz q := fun q h => Or.inr (by omega)
  have hl : lv_has ls 1 [(0, .ref (tb))] := hl
  refine z_al_n C hl dX5_init_0 0 rfl 1 rfl ?_
  refine z_obj C qo_X5 hl.1 ⟨Nat.le_of_ble_eq_true rfl, Nat.le_of_ble_eq_true rfl⟩ dX5_init_1 4 rfl ?_
  refine z_al_n C hl dX5_init_4 0 rfl 5 rfl ?_
  refine z_new C hK hW hA nw_X5_7 (Nat.le_of_ble_eq_true rfl) (Nat.le_of_ble_eq_true rfl) dX5_init_5 8 rfl (fun o5 H hW => ?_)
  have hW := hW.re (rs' := [[(tb, .inr (5, [.null, .null, .null, .null, .null, .null]))], [(o5, .inr (4, [.null, .null, .null, .null, .null, .null, .null, .int (iI (0)), .int (iI (0)), .int (iI (0)), .int (iI (0)), .int (iI (0)), .int (iI (0)), .int (iI (0))]))]]) rfl
  refine z_dup C dX5_init_8 rfl 9 rfl ?_
  refine z_I (rs := [[(tb, .inr (5, [.null, .null, .null, .null, .null, .null]))]]) (rest := [.ref (o5), .ref (tb)]) C hW hA hK (n_State l G H.size o5) zt_blind zt_of kI_X5_9 ⟨Nat.le_of_ble_eq_true rfl, Nat.le_of_ble_eq_true rfl⟩ rfl hl.1 rfl (Nat.le_of_ble_eq_true rfl) dX5_init_9 ⟨Nat.le_of_ble_eq_true rfl, Nat.le_of_ble_eq_true rfl⟩ 12 rfl (fun q9 H locs hx hW => ?_)
  have hW9 := hW
  subst hx
  have hW := hW9
  have hW := hW.re (rs' := [[(tb, .inr (5, [.null, .null, .null, .null, .null, .null]))], stW G q9 v0Z]) rfl
  refine z_putF C hW hK fl_X5_10 fc_X5_0 hini rfl 0 rfl (rfl) (rfl) (Nat.le_of_ble_eq_true rfl) dX5_init_12 15 rfl (rs' := [[(tb, .inr (5, [.ref (q9 0), .null, .null, .null, .null, .null]))], stW G q9 v0Z]) rfl (fun H locs hW => ?_)
  refine z_al_n C hl dX5_init_15 0 rfl 16 rfl ?_
  refine z_new C hK hW hA nw_X5_7 (Nat.le_of_ble_eq_true rfl) (Nat.le_of_ble_eq_true rfl) dX5_init_16 19 rfl (fun o16 H hW => ?_)
  have hW := hW.re (rs' := [[(tb, .inr (5, [.ref (q9 0), .null, .null, .null, .null, .null]))], stW G q9 v0Z, [(o16, .inr (4, [.null, .null, .null, .null, .null, .null, .null, .int (iI (0)), .int (iI (0)), .int (iI (0)), .int (iI (0)), .int (iI (0)), .int (iI (0)), .int (iI (0))]))]]) rfl
  refine z_dup C dX5_init_19 rfl 20 rfl ?_
  refine z_I (rs := [[(tb, .inr (5, [.ref (q9 0), .null, .null, .null, .null, .null]))], stW G q9 v0Z]) (rest := [.ref (o16), .ref (tb)]) C hW hA hK (n_State l G H.size o16) zt_blind zt_of kI_X5_9 ⟨Nat.le_of_ble_eq_true rfl, Nat.le_of_ble_eq_true rfl⟩ rfl hl.1 rfl (Nat.le_of_ble_eq_true rfl) dX5_init_20 ⟨Nat.le_of_ble_eq_true rfl, Nat.le_of_ble_eq_true rfl⟩ 23 rfl (fun q20 H locs hx hW => ?_)
  have hW9 := hW
  subst hx
  have hW := hW9
  have hW := hW.re (rs' := [[(tb, .inr (5, [.ref (q9 0), .null, .null, .null, .null, .null]))], stW G q9 v0Z, stW G q20 v0Z]) rfl
  refine z_putF C hW hK fl_X5_16 fc_X5_1 hini rfl 0 rfl (rfl) (rfl) (Nat.le_of_ble_eq_true rfl) dX5_init_23 26 rfl (rs' := [[(tb, .inr (5, [.ref (q9 0), .ref (q20 0), .null, .null, .null, .null]))], stW G q9 v0Z, stW G q20 v0Z]) rfl (fun H locs hW => ?_)
  refine z_al_n C hl dX5_init_26 0 rfl 27 rfl ?_
  refine z_new C hK hW hA nw_X5_19 (Nat.le_of_ble_eq_true rfl) (Nat.le_of_ble_eq_true rfl) dX5_init_27 30 rfl (fun o27 H hW => ?_)
  have hW := hW.re (rs' := [[(tb, .inr (5, [.ref (q9 0), .ref (q20 0), .null, .null, .null, .null]))], stW G q9 v0Z, stW G q20 v0Z, [(o27, .inr (3, [.null]))]]) rfl
  refine z_dup C dX5_init_30 rfl 31 rfl ?_
  refine z_al_n C hl dX5_init_31 0 rfl 32 rfl ?_
  refine z_get C hW.1 hK fl_X5_10 0 rfl rfl dX5_init_32 35 rfl ?_
  refine z_I (rs := [[(tb, .inr (5, [.ref (q9 0), .ref (q20 0), .null, .null, .null, .null]))], stW G q9 v0Z, stW G q20 v0Z]) (rest := [.ref (o27), .ref (tb)]) C hW hA hK (n_Rules l G H.size o27 q9) zt_blind zt_of kI_X5_21 ⟨Nat.le_of_ble_eq_true rfl, Nat.le_of_ble_eq_true rfl⟩ rfl hl.1 rfl (Nat.le_of_ble_eq_true rfl) dX5_init_35 ⟨Nat.le_of_ble_eq_true rfl, Nat.le_of_ble_eq_true rfl⟩ 38 rfl (fun u35 H locs hx hW => ?_)
  have hW := hW.re (rs' := [[(tb, .inr (5, [.ref (q9 0), .ref (q20 0), .null, .null, .null, .null]))], stW G q9 v0Z, stW G q20 v0Z, [(o27, .inr (3, [.ref (q9 0)]))]]) rfl
  refine z_putF C hW hK fl_X5_24 fc_X5_2 hini rfl 0 rfl (rfl) (rfl) (Nat.le_of_ble_eq_true rfl) dX5_init_38 41 rfl (rs' := [[(tb, .inr (5, [.ref (q9 0), .ref (q20 0), .ref (o27), .null, .null, .null]))], stW G q9 v0Z, stW G q20 v0Z, [(o27, .inr (3, [.ref (q9 0)]))]]) rfl (fun H locs hW => ?_)
  refine z_al_n C hl dX5_init_41 0 rfl 42 rfl ?_
  refine z_new C hK hW hA nw_X5_28 (Nat.le_of_ble_eq_true rfl) (Nat.le_of_ble_eq_true rfl) dX5_init_42 45 rfl (fun o42 H hW => ?_)
  have hW := hW.re (rs' := [[(tb, .inr (5, [.ref (q9 0), .ref (q20 0), .ref (o27), .null, .null, .null]))], stW G q9 v0Z, stW G q20 v0Z, [(o27, .inr (3, [.ref (q9 0)]))], [(o42, .inr (1, [.null, .null, .long (0), .long (0), .long (0), .int (iI (0)), .int (iI (0))]))]]) rfl
  refine z_dup C dX5_init_45 rfl 46 rfl ?_
  refine z_al_n C hl dX5_init_46 0 rfl 47 rfl ?_
  refine z_get C hW.1 hK fl_X5_10 0 rfl rfl dX5_init_47 50 rfl ?_
  refine z_I (rs := [[(tb, .inr (5, [.ref (q9 0), .ref (q20 0), .ref (o27), .null, .null, .null]))], stW G q9 v0Z, stW G q20 v0Z, [(o27, .inr (3, [.ref (q9 0)]))]]) (rest := [.ref (o42), .ref (tb)]) C hW hA hK (n_Search l G H.size o42 q9) zt_blind zt_of kI_X5_30 ⟨Nat.le_of_ble_eq_true rfl, Nat.le_of_ble_eq_true rfl⟩ rfl hl.1 rfl (Nat.le_of_ble_eq_true rfl) dX5_init_50 ⟨Nat.le_of_ble_eq_true rfl, Nat.le_of_ble_eq_true rfl⟩ 53 rfl (fun cu50 H locs hx hW => ?_)
  have hW := hW.re (rs' := [[(tb, .inr (5, [.ref (q9 0), .ref (q20 0), .ref (o27), .null, .null, .null]))], stW G q9 v0Z, stW G q20 v0Z, [(o27, .inr (3, [.ref (q9 0)]))], [sxA o42 cu50 q9 (0, 0, 0, 0, 0)], [arL G cu50 5 (fun _ => 0)]]) rfl
  refine z_putF C hW hK fl_X5_31 fc_X5_3 hini rfl 0 rfl (rfl) (rfl) (Nat.le_of_ble_eq_true rfl) dX5_init_53 56 rfl (rs' := [[(tb, .inr (5, [.ref (q9 0), .ref (q20 0), .ref (o27), .ref (o42), .null, .null]))], stW G q9 v0Z, stW G q20 v0Z, [(o27, .inr (3, [.ref (q9 0)]))], [sxA o42 cu50 q9 (0, 0, 0, 0, 0)], [arL G cu50 5 (fun _ => 0)]]) rfl (fun H locs hW => ?_)
  refine z_al_n C hl dX5_init_56 0 rfl 57 rfl ?_
  refine z_new C hK hW hA nw_X5_35 (Nat.le_of_ble_eq_true rfl) (Nat.le_of_ble_eq_true rfl) dX5_init_57 60 rfl (fun o57 H hW => ?_)
  have hW := hW.re (rs' := [[(tb, .inr (5, [.ref (q9 0), .ref (q20 0), .ref (o27), .ref (o42), .null, .null]))], stW G q9 v0Z, stW G q20 v0Z, [(o27, .inr (3, [.ref (q9 0)]))], [sxA o42 cu50 q9 (0, 0, 0, 0, 0)], [arL G cu50 5 (fun _ => 0)], [(o57, .inr (0, [.null, .null, .int (iI (0)), .int (iI (0))]))]]) rfl
  refine z_dup C dX5_init_60 rfl 61 rfl ?_
  refine z_I (rs := [[(tb, .inr (5, [.ref (q9 0), .ref (q20 0), .ref (o27), .ref (o42), .null, .null]))], stW G q9 v0Z, stW G q20 v0Z, [(o27, .inr (3, [.ref (q9 0)]))], [sxA o42 cu50 q9 (0, 0, 0, 0, 0)], [arL G cu50 5 (fun _ => 0)]]) (rest := [.ref (o57), .ref (tb)]) C hW hA hK (n_History l G H.size o57) zo_blind (zo_of hZ) kI_X5_37 ⟨Nat.le_of_ble_eq_true rfl, Nat.le_of_ble_eq_true rfl⟩ rfl hl.1 rfl (Nat.le_of_ble_eq_true rfl) dX5_init_61 ⟨Nat.le_of_ble_eq_true rfl, Nat.le_of_ble_eq_true rfl⟩ 64 rfl (fun x61 H locs hx hW => ?_)
  have hW := hW.re (rs' := [[(tb, .inr (5, [.ref (q9 0), .ref (q20 0), .ref (o27), .ref (o42), .null, .null]))], stW G q9 v0Z, stW G q20 v0Z, [(o27, .inr (3, [.ref (q9 0)]))], [sxA o42 cu50 q9 (0, 0, 0, 0, 0)], [arL G cu50 5 (fun _ => 0)], hiW G o57 x61.1 x61.2.1 0 x61.2.2 (fun _ => v0Z) false, stW G x61.2.1 v0Z]) rfl
  refine z_putF C hW hK fl_X5_38 fc_X5_4 hini rfl 0 rfl (rfl) (rfl) (Nat.le_of_ble_eq_true rfl) dX5_init_64 67 rfl (rs' := [[(tb, .inr (5, [.ref (q9 0), .ref (q20 0), .ref (o27), .ref (o42), .ref (o57), .null]))], stW G q9 v0Z, stW G q20 v0Z, [(o27, .inr (3, [.ref (q9 0)]))], [sxA o42 cu50 q9 (0, 0, 0, 0, 0)], [arL G cu50 5 (fun _ => 0)], hiW G o57 x61.1 x61.2.1 0 x61.2.2 (fun _ => v0Z) false, stW G x61.2.1 v0Z]) rfl (fun H locs hW => ?_)
  refine z_al_n C hl dX5_init_67 0 rfl 68 rfl ?_
  refine z_new C hK hW hA nw_X5_42 (Nat.le_of_ble_eq_true rfl) (Nat.le_of_ble_eq_true rfl) dX5_init_68 71 rfl (fun o68 H hW => ?_)
  have hW := hW.re (rs' := [[(tb, .inr (5, [.ref (q9 0), .ref (q20 0), .ref (o27), .ref (o42), .ref (o57), .null]))], stW G q9 v0Z, stW G q20 v0Z, [(o27, .inr (3, [.ref (q9 0)]))], [sxA o42 cu50 q9 (0, 0, 0, 0, 0)], [arL G cu50 5 (fun _ => 0)], hiW G o57 x61.1 x61.2.1 0 x61.2.2 (fun _ => v0Z) false, stW G x61.2.1 v0Z, [(o68, .inr (2, [.null, .int (iI (0))]))]]) rfl
  refine z_dup C dX5_init_71 rfl 72 rfl ?_
  refine z_IN (rs := [[(tb, .inr (5, [.ref (q9 0), .ref (q20 0), .ref (o27), .ref (o42), .ref (o57), .null]))], stW G q9 v0Z, stW G q20 v0Z, [(o27, .inr (3, [.ref (q9 0)]))], [sxA o42 cu50 q9 (0, 0, 0, 0, 0)], [arL G cu50 5 (fun _ => 0)], hiW G o57 x61.1 x61.2.1 0 x61.2.2 (fun _ => v0Z) false, stW G x61.2.1 v0Z]) (rest := [.ref (o68), .ref (tb)]) C hW hA hK (n_Orders l G H.size o68) zt_blind zt_of kIN_X5_44 ⟨Nat.le_of_ble_eq_true rfl, Nat.le_of_ble_eq_true rfl⟩ rfl hl.1 rfl (Nat.le_of_ble_eq_true rfl) dX5_init_72 ⟨Nat.le_of_ble_eq_true rfl, Nat.le_of_ble_eq_true rfl⟩ 75 rfl (fun sg72 H locs hx hW => ?_)
  have hW := hW.re (rs' := [[(tb, .inr (5, [.ref (q9 0), .ref (q20 0), .ref (o27), .ref (o42), .ref (o57), .null]))], stW G q9 v0Z, stW G q20 v0Z, [(o27, .inr (3, [.ref (q9 0)]))], [sxA o42 cu50 q9 (0, 0, 0, 0, 0)], [arL G cu50 5 (fun _ => 0)], hiW G o57 x61.1 x61.2.1 0 x61.2.2 (fun _ => v0Z) false, stW G x61.2.1 v0Z, [orO G o68 sg72 0], [arC G sg72 60 (fun _ => 0)]]) rfl
  refine z_putF C hW hK fl_X5_45 fc_X5_5 hini rfl 0 rfl (rfl) (rfl) (Nat.le_of_ble_eq_true rfl) dX5_init_75 78 rfl (rs' := [[(tb, .inr (5, [.ref (q9 0), .ref (q20 0), .ref (o27), .ref (o42), .ref (o57), .ref (o68)]))], stW G q9 v0Z, stW G q20 v0Z, [(o27, .inr (3, [.ref (q9 0)]))], [sxA o42 cu50 q9 (0, 0, 0, 0, 0)], [arL G cu50 5 (fun _ => 0)], hiW G o57 x61.1 x61.2.1 0 x61.2.2 (fun _ => v0Z) false, stW G x61.2.1 v0Z, [orO G o68 sg72 0], [arC G sg72 60 (fun _ => 0)]]) rfl (fun H locs hW => ?_)
  exact z_vn C hW dX5_init_78 (o27, o42, o57, o68, cu50, sg72, q9, q20, x61) trivial rfl (Nat.le_of_ble_eq_true rfl) (Nat.le_of_ble_eq_true rfl)
