set_option maxHeartbeats 4000000 in
set_option maxRecDepth 100000 in
theorem m_xrestT (l : Launch) (G : gT) (X : Nat → Nat) (kn ml : Int) (kp : Bool) (v y sv : Int → Int) (g : Nat → Int → Int) (hkn : 0 ≤ kn ∧ kn ≤ 4) (ws : kp = true → Wf sv) (hD : gD ([[moO X kn kp ml], [arI G (X 1) 258 (s2Z v y)], [arI G (X 2) 516 (paF g)], [arI G (X 3) 129 sv]] : List va_W).flatten) : MW l G yX6_restore cX6_restore 2 (some .int) 1 [.ref (X 0)] [[moO X kn kp ml], [arI G (X 1) 258 (s2Z v y)], [arI G (X 2) 516 (paF g)], [arI G (X 3) 129 sv]] [[moO X (actN (rstR kp sv) kn) kp ml], [arI G (X 1) 258 (s2Z (rstV kp sv v) y)], [arI G (X 2) 516 (paF (actG (rstR kp sv) kn g v))], [arI G (X 3) 129 sv]] ZT (some (.int (iI (rstR kp sv)))) := by
  refine enterW (own := RX6) (by decide +kernel) rfl (Nat.le_of_ble_eq_true rfl) hD ?_
  intro p e s m below meth c C hW hK hZ ls hl
  have hl : lv_has ls 2 [(0, .ref (X 0))] := hl
  refine z_al_n C hl dX6_restore_0 0 rfl 1 rfl ?_
  refine z_get C hW.1 hK fl_X6_167 0 rfl rfl dX6_restore_1 4 rfl ?_
  refine z_ifb_ne C dX6_restore_4 10 7 (by decide) rfl (fun c4 => ?_) (fun c4 => ?_)
  · skip
    refine z_al_n C hl dX6_restore_10 0 rfl 11 rfl ?_
    refine z_VWv (rest := []) C (m_xrem l G X kn ml kp v y g (by omega) (gD_rg hW.2.1 [0, 1, 2] (by decide) rfl)) kV_X6_47 ⟨Nat.le_of_ble_eq_true rfl, Nat.le_of_ble_eq_true rfl⟩ hW hK [0, 1, 2] rfl (sameA_of rfl) 0 rfl rfl rfl hl.1 rfl (Nat.le_of_ble_eq_true rfl) dX6_restore_11 ⟨Nat.le_of_ble_eq_true rfl, Nat.le_of_ble_eq_true rfl⟩ 14 rfl (rs' := [[moO X (recN kn) kp ml], [arI G (X 1) 258 (s2Z v y)], [arI G (X 2) 516 (paF (recG kn g v))], [arI G (X 3) 129 sv]]) rfl (fun H locs hW hkeep => ?_)
    refine z_iconst C dX6_restore_14 15 rfl ?_
    have hW := Wd.ceq (rs' := [[moO X (recN kn) kp ml], [arI G (X 1) 258 (s2Z (mixZ sv v 0) y)], [arI G (X 2) 516 (paF (recG kn g v))], [arI G (X 3) 129 sv]]) hW ⟨ceq.rf, ⟨ceq.I (fun k h8 h9 => by unfold s2Z; split <;> first | rfl | exact (mixZ_0 (by omega)).symm), ceqs.rf⟩⟩
    refine z_is_n C hl dX6_restore_15 16 rfl (by decide) (lv' := [(1, .int (iI (0))), (0, .ref (X 0))]) rfl (fun ls hl => ?_)
    have L16 : ∀ (fu : Nat) (k : Int) (h1 : 0 ≤ k ∧ k ≤ 129) (H : Heap) (locs : List Loc) (hW : Wd G (adr ([[moO X kn kp ml], [arI G (X 1) 258 (s2Z v y)], [arI G (X 2) 516 (paF g)], [arI G (X 3) 129 sv]] : List va_W).flatten) [[moO X (recN kn) kp ml], [arI G (X 1) 258 (s2Z (mixZ sv v k) y)], [arI G (X 2) 516 (paF (recG kn g v))], [arI G (X 3) 129 sv]] s.heap H locs) (hm : 129 - k < (fu : Int)) (ls : Array Slot) (hl : lv_has ls 2 [(1, .int (iI (k))), (0, .ref (X 0))]), W p l e (rmN 1) s m [.ref (X 0)].toArray below meth c H locs 0 0 (MQ below (QW G [[moO X kn kp ml], [arI G (X 1) 258 (s2Z v y)], [arI G (X 2) 516 (paF g)], [arI G (X 3) 129 sv]] [[moO X (actN (rstR kp sv) kn) kp ml], [arI G (X 1) 258 (s2Z (rstV kp sv v) y)], [arI G (X 2) 516 (paF (actG (rstR kp sv) kn g v))], [arI G (X 3) 129 sv]] (some (.int (iI (rstR kp sv))))) [.ref (X 0)].toArray s 0 0 (adr ([[moO X kn kp ml], [arI G (X 1) 258 (s2Z v y)], [arI G (X 2) 516 (paF g)], [arI G (X 3) 129 sv]] : List va_W).flatten)) (F0 m 16 ls []) := by
      intro fu
      induction fu with
      | zero => intro k h1 H locs hW hm ls hl; exfalso; omega
      | succ fu ih =>
        intro k h1 H locs hW hm ls hl
        have ih16 := ih
        refine z_il_n C hl dX6_restore_16 0 rfl 17 rfl ?_
        refine z_sipush C dX6_restore_17 (by decide) 20 rfl ?_
        refine z_icmp_ge C dX6_restore_20 41 23 (by decide) rfl (by omega) (fun c20 => ?_) (fun c20 => ?_)
        · skip
          rw [show k = 129 by omega] at hW
          have hW := Wd.ceq (rs' := [[moO X (recN kn) kp ml], [arI G (X 1) 258 (s2Z sv y)], [arI G (X 2) 516 (paF (recG kn g v))], [arI G (X 3) 129 sv]]) hW ⟨ceq.rf, ⟨ceq.I (fun k h8 h9 => by unfold s2Z; split <;> first | rfl | exact mixZ_n (by omega)), ceqs.rf⟩⟩
          refine z_al_n C hl dX6_restore_41 1 rfl 42 rfl ?_
          refine z_get C hW.1 hK fl_X6_7 0 rfl rfl dX6_restore_42 45 rfl ?_
          refine z_bipush C dX6_restore_45 (by decide) 47 rfl ?_
          refine z_iaZ C (s2Z sv y) hW.1 hK 1 rfl (by omega) (by decide) (sv 126) (s2_lo (by omega)) dX6_restore_47 48 rfl ?_
          subst c4
          have hx : 0 ≤ rstR true sv := (ws rfl).t.1
          have e1 : actN (rstR true sv) kn = recN kn := by unfold actN; exact if_pos hx
          have e3 : actG (rstR true sv) kn g v = recG kn g v := by unfold actG; exact if_pos hx
          rw [e1, e3]
          exact z_wi C hW dX6_restore_48 rfl rfl
        · skip
          refine z_al_n C hl dX6_restore_23 1 rfl 24 rfl ?_
          refine z_get C hW.1 hK fl_X6_7 0 rfl rfl dX6_restore_24 27 rfl ?_
          refine z_il_n C hl dX6_restore_27 0 rfl 28 rfl ?_
          refine z_al_n C hl dX6_restore_28 1 rfl 29 rfl ?_
          refine z_get C hW.1 hK fl_X6_16 0 rfl rfl dX6_restore_29 32 rfl ?_
          refine z_il_n C hl dX6_restore_32 0 rfl 33 rfl ?_
          refine z_iaZ C (sv) hW.1 hK 3 rfl (by omega) (by decide) (sv k) (rfl) dX6_restore_33 34 rfl ?_
          refine z_iasZ C (s2Z (mixZ sv v k) y) hW hK 1 rfl (by omega) (by decide) dX6_restore_34 35 rfl (rs' := [[moO X (recN kn) kp ml], [arI G (X 1) 258 (s2Z (updZ (mixZ sv v k) k (sv k)) y)], [arI G (X 2) 516 (paF (recG kn g v))], [arI G (X 3) 129 sv]]) (by rw [show updZ (s2Z (mixZ sv v k) y) k (sv k) = s2Z (updZ (mixZ sv v k) k (sv k)) y from s2_lw (by omega)]; rfl) (fun H locs hW => ?_)
          rw [mixZ_s, Int.add_comm k 1] at hW
          refine z_iinc C hl dX6_restore_35 38 rfl 0 rfl (z := 1 + k) (by omega) (by decide) (lv' := [(1, .int (iI (1 + k))), (0, .ref (X 0))]) rfl (fun ls hl => ?_)
          refine z_goto C dX6_restore_38 16 (by decide) ?_
          exact ih16 (1 + k) (by omega) _ _ hW (by omega) ls (lv_sub hl [0, 1] rfl)
    exact L16 (Int.toNat (129 - 0) + 1) 0 (by omega) _ _ hW (by omega) ls (lv_sub hl [0, 1] rfl)
  · skip
    refine z_bipush C dX6_restore_7 (by decide) 9 rfl ?_
    subst c4
    exact z_wi C hW dX6_restore_9 rfl rfl

set_option maxHeartbeats 4000000 in
set_option maxRecDepth 100000 in
theorem lc_0 (l : Launch) {p : Program} {e : Env} {s : State} {m : MethodId} {below : List Frame} {meth : Method} {c : Code} {Q : State → Prop} {G : gT} {b tb r x cu h pa o sg : Nat} {qn qb sn X : Nat → Nat} {i : Int} {L : Nat} {xs : Nat → Int32} {E : eT} (C : CX p s m #[Value.ref b] meth c RL cL_law 8 ret) (hK : gK G s) (hE : EV E (fun q => s.heap.size ≤ q) s s.heap) (hX : va_X b L xs s s.heap) (hbl : b < s.heap.size) (hL : L ≤ 2048) (hi : 0 ≤ i ∧ i + 4 ≤ L) (K : LK p l e s m below meth c Q G b tb r x cu h pa o sg qn qb sn X i 740) : LK p l e s m below meth c Q G b tb r x cu h pa o sg qn qb sn X i 136 := by
  intro S v u y sv sv' g g' n ln has tx k S1 T1 L1 A1 H locs ls hI hW hl
  obtain ⟨hn, w, wt, hag, wsv, hsv⟩ := id hI
  have hW : Wd G (fun q => s.heap.size ≤ q) [[tbO tb qn qb r x h o], stW G qn v, stW G qb u, [(r, .inr (3, [.ref (qn 0)]))], [sxA x cu qn k.1], [arL G cu 5 k.2], hiW G h pa sn n S g has, stW G sn sv, [orO G o sg ln], [arC G sg 60 tx], [moO X n has ln], [arI G (X 1) 258 (s2Z v y)], [arI G (X 2) 516 (paF g')], [arI G (X 3) 129 sv'], [arI G (X 4) 60 tx], [arB G (X 5) 36 S1], [arB G (X 6) 36 T1], [arI G (X 7) 36 L1], [arI G (X 8) 36 A1]] s.heap H locs := hW
  obtain ⟨a1, h1, e1⟩ := iI_ex (xs (i + 1).toNat)
  obtain ⟨a2, h2, e2⟩ := iI_ex (xs (i + 2).toNat)
  obtain ⟨a3, h3, e3⟩ := iI_ex (xs (i + 3).toNat)
  refine z_al_n C hl dL_law_136 2 rfl 137 rfl ?_
  refine z_al_n C hl dL_law_137 3 rfl 138 rfl ?_
  refine z_il_n C hl dL_law_138 0 rfl 139 rfl ?_
  refine z_iconst C dL_law_139 140 rfl ?_
  refine z_iadd C dL_law_140 141 rfl (i + 1) rfl ?_
  refine z_sld C hX hbl hW (by omega) hL e1 dL_law_141 142 rfl ?_
  refine z_al_n C hl dL_law_142 3 rfl 143 rfl ?_
  refine z_il_n C hl dL_law_143 0 rfl 144 rfl ?_
  refine z_iconst C dL_law_144 145 rfl ?_
  refine z_iadd C dL_law_145 146 rfl (i + 2) rfl ?_
  refine z_sld C hX hbl hW (by omega) hL e2 dL_law_146 147 rfl ?_
  refine z_al_n C hl dL_law_147 3 rfl 148 rfl ?_
  refine z_il_n C hl dL_law_148 0 rfl 149 rfl ?_
  refine z_iconst C dL_law_149 150 rfl ?_
  refine z_iadd C dL_law_150 151 rfl (i + 3) rfl ?_
  refine z_sld C hX hbl hW (by omega) hL e3 dL_law_151 152 rfl ?_
  refine z_if_eq C dL_law_152 159 155 (by decide) rfl h3 (fun c1 => ?_) (fun c1 => ?_)
  · skip
    refine z_iconst C dL_law_159 160 rfl ?_
    refine z_top (b := .int (iI (bZ false))) rfl ?_
    refine z_VWi (r := .int (iI (layR v a1 a2 (bZ false)))) (rest := []) C (m_sand l G tb r x cu h pa o sg qn qb sn S g n has u v a1 a2 false hn w h1 h2 (gD_rg hW.2.1 [0, 3, 1, 2, 6] (by decide) rfl)) kV_L_13 ⟨Nat.le_of_ble_eq_true rfl, Nat.le_of_ble_eq_true rfl⟩ hW hK [0, 3, 1, 2, 6] rfl (sameA_eq rfl (sameA_eq rfl (sameA_eq rfl (sameA_eq rfl (sameA_cons (hi_permA _ _) (sameA_nil)))))) 0 rfl rfl rfl hl.1 rfl (Nat.le_of_ble_eq_true rfl) dL_law_160 ⟨Nat.le_of_ble_eq_true rfl, Nat.le_of_ble_eq_true rfl⟩ 163 rfl (rs' := [[tbO tb qn qb r x h o], stW G qn (layV v a1 a2 (bZ false)), stW G qb v, [(r, .inr (3, [.ref (qn 0)]))], [sxA x cu qn k.1], [arL G cu 5 k.2], hiW G h pa sn (actN (layR v a1 a2 (bZ false)) n) (actS (layR v a1 a2 (bZ false)) n S) (actG (layR v a1 a2 (bZ false)) n g v) has, stW G sn sv, [orO G o sg ln], [arC G sg 60 tx], [moO X n has ln], [arI G (X 1) 258 (s2Z v y)], [arI G (X 2) 516 (paF g')], [arI G (X 3) 129 sv'], [arI G (X 4) 60 tx], [arB G (X 5) 36 S1], [arB G (X 6) 36 T1], [arI G (X 7) 36 L1], [arI G (X 8) 36 A1]]) rfl (fun H locs hW hkeep => ?_)
    refine z_al_n C hl dL_law_163 1 rfl 164 rfl ?_
    refine z_al_n C hl dL_law_164 3 rfl 165 rfl ?_
    refine z_il_n C hl dL_law_165 0 rfl 166 rfl ?_
    refine z_iconst C dL_law_166 167 rfl ?_
    refine z_iadd C dL_law_167 168 rfl (i + 1) rfl ?_
    refine z_sld C hX hbl hW (by omega) hL e1 dL_law_168 169 rfl ?_
    refine z_al_n C hl dL_law_169 3 rfl 170 rfl ?_
    refine z_il_n C hl dL_law_170 0 rfl 171 rfl ?_
    refine z_iconst C dL_law_171 172 rfl ?_
    refine z_iadd C dL_law_172 173 rfl (i + 2) rfl ?_
    refine z_sld C hX hbl hW (by omega) hL e2 dL_law_173 174 rfl ?_
    refine z_al_n C hl dL_law_174 3 rfl 175 rfl ?_
    refine z_il_n C hl dL_law_175 0 rfl 176 rfl ?_
    refine z_iconst C dL_law_176 177 rfl ?_
    refine z_iadd C dL_law_177 178 rfl (i + 3) rfl ?_
    refine z_sld C hX hbl hW (by omega) hL e3 dL_law_178 179 rfl ?_
    refine z_if_eq C dL_law_179 186 182 (by decide) rfl h3 (fun c2 => ?_) (fun c2 => ?_)
    · skip
      refine z_iconst C dL_law_186 187 rfl ?_
      refine z_top (b := .int (iI (bZ false))) rfl ?_
      refine z_VWi (r := .int (iI (layR v a1 a2 (bZ false)))) (rest := [.int (iI (layR v a1 a2 (bZ false)))]) C (m_xsand l G X n ln has v y g' a1 a2 false hn w h1 h2 (gD_rg hW.2.1 [10, 11, 12] (by decide) rfl)) kV_L_17 ⟨Nat.le_of_ble_eq_true rfl, Nat.le_of_ble_eq_true rfl⟩ hW hK [10, 11, 12] rfl (sameA_of rfl) 0 rfl rfl rfl hl.1 rfl (Nat.le_of_ble_eq_true rfl) dL_law_187 ⟨Nat.le_of_ble_eq_true rfl, Nat.le_of_ble_eq_true rfl⟩ 190 rfl (rs' := [[tbO tb qn qb r x h o], stW G qn (layV v a1 a2 (bZ false)), stW G qb v, [(r, .inr (3, [.ref (qn 0)]))], [sxA x cu qn k.1], [arL G cu 5 k.2], hiW G h pa sn (actN (layR v a1 a2 (bZ false)) n) (actS (layR v a1 a2 (bZ false)) n S) (actG (layR v a1 a2 (bZ false)) n g v) has, stW G sn sv, [orO G o sg ln], [arC G sg 60 tx], [moO X (actN (layR v a1 a2 (bZ false)) n) has ln], [arI G (X 1) 258 (s2Z (layV v a1 a2 (bZ false)) (layV v a1 a2 (bZ false)))], [arI G (X 2) 516 (paF (actG (layR v a1 a2 (bZ false)) n g' v))], [arI G (X 3) 129 sv'], [arI G (X 4) 60 tx], [arB G (X 5) 36 S1], [arB G (X 6) 36 T1], [arI G (X 7) 36 L1], [arI G (X 8) 36 A1]]) rfl (fun H locs hW hkeep => ?_)
      refine z_same C dL_law_190 740 (by decide) ?_
      exact K (actS (layR v a1 a2 (bZ false)) n S) (layV v a1 a2 (bZ false)) v (layV v a1 a2 (bZ false)) sv sv' (actG (layR v a1 a2 (bZ false)) n g v) (actG (layR v a1 a2 (bZ false)) n g' v) (actN (layR v a1 a2 (bZ false)) n) ln has tx k S1 T1 L1 A1 _ _ ls (hI.act _ (w.lay _ _ _ (bZ_rng _))) hW (hl)
    · exfalso; omega
  · skip
    refine z_iconst C dL_law_155 156 rfl ?_
    refine z_goto C dL_law_156 160 (by decide) ?_
    refine z_top (b := .int (iI (bZ true))) rfl ?_
    refine z_VWi (r := .int (iI (layR v a1 a2 (bZ true)))) (rest := []) C (m_sand l G tb r x cu h pa o sg qn qb sn S g n has u v a1 a2 true hn w h1 h2 (gD_rg hW.2.1 [0, 3, 1, 2, 6] (by decide) rfl)) kV_L_13 ⟨Nat.le_of_ble_eq_true rfl, Nat.le_of_ble_eq_true rfl⟩ hW hK [0, 3, 1, 2, 6] rfl (sameA_eq rfl (sameA_eq rfl (sameA_eq rfl (sameA_eq rfl (sameA_cons (hi_permA _ _) (sameA_nil)))))) 0 rfl rfl rfl hl.1 rfl (Nat.le_of_ble_eq_true rfl) dL_law_160 ⟨Nat.le_of_ble_eq_true rfl, Nat.le_of_ble_eq_true rfl⟩ 163 rfl (rs' := [[tbO tb qn qb r x h o], stW G qn (layV v a1 a2 (bZ true)), stW G qb v, [(r, .inr (3, [.ref (qn 0)]))], [sxA x cu qn k.1], [arL G cu 5 k.2], hiW G h pa sn (actN (layR v a1 a2 (bZ true)) n) (actS (layR v a1 a2 (bZ true)) n S) (actG (layR v a1 a2 (bZ true)) n g v) has, stW G sn sv, [orO G o sg ln], [arC G sg 60 tx], [moO X n has ln], [arI G (X 1) 258 (s2Z v y)], [arI G (X 2) 516 (paF g')], [arI G (X 3) 129 sv'], [arI G (X 4) 60 tx], [arB G (X 5) 36 S1], [arB G (X 6) 36 T1], [arI G (X 7) 36 L1], [arI G (X 8) 36 A1]]) rfl (fun H locs hW hkeep => ?_)
    refine z_al_n C hl dL_law_163 1 rfl 164 rfl ?_
    refine z_al_n C hl dL_law_164 3 rfl 165 rfl ?_
    refine z_il_n C hl dL_law_165 0 rfl 166 rfl ?_
    refine z_iconst C dL_law_166 167 rfl ?_
    refine z_iadd C dL_law_167 168 rfl (i + 1) rfl ?_
    refine z_sld C hX hbl hW (by omega) hL e1 dL_law_168 169 rfl ?_
    refine z_al_n C hl dL_law_169 3 rfl 170 rfl ?_
    refine z_il_n C hl dL_law_170 0 rfl 171 rfl ?_
    refine z_iconst C dL_law_171 172 rfl ?_
    refine z_iadd C dL_law_172 173 rfl (i + 2) rfl ?_
    refine z_sld C hX hbl hW (by omega) hL e2 dL_law_173 174 rfl ?_
    refine z_al_n C hl dL_law_174 3 rfl 175 rfl ?_
    refine z_il_n C hl dL_law_175 0 rfl 176 rfl ?_
    refine z_iconst C dL_law_176 177 rfl ?_
    refine z_iadd C dL_law_177 178 rfl (i + 3) rfl ?_
    refine z_sld C hX hbl hW (by omega) hL e3 dL_law_178 179 rfl ?_
    refine z_if_eq C dL_law_179 186 182 (by decide) rfl h3 (fun c2 => ?_) (fun c2 => ?_)
    · exfalso; omega
    · skip
      refine z_iconst C dL_law_182 183 rfl ?_
      refine z_goto C dL_law_183 187 (by decide) ?_
      refine z_top (b := .int (iI (bZ true))) rfl ?_
      refine z_VWi (r := .int (iI (layR v a1 a2 (bZ true)))) (rest := [.int (iI (layR v a1 a2 (bZ true)))]) C (m_xsand l G X n ln has v y g' a1 a2 true hn w h1 h2 (gD_rg hW.2.1 [10, 11, 12] (by decide) rfl)) kV_L_17 ⟨Nat.le_of_ble_eq_true rfl, Nat.le_of_ble_eq_true rfl⟩ hW hK [10, 11, 12] rfl (sameA_of rfl) 0 rfl rfl rfl hl.1 rfl (Nat.le_of_ble_eq_true rfl) dL_law_187 ⟨Nat.le_of_ble_eq_true rfl, Nat.le_of_ble_eq_true rfl⟩ 190 rfl (rs' := [[tbO tb qn qb r x h o], stW G qn (layV v a1 a2 (bZ true)), stW G qb v, [(r, .inr (3, [.ref (qn 0)]))], [sxA x cu qn k.1], [arL G cu 5 k.2], hiW G h pa sn (actN (layR v a1 a2 (bZ true)) n) (actS (layR v a1 a2 (bZ true)) n S) (actG (layR v a1 a2 (bZ true)) n g v) has, stW G sn sv, [orO G o sg ln], [arC G sg 60 tx], [moO X (actN (layR v a1 a2 (bZ true)) n) has ln], [arI G (X 1) 258 (s2Z (layV v a1 a2 (bZ true)) (layV v a1 a2 (bZ true)))], [arI G (X 2) 516 (paF (actG (layR v a1 a2 (bZ true)) n g' v))], [arI G (X 3) 129 sv'], [arI G (X 4) 60 tx], [arB G (X 5) 36 S1], [arB G (X 6) 36 T1], [arI G (X 7) 36 L1], [arI G (X 8) 36 A1]]) rfl (fun H locs hW hkeep => ?_)
      refine z_same C dL_law_190 740 (by decide) ?_
      exact K (actS (layR v a1 a2 (bZ true)) n S) (layV v a1 a2 (bZ true)) v (layV v a1 a2 (bZ true)) sv sv' (actG (layR v a1 a2 (bZ true)) n g v) (actG (layR v a1 a2 (bZ true)) n g' v) (actN (layR v a1 a2 (bZ true)) n) ln has tx k S1 T1 L1 A1 _ _ ls (hI.act _ (w.lay _ _ _ (bZ_rng _))) hW (hl)
set_option maxHeartbeats 4000000 in
set_option maxRecDepth 100000 in
theorem lc_1 (l : Launch) {p : Program} {e : Env} {s : State} {m : MethodId} {below : List Frame} {meth : Method} {c : Code} {Q : State → Prop} {G : gT} {b tb r x cu h pa o sg : Nat} {qn qb sn X : Nat → Nat} {i : Int} {L : Nat} {xs : Nat → Int32} {E : eT} (C : CX p s m #[Value.ref b] meth c RL cL_law 8 ret) (hK : gK G s) (hE : EV E (fun q => s.heap.size ≤ q) s s.heap) (hX : va_X b L xs s s.heap) (hbl : b < s.heap.size) (hL : L ≤ 2048) (hi : 0 ≤ i ∧ i + 4 ≤ L) (K : LK p l e s m below meth c Q G b tb r x cu h pa o sg qn qb sn X i 740) : LK p l e s m below meth c Q G b tb r x cu h pa o sg qn qb sn X i 195 := by
  intro S v u y sv sv' g g' n ln has tx k S1 T1 L1 A1 H locs ls hI hW hl
  obtain ⟨hn, w, wt, hag, wsv, hsv⟩ := id hI
  have hW : Wd G (fun q => s.heap.size ≤ q) [[tbO tb qn qb r x h o], stW G qn v, stW G qb u, [(r, .inr (3, [.ref (qn 0)]))], [sxA x cu qn k.1], [arL G cu 5 k.2], hiW G h pa sn n S g has, stW G sn sv, [orO G o sg ln], [arC G sg 60 tx], [moO X n has ln], [arI G (X 1) 258 (s2Z v y)], [arI G (X 2) 516 (paF g')], [arI G (X 3) 129 sv'], [arI G (X 4) 60 tx], [arB G (X 5) 36 S1], [arB G (X 6) 36 T1], [arI G (X 7) 36 L1], [arI G (X 8) 36 A1]] s.heap H locs := hW
  obtain ⟨a1, h1, e1⟩ := iI_ex (xs (i + 1).toNat)
  obtain ⟨a2, h2, e2⟩ := iI_ex (xs (i + 2).toNat)
  obtain ⟨a3, h3, e3⟩ := iI_ex (xs (i + 3).toNat)
  refine z_al_n C hl dL_law_195 2 rfl 196 rfl ?_
  refine z_al_n C hl dL_law_196 3 rfl 197 rfl ?_
  refine z_il_n C hl dL_law_197 0 rfl 198 rfl ?_
  refine z_iconst C dL_law_198 199 rfl ?_
  refine z_iadd C dL_law_199 200 rfl (i + 1) rfl ?_
  refine z_sld C hX hbl hW (by omega) hL e1 dL_law_200 201 rfl ?_
  refine z_al_n C hl dL_law_201 3 rfl 202 rfl ?_
  refine z_il_n C hl dL_law_202 0 rfl 203 rfl ?_
  refine z_iconst C dL_law_203 204 rfl ?_
  refine z_iadd C dL_law_204 205 rfl (i + 2) rfl ?_
  refine z_sld C hX hbl hW (by omega) hL e2 dL_law_205 206 rfl ?_
  refine z_al_n C hl dL_law_206 3 rfl 207 rfl ?_
  refine z_il_n C hl dL_law_207 0 rfl 208 rfl ?_
  refine z_iconst C dL_law_208 209 rfl ?_
  refine z_iadd C dL_law_209 210 rfl (i + 3) rfl ?_
  refine z_sld C hX hbl hW (by omega) hL e3 dL_law_210 211 rfl ?_
  refine z_VWi (r := .int (iI (addR v a1 a2 a3))) (rest := []) C (m_boat l G tb r x cu h pa o sg qn qb sn S g n has u v a1 a2 a3 hn w h1 h2 h3 (gD_rg hW.2.1 [0, 3, 1, 2, 6] (by decide) rfl)) kV_L_18 ⟨Nat.le_of_ble_eq_true rfl, Nat.le_of_ble_eq_true rfl⟩ hW hK [0, 3, 1, 2, 6] rfl (sameA_eq rfl (sameA_eq rfl (sameA_eq rfl (sameA_eq rfl (sameA_cons (hi_permA _ _) (sameA_nil)))))) 0 rfl rfl rfl hl.1 rfl (Nat.le_of_ble_eq_true rfl) dL_law_211 ⟨Nat.le_of_ble_eq_true rfl, Nat.le_of_ble_eq_true rfl⟩ 214 rfl (rs' := [[tbO tb qn qb r x h o], stW G qn (addV v a1 a2 a3), stW G qb v, [(r, .inr (3, [.ref (qn 0)]))], [sxA x cu qn k.1], [arL G cu 5 k.2], hiW G h pa sn (actN (addR v a1 a2 a3) n) (actS (addR v a1 a2 a3) n S) (actG (addR v a1 a2 a3) n g v) has, stW G sn sv, [orO G o sg ln], [arC G sg 60 tx], [moO X n has ln], [arI G (X 1) 258 (s2Z v y)], [arI G (X 2) 516 (paF g')], [arI G (X 3) 129 sv'], [arI G (X 4) 60 tx], [arB G (X 5) 36 S1], [arB G (X 6) 36 T1], [arI G (X 7) 36 L1], [arI G (X 8) 36 A1]]) rfl (fun H locs hW hkeep => ?_)
  refine z_al_n C hl dL_law_214 1 rfl 215 rfl ?_
  refine z_al_n C hl dL_law_215 3 rfl 216 rfl ?_
  refine z_il_n C hl dL_law_216 0 rfl 217 rfl ?_
  refine z_iconst C dL_law_217 218 rfl ?_
  refine z_iadd C dL_law_218 219 rfl (i + 1) rfl ?_
  refine z_sld C hX hbl hW (by omega) hL e1 dL_law_219 220 rfl ?_
  refine z_al_n C hl dL_law_220 3 rfl 221 rfl ?_
  refine z_il_n C hl dL_law_221 0 rfl 222 rfl ?_
  refine z_iconst C dL_law_222 223 rfl ?_
  refine z_iadd C dL_law_223 224 rfl (i + 2) rfl ?_
  refine z_sld C hX hbl hW (by omega) hL e2 dL_law_224 225 rfl ?_
  refine z_al_n C hl dL_law_225 3 rfl 226 rfl ?_
  refine z_il_n C hl dL_law_226 0 rfl 227 rfl ?_
  refine z_iconst C dL_law_227 228 rfl ?_
  refine z_iadd C dL_law_228 229 rfl (i + 3) rfl ?_
  refine z_sld C hX hbl hW (by omega) hL e3 dL_law_229 230 rfl ?_
  refine z_VWi (r := .int (iI (addR v a1 a2 a3))) (rest := [.int (iI (addR v a1 a2 a3))]) C (m_xboat l G X n ln has v y g' a1 a2 a3 hn w h1 h2 h3 (gD_rg hW.2.1 [10, 11, 12] (by decide) rfl)) kV_L_22 ⟨Nat.le_of_ble_eq_true rfl, Nat.le_of_ble_eq_true rfl⟩ hW hK [10, 11, 12] rfl (sameA_of rfl) 0 rfl rfl rfl hl.1 rfl (Nat.le_of_ble_eq_true rfl) dL_law_230 ⟨Nat.le_of_ble_eq_true rfl, Nat.le_of_ble_eq_true rfl⟩ 233 rfl (rs' := [[tbO tb qn qb r x h o], stW G qn (addV v a1 a2 a3), stW G qb v, [(r, .inr (3, [.ref (qn 0)]))], [sxA x cu qn k.1], [arL G cu 5 k.2], hiW G h pa sn (actN (addR v a1 a2 a3) n) (actS (addR v a1 a2 a3) n S) (actG (addR v a1 a2 a3) n g v) has, stW G sn sv, [orO G o sg ln], [arC G sg 60 tx], [moO X (actN (addR v a1 a2 a3) n) has ln], [arI G (X 1) 258 (s2Z (addV v a1 a2 a3) (addV v a1 a2 a3))], [arI G (X 2) 516 (paF (actG (addR v a1 a2 a3) n g' v))], [arI G (X 3) 129 sv'], [arI G (X 4) 60 tx], [arB G (X 5) 36 S1], [arB G (X 6) 36 T1], [arI G (X 7) 36 L1], [arI G (X 8) 36 A1]]) rfl (fun H locs hW hkeep => ?_)
  refine z_same C dL_law_233 740 (by decide) ?_
  exact K (actS (addR v a1 a2 a3) n S) (addV v a1 a2 a3) v (addV v a1 a2 a3) sv sv' (actG (addR v a1 a2 a3) n g v) (actG (addR v a1 a2 a3) n g' v) (actN (addR v a1 a2 a3) n) ln has tx k S1 T1 L1 A1 _ _ ls (hI.act _ (w.add _ _ _)) hW (hl)
set_option maxHeartbeats 4000000 in
set_option maxRecDepth 100000 in
theorem lc_2 (l : Launch) {p : Program} {e : Env} {s : State} {m : MethodId} {below : List Frame} {meth : Method} {c : Code} {Q : State → Prop} {G : gT} {b tb r x cu h pa o sg : Nat} {qn qb sn X : Nat → Nat} {i : Int} {L : Nat} {xs : Nat → Int32} {E : eT} (C : CX p s m #[Value.ref b] meth c RL cL_law 8 ret) (hK : gK G s) (hE : EV E (fun q => s.heap.size ≤ q) s s.heap) (hX : va_X b L xs s s.heap) (hbl : b < s.heap.size) (hL : L ≤ 2048) (hi : 0 ≤ i ∧ i + 4 ≤ L) (K : LK p l e s m below meth c Q G b tb r x cu h pa o sg qn qb sn X i 740) : LK p l e s m below meth c Q G b tb r x cu h pa o sg qn qb sn X i 238 := by
  intro S v u y sv sv' g g' n ln has tx k S1 T1 L1 A1 H locs ls hI hW hl
  obtain ⟨hn, w, wt, hag, wsv, hsv⟩ := id hI
  have hW : Wd G (fun q => s.heap.size ≤ q) [[tbO tb qn qb r x h o], stW G qn v, stW G qb u, [(r, .inr (3, [.ref (qn 0)]))], [sxA x cu qn k.1], [arL G cu 5 k.2], hiW G h pa sn n S g has, stW G sn sv, [orO G o sg ln], [arC G sg 60 tx], [moO X n has ln], [arI G (X 1) 258 (s2Z v y)], [arI G (X 2) 516 (paF g')], [arI G (X 3) 129 sv'], [arI G (X 4) 60 tx], [arB G (X 5) 36 S1], [arB G (X 6) 36 T1], [arI G (X 7) 36 L1], [arI G (X 8) 36 A1]] s.heap H locs := hW
  obtain ⟨a1, h1, e1⟩ := iI_ex (xs (i + 1).toNat)
  obtain ⟨a2, h2, e2⟩ := iI_ex (xs (i + 2).toNat)
  refine z_al_n C hl dL_law_238 2 rfl 239 rfl ?_
  refine z_al_n C hl dL_law_239 3 rfl 240 rfl ?_
  refine z_il_n C hl dL_law_240 0 rfl 241 rfl ?_
  refine z_iconst C dL_law_241 242 rfl ?_
  refine z_iadd C dL_law_242 243 rfl (i + 1) rfl ?_
  refine z_sld C hX hbl hW (by omega) hL e1 dL_law_243 244 rfl ?_
  refine z_al_n C hl dL_law_244 3 rfl 245 rfl ?_
  refine z_il_n C hl dL_law_245 0 rfl 246 rfl ?_
  refine z_iconst C dL_law_246 247 rfl ?_
  refine z_iadd C dL_law_247 248 rfl (i + 2) rfl ?_
  refine z_sld C hX hbl hW (by omega) hL e2 dL_law_248 249 rfl ?_
  refine z_VWzi (r := .int (iI (chsR v a1 a2))) (rest := []) C (m_set l G tb r x cu h pa o sg qn qb sn S g n has u v E a1 a2 hn w h1 h2 (gD_rg hW.2.1 [0, 3, 1, 2, 6] (by decide) rfl)) kV_L_23 ⟨Nat.le_of_ble_eq_true rfl, Nat.le_of_ble_eq_true rfl⟩ hW hK [0, 3, 1, 2, 6] rfl (sameA_eq rfl (sameA_eq rfl (sameA_eq rfl (sameA_eq rfl (sameA_cons (hi_permA _ _) (sameA_nil)))))) zw_blind (zw_of hE hW.2.2.2 (hW.in [0, 3, 1, 2, 6] rfl)) 0 rfl rfl rfl hl.1 rfl (Nat.le_of_ble_eq_true rfl) dL_law_249 ⟨Nat.le_of_ble_eq_true rfl, Nat.le_of_ble_eq_true rfl⟩ 252 rfl (rs' := [[tbO tb qn qb r x h o], stW G qn (chsV v a1 a2), stW G qb v, [(r, .inr (3, [.ref (qn 0)]))], [sxA x cu qn k.1], [arL G cu 5 k.2], hiW G h pa sn (actN (chsR v a1 a2) n) (actS (chsR v a1 a2) n S) (actG (chsR v a1 a2) n g v) has, stW G sn sv, [orO G o sg ln], [arC G sg 60 tx], [moO X n has ln], [arI G (X 1) 258 (s2Z v y)], [arI G (X 2) 516 (paF g')], [arI G (X 3) 129 sv'], [arI G (X 4) 60 tx], [arB G (X 5) 36 S1], [arB G (X 6) 36 T1], [arI G (X 7) 36 L1], [arI G (X 8) 36 A1]]) rfl (fun H locs hW hkeep => ?_)
  refine z_al_n C hl dL_law_252 1 rfl 253 rfl ?_
  refine z_al_n C hl dL_law_253 3 rfl 254 rfl ?_
  refine z_il_n C hl dL_law_254 0 rfl 255 rfl ?_
  refine z_iconst C dL_law_255 256 rfl ?_
  refine z_iadd C dL_law_256 257 rfl (i + 1) rfl ?_
  refine z_sld C hX hbl hW (by omega) hL e1 dL_law_257 258 rfl ?_
  refine z_al_n C hl dL_law_258 3 rfl 259 rfl ?_
  refine z_il_n C hl dL_law_259 0 rfl 260 rfl ?_
  refine z_iconst C dL_law_260 261 rfl ?_
  refine z_iadd C dL_law_261 262 rfl (i + 2) rfl ?_
  refine z_sld C hX hbl hW (by omega) hL e2 dL_law_262 263 rfl ?_
  refine z_VWi (r := .int (iI (chsR v a1 a2))) (rest := [.int (iI (chsR v a1 a2))]) C (m_xset l G X n ln has v y g' a1 a2 hn w h1 h2 (gD_rg hW.2.1 [10, 11, 12] (by decide) rfl)) kV_L_27 ⟨Nat.le_of_ble_eq_true rfl, Nat.le_of_ble_eq_true rfl⟩ hW hK [10, 11, 12] rfl (sameA_of rfl) 0 rfl rfl rfl hl.1 rfl (Nat.le_of_ble_eq_true rfl) dL_law_263 ⟨Nat.le_of_ble_eq_true rfl, Nat.le_of_ble_eq_true rfl⟩ 266 rfl (rs' := [[tbO tb qn qb r x h o], stW G qn (chsV v a1 a2), stW G qb v, [(r, .inr (3, [.ref (qn 0)]))], [sxA x cu qn k.1], [arL G cu 5 k.2], hiW G h pa sn (actN (chsR v a1 a2) n) (actS (chsR v a1 a2) n S) (actG (chsR v a1 a2) n g v) has, stW G sn sv, [orO G o sg ln], [arC G sg 60 tx], [moO X (actN (chsR v a1 a2) n) has ln], [arI G (X 1) 258 (s2Z (chsV v a1 a2) y)], [arI G (X 2) 516 (paF (actG (chsR v a1 a2) n g' v))], [arI G (X 3) 129 sv'], [arI G (X 4) 60 tx], [arB G (X 5) 36 S1], [arB G (X 6) 36 T1], [arI G (X 7) 36 L1], [arI G (X 8) 36 A1]]) rfl (fun H locs hW hkeep => ?_)
  refine z_same C dL_law_266 740 (by decide) ?_
  exact K (actS (chsR v a1 a2) n S) (chsV v a1 a2) v y sv sv' (actG (chsR v a1 a2) n g v) (actG (chsR v a1 a2) n g' v) (actN (chsR v a1 a2) n) ln has tx k S1 T1 L1 A1 _ _ ls (hI.act _ (w.chs _ _)) hW (hl)
set_option maxHeartbeats 4000000 in
set_option maxRecDepth 100000 in
theorem lc_3 (l : Launch) {p : Program} {e : Env} {s : State} {m : MethodId} {below : List Frame} {meth : Method} {c : Code} {Q : State → Prop} {G : gT} {b tb r x cu h pa o sg : Nat} {qn qb sn X : Nat → Nat} {i : Int} {L : Nat} {xs : Nat → Int32} {E : eT} (C : CX p s m #[Value.ref b] meth c RL cL_law 8 ret) (hK : gK G s) (hE : EV E (fun q => s.heap.size ≤ q) s s.heap) (hX : va_X b L xs s s.heap) (hbl : b < s.heap.size) (hL : L ≤ 2048) (hi : 0 ≤ i ∧ i + 4 ≤ L) (K : LK p l e s m below meth c Q G b tb r x cu h pa o sg qn qb sn X i 740) : LK p l e s m below meth c Q G b tb r x cu h pa o sg qn qb sn X i 271 := by
  intro S v u y sv sv' g g' n ln has tx k S1 T1 L1 A1 H locs ls hI hW hl
  obtain ⟨hn, w, wt, hag, wsv, hsv⟩ := id hI
  have hW : Wd G (fun q => s.heap.size ≤ q) [[tbO tb qn qb r x h o], stW G qn v, stW G qb u, [(r, .inr (3, [.ref (qn 0)]))], [sxA x cu qn k.1], [arL G cu 5 k.2], hiW G h pa sn n S g has, stW G sn sv, [orO G o sg ln], [arC G sg 60 tx], [moO X n has ln], [arI G (X 1) 258 (s2Z v y)], [arI G (X 2) 516 (paF g')], [arI G (X 3) 129 sv'], [arI G (X 4) 60 tx], [arB G (X 5) 36 S1], [arB G (X 6) 36 T1], [arI G (X 7) 36 L1], [arI G (X 8) 36 A1]] s.heap H locs := hW
  obtain ⟨a1, h1, e1⟩ := iI_ex (xs (i + 1).toNat)
  obtain ⟨a2, h2, e2⟩ := iI_ex (xs (i + 2).toNat)
  obtain ⟨a3, h3, e3⟩ := iI_ex (xs (i + 3).toNat)
  refine z_al_n C hl dL_law_271 2 rfl 272 rfl ?_
  refine z_al_n C hl dL_law_272 3 rfl 273 rfl ?_
  refine z_il_n C hl dL_law_273 0 rfl 274 rfl ?_
  refine z_iconst C dL_law_274 275 rfl ?_
  refine z_iadd C dL_law_275 276 rfl (i + 1) rfl ?_
  refine z_sld C hX hbl hW (by omega) hL e1 dL_law_276 277 rfl ?_
  refine z_al_n C hl dL_law_277 3 rfl 278 rfl ?_
  refine z_il_n C hl dL_law_278 0 rfl 279 rfl ?_
  refine z_iconst C dL_law_279 280 rfl ?_
  refine z_iadd C dL_law_280 281 rfl (i + 2) rfl ?_
  refine z_sld C hX hbl hW (by omega) hL e2 dL_law_281 282 rfl ?_
  refine z_al_n C hl dL_law_282 3 rfl 283 rfl ?_
  refine z_il_n C hl dL_law_283 0 rfl 284 rfl ?_
  refine z_iconst C dL_law_284 285 rfl ?_
  refine z_iadd C dL_law_285 286 rfl (i + 3) rfl ?_
  refine z_sld C hX hbl hW (by omega) hL e3 dL_law_286 287 rfl ?_
  refine z_VWi (r := .int (iI (saiR v a1 a2 a3))) (rest := []) C (m_move l G tb r x cu h pa o sg qn qb sn S g n has u v a1 a2 a3 hn w h1 h2 h3 (gD_rg hW.2.1 [0, 3, 1, 2, 6] (by decide) rfl)) kV_L_28 ⟨Nat.le_of_ble_eq_true rfl, Nat.le_of_ble_eq_true rfl⟩ hW hK [0, 3, 1, 2, 6] rfl (sameA_eq rfl (sameA_eq rfl (sameA_eq rfl (sameA_eq rfl (sameA_cons (hi_permA _ _) (sameA_nil)))))) 0 rfl rfl rfl hl.1 rfl (Nat.le_of_ble_eq_true rfl) dL_law_287 ⟨Nat.le_of_ble_eq_true rfl, Nat.le_of_ble_eq_true rfl⟩ 290 rfl (rs' := [[tbO tb qn qb r x h o], stW G qn (saiV v a1 a2 a3), stW G qb v, [(r, .inr (3, [.ref (qn 0)]))], [sxA x cu qn k.1], [arL G cu 5 k.2], hiW G h pa sn (actN (saiR v a1 a2 a3) n) (actS (saiR v a1 a2 a3) n S) (actG (saiR v a1 a2 a3) n g v) has, stW G sn sv, [orO G o sg ln], [arC G sg 60 tx], [moO X n has ln], [arI G (X 1) 258 (s2Z v y)], [arI G (X 2) 516 (paF g')], [arI G (X 3) 129 sv'], [arI G (X 4) 60 tx], [arB G (X 5) 36 S1], [arB G (X 6) 36 T1], [arI G (X 7) 36 L1], [arI G (X 8) 36 A1]]) rfl (fun H locs hW hkeep => ?_)
  refine z_al_n C hl dL_law_290 1 rfl 291 rfl ?_
  refine z_al_n C hl dL_law_291 3 rfl 292 rfl ?_
  refine z_il_n C hl dL_law_292 0 rfl 293 rfl ?_
  refine z_iconst C dL_law_293 294 rfl ?_
  refine z_iadd C dL_law_294 295 rfl (i + 1) rfl ?_
  refine z_sld C hX hbl hW (by omega) hL e1 dL_law_295 296 rfl ?_
  refine z_al_n C hl dL_law_296 3 rfl 297 rfl ?_
  refine z_il_n C hl dL_law_297 0 rfl 298 rfl ?_
  refine z_iconst C dL_law_298 299 rfl ?_
  refine z_iadd C dL_law_299 300 rfl (i + 2) rfl ?_
  refine z_sld C hX hbl hW (by omega) hL e2 dL_law_300 301 rfl ?_
  refine z_al_n C hl dL_law_301 3 rfl 302 rfl ?_
  refine z_il_n C hl dL_law_302 0 rfl 303 rfl ?_
  refine z_iconst C dL_law_303 304 rfl ?_
  refine z_iadd C dL_law_304 305 rfl (i + 3) rfl ?_
  refine z_sld C hX hbl hW (by omega) hL e3 dL_law_305 306 rfl ?_
  refine z_VWi (r := .int (iI (saiR v a1 a2 a3))) (rest := [.int (iI (saiR v a1 a2 a3))]) C (m_xmove l G X n ln has v y g' a1 a2 a3 hn w h1 h2 h3 (gD_rg hW.2.1 [10, 11, 12] (by decide) rfl)) kV_L_31 ⟨Nat.le_of_ble_eq_true rfl, Nat.le_of_ble_eq_true rfl⟩ hW hK [10, 11, 12] rfl (sameA_of rfl) 0 rfl rfl rfl hl.1 rfl (Nat.le_of_ble_eq_true rfl) dL_law_306 ⟨Nat.le_of_ble_eq_true rfl, Nat.le_of_ble_eq_true rfl⟩ 309 rfl (rs' := [[tbO tb qn qb r x h o], stW G qn (saiV v a1 a2 a3), stW G qb v, [(r, .inr (3, [.ref (qn 0)]))], [sxA x cu qn k.1], [arL G cu 5 k.2], hiW G h pa sn (actN (saiR v a1 a2 a3) n) (actS (saiR v a1 a2 a3) n S) (actG (saiR v a1 a2 a3) n g v) has, stW G sn sv, [orO G o sg ln], [arC G sg 60 tx], [moO X (actN (saiR v a1 a2 a3) n) has ln], [arI G (X 1) 258 (s2Z (saiV v a1 a2 a3) (saiV v a1 a2 a3))], [arI G (X 2) 516 (paF (actG (saiR v a1 a2 a3) n g' v))], [arI G (X 3) 129 sv'], [arI G (X 4) 60 tx], [arB G (X 5) 36 S1], [arB G (X 6) 36 T1], [arI G (X 7) 36 L1], [arI G (X 8) 36 A1]]) rfl (fun H locs hW hkeep => ?_)
  refine z_same C dL_law_309 740 (by decide) ?_
  exact K (actS (saiR v a1 a2 a3) n S) (saiV v a1 a2 a3) v (saiV v a1 a2 a3) sv sv' (actG (saiR v a1 a2 a3) n g v) (actG (saiR v a1 a2 a3) n g' v) (actN (saiR v a1 a2 a3) n) ln has tx k S1 T1 L1 A1 _ _ ls (hI.act _ (w.sai _ _ _)) hW (hl)
set_option maxHeartbeats 4000000 in
set_option maxRecDepth 100000 in
theorem lc_4 (l : Launch) {p : Program} {e : Env} {s : State} {m : MethodId} {below : List Frame} {meth : Method} {c : Code} {Q : State → Prop} {G : gT} {b tb r x cu h pa o sg : Nat} {qn qb sn X : Nat → Nat} {i : Int} {L : Nat} {xs : Nat → Int32} {E : eT} (C : CX p s m #[Value.ref b] meth c RL cL_law 8 ret) (hK : gK G s) (hE : EV E (fun q => s.heap.size ≤ q) s s.heap) (hX : va_X b L xs s s.heap) (hbl : b < s.heap.size) (hL : L ≤ 2048) (hi : 0 ≤ i ∧ i + 4 ≤ L) (K : LK p l e s m below meth c Q G b tb r x cu h pa o sg qn qb sn X i 740) : LK p l e s m below meth c Q G b tb r x cu h pa o sg qn qb sn X i 314 := by
  intro S v u y sv sv' g g' n ln has tx k S1 T1 L1 A1 H locs ls hI hW hl
  obtain ⟨hn, w, wt, hag, wsv, hsv⟩ := id hI
  have hW : Wd G (fun q => s.heap.size ≤ q) [[tbO tb qn qb r x h o], stW G qn v, stW G qb u, [(r, .inr (3, [.ref (qn 0)]))], [sxA x cu qn k.1], [arL G cu 5 k.2], hiW G h pa sn n S g has, stW G sn sv, [orO G o sg ln], [arC G sg 60 tx], [moO X n has ln], [arI G (X 1) 258 (s2Z v y)], [arI G (X 2) 516 (paF g')], [arI G (X 3) 129 sv'], [arI G (X 4) 60 tx], [arB G (X 5) 36 S1], [arB G (X 6) 36 T1], [arI G (X 7) 36 L1], [arI G (X 8) 36 A1]] s.heap H locs := hW
  refine z_al_n C hl dL_law_314 2 rfl 315 rfl ?_
  refine z_VWi (r := .int (iI (waiR v))) (rest := []) C (m_pause l G tb r x cu h pa o sg qn qb sn S g n has u v hn w (gD_rg hW.2.1 [0, 3, 1, 2, 6] (by decide) rfl)) kV_L_32 ⟨Nat.le_of_ble_eq_true rfl, Nat.le_of_ble_eq_true rfl⟩ hW hK [0, 3, 1, 2, 6] rfl (sameA_eq rfl (sameA_eq rfl (sameA_eq rfl (sameA_eq rfl (sameA_cons (hi_permA _ _) (sameA_nil)))))) 0 rfl rfl rfl hl.1 rfl (Nat.le_of_ble_eq_true rfl) dL_law_315 ⟨Nat.le_of_ble_eq_true rfl, Nat.le_of_ble_eq_true rfl⟩ 318 rfl (rs' := [[tbO tb qn qb r x h o], stW G qn (waiV v), stW G qb v, [(r, .inr (3, [.ref (qn 0)]))], [sxA x cu qn k.1], [arL G cu 5 k.2], hiW G h pa sn (actN (waiR v) n) (actS (waiR v) n S) (actG (waiR v) n g v) has, stW G sn sv, [orO G o sg ln], [arC G sg 60 tx], [moO X n has ln], [arI G (X 1) 258 (s2Z v y)], [arI G (X 2) 516 (paF g')], [arI G (X 3) 129 sv'], [arI G (X 4) 60 tx], [arB G (X 5) 36 S1], [arB G (X 6) 36 T1], [arI G (X 7) 36 L1], [arI G (X 8) 36 A1]]) rfl (fun H locs hW hkeep => ?_)
  refine z_al_n C hl dL_law_318 1 rfl 319 rfl ?_
  refine z_VWi (r := .int (iI (waiR v))) (rest := [.int (iI (waiR v))]) C (m_xpause l G X n ln has v y g' hn w (gD_rg hW.2.1 [10, 11, 12] (by decide) rfl)) kV_L_36 ⟨Nat.le_of_ble_eq_true rfl, Nat.le_of_ble_eq_true rfl⟩ hW hK [10, 11, 12] rfl (sameA_of rfl) 0 rfl rfl rfl hl.1 rfl (Nat.le_of_ble_eq_true rfl) dL_law_319 ⟨Nat.le_of_ble_eq_true rfl, Nat.le_of_ble_eq_true rfl⟩ 322 rfl (rs' := [[tbO tb qn qb r x h o], stW G qn (waiV v), stW G qb v, [(r, .inr (3, [.ref (qn 0)]))], [sxA x cu qn k.1], [arL G cu 5 k.2], hiW G h pa sn (actN (waiR v) n) (actS (waiR v) n S) (actG (waiR v) n g v) has, stW G sn sv, [orO G o sg ln], [arC G sg 60 tx], [moO X (actN (waiR v) n) has ln], [arI G (X 1) 258 (s2Z (waiV v) (waiV v))], [arI G (X 2) 516 (paF (actG (waiR v) n g' v))], [arI G (X 3) 129 sv'], [arI G (X 4) 60 tx], [arB G (X 5) 36 S1], [arB G (X 6) 36 T1], [arI G (X 7) 36 L1], [arI G (X 8) 36 A1]]) rfl (fun H locs hW hkeep => ?_)
  refine z_same C dL_law_322 740 (by decide) ?_
  exact K (actS (waiR v) n S) (waiV v) v (waiV v) sv sv' (actG (waiR v) n g v) (actG (waiR v) n g' v) (actN (waiR v) n) ln has tx k S1 T1 L1 A1 _ _ ls (hI.act _ (w.wai)) hW (hl)
set_option maxHeartbeats 4000000 in
set_option maxRecDepth 100000 in
theorem lc_5 (l : Launch) {p : Program} {e : Env} {s : State} {m : MethodId} {below : List Frame} {meth : Method} {c : Code} {Q : State → Prop} {G : gT} {b tb r x cu h pa o sg : Nat} {qn qb sn X : Nat → Nat} {i : Int} {L : Nat} {xs : Nat → Int32} {E : eT} (C : CX p s m #[Value.ref b] meth c RL cL_law 8 ret) (hK : gK G s) (hE : EV E (fun q => s.heap.size ≤ q) s s.heap) (hX : va_X b L xs s s.heap) (hbl : b < s.heap.size) (hL : L ≤ 2048) (hi : 0 ≤ i ∧ i + 4 ≤ L) (K : LK p l e s m below meth c Q G b tb r x cu h pa o sg qn qb sn X i 740) : LK p l e s m below meth c Q G b tb r x cu h pa o sg qn qb sn X i 327 := by
  intro S v u y sv sv' g g' n ln has tx k S1 T1 L1 A1 H locs ls hI hW hl
  obtain ⟨hn, w, wt, hag, wsv, hsv⟩ := id hI
  have hW : Wd G (fun q => s.heap.size ≤ q) [[tbO tb qn qb r x h o], stW G qn v, stW G qb u, [(r, .inr (3, [.ref (qn 0)]))], [sxA x cu qn k.1], [arL G cu 5 k.2], hiW G h pa sn n S g has, stW G sn sv, [orO G o sg ln], [arC G sg 60 tx], [moO X n has ln], [arI G (X 1) 258 (s2Z v y)], [arI G (X 2) 516 (paF g')], [arI G (X 3) 129 sv'], [arI G (X 4) 60 tx], [arB G (X 5) 36 S1], [arB G (X 6) 36 T1], [arI G (X 7) 36 L1], [arI G (X 8) 36 A1]] s.heap H locs := hW
  obtain ⟨a1, h1, e1⟩ := iI_ex (xs (i + 1).toNat)
  obtain ⟨t, ht, et⟩ := i2c_ex (iI a1)
  refine z_al_n C hl dL_law_327 2 rfl 328 rfl ?_
  refine z_al_n C hl dL_law_328 3 rfl 329 rfl ?_
  refine z_il_n C hl dL_law_329 0 rfl 330 rfl ?_
  refine z_iconst C dL_law_330 331 rfl ?_
  refine z_iadd C dL_law_331 332 rfl (i + 1) rfl ?_
  refine z_sld C hX hbl hW (by omega) hL e1 dL_law_332 333 rfl ?_
  refine z_i2c C (v := iI t) dL_law_333 et 334 rfl ?_
  refine z_VWi (r := .int (iI (apR ln))) (rest := []) C (m_type l G tb r x cu h pa o sg qn qb sn ln tx t wt ht (gD_rg hW.2.1 [0, 8, 9] (by decide) rfl)) kV_L_37 ⟨Nat.le_of_ble_eq_true rfl, Nat.le_of_ble_eq_true rfl⟩ hW hK [0, 8, 9] rfl (sameA_of rfl) 0 rfl rfl rfl hl.1 rfl (Nat.le_of_ble_eq_true rfl) dL_law_334 ⟨Nat.le_of_ble_eq_true rfl, Nat.le_of_ble_eq_true rfl⟩ 337 rfl (rs' := [[tbO tb qn qb r x h o], stW G qn v, stW G qb u, [(r, .inr (3, [.ref (qn 0)]))], [sxA x cu qn k.1], [arL G cu 5 k.2], hiW G h pa sn n S g has, stW G sn sv, [orO G o sg (apN ln)], [arC G sg 60 (apT ln tx t)], [moO X n has ln], [arI G (X 1) 258 (s2Z v y)], [arI G (X 2) 516 (paF g')], [arI G (X 3) 129 sv'], [arI G (X 4) 60 tx], [arB G (X 5) 36 S1], [arB G (X 6) 36 T1], [arI G (X 7) 36 L1], [arI G (X 8) 36 A1]]) rfl (fun H locs hW hkeep => ?_)
  refine z_al_n C hl dL_law_337 1 rfl 338 rfl ?_
  refine z_al_n C hl dL_law_338 3 rfl 339 rfl ?_
  refine z_il_n C hl dL_law_339 0 rfl 340 rfl ?_
  refine z_iconst C dL_law_340 341 rfl ?_
  refine z_iadd C dL_law_341 342 rfl (i + 1) rfl ?_
  refine z_sld C hX hbl hW (by omega) hL e1 dL_law_342 343 rfl ?_
  refine z_i2c C (v := iI t) dL_law_343 et 344 rfl ?_
  refine z_VWi (r := .int (iI (apR ln))) (rest := [.int (iI (apR ln))]) C (m_xtype l G X n ln has tx t wt ht (gD_rg hW.2.1 [10, 14] (by decide) rfl)) kV_L_41 ⟨Nat.le_of_ble_eq_true rfl, Nat.le_of_ble_eq_true rfl⟩ hW hK [10, 14] rfl (sameA_of rfl) 0 rfl rfl rfl hl.1 rfl (Nat.le_of_ble_eq_true rfl) dL_law_344 ⟨Nat.le_of_ble_eq_true rfl, Nat.le_of_ble_eq_true rfl⟩ 347 rfl (rs' := [[tbO tb qn qb r x h o], stW G qn v, stW G qb u, [(r, .inr (3, [.ref (qn 0)]))], [sxA x cu qn k.1], [arL G cu 5 k.2], hiW G h pa sn n S g has, stW G sn sv, [orO G o sg (apN ln)], [arC G sg 60 (apT ln tx t)], [moO X n has (apN ln)], [arI G (X 1) 258 (s2Z v y)], [arI G (X 2) 516 (paF g')], [arI G (X 3) 129 sv'], [arI G (X 4) 60 (apT ln tx t)], [arB G (X 5) 36 S1], [arB G (X 6) 36 T1], [arI G (X 7) 36 L1], [arI G (X 8) 36 A1]]) rfl (fun H locs hW hkeep => ?_)
  refine z_same C dL_law_347 740 (by decide) ?_
  exact K S v u y sv sv' g g' n (apN ln) has (apT ln tx t) k S1 T1 L1 A1 _ _ ls (hI.typ ht) hW (hl)
set_option maxHeartbeats 4000000 in
set_option maxRecDepth 100000 in
theorem lc_6 (l : Launch) {p : Program} {e : Env} {s : State} {m : MethodId} {below : List Frame} {meth : Method} {c : Code} {Q : State → Prop} {G : gT} {b tb r x cu h pa o sg : Nat} {qn qb sn X : Nat → Nat} {i : Int} {L : Nat} {xs : Nat → Int32} {E : eT} (C : CX p s m #[Value.ref b] meth c RL cL_law 8 ret) (hK : gK G s) (hE : EV E (fun q => s.heap.size ≤ q) s s.heap) (hX : va_X b L xs s s.heap) (hbl : b < s.heap.size) (hL : L ≤ 2048) (hi : 0 ≤ i ∧ i + 4 ≤ L) (K : LK p l e s m below meth c Q G b tb r x cu h pa o sg qn qb sn X i 740) : LK p l e s m below meth c Q G b tb r x cu h pa o sg qn qb sn X i 352 := by
  intro S v u y sv sv' g g' n ln has tx k S1 T1 L1 A1 H locs ls hI hW hl
  obtain ⟨hn, w, wt, hag, wsv, hsv⟩ := id hI
  have hW : Wd G (fun q => s.heap.size ≤ q) [[tbO tb qn qb r x h o], stW G qn v, stW G qb u, [(r, .inr (3, [.ref (qn 0)]))], [sxA x cu qn k.1], [arL G cu 5 k.2], hiW G h pa sn n S g has, stW G sn sv, [orO G o sg ln], [arC G sg 60 tx], [moO X n has ln], [arI G (X 1) 258 (s2Z v y)], [arI G (X 2) 516 (paF g')], [arI G (X 3) 129 sv'], [arI G (X 4) 60 tx], [arB G (X 5) 36 S1], [arB G (X 6) 36 T1], [arI G (X 7) 36 L1], [arI G (X 8) 36 A1]] s.heap H locs := hW
  refine z_al_n C hl dL_law_352 2 rfl 353 rfl ?_
  refine z_VWi (r := .int (iI (ln))) (rest := []) C (m_clearText l G tb r x cu h pa o sg qn qb sn ln tx wt (gD_rg hW.2.1 [0, 8, 9] (by decide) rfl)) kV_L_42 ⟨Nat.le_of_ble_eq_true rfl, Nat.le_of_ble_eq_true rfl⟩ hW hK [0, 8, 9] rfl (sameA_of rfl) 0 rfl rfl rfl hl.1 rfl (Nat.le_of_ble_eq_true rfl) dL_law_353 ⟨Nat.le_of_ble_eq_true rfl, Nat.le_of_ble_eq_true rfl⟩ 356 rfl (rs' := [[tbO tb qn qb r x h o], stW G qn v, stW G qb u, [(r, .inr (3, [.ref (qn 0)]))], [sxA x cu qn k.1], [arL G cu 5 k.2], hiW G h pa sn n S g has, stW G sn sv, [orO G o sg 0], [arC G sg 60 tx], [moO X n has ln], [arI G (X 1) 258 (s2Z v y)], [arI G (X 2) 516 (paF g')], [arI G (X 3) 129 sv'], [arI G (X 4) 60 tx], [arB G (X 5) 36 S1], [arB G (X 6) 36 T1], [arI G (X 7) 36 L1], [arI G (X 8) 36 A1]]) rfl (fun H locs hW hkeep => ?_)
  refine z_al_n C hl dL_law_356 1 rfl 357 rfl ?_
  refine z_VWi (r := .int (iI (ln))) (rest := [.int (iI (ln))]) C (m_xclear l G X n ln has tx wt (gD_rg hW.2.1 [10, 14] (by decide) rfl)) kV_L_45 ⟨Nat.le_of_ble_eq_true rfl, Nat.le_of_ble_eq_true rfl⟩ hW hK [10, 14] rfl (sameA_of rfl) 0 rfl rfl rfl hl.1 rfl (Nat.le_of_ble_eq_true rfl) dL_law_357 ⟨Nat.le_of_ble_eq_true rfl, Nat.le_of_ble_eq_true rfl⟩ 360 rfl (rs' := [[tbO tb qn qb r x h o], stW G qn v, stW G qb u, [(r, .inr (3, [.ref (qn 0)]))], [sxA x cu qn k.1], [arL G cu 5 k.2], hiW G h pa sn n S g has, stW G sn sv, [orO G o sg 0], [arC G sg 60 tx], [moO X n has 0], [arI G (X 1) 258 (s2Z v y)], [arI G (X 2) 516 (paF g')], [arI G (X 3) 129 sv'], [arI G (X 4) 60 tx], [arB G (X 5) 36 S1], [arB G (X 6) 36 T1], [arI G (X 7) 36 L1], [arI G (X 8) 36 A1]]) rfl (fun H locs hW hkeep => ?_)
  refine z_same C dL_law_360 740 (by decide) ?_
  exact K S v u y sv sv' g g' n 0 has tx k S1 T1 L1 A1 _ _ ls (hI.clr) hW (hl)
set_option maxHeartbeats 4000000 in
set_option maxRecDepth 100000 in
theorem lc_7 (l : Launch) {p : Program} {e : Env} {s : State} {m : MethodId} {below : List Frame} {meth : Method} {c : Code} {Q : State → Prop} {G : gT} {b tb r x cu h pa o sg : Nat} {qn qb sn X : Nat → Nat} {i : Int} {L : Nat} {xs : Nat → Int32} {E : eT} (C : CX p s m #[Value.ref b] meth c RL cL_law 8 ret) (hK : gK G s) (hE : EV E (fun q => s.heap.size ≤ q) s s.heap) (hX : va_X b L xs s s.heap) (hbl : b < s.heap.size) (hL : L ≤ 2048) (hi : 0 ≤ i ∧ i + 4 ≤ L) (K : LK p l e s m below meth c Q G b tb r x cu h pa o sg qn qb sn X i 740) : LK p l e s m below meth c Q G b tb r x cu h pa o sg qn qb sn X i 365 := by
  intro S v u y sv sv' g g' n ln has tx k S1 T1 L1 A1 H locs ls hI hW hl
  obtain ⟨hn, w, wt, hag, wsv, hsv⟩ := id hI
  have hW : Wd G (fun q => s.heap.size ≤ q) [[tbO tb qn qb r x h o], stW G qn v, stW G qb u, [(r, .inr (3, [.ref (qn 0)]))], [sxA x cu qn k.1], [arL G cu 5 k.2], hiW G h pa sn n S g has, stW G sn sv, [orO G o sg ln], [arC G sg 60 tx], [moO X n has ln], [arI G (X 1) 258 (s2Z v y)], [arI G (X 2) 516 (paF g')], [arI G (X 3) 129 sv'], [arI G (X 4) 60 tx], [arB G (X 5) 36 S1], [arB G (X 6) 36 T1], [arI G (X 7) 36 L1], [arI G (X 8) 36 A1]] s.heap H locs := hW
  refine z_al_n C hl dL_law_365 2 rfl 366 rfl ?_
  refine z_VRz (r := .int (iI (fltZ ln (sgC ln tx)))) (rest := []) C (m_fault l G E tb r x cu h pa o sg qn qb sn ln tx wt) kV_L_46 ⟨Nat.le_of_ble_eq_true rfl, Nat.le_of_ble_eq_true rfl⟩ (gP_rg hW.1 [0, 8, 9] rfl) hK zr_blind (zr_of hE hW.2.2.2) 0 rfl rfl rfl hl.1 rfl (Nat.le_of_ble_eq_true rfl) dL_law_366 ⟨Nat.le_of_ble_eq_true rfl, Nat.le_of_ble_eq_true rfl⟩ 369 rfl ?_
  refine z_al_n C hl dL_law_369 1 rfl 370 rfl ?_
  refine z_VR (r := .int (iI (fltZ ln (sgC ln tx)))) (rest := [.int (iI (fltZ ln (sgC ln tx)))]) C (m_xfault l G X n ln has tx wt) kV_L_49 ⟨Nat.le_of_ble_eq_true rfl, Nat.le_of_ble_eq_true rfl⟩ (gP_rg hW.1 [10, 14] rfl) hK 0 rfl rfl rfl hl.1 rfl (Nat.le_of_ble_eq_true rfl) dL_law_370 ⟨Nat.le_of_ble_eq_true rfl, Nat.le_of_ble_eq_true rfl⟩ 373 rfl ?_
  refine z_same C dL_law_373 740 (by decide) ?_
  exact K S v u y sv sv' g g' n ln has tx k S1 T1 L1 A1 _ _ ls (hI) hW (hl)
set_option maxHeartbeats 4000000 in
set_option maxRecDepth 100000 in
theorem lc_8 (l : Launch) {p : Program} {e : Env} {s : State} {m : MethodId} {below : List Frame} {meth : Method} {c : Code} {Q : State → Prop} {G : gT} {b tb r x cu h pa o sg : Nat} {qn qb sn X : Nat → Nat} {i : Int} {L : Nat} {xs : Nat → Int32} {E : eT} (C : CX p s m #[Value.ref b] meth c RL cL_law 8 ret) (hK : gK G s) (hE : EV E (fun q => s.heap.size ≤ q) s s.heap) (hX : va_X b L xs s s.heap) (hbl : b < s.heap.size) (hL : L ≤ 2048) (hi : 0 ≤ i ∧ i + 4 ≤ L) (K : LK p l e s m below meth c Q G b tb r x cu h pa o sg qn qb sn X i 740) : LK p l e s m below meth c Q G b tb r x cu h pa o sg qn qb sn X i 378 := by
  intro S v u y sv sv' g g' n ln has tx k S1 T1 L1 A1 H locs ls hI hW hl
  obtain ⟨hn, w, wt, hag, wsv, hsv⟩ := id hI
  have hW : Wd G (fun q => s.heap.size ≤ q) [[tbO tb qn qb r x h o], stW G qn v, stW G qb u, [(r, .inr (3, [.ref (qn 0)]))], [sxA x cu qn k.1], [arL G cu 5 k.2], hiW G h pa sn n S g has, stW G sn sv, [orO G o sg ln], [arC G sg 60 tx], [moO X n has ln], [arI G (X 1) 258 (s2Z v y)], [arI G (X 2) 516 (paF g')], [arI G (X 3) 129 sv'], [arI G (X 4) 60 tx], [arB G (X 5) 36 S1], [arB G (X 6) 36 T1], [arI G (X 7) 36 L1], [arI G (X 8) 36 A1]] s.heap H locs := hW
  refine z_al_n C hl dL_law_378 2 rfl 379 rfl ?_
  refine z_VWzi (r := .int (iI (doaR v ln (sgC ln tx)))) (rest := []) C (m_doAll l G E tb r x cu h pa o sg qn qb sn S g n has u v ln tx hn w wt (gD_rg hW.2.1 [0, 3, 1, 2, 6, 8, 9] (by decide) rfl)) kV_L_50 ⟨Nat.le_of_ble_eq_true rfl, Nat.le_of_ble_eq_true rfl⟩ hW hK [0, 3, 1, 2, 6, 8, 9] rfl (sameA_eq rfl (sameA_eq rfl (sameA_eq rfl (sameA_eq rfl (sameA_cons (hi_permA _ _) (sameA_eq rfl (sameA_eq rfl (sameA_nil)))))))) zw_blind (zw_of hE hW.2.2.2 (hW.in [0, 3, 1, 2, 6, 8, 9] rfl)) 0 rfl rfl rfl hl.1 rfl (Nat.le_of_ble_eq_true rfl) dL_law_379 ⟨Nat.le_of_ble_eq_true rfl, Nat.le_of_ble_eq_true rfl⟩ 382 rfl (rs' := [[tbO tb qn qb r x h o], stW G qn (doaV v ln (sgC ln tx)), stW G qb (doaU u v ln (sgC ln tx)), [(r, .inr (3, [.ref (qn 0)]))], [sxA x cu qn k.1], [arL G cu 5 k.2], hiW G h pa sn (actN (doaR v ln (sgC ln tx)) n) (actS (doaR v ln (sgC ln tx)) n S) (actG (doaR v ln (sgC ln tx)) n g v) has, stW G sn sv, [orO G o sg ln], [arC G sg 60 tx], [moO X n has ln], [arI G (X 1) 258 (s2Z v y)], [arI G (X 2) 516 (paF g')], [arI G (X 3) 129 sv'], [arI G (X 4) 60 tx], [arB G (X 5) 36 S1], [arB G (X 6) 36 T1], [arI G (X 7) 36 L1], [arI G (X 8) 36 A1]]) rfl (fun H locs hW hkeep => ?_)
  refine z_al_n C hl dL_law_382 1 rfl 383 rfl ?_
  refine z_VWi (r := .int (iI (doaR v ln (sgC ln tx)))) (rest := [.int (iI (doaR v ln (sgC ln tx)))]) C (m_xdoAll l G X n ln has v y tx g' hn w wt (gD_rg hW.2.1 [10, 11, 12, 14] (by decide) rfl)) kV_L_53 ⟨Nat.le_of_ble_eq_true rfl, Nat.le_of_ble_eq_true rfl⟩ hW hK [10, 11, 12, 14] rfl (sameA_of rfl) 0 rfl rfl rfl hl.1 rfl (Nat.le_of_ble_eq_true rfl) dL_law_383 ⟨Nat.le_of_ble_eq_true rfl, Nat.le_of_ble_eq_true rfl⟩ 386 rfl (rs' := [[tbO tb qn qb r x h o], stW G qn (doaV v ln (sgC ln tx)), stW G qb (doaU u v ln (sgC ln tx)), [(r, .inr (3, [.ref (qn 0)]))], [sxA x cu qn k.1], [arL G cu 5 k.2], hiW G h pa sn (actN (doaR v ln (sgC ln tx)) n) (actS (doaR v ln (sgC ln tx)) n S) (actG (doaR v ln (sgC ln tx)) n g v) has, stW G sn sv, [orO G o sg ln], [arC G sg 60 tx], [moO X (actN (doaR v ln (sgC ln tx)) n) has ln], [arI G (X 1) 258 (s2Z (doaV v ln (sgC ln tx)) (doaW v y ln (sgC ln tx)))], [arI G (X 2) 516 (paF (actG (doaR v ln (sgC ln tx)) n g' v))], [arI G (X 3) 129 sv'], [arI G (X 4) 60 tx], [arB G (X 5) 36 S1], [arB G (X 6) 36 T1], [arI G (X 7) 36 L1], [arI G (X 8) 36 A1]]) rfl (fun H locs hW hkeep => ?_)
  refine z_same C dL_law_386 740 (by decide) ?_
  exact K (actS (doaR v ln (sgC ln tx)) n S) (doaV v ln (sgC ln tx)) (doaU u v ln (sgC ln tx)) (doaW v y ln (sgC ln tx)) sv sv' (actG (doaR v ln (sgC ln tx)) n g v) (actG (doaR v ln (sgC ln tx)) n g' v) (actN (doaR v ln (sgC ln tx)) n) ln has tx k S1 T1 L1 A1 _ _ ls (hI.act _ (w.doa _ _)) hW (hl)
set_option maxHeartbeats 4000000 in
set_option maxRecDepth 100000 in
theorem lc_9 (l : Launch) {p : Program} {e : Env} {s : State} {m : MethodId} {below : List Frame} {meth : Method} {c : Code} {Q : State → Prop} {G : gT} {b tb r x cu h pa o sg : Nat} {qn qb sn X : Nat → Nat} {i : Int} {L : Nat} {xs : Nat → Int32} {E : eT} (C : CX p s m #[Value.ref b] meth c RL cL_law 8 ret) (hK : gK G s) (hE : EV E (fun q => s.heap.size ≤ q) s s.heap) (hX : va_X b L xs s s.heap) (hbl : b < s.heap.size) (hL : L ≤ 2048) (hi : 0 ≤ i ∧ i + 4 ≤ L) (K : LK p l e s m below meth c Q G b tb r x cu h pa o sg qn qb sn X i 740) : LK p l e s m below meth c Q G b tb r x cu h pa o sg qn qb sn X i 391 := by
  intro S v u y sv sv' g g' n ln has tx k S1 T1 L1 A1 H locs ls hI hW hl
  obtain ⟨hn, w, wt, hag, wsv, hsv⟩ := id hI
  have hW : Wd G (fun q => s.heap.size ≤ q) [[tbO tb qn qb r x h o], stW G qn v, stW G qb u, [(r, .inr (3, [.ref (qn 0)]))], [sxA x cu qn k.1], [arL G cu 5 k.2], hiW G h pa sn n S g has, stW G sn sv, [orO G o sg ln], [arC G sg 60 tx], [moO X n has ln], [arI G (X 1) 258 (s2Z v y)], [arI G (X 2) 516 (paF g')], [arI G (X 3) 129 sv'], [arI G (X 4) 60 tx], [arB G (X 5) 36 S1], [arB G (X 6) 36 T1], [arI G (X 7) 36 L1], [arI G (X 8) 36 A1]] s.heap H locs := hW
  refine z_al_n C hl dL_law_391 2 rfl 392 rfl ?_
  refine z_VWi (r := .int (iI (undR n))) (rest := []) C (m_undo l G tb r x cu h pa o sg qn qb sn S g n has v hn (gD_rg hW.2.1 [0, 6, 1] (by decide) rfl)) kV_L_54 ⟨Nat.le_of_ble_eq_true rfl, Nat.le_of_ble_eq_true rfl⟩ hW hK [0, 6, 1] rfl (sameA_of rfl) 0 rfl rfl rfl hl.1 rfl (Nat.le_of_ble_eq_true rfl) dL_law_392 ⟨Nat.le_of_ble_eq_true rfl, Nat.le_of_ble_eq_true rfl⟩ 395 rfl (rs' := [[tbO tb qn qb r x h o], stW G qn (undV n g v), stW G qb u, [(r, .inr (3, [.ref (qn 0)]))], [sxA x cu qn k.1], [arL G cu 5 k.2], hiW G h pa sn (undN n) S g has, stW G sn sv, [orO G o sg ln], [arC G sg 60 tx], [moO X n has ln], [arI G (X 1) 258 (s2Z v y)], [arI G (X 2) 516 (paF g')], [arI G (X 3) 129 sv'], [arI G (X 4) 60 tx], [arB G (X 5) 36 S1], [arB G (X 6) 36 T1], [arI G (X 7) 36 L1], [arI G (X 8) 36 A1]]) rfl (fun H locs hW hkeep => ?_)
  refine z_al_n C hl dL_law_395 1 rfl 396 rfl ?_
  refine z_VWi (r := .int (iI (undR n))) (rest := [.int (iI (undR n))]) C (m_xundo l G X n ln has v y g' hn (gD_rg hW.2.1 [10, 11, 12] (by decide) rfl)) kV_L_57 ⟨Nat.le_of_ble_eq_true rfl, Nat.le_of_ble_eq_true rfl⟩ hW hK [10, 11, 12] rfl (sameA_of rfl) 0 rfl rfl rfl hl.1 rfl (Nat.le_of_ble_eq_true rfl) dL_law_396 ⟨Nat.le_of_ble_eq_true rfl, Nat.le_of_ble_eq_true rfl⟩ 399 rfl (rs' := [[tbO tb qn qb r x h o], stW G qn (undV n g v), stW G qb u, [(r, .inr (3, [.ref (qn 0)]))], [sxA x cu qn k.1], [arL G cu 5 k.2], hiW G h pa sn (undN n) S g has, stW G sn sv, [orO G o sg ln], [arC G sg 60 tx], [moO X (undN n) has ln], [arI G (X 1) 258 (s2Z (undV n g' v) y)], [arI G (X 2) 516 (paF g')], [arI G (X 3) 129 sv'], [arI G (X 4) 60 tx], [arB G (X 5) 36 S1], [arB G (X 6) 36 T1], [arI G (X 7) 36 L1], [arI G (X 8) 36 A1]]) rfl (fun H locs hW hkeep => ?_)
  rw [(und_eq hI).1] at hW
  refine z_same C dL_law_399 740 (by decide) ?_
  exact K S (undV n g v) u y sv sv' g g' (undN n) ln has tx k S1 T1 L1 A1 _ _ ls (hI.und) hW (hl)
set_option maxHeartbeats 4000000 in
set_option maxRecDepth 100000 in
theorem lc_10 (l : Launch) {p : Program} {e : Env} {s : State} {m : MethodId} {below : List Frame} {meth : Method} {c : Code} {Q : State → Prop} {G : gT} {b tb r x cu h pa o sg : Nat} {qn qb sn X : Nat → Nat} {i : Int} {L : Nat} {xs : Nat → Int32} {E : eT} (C : CX p s m #[Value.ref b] meth c RL cL_law 8 ret) (hK : gK G s) (hE : EV E (fun q => s.heap.size ≤ q) s s.heap) (hX : va_X b L xs s s.heap) (hbl : b < s.heap.size) (hL : L ≤ 2048) (hi : 0 ≤ i ∧ i + 4 ≤ L) (K : LK p l e s m below meth c Q G b tb r x cu h pa o sg qn qb sn X i 740) : LK p l e s m below meth c Q G b tb r x cu h pa o sg qn qb sn X i 404 := by
  intro S v u y sv sv' g g' n ln has tx k S1 T1 L1 A1 H locs ls hI hW hl
  obtain ⟨hn, w, wt, hag, wsv, hsv⟩ := id hI
  have hW : Wd G (fun q => s.heap.size ≤ q) [[tbO tb qn qb r x h o], stW G qn v, stW G qb u, [(r, .inr (3, [.ref (qn 0)]))], [sxA x cu qn k.1], [arL G cu 5 k.2], hiW G h pa sn n S g has, stW G sn sv, [orO G o sg ln], [arC G sg 60 tx], [moO X n has ln], [arI G (X 1) 258 (s2Z v y)], [arI G (X 2) 516 (paF g')], [arI G (X 3) 129 sv'], [arI G (X 4) 60 tx], [arB G (X 5) 36 S1], [arB G (X 6) 36 T1], [arI G (X 7) 36 L1], [arI G (X 8) 36 A1]] s.heap H locs := hW
  refine z_al_n C hl dL_law_404 2 rfl 405 rfl ?_
  refine z_VWi (r := .int (iI (v 126))) (rest := []) C (m_keep l G tb r x cu h pa o sg qn qb sn S g n has sv v (gD_rg hW.2.1 [0, 6, 7, 1] (by decide) rfl)) kV_L_58 ⟨Nat.le_of_ble_eq_true rfl, Nat.le_of_ble_eq_true rfl⟩ hW hK [0, 6, 7, 1] rfl (sameA_of rfl) 0 rfl rfl rfl hl.1 rfl (Nat.le_of_ble_eq_true rfl) dL_law_405 ⟨Nat.le_of_ble_eq_true rfl, Nat.le_of_ble_eq_true rfl⟩ 408 rfl (rs' := [[tbO tb qn qb r x h o], stW G qn v, stW G qb u, [(r, .inr (3, [.ref (qn 0)]))], [sxA x cu qn k.1], [arL G cu 5 k.2], hiW G h pa sn n S g true, stW G sn v, [orO G o sg ln], [arC G sg 60 tx], [moO X n has ln], [arI G (X 1) 258 (s2Z v y)], [arI G (X 2) 516 (paF g')], [arI G (X 3) 129 sv'], [arI G (X 4) 60 tx], [arB G (X 5) 36 S1], [arB G (X 6) 36 T1], [arI G (X 7) 36 L1], [arI G (X 8) 36 A1]]) rfl (fun H locs hW hkeep => ?_)
  refine z_al_n C hl dL_law_408 1 rfl 409 rfl ?_
  refine z_VWi (r := .int (iI (v 126))) (rest := [.int (iI (v 126))]) C (m_xkeep l G X n ln has v y sv' (gD_rg hW.2.1 [10, 11, 13] (by decide) rfl)) kV_L_61 ⟨Nat.le_of_ble_eq_true rfl, Nat.le_of_ble_eq_true rfl⟩ hW hK [10, 11, 13] rfl (sameA_of rfl) 0 rfl rfl rfl hl.1 rfl (Nat.le_of_ble_eq_true rfl) dL_law_409 ⟨Nat.le_of_ble_eq_true rfl, Nat.le_of_ble_eq_true rfl⟩ 412 rfl (rs' := [[tbO tb qn qb r x h o], stW G qn v, stW G qb u, [(r, .inr (3, [.ref (qn 0)]))], [sxA x cu qn k.1], [arL G cu 5 k.2], hiW G h pa sn n S g true, stW G sn v, [orO G o sg ln], [arC G sg 60 tx], [moO X n true ln], [arI G (X 1) 258 (s2Z v y)], [arI G (X 2) 516 (paF g')], [arI G (X 3) 129 v], [arI G (X 4) 60 tx], [arB G (X 5) 36 S1], [arB G (X 6) 36 T1], [arI G (X 7) 36 L1], [arI G (X 8) 36 A1]]) rfl (fun H locs hW hkeep => ?_)
  refine z_same C dL_law_412 740 (by decide) ?_
  exact K S v u y v v g g' n ln true tx k S1 T1 L1 A1 _ _ ls (hI.keep) hW (hl)
set_option maxHeartbeats 4000000 in
set_option maxRecDepth 100000 in
theorem lc_11 (l : Launch) {p : Program} {e : Env} {s : State} {m : MethodId} {below : List Frame} {meth : Method} {c : Code} {Q : State → Prop} {G : gT} {b tb r x cu h pa o sg : Nat} {qn qb sn X : Nat → Nat} {i : Int} {L : Nat} {xs : Nat → Int32} {E : eT} (C : CX p s m #[Value.ref b] meth c RL cL_law 8 ret) (hK : gK G s) (hE : EV E (fun q => s.heap.size ≤ q) s s.heap) (hX : va_X b L xs s s.heap) (hbl : b < s.heap.size) (hL : L ≤ 2048) (hi : 0 ≤ i ∧ i + 4 ≤ L) (K : LK p l e s m below meth c Q G b tb r x cu h pa o sg qn qb sn X i 740) : LK p l e s m below meth c Q G b tb r x cu h pa o sg qn qb sn X i 417 := by
  intro S v u y sv sv' g g' n ln has tx k S1 T1 L1 A1 H locs ls hI hW hl
  obtain ⟨hn, w, wt, hag, wsv, hsv⟩ := id hI
  have hW : Wd G (fun q => s.heap.size ≤ q) [[tbO tb qn qb r x h o], stW G qn v, stW G qb u, [(r, .inr (3, [.ref (qn 0)]))], [sxA x cu qn k.1], [arL G cu 5 k.2], hiW G h pa sn n S g has, stW G sn sv, [orO G o sg ln], [arC G sg 60 tx], [moO X n has ln], [arI G (X 1) 258 (s2Z v y)], [arI G (X 2) 516 (paF g')], [arI G (X 3) 129 sv'], [arI G (X 4) 60 tx], [arB G (X 5) 36 S1], [arB G (X 6) 36 T1], [arI G (X 7) 36 L1], [arI G (X 8) 36 A1]] s.heap H locs := hW
  obtain ⟨q1, q2, q3, q4⟩ := rst_eq hI
  refine z_al_n C hl dL_law_417 2 rfl 418 rfl ?_
  refine z_VWi (r := .int (iI (rstR has sv))) (rest := []) C (m_restore l G tb r x cu h pa o sg qn qb sn S g n has sv u v hn wsv (gD_rg hW.2.1 [0, 6, 7, 1, 2] (by decide) rfl)) kV_L_62 ⟨Nat.le_of_ble_eq_true rfl, Nat.le_of_ble_eq_true rfl⟩ hW hK [0, 6, 7, 1, 2] rfl (sameA_eq rfl (sameA_cons (hi_permA _ _) (sameA_eq rfl (sameA_eq rfl (sameA_eq rfl (sameA_nil)))))) 0 rfl rfl rfl hl.1 rfl (Nat.le_of_ble_eq_true rfl) dL_law_418 ⟨Nat.le_of_ble_eq_true rfl, Nat.le_of_ble_eq_true rfl⟩ 421 rfl (rs' := [[tbO tb qn qb r x h o], stW G qn (rstV has sv v), stW G qb v, [(r, .inr (3, [.ref (qn 0)]))], [sxA x cu qn k.1], [arL G cu 5 k.2], hiW G h pa sn (actN (rstR has sv) n) (actS (rstR has sv) n S) (actG (rstR has sv) n g v) has, stW G sn sv, [orO G o sg ln], [arC G sg 60 tx], [moO X n has ln], [arI G (X 1) 258 (s2Z v y)], [arI G (X 2) 516 (paF g')], [arI G (X 3) 129 sv'], [arI G (X 4) 60 tx], [arB G (X 5) 36 S1], [arB G (X 6) 36 T1], [arI G (X 7) 36 L1], [arI G (X 8) 36 A1]]) rfl (fun H locs hW hkeep => ?_)
  refine z_al_n C hl dL_law_421 1 rfl 422 rfl ?_
  refine z_VWi (r := .int (iI (rstR has sv'))) (rest := [.int (iI (rstR has sv))]) C (m_xrestT l G X n ln has v y sv' g' hn q4 (gD_rg hW.2.1 [10, 11, 12, 13] (by decide) rfl)) kV_L_65 ⟨Nat.le_of_ble_eq_true rfl, Nat.le_of_ble_eq_true rfl⟩ hW hK [10, 11, 12, 13] rfl (sameA_of rfl) 0 rfl rfl rfl hl.1 rfl (Nat.le_of_ble_eq_true rfl) dL_law_422 ⟨Nat.le_of_ble_eq_true rfl, Nat.le_of_ble_eq_true rfl⟩ 425 rfl (rs' := [[tbO tb qn qb r x h o], stW G qn (rstV has sv v), stW G qb v, [(r, .inr (3, [.ref (qn 0)]))], [sxA x cu qn k.1], [arL G cu 5 k.2], hiW G h pa sn (actN (rstR has sv) n) (actS (rstR has sv) n S) (actG (rstR has sv) n g v) has, stW G sn sv, [orO G o sg ln], [arC G sg 60 tx], [moO X (actN (rstR has sv') n) has ln], [arI G (X 1) 258 (s2Z (rstV has sv' v) y)], [arI G (X 2) 516 (paF (actG (rstR has sv') n g' v))], [arI G (X 3) 129 sv'], [arI G (X 4) 60 tx], [arB G (X 5) 36 S1], [arB G (X 6) 36 T1], [arI G (X 7) 36 L1], [arI G (X 8) 36 A1]]) rfl (fun H locs hW hkeep => ?_)
  rw [q1, q2] at hW
  rw [q1]
  refine z_same C dL_law_425 740 (by decide) ?_
  exact K (actS (rstR has sv) n S) (rstV has sv v) v y sv sv' (actG (rstR has sv) n g v) (actG (rstR has sv) n g' v) (actN (rstR has sv) n) ln has tx k S1 T1 L1 A1 _ _ ls (hI.act _ q3) hW (hl)
