set_option maxHeartbeats 16000000 in
set_option maxRecDepth 100000 in
theorem m_lwWait (l : Launch) (G : gT) (tb r x cu h pa o sg : Nat) (qn qb sn : Nat → Nat) (S : Nat → Nat → Nat) (u v : Int → Int) (g : Nat → Int → Int) (n : Int) (i : Ia v) (hn9 : 0 ≤ n ∧ n ≤ 4) (hD : gD ([[tbO tb qn qb r x h o], [(r, .inr (3, [.ref (qn 0)]))], stW G qn v, stW G qb u, hiW G h pa sn n S g false, [orO G o sg 0]] : List va_W).flatten) : MW l G yL_isTurn cL_isTurn 15 (some .boolean) 7 [.ref (tb), .int (iI (0)), .int (iI (0)), .int (iI (0))] [[tbO tb qn qb r x h o], [(r, .inr (3, [.ref (qn 0)]))], stW G qn v, stW G qb u, hiW G h pa sn n S g false, [orO G o sg 0]] [[tbO tb qn qb r x h o], [(r, .inr (3, [.ref (qn 0)]))], stW G qn (waiV v), stW G qb v, hiW G h pa sn (actN (waiR v) n) (actS (waiR v) n S) (actG (waiR v) n g v) false, [orO G o sg 0]] ZT (some (.int (iI (bZ (true))))) := by
  refine enterW (own := RL) (by decide +kernel) rfl (Nat.le_of_ble_eq_true rfl) hD ?_
  intro p e s m below meth c C hW hK hZ ls hl
  have hl : lv_has ls 15 [(0, .ref (tb)), (1, .int (iI (0))), (2, .int (iI (0))), (3, .int (iI (0)))] := hl
  have w0 := i.w
  have hn := w0.n
  have ht := w0.t
  have hs := w0.s
  have hp := perZ_rng w0
  have hz := i.h
  have hrr := i.r
  have hcz := cntZ_rng w0 2
  refine z_il_n C hl dL_isTurn_0 3 rfl 1 rfl ?_
  refine z_if_ne C dL_isTurn_1 22 4 (by decide) rfl (by omega) (fun c1 => ?_) (fun c1 => ?_)
  · exfalso; omega
  · skip
    refine z_al_n C hl dL_isTurn_4 0 rfl 5 rfl ?_
    refine z_bipush C dL_isTurn_5 (by decide) 7 rfl ?_
    refine z_VR (r := .int (iI (cntR v n 0 11))) (rest := []) C (m_count l G tb r x cu h pa o sg qn qb sn S g n false v 0 11 w0 (by omega)) kV_L_8 ⟨Nat.le_of_ble_eq_true rfl, Nat.le_of_ble_eq_true rfl⟩ (gP_rg hW.1 [0, 1, 2, 4, 5] rfl) hK 0 rfl rfl rfl hl.1 rfl (Nat.le_of_ble_eq_true rfl) dL_isTurn_7 ⟨Nat.le_of_ble_eq_true rfl, Nat.le_of_ble_eq_true rfl⟩ 10 rfl ?_
    refine z_top (b := .int (iI (bZ (overB v)))) (congrArg (fun z => Value.int (iI z)) (rfl)) ?_
    refine z_iconst C dL_isTurn_10 11 rfl ?_
    refine z_icmp_ne C dL_isTurn_11 18 14 (by decide) rfl (by have := bZ_rng (overB v); omega) (fun c11 => ?_) (fun c11 => ?_)
    · skip
      have ho : overB v = false := by cases hb : overB v with | false => rfl | true => exact absurd (bZ_t hb) c11
      refine z_iconst C dL_isTurn_18 19 rfl ?_
      refine z_goto C dL_isTurn_19 29 (by decide) ?_
      refine z_is C hl dL_isTurn_29 31 rfl (by decide) (lv' := [(4, .int (iI (0))), (0, .ref (tb)), (1, .int (iI (0))), (2, .int (iI (0))), (3, .int (iI (0)))]) rfl (fun ls hl => ?_)
      refine z_al_n C hl dL_isTurn_31 1 rfl 32 rfl ?_
      refine z_iconst C dL_isTurn_32 33 rfl ?_
      refine z_VR (r := .int (iI (cntR v n 0 0))) (rest := []) C (m_count l G tb r x cu h pa o sg qn qb sn S g n false v 0 0 w0 (by omega)) kV_L_8 ⟨Nat.le_of_ble_eq_true rfl, Nat.le_of_ble_eq_true rfl⟩ (gP_rg hW.1 [0, 1, 2, 4, 5] rfl) hK 0 rfl rfl rfl hl.1 rfl (Nat.le_of_ble_eq_true rfl) dL_isTurn_33 ⟨Nat.le_of_ble_eq_true rfl, Nat.le_of_ble_eq_true rfl⟩ 36 rfl ?_
      refine z_top (b := .int (iI (v 126))) (congrArg (fun z => Value.int (iI z)) (rfl)) ?_
      refine z_is C hl dL_isTurn_36 38 rfl (by decide) (lv' := [(5, .int (iI (v 126))), (4, .int (iI (0))), (0, .ref (tb)), (1, .int (iI (0))), (2, .int (iI (0))), (3, .int (iI (0)))]) rfl (fun ls hl => ?_)
      refine z_al_n C hl dL_isTurn_38 2 rfl 39 rfl ?_
      refine z_iconst C dL_isTurn_39 40 rfl ?_
      refine z_VR (r := .int (danR v 0)) (rest := []) C (m_inDanger l G tb r x cu h pa o sg qn qb sn v 0 w0 (by omega)) kV_L_38 ⟨Nat.le_of_ble_eq_true rfl, Nat.le_of_ble_eq_true rfl⟩ (gP_rg hW.1 [0, 2] rfl) hK 0 rfl rfl rfl hl.1 rfl (Nat.le_of_ble_eq_true rfl) dL_isTurn_40 ⟨Nat.le_of_ble_eq_true rfl, Nat.le_of_ble_eq_true rfl⟩ 43 rfl ?_
      refine z_al_n C hl dL_isTurn_43 2 rfl 44 rfl ?_
      refine z_iconst C dL_isTurn_44 45 rfl ?_
      refine z_VR (r := .int (danR v 1)) (rest := [.int (danR v 0)]) C (m_inDanger l G tb r x cu h pa o sg qn qb sn v 1 w0 (by omega)) kV_L_38 ⟨Nat.le_of_ble_eq_true rfl, Nat.le_of_ble_eq_true rfl⟩ (gP_rg hW.1 [0, 2] rfl) hK 0 rfl rfl rfl hl.1 rfl (Nat.le_of_ble_eq_true rfl) dL_isTurn_45 ⟨Nat.le_of_ble_eq_true rfl, Nat.le_of_ble_eq_true rfl⟩ 48 rfl ?_
      refine z_ior C dL_isTurn_48 49 rfl ?_
      refine z_is C hl dL_isTurn_49 51 rfl (by decide) (lv' := [(6, .int ((danR v 0) ||| (danR v 1))), (5, .int (iI (v 126))), (4, .int (iI (0))), (0, .ref (tb)), (1, .int (iI (0))), (2, .int (iI (0))), (3, .int (iI (0)))]) rfl (fun ls hl => ?_)
      refine z_al_n C hl dL_isTurn_51 3 rfl 52 rfl ?_
      refine z_bipush C dL_isTurn_52 (by decide) 54 rfl ?_
      refine z_VR (r := .int (iI (cntR v n 0 8))) (rest := []) C (m_count l G tb r x cu h pa o sg qn qb sn S g n false v 0 8 w0 (by omega)) kV_L_8 ⟨Nat.le_of_ble_eq_true rfl, Nat.le_of_ble_eq_true rfl⟩ (gP_rg hW.1 [0, 1, 2, 4, 5] rfl) hK 0 rfl rfl rfl hl.1 rfl (Nat.le_of_ble_eq_true rfl) dL_isTurn_54 ⟨Nat.le_of_ble_eq_true rfl, Nat.le_of_ble_eq_true rfl⟩ 57 rfl ?_
      refine z_top (b := .int (iI (cntZ v 2))) (congrArg (fun z => Value.int (iI z)) (rfl)) ?_
      have rc54 := cntZ_rng w0 2
      refine z_is C hl dL_isTurn_57 59 rfl (by decide) (lv' := [(7, .int (iI (cntZ v 2))), (6, .int ((danR v 0) ||| (danR v 1))), (5, .int (iI (v 126))), (4, .int (iI (0))), (0, .ref (tb)), (1, .int (iI (0))), (2, .int (iI (0))), (3, .int (iI (0)))]) rfl (fun ls hl => ?_)
      refine z_al_n C hl dL_isTurn_59 4 rfl 60 rfl ?_
      refine z_bipush C dL_isTurn_60 (by decide) 62 rfl ?_
      refine z_VR (r := .int (iI (cntR v n 0 10))) (rest := []) C (m_count l G tb r x cu h pa o sg qn qb sn S g n false v 0 10 w0 (by omega)) kV_L_8 ⟨Nat.le_of_ble_eq_true rfl, Nat.le_of_ble_eq_true rfl⟩ (gP_rg hW.1 [0, 1, 2, 4, 5] rfl) hK 0 rfl rfl rfl hl.1 rfl (Nat.le_of_ble_eq_true rfl) dL_isTurn_62 ⟨Nat.le_of_ble_eq_true rfl, Nat.le_of_ble_eq_true rfl⟩ 65 rfl ?_
      refine z_top (b := .int (iI (v 128))) (congrArg (fun z => Value.int (iI z)) (rfl)) ?_
      refine z_is C hl dL_isTurn_65 67 rfl (by decide) (lv' := [(8, .int (iI (v 128))), (7, .int (iI (cntZ v 2))), (6, .int ((danR v 0) ||| (danR v 1))), (5, .int (iI (v 126))), (4, .int (iI (0))), (0, .ref (tb)), (1, .int (iI (0))), (2, .int (iI (0))), (3, .int (iI (0)))]) rfl (fun ls hl => ?_)
      refine z_il_n C hl dL_isTurn_67 8 rfl 68 rfl ?_
      refine z_if_ne C dL_isTurn_68 75 71 (by decide) rfl (by omega) (fun c68 => ?_) (fun c68 => ?_)
      · exfalso; omega
      · skip
        refine z_iconst C dL_isTurn_71 72 rfl ?_
        refine z_goto C dL_isTurn_72 81 (by decide) ?_
        refine z_is C hl dL_isTurn_81 83 rfl (by decide) (lv' := [(9, .int (iI (0))), (8, .int (iI (v 128))), (7, .int (iI (cntZ v 2))), (6, .int ((danR v 0) ||| (danR v 1))), (5, .int (iI (v 126))), (4, .int (iI (0))), (0, .ref (tb)), (1, .int (iI (0))), (2, .int (iI (0))), (3, .int (iI (0)))]) rfl (fun ls hl => ?_)
        refine z_iconst C dL_isTurn_83 84 rfl ?_
        refine z_is C hl dL_isTurn_84 86 rfl (by decide) (lv' := [(10, .int (iI (0))), (9, .int (iI (0))), (8, .int (iI (v 128))), (7, .int (iI (cntZ v 2))), (6, .int ((danR v 0) ||| (danR v 1))), (5, .int (iI (v 126))), (4, .int (iI (0))), (0, .ref (tb)), (1, .int (iI (0))), (2, .int (iI (0))), (3, .int (iI (0)))]) rfl (fun ls hl => ?_)
        refine z_iconst C dL_isTurn_86 87 rfl ?_
        refine z_is C hl dL_isTurn_87 89 rfl (by decide) (lv' := [(11, .int (iI (0))), (10, .int (iI (0))), (9, .int (iI (0))), (8, .int (iI (v 128))), (7, .int (iI (cntZ v 2))), (6, .int ((danR v 0) ||| (danR v 1))), (5, .int (iI (v 126))), (4, .int (iI (0))), (0, .ref (tb)), (1, .int (iI (0))), (2, .int (iI (0))), (3, .int (iI (0)))]) rfl (fun ls hl => ?_)
        have L89 : ∀ (fu : Nat) (j : Int) (z : Int32) (h1 : 0 ≤ j ∧ j ≤ v 127) (H : Heap) (locs : List Loc) (hW : Wd G (adr ([[tbO tb qn qb r x h o], [(r, .inr (3, [.ref (qn 0)]))], stW G qn v, stW G qb u, hiW G h pa sn n S g false, [orO G o sg 0]] : List va_W).flatten) [[tbO tb qn qb r x h o], [(r, .inr (3, [.ref (qn 0)]))], stW G qn v, stW G qb u, hiW G h pa sn n S g false, [orO G o sg 0]] s.heap H locs) (hm : v 127 - j < (fu : Int)) (ls : Array Slot) (hl : lv_has ls 15 [(11, .int (iI (j))), (10, .int (z)), (9, .int (iI (0))), (8, .int (iI (v 128))), (7, .int (iI (cntZ v 2))), (6, .int ((danR v 0) ||| (danR v 1))), (5, .int (iI (v 126))), (4, .int (iI (0))), (0, .ref (tb)), (1, .int (iI (0))), (2, .int (iI (0))), (3, .int (iI (0)))]), W p l e (rmN 7) s m [.ref (tb), .int (iI (0)), .int (iI (0)), .int (iI (0))].toArray below meth c H locs 0 0 (MQ below (QW G [[tbO tb qn qb r x h o], [(r, .inr (3, [.ref (qn 0)]))], stW G qn v, stW G qb u, hiW G h pa sn n S g false, [orO G o sg 0]] [[tbO tb qn qb r x h o], [(r, .inr (3, [.ref (qn 0)]))], stW G qn (waiV v), stW G qb v, hiW G h pa sn (actN (waiR v) n) (actS (waiR v) n S) (actG (waiR v) n g v) false, [orO G o sg 0]] (some (.int (iI (bZ (true)))))) [.ref (tb), .int (iI (0)), .int (iI (0)), .int (iI (0))].toArray s 0 0 (adr ([[tbO tb qn qb r x h o], [(r, .inr (3, [.ref (qn 0)]))], stW G qn v, stW G qb u, hiW G h pa sn n S g false, [orO G o sg 0]] : List va_W).flatten)) (F0 m 89 ls []) := by
          intro fu
          induction fu with
          | zero => intro j z h1 H locs hW hm ls hl; exfalso; omega
          | succ fu ih =>
            intro j z h1 H locs hW hm ls hl
            have ih89 := ih
            refine z_il C hl dL_isTurn_89 0 rfl 91 rfl ?_
            refine z_al_n C hl dL_isTurn_91 8 rfl 92 rfl ?_
            refine z_iconst C dL_isTurn_92 93 rfl ?_
            refine z_VR (r := .int (iI (cntR v n 0 5))) (rest := [.int (iI (j))]) C (m_count l G tb r x cu h pa o sg qn qb sn S g n false v 0 5 w0 (by omega)) kV_L_8 ⟨Nat.le_of_ble_eq_true rfl, Nat.le_of_ble_eq_true rfl⟩ (gP_rg hW.1 [0, 1, 2, 4, 5] rfl) hK 0 rfl rfl rfl hl.1 rfl (Nat.le_of_ble_eq_true rfl) dL_isTurn_93 ⟨Nat.le_of_ble_eq_true rfl, Nat.le_of_ble_eq_true rfl⟩ 96 rfl ?_
            refine z_top (b := .int (iI (v 127))) (congrArg (fun z => Value.int (iI z)) (rfl)) ?_
            refine z_icmp_ge C dL_isTurn_96 136 99 (by decide) rfl (by omega) (fun c96 => ?_) (fun c96 => ?_)
            · skip
              refine z_il_n C hl dL_isTurn_136 11 rfl 137 rfl ?_
              refine z_if_ne C dL_isTurn_137 147 140 (by decide) rfl (by omega) (fun c137 => ?_) (fun c137 => ?_)
              · exfalso; omega
              · skip
                refine z_al_n C hl dL_isTurn_140 8 rfl 141 rfl ?_
                refine z_VWi (r := .int (iI (waiR v))) (rest := []) C (m_pause l G tb r x cu h pa o sg qn qb sn S g n false u v  (by omega) w0  (gD_rg hW.2.1 [0, 1, 2, 3, 4] (by decide) rfl)) kV_L_41 ⟨Nat.le_of_ble_eq_true rfl, Nat.le_of_ble_eq_true rfl⟩ hW hK [0, 1, 2, 3, 4] rfl ((sameA_eq rfl (sameA_eq rfl (sameA_eq rfl (sameA_eq rfl (sameA_cons (hi_permA _ _) sameA_nil)))))) 0 rfl rfl rfl hl.1 rfl (Nat.le_of_ble_eq_true rfl) dL_isTurn_141 ⟨Nat.le_of_ble_eq_true rfl, Nat.le_of_ble_eq_true rfl⟩ 144 rfl (rs' := [[tbO tb qn qb r x h o], [(r, .inr (3, [.ref (qn 0)]))], stW G qn (waiV v), stW G qb v, hiW G h pa sn (actN (waiR v) n) (actS (waiR v) n S) (actG (waiR v) n g v) false, [orO G o sg 0]]) rfl (fun H locs hW hkeep => ?_)
                have rwr := waiR_rng w0
                have w2 := w0.wai
                have tt2 := w2.t
                have hof := fun h => wai_on w0 (v := v) h
                refine z_goto C dL_isTurn_144 154 (by decide) ?_
                refine z_is C hl dL_isTurn_154 156 rfl (by decide) (lv' := [(11, .int (iI (waiR v))), (10, .int (z)), (9, .int (iI (0))), (8, .int (iI (v 128))), (7, .int (iI (cntZ v 2))), (6, .int ((danR v 0) ||| (danR v 1))), (5, .int (iI (v 126))), (4, .int (iI (0))), (0, .ref (tb)), (1, .int (iI (0))), (2, .int (iI (0))), (3, .int (iI (0)))]) rfl (fun ls hl => ?_)
                refine z_il C hl dL_isTurn_156 7 rfl 158 rfl ?_
                refine z_if_le C dL_isTurn_158 212 161 (by decide) rfl (by omega) (fun c158 => ?_) (fun c158 => ?_)
                · skip
                  have hon := wai_on w0 ho
                  have hot := hon.2.2.1
                  have hom := ones_rng (danR v 0 ||| danR v 1)
                  refine z_al_n C hl dL_isTurn_212 8 rfl 213 rfl ?_
                  refine z_iconst C dL_isTurn_213 214 rfl ?_
                  refine z_VR (r := .int (iI (cntR (waiV v) (actN (waiR v) n) 0 0))) (rest := []) C (m_count l G tb r x cu h pa o sg qn qb sn (actS (waiR v) n S) (actG (waiR v) n g v) (actN (waiR v) n) false (waiV v) 0 0 (w0.wai) (by omega)) kV_L_8 ⟨Nat.le_of_ble_eq_true rfl, Nat.le_of_ble_eq_true rfl⟩ (gP_rg hW.1 [0, 1, 2, 4, 5] rfl) hK 0 rfl rfl rfl hl.1 rfl (Nat.le_of_ble_eq_true rfl) dL_isTurn_214 ⟨Nat.le_of_ble_eq_true rfl, Nat.le_of_ble_eq_true rfl⟩ 217 rfl ?_
                  refine z_top (b := .int (iI (((waiV v) 126)))) (congrArg (fun z => Value.int (iI z)) (rfl)) ?_
                  refine z_il C hl dL_isTurn_217 6 rfl 219 rfl ?_
                  refine z_iconst C dL_isTurn_219 220 rfl ?_
                  refine z_iadd C dL_isTurn_220 221 rfl (1 + v 126) (by omega) ?_
                  refine z_icmp_ne C dL_isTurn_221 264 224 (by decide) rfl (by omega) (fun c221 => ?_) (fun c221 => ?_)
                  · exfalso; omega
                  · skip
                    refine z_al_n C hl dL_isTurn_224 8 rfl 225 rfl ?_
                    refine z_bipush C dL_isTurn_225 (by decide) 227 rfl ?_
                    refine z_VR (r := .int (iI (cntR (waiV v) (actN (waiR v) n) 0 10))) (rest := []) C (m_count l G tb r x cu h pa o sg qn qb sn (actS (waiR v) n S) (actG (waiR v) n g v) (actN (waiR v) n) false (waiV v) 0 10 (w0.wai) (by omega)) kV_L_8 ⟨Nat.le_of_ble_eq_true rfl, Nat.le_of_ble_eq_true rfl⟩ (gP_rg hW.1 [0, 1, 2, 4, 5] rfl) hK 0 rfl rfl rfl hl.1 rfl (Nat.le_of_ble_eq_true rfl) dL_isTurn_227 ⟨Nat.le_of_ble_eq_true rfl, Nat.le_of_ble_eq_true rfl⟩ 230 rfl ?_
                    refine z_top (b := .int (iI (((waiV v) 128)))) (congrArg (fun z => Value.int (iI z)) (rfl)) ?_
                    refine z_il C hl dL_isTurn_230 3 rfl 232 rfl ?_
                    refine z_il_n C hl dL_isTurn_232 11 rfl 233 rfl ?_
                    refine z_if_le C dL_isTurn_233 245 236 (by decide) rfl (by omega) (fun c233 => ?_) (fun c233 => ?_)
                    · skip
                      refine z_iconst C dL_isTurn_245 246 rfl ?_
                      refine z_iadd C dL_isTurn_246 247 rfl (v 128) (by omega) ?_
                      refine z_icmp_ne C dL_isTurn_247 264 250 (by decide) rfl (by omega) (fun c247 => ?_) (fun c247 => ?_)
                      · exfalso; omega
                      · skip
                        refine z_il_n C hl dL_isTurn_250 11 rfl 251 rfl ?_
                        refine z_if_ne C dL_isTurn_251 266 254 (by decide) rfl (by omega) (fun c251 => ?_) (fun c251 => ?_)
                        · exfalso; omega
                        · skip
                          refine z_il C hl dL_isTurn_254 0 rfl 256 rfl ?_
                          refine z_al_n C hl dL_isTurn_256 8 rfl 257 rfl ?_
                          refine z_iconst C dL_isTurn_257 258 rfl ?_
                          refine z_VR (r := .int (iI (cntR (waiV v) (actN (waiR v) n) 0 2))) (rest := [.int (iI (waiR v))]) C (m_count l G tb r x cu h pa o sg qn qb sn (actS (waiR v) n S) (actG (waiR v) n g v) (actN (waiR v) n) false (waiV v) 0 2 (w0.wai) (by omega)) kV_L_8 ⟨Nat.le_of_ble_eq_true rfl, Nat.le_of_ble_eq_true rfl⟩ (gP_rg hW.1 [0, 1, 2, 4, 5] rfl) hK 0 rfl rfl rfl hl.1 rfl (Nat.le_of_ble_eq_true rfl) dL_isTurn_258 ⟨Nat.le_of_ble_eq_true rfl, Nat.le_of_ble_eq_true rfl⟩ 261 rfl ?_
                          refine z_top (b := .int (iI (tideZ (waiV v) ((waiV v) 126)))) (congrArg (fun z => Value.int (iI z)) (rfl)) ?_
                          have rt258 := tide_lim (w0.wai) ((waiV v) 126)
                          refine z_icmp_eq C dL_isTurn_261 266 264 (by decide) rfl (by omega) (fun c261 => ?_) (fun c261 => ?_)
                          · skip
                            refine z_iconst C dL_isTurn_266 267 rfl ?_
                            refine z_top (b := .int (iI (cntK (waiV v) 2 0))) rfl ?_
                            refine z_is C hl dL_isTurn_267 269 rfl (by decide) (lv' := [(12, .int (iI (cntK (waiV v) 2 0))), (11, .int (iI (waiR v))), (10, .int (z)), (9, .int (iI (0))), (8, .int (iI (v 128))), (7, .int (iI (cntZ v 2))), (6, .int ((danR v 0) ||| (danR v 1))), (5, .int (iI (v 126))), (4, .int (iI (0))), (0, .ref (tb)), (1, .int (iI (0))), (2, .int (iI (0))), (3, .int (iI (0)))]) rfl (fun ls hl => ?_)
                            refine z_iconst C dL_isTurn_269 270 rfl ?_
                            refine z_is C hl dL_isTurn_270 272 rfl (by decide) (lv' := [(13, .int (iI (0))), (12, .int (iI (cntK (waiV v) 2 0))), (11, .int (iI (waiR v))), (10, .int (z)), (9, .int (iI (0))), (8, .int (iI (v 128))), (7, .int (iI (cntZ v 2))), (6, .int ((danR v 0) ||| (danR v 1))), (5, .int (iI (v 126))), (4, .int (iI (0))), (0, .ref (tb)), (1, .int (iI (0))), (2, .int (iI (0))), (3, .int (iI (0)))]) rfl (fun ls hl => ?_)
                            have L272 : ∀ (fu : Nat) (j : Int) (q1 : 0 ≤ j ∧ j ≤ (waiV v) 127) (H : Heap) (locs : List Loc) (hW : Wd G (adr ([[tbO tb qn qb r x h o], [(r, .inr (3, [.ref (qn 0)]))], stW G qn v, stW G qb u, hiW G h pa sn n S g false, [orO G o sg 0]] : List va_W).flatten) [[tbO tb qn qb r x h o], [(r, .inr (3, [.ref (qn 0)]))], stW G qn (waiV v), stW G qb v, hiW G h pa sn (actN (waiR v) n) (actS (waiR v) n S) (actG (waiR v) n g v) false, [orO G o sg 0]] s.heap H locs) (hm : (waiV v) 127 - j < (fu : Int)) (ls : Array Slot) (hl : lv_has ls 15 [(13, .int (iI (j))), (12, .int (iI (cntK (waiV v) 2 j))), (11, .int (iI (waiR v))), (9, .int (iI (0))), (8, .int (iI (v 128))), (7, .int (iI (cntZ v 2))), (6, .int ((danR v 0) ||| (danR v 1))), (5, .int (iI (v 126))), (4, .int (iI (0))), (0, .ref (tb)), (1, .int (iI (0))), (2, .int (iI (0))), (3, .int (iI (0)))]), W p l e (rmN 7) s m [.ref (tb), .int (iI (0)), .int (iI (0)), .int (iI (0))].toArray below meth c H locs 0 0 (MQ below (QW G [[tbO tb qn qb r x h o], [(r, .inr (3, [.ref (qn 0)]))], stW G qn v, stW G qb u, hiW G h pa sn n S g false, [orO G o sg 0]] [[tbO tb qn qb r x h o], [(r, .inr (3, [.ref (qn 0)]))], stW G qn (waiV v), stW G qb v, hiW G h pa sn (actN (waiR v) n) (actS (waiR v) n S) (actG (waiR v) n g v) false, [orO G o sg 0]] (some (.int (iI (bZ (true)))))) [.ref (tb), .int (iI (0)), .int (iI (0)), .int (iI (0))].toArray s 0 0 (adr ([[tbO tb qn qb r x h o], [(r, .inr (3, [.ref (qn 0)]))], stW G qn v, stW G qb u, hiW G h pa sn n S g false, [orO G o sg 0]] : List va_W).flatten)) (F0 m 272 ls []) := by
                              intro fu
                              induction fu with
                              | zero => intro j q1 H locs hW hm ls hl; exfalso; omega
                              | succ fu ih =>
                                intro j q1 H locs hW hm ls hl
                                have rj := cntK_rng (waiV v) 2 (k := j) (by omega)
                                have ih272 := ih
                                refine z_il C hl dL_isTurn_272 0 rfl 274 rfl ?_
                                refine z_al_n C hl dL_isTurn_274 9 rfl 275 rfl ?_
                                refine z_iconst C dL_isTurn_275 276 rfl ?_
                                refine z_VR (r := .int (iI (cntR (waiV v) (actN (waiR v) n) 0 5))) (rest := [.int (iI (j))]) C (m_count l G tb r x cu h pa o sg qn qb sn (actS (waiR v) n S) (actG (waiR v) n g v) (actN (waiR v) n) false (waiV v) 0 5 (w0.wai) (by omega)) kV_L_8 ⟨Nat.le_of_ble_eq_true rfl, Nat.le_of_ble_eq_true rfl⟩ (gP_rg hW.1 [0, 1, 2, 4, 5] rfl) hK 0 rfl rfl rfl hl.1 rfl (Nat.le_of_ble_eq_true rfl) dL_isTurn_276 ⟨Nat.le_of_ble_eq_true rfl, Nat.le_of_ble_eq_true rfl⟩ 279 rfl ?_
                                refine z_top (b := .int (iI (((waiV v) 127)))) (congrArg (fun z => Value.int (iI z)) (rfl)) ?_
                                refine z_icmp_ge C dL_isTurn_279 356 282 (by decide) rfl (by omega) (fun c279 => ?_) (fun c279 => ?_)
                                · skip
                                  have e9 : cntK (waiV v) 2 j = cntZ (waiV v) 2 := by rw [show j = (waiV v) 127 by omega]; rfl
                                  refine z_il C hl dL_isTurn_356 1 rfl 358 rfl ?_
                                  refine z_al_n C hl dL_isTurn_358 9 rfl 359 rfl ?_
                                  refine z_bipush C dL_isTurn_359 (by decide) 361 rfl ?_
                                  refine z_VR (r := .int (iI (cntR (waiV v) (actN (waiR v) n) 0 8))) (rest := [.int (iI (cntK (waiV v) 2 j))]) C (m_count l G tb r x cu h pa o sg qn qb sn (actS (waiR v) n S) (actG (waiR v) n g v) (actN (waiR v) n) false (waiV v) 0 8 (w0.wai) (by omega)) kV_L_8 ⟨Nat.le_of_ble_eq_true rfl, Nat.le_of_ble_eq_true rfl⟩ (gP_rg hW.1 [0, 1, 2, 4, 5] rfl) hK 0 rfl rfl rfl hl.1 rfl (Nat.le_of_ble_eq_true rfl) dL_isTurn_361 ⟨Nat.le_of_ble_eq_true rfl, Nat.le_of_ble_eq_true rfl⟩ 364 rfl ?_
                                  refine z_top (b := .int (iI (cntZ (waiV v) 2))) (congrArg (fun z => Value.int (iI z)) (rfl)) ?_
                                  have rc361 := cntZ_rng (w0.wai) 2
                                  refine z_icmp_ne C dL_isTurn_364 427 367 (by decide) rfl (by omega) (fun c364 => ?_) (fun c364 => ?_)
                                  · exfalso; omega
                                  · skip
                                    refine z_il C hl dL_isTurn_367 1 rfl 369 rfl ?_
                                    refine z_il C hl dL_isTurn_369 5 rfl 371 rfl ?_
                                    refine z_il_n C hl dL_isTurn_371 12 rfl 372 rfl ?_
                                    refine z_if_le C dL_isTurn_372 384 375 (by decide) rfl (by omega) (fun c372 => ?_) (fun c372 => ?_)
                                    · skip
                                      refine z_iconst C dL_isTurn_384 385 rfl ?_
                                      refine z_iadd C dL_isTurn_385 386 rfl (cntZ v 2) (by omega) ?_
                                      refine z_icmp_lt C dL_isTurn_386 427 389 (by decide) rfl (by omega) (fun c386 => ?_) (fun c386 => ?_)
                                      · exfalso; omega
                                      · skip
                                        refine z_il_n C hl dL_isTurn_389 12 rfl 390 rfl ?_
                                        refine z_if_eq C dL_isTurn_390 406 393 (by decide) rfl (by omega) (fun c390 => ?_) (fun c390 => ?_)
                                        · skip
                                          refine z_il_n C hl dL_isTurn_406 12 rfl 407 rfl ?_
                                          refine z_if_gt C dL_isTurn_407 423 410 (by decide) rfl (by omega) (fun c407 => ?_) (fun c407 => ?_)
                                          · exfalso; omega
                                          · skip
                                            refine z_il C hl dL_isTurn_410 1 rfl 412 rfl ?_
                                            refine z_il C hl dL_isTurn_412 5 rfl 414 rfl ?_
                                            refine z_il C hl dL_isTurn_414 6 rfl 416 rfl ?_
                                            refine z_SR (r := .int (iI (onesZ ((danR v 0) ||| (danR v 1))))) (rest := [.int (iI (cntZ v 2)), .int (iI (cntK (waiV v) 2 j))]) C (m_ones l G ((danR v 0) ||| (danR v 1))) kS_L_48 ⟨Nat.le_of_ble_eq_true rfl, Nat.le_of_ble_eq_true rfl⟩ (gP_nil) hK rfl hl.1 rfl (Nat.le_of_ble_eq_true rfl) dL_isTurn_416 ⟨Nat.le_of_ble_eq_true rfl, Nat.le_of_ble_eq_true rfl⟩ 419 rfl ?_
                                            have ro416 := ones_rng ((danR v 0) ||| (danR v 1))
                                            refine z_iadd C dL_isTurn_419 420 rfl (cntZ v 2 + onesZ ((danR v 0) ||| (danR v 1))) (by omega) ?_
                                            refine z_icmp_ne C dL_isTurn_420 427 423 (by decide) rfl (by omega) (fun c420 => ?_) (fun c420 => ?_)
                                            · exfalso; omega
                                            · skip
                                              refine z_iconst C dL_isTurn_423 424 rfl ?_
                                              refine z_goto C dL_isTurn_424 428 (by decide) ?_
                                              exact z_wz C hW dL_isTurn_428 (rfl) rfl
                                        · exfalso; omega
                                    · exfalso; omega
                                · skip
                                  refine z_il C hl dL_isTurn_282 0 rfl 284 rfl ?_
                                  refine z_bipush C dL_isTurn_284 (by decide) 286 rfl ?_
                                  refine z_icmp_ge C dL_isTurn_286 356 289 (by decide) rfl (by omega) (fun c286 => ?_) (fun c286 => ?_)
                                  · exfalso; omega
                                  · skip
                                    have hwj := w2.b j (by omega)
                                    refine z_al_n C hl dL_isTurn_289 9 rfl 290 rfl ?_
                                    refine z_il C hl dL_isTurn_290 0 rfl 292 rfl ?_
                                    refine z_iconst C dL_isTurn_292 293 rfl ?_
                                    refine z_VR (r := .int (iI (boaR (waiV v) j 2))) (rest := []) C (m_boatOf l G tb r x cu h pa o sg qn qb sn (waiV v) j 2 (w0.wai) (by omega) (by omega)) kV_L_14 ⟨Nat.le_of_ble_eq_true rfl, Nat.le_of_ble_eq_true rfl⟩ (gP_rg hW.1 [0, 1, 2] rfl) hK 0 rfl rfl rfl hl.1 rfl (Nat.le_of_ble_eq_true rfl) dL_isTurn_293 ⟨Nat.le_of_ble_eq_true rfl, Nat.le_of_ble_eq_true rfl⟩ 296 rfl ?_
                                    refine z_top (b := .int (iI (((waiV v) (74 + 5 * j))))) (congrArg (fun z => Value.int (iI z)) (boa_2 (v := (waiV v)) (b := j) (by omega))) ?_
                                    refine z_iconst C dL_isTurn_296 297 rfl ?_
                                    refine z_micmp_ne C dL_isTurn_297 dL_isTurn_300 dL_isTurn_301 dL_isTurn_304 (by omega) rfl rfl rfl 305 rfl ?_
                                    refine z_is C hl dL_isTurn_305 307 rfl (by decide) (lv' := [(14, .int (iI (bZ (decide (((waiV v) (74 + 5 * j)) = 2))))), (13, .int (iI (j))), (12, .int (iI (cntK (waiV v) 2 j))), (11, .int (iI (waiR v))), (9, .int (iI (0))), (8, .int (iI (v 128))), (7, .int (iI (cntZ v 2))), (6, .int ((danR v 0) ||| (danR v 1))), (5, .int (iI (v 126))), (4, .int (iI (0))), (0, .ref (tb)), (1, .int (iI (0))), (2, .int (iI (0))), (3, .int (iI (0)))]) rfl (fun ls hl => ?_)
                                    refine z_il C hl dL_isTurn_307 2 rfl 309 rfl ?_
                                    refine z_il C hl dL_isTurn_309 0 rfl 311 rfl ?_
                                    refine z_mb_eq C dL_isTurn_311 dL_isTurn_314 dL_isTurn_315 dL_isTurn_318 rfl rfl rfl 319 rfl ?_
                                    refine z_iadd C dL_isTurn_319 320 rfl (bZ (decide (((waiV v) (74 + 5 * j)) = 2)) + cntK (waiV v) 2 j) (by omega) ?_
                                    refine z_top (b := .int (iI (cntK (waiV v) 2 (1 + j)))) (congrArg (fun z => Value.int (iI z)) (by have hq := cntK_s (v := (waiV v)) (x := 2) (k := j) (by omega); omega)) ?_
                                    refine z_is C hl dL_isTurn_320 322 rfl (by decide) (lv' := [(12, .int (iI (cntK (waiV v) 2 (1 + j)))), (14, .int (iI (bZ (decide (((waiV v) (74 + 5 * j)) = 2))))), (13, .int (iI (j))), (11, .int (iI (waiR v))), (9, .int (iI (0))), (8, .int (iI (v 128))), (7, .int (iI (cntZ v 2))), (6, .int ((danR v 0) ||| (danR v 1))), (5, .int (iI (v 126))), (4, .int (iI (0))), (0, .ref (tb)), (1, .int (iI (0))), (2, .int (iI (0))), (3, .int (iI (0)))]) rfl (fun ls hl => ?_)
                                    refine z_il C hl dL_isTurn_322 7 rfl 324 rfl ?_
                                    refine z_il C hl dL_isTurn_324 2 rfl 326 rfl ?_
                                    refine z_ishr C dL_isTurn_326 327 rfl ?_
                                    refine z_iconst C dL_isTurn_327 328 rfl ?_
                                    refine z_iand C dL_isTurn_328 329 rfl ?_
                                    refine z_top (b := .int (iI (bZ (btI (danR v 0 ||| danR v 1) j)))) (congrArg Value.int (bit_at (danR v 0 ||| danR v 1) (by omega))) ?_
                                    refine z_iconst C dL_isTurn_329 330 rfl ?_
                                    refine z_icmp_ne C dL_isTurn_330 350 333 (by decide) rfl (by have := bZ_rng (btI (danR v 0 ||| danR v 1) j); omega) (fun c330 => ?_) (fun c330 => ?_)
                                    · skip
                                      refine z_iinc C hl dL_isTurn_350 353 rfl 2 rfl (z := 1 + j) (by omega) (by decide) (lv' := [(13, .int (iI (1 + j))), (12, .int (iI (cntK (waiV v) 2 (1 + j)))), (14, .int (iI (bZ (decide (((waiV v) (74 + 5 * j)) = 2))))), (11, .int (iI (waiR v))), (9, .int (iI (0))), (8, .int (iI (v 128))), (7, .int (iI (cntZ v 2))), (6, .int ((danR v 0) ||| (danR v 1))), (5, .int (iI (v 126))), (4, .int (iI (0))), (0, .ref (tb)), (1, .int (iI (0))), (2, .int (iI (0))), (3, .int (iI (0)))]) rfl (fun ls hl => ?_)
                                      refine z_goto C dL_isTurn_353 272 (by decide) ?_
                                      exact ih272 (1 + j) (by omega) _ _ hW (by omega) ls (lv_sub hl [0, 1, 3, 4, 5, 6, 7, 8, 9, 10, 11, 12, 13] rfl)
                                    · skip
                                      refine z_il C hl dL_isTurn_333 1 rfl 335 rfl ?_
                                      refine z_ifb_ne C dL_isTurn_335 350 338 (by decide) rfl (fun c335 => ?_) (fun c335 => ?_)
                                      · skip
                                        simp only [decide_eq_true_eq, decide_eq_false_iff_not] at c335
                                        refine z_iinc C hl dL_isTurn_350 353 rfl 2 rfl (z := 1 + j) (by omega) (by decide) (lv' := [(13, .int (iI (1 + j))), (12, .int (iI (cntK (waiV v) 2 (1 + j)))), (14, .int (iI (bZ (decide (((waiV v) (74 + 5 * j)) = 2))))), (11, .int (iI (waiR v))), (9, .int (iI (0))), (8, .int (iI (v 128))), (7, .int (iI (cntZ v 2))), (6, .int ((danR v 0) ||| (danR v 1))), (5, .int (iI (v 126))), (4, .int (iI (0))), (0, .ref (tb)), (1, .int (iI (0))), (2, .int (iI (0))), (3, .int (iI (0)))]) rfl (fun ls hl => ?_)
                                        refine z_goto C dL_isTurn_353 272 (by decide) ?_
                                        exact ih272 (1 + j) (by omega) _ _ hW (by omega) ls (lv_sub hl [0, 1, 3, 4, 5, 6, 7, 8, 9, 10, 11, 12, 13] rfl)
                                      · exfalso; simp only [decide_eq_true_eq, decide_eq_false_iff_not] at c335; exact c335 (wai_hit w0 ho (by omega) c330)
                            exact L272 (Int.toNat ((waiV v) 127 - 0) + 1) 0 (by omega) _ _ hW (by omega) ls (lv_sub hl [0, 1, 2, 4, 5, 6, 7, 8, 9, 10, 11, 12, 13] rfl)
                          · exfalso; omega
                    · exfalso; omega
                · exfalso; omega
            · skip
              refine z_il C hl dL_isTurn_99 0 rfl 101 rfl ?_
              refine z_bipush C dL_isTurn_101 (by decide) 103 rfl ?_
              refine z_icmp_ge C dL_isTurn_103 136 106 (by decide) rfl (by omega) (fun c103 => ?_) (fun c103 => ?_)
              · exfalso; omega
              · skip
                have hwj := w0.b j (by omega)
                refine z_il C hl dL_isTurn_106 1 rfl 108 rfl ?_
                refine z_al_n C hl dL_isTurn_108 8 rfl 109 rfl ?_
                refine z_il C hl dL_isTurn_109 0 rfl 111 rfl ?_
                refine z_iconst C dL_isTurn_111 112 rfl ?_
                refine z_VR (r := .int (iI (boaR v j 2))) (rest := [.int (z)]) C (m_boatOf l G tb r x cu h pa o sg qn qb sn v j 2 w0 (by omega) (by omega)) kV_L_14 ⟨Nat.le_of_ble_eq_true rfl, Nat.le_of_ble_eq_true rfl⟩ (gP_rg hW.1 [0, 1, 2] rfl) hK 0 rfl rfl rfl hl.1 rfl (Nat.le_of_ble_eq_true rfl) dL_isTurn_112 ⟨Nat.le_of_ble_eq_true rfl, Nat.le_of_ble_eq_true rfl⟩ 115 rfl ?_
                refine z_top (b := .int (iI (v (74 + 5 * j)))) (congrArg (fun z => Value.int (iI z)) (boa_2 (v := v) (b := j) (by omega))) ?_
                refine z_iconst C dL_isTurn_115 116 rfl ?_
                refine z_icmp_ne C dL_isTurn_116 126 119 (by decide) rfl (by omega) (fun c116 => ?_) (fun c116 => ?_)
                · skip
                  refine z_iconst C dL_isTurn_126 127 rfl ?_
                  refine z_ior C dL_isTurn_127 128 rfl ?_
                  refine z_is C hl dL_isTurn_128 130 rfl (by decide) (lv' := [(10, .int (z ||| (iI (0)))), (11, .int (iI (j))), (9, .int (iI (0))), (8, .int (iI (v 128))), (7, .int (iI (cntZ v 2))), (6, .int ((danR v 0) ||| (danR v 1))), (5, .int (iI (v 126))), (4, .int (iI (0))), (0, .ref (tb)), (1, .int (iI (0))), (2, .int (iI (0))), (3, .int (iI (0)))]) rfl (fun ls hl => ?_)
                  refine z_iinc C hl dL_isTurn_130 133 rfl 1 rfl (z := 1 + j) (by omega) (by decide) (lv' := [(11, .int (iI (1 + j))), (10, .int (z ||| (iI (0)))), (9, .int (iI (0))), (8, .int (iI (v 128))), (7, .int (iI (cntZ v 2))), (6, .int ((danR v 0) ||| (danR v 1))), (5, .int (iI (v 126))), (4, .int (iI (0))), (0, .ref (tb)), (1, .int (iI (0))), (2, .int (iI (0))), (3, .int (iI (0)))]) rfl (fun ls hl => ?_)
                  refine z_goto C dL_isTurn_133 89 (by decide) ?_
                  exact ih89 (1 + j) (z ||| (iI (0))) (by omega) _ _ hW (by omega) ls (lv_sub hl [0, 1, 2, 3, 4, 5, 6, 7, 8, 9, 10, 11] rfl)
                · skip
                  refine z_iconst C dL_isTurn_119 120 rfl ?_
                  refine z_il C hl dL_isTurn_120 0 rfl 122 rfl ?_
                  refine z_ishl C dL_isTurn_122 123 rfl ?_
                  refine z_goto C dL_isTurn_123 127 (by decide) ?_
                  refine z_ior C dL_isTurn_127 128 rfl ?_
                  refine z_is C hl dL_isTurn_128 130 rfl (by decide) (lv' := [(10, .int (z ||| ((iI (1)) <<< ((iI (j)) &&& 31)))), (11, .int (iI (j))), (9, .int (iI (0))), (8, .int (iI (v 128))), (7, .int (iI (cntZ v 2))), (6, .int ((danR v 0) ||| (danR v 1))), (5, .int (iI (v 126))), (4, .int (iI (0))), (0, .ref (tb)), (1, .int (iI (0))), (2, .int (iI (0))), (3, .int (iI (0)))]) rfl (fun ls hl => ?_)
                  refine z_iinc C hl dL_isTurn_130 133 rfl 1 rfl (z := 1 + j) (by omega) (by decide) (lv' := [(11, .int (iI (1 + j))), (10, .int (z ||| ((iI (1)) <<< ((iI (j)) &&& 31)))), (9, .int (iI (0))), (8, .int (iI (v 128))), (7, .int (iI (cntZ v 2))), (6, .int ((danR v 0) ||| (danR v 1))), (5, .int (iI (v 126))), (4, .int (iI (0))), (0, .ref (tb)), (1, .int (iI (0))), (2, .int (iI (0))), (3, .int (iI (0)))]) rfl (fun ls hl => ?_)
                  refine z_goto C dL_isTurn_133 89 (by decide) ?_
                  exact ih89 (1 + j) (z ||| ((iI (1)) <<< ((iI (j)) &&& 31))) (by omega) _ _ hW (by omega) ls (lv_sub hl [0, 1, 2, 3, 4, 5, 6, 7, 8, 9, 10, 11] rfl)
        exact L89 (Int.toNat (v 127 - 0) + 1) 0 (iI (0)) (by omega) _ _ hW (by omega) ls (lv_sub hl [0, 1, 2, 3, 4, 5, 6, 7, 8, 9, 10, 11] rfl)
    · skip
      have ho : overB v = true := bZ_eq1.mp c11
      have hov := wai_over ho
      refine z_iconst C dL_isTurn_14 15 rfl ?_
      refine z_goto C dL_isTurn_15 29 (by decide) ?_
      refine z_is C hl dL_isTurn_29 31 rfl (by decide) (lv' := [(4, .int (iI (1))), (0, .ref (tb)), (1, .int (iI (0))), (2, .int (iI (0))), (3, .int (iI (0)))]) rfl (fun ls hl => ?_)
      refine z_al_n C hl dL_isTurn_31 1 rfl 32 rfl ?_
      refine z_iconst C dL_isTurn_32 33 rfl ?_
      refine z_VR (r := .int (iI (cntR v n 0 0))) (rest := []) C (m_count l G tb r x cu h pa o sg qn qb sn S g n false v 0 0 w0 (by omega)) kV_L_8 ⟨Nat.le_of_ble_eq_true rfl, Nat.le_of_ble_eq_true rfl⟩ (gP_rg hW.1 [0, 1, 2, 4, 5] rfl) hK 0 rfl rfl rfl hl.1 rfl (Nat.le_of_ble_eq_true rfl) dL_isTurn_33 ⟨Nat.le_of_ble_eq_true rfl, Nat.le_of_ble_eq_true rfl⟩ 36 rfl ?_
      refine z_top (b := .int (iI (v 126))) (congrArg (fun z => Value.int (iI z)) (rfl)) ?_
      refine z_is C hl dL_isTurn_36 38 rfl (by decide) (lv' := [(5, .int (iI (v 126))), (4, .int (iI (1))), (0, .ref (tb)), (1, .int (iI (0))), (2, .int (iI (0))), (3, .int (iI (0)))]) rfl (fun ls hl => ?_)
      refine z_al_n C hl dL_isTurn_38 2 rfl 39 rfl ?_
      refine z_iconst C dL_isTurn_39 40 rfl ?_
      refine z_VR (r := .int (danR v 0)) (rest := []) C (m_inDanger l G tb r x cu h pa o sg qn qb sn v 0 w0 (by omega)) kV_L_38 ⟨Nat.le_of_ble_eq_true rfl, Nat.le_of_ble_eq_true rfl⟩ (gP_rg hW.1 [0, 2] rfl) hK 0 rfl rfl rfl hl.1 rfl (Nat.le_of_ble_eq_true rfl) dL_isTurn_40 ⟨Nat.le_of_ble_eq_true rfl, Nat.le_of_ble_eq_true rfl⟩ 43 rfl ?_
      refine z_al_n C hl dL_isTurn_43 2 rfl 44 rfl ?_
      refine z_iconst C dL_isTurn_44 45 rfl ?_
      refine z_VR (r := .int (danR v 1)) (rest := [.int (danR v 0)]) C (m_inDanger l G tb r x cu h pa o sg qn qb sn v 1 w0 (by omega)) kV_L_38 ⟨Nat.le_of_ble_eq_true rfl, Nat.le_of_ble_eq_true rfl⟩ (gP_rg hW.1 [0, 2] rfl) hK 0 rfl rfl rfl hl.1 rfl (Nat.le_of_ble_eq_true rfl) dL_isTurn_45 ⟨Nat.le_of_ble_eq_true rfl, Nat.le_of_ble_eq_true rfl⟩ 48 rfl ?_
      refine z_ior C dL_isTurn_48 49 rfl ?_
      refine z_is C hl dL_isTurn_49 51 rfl (by decide) (lv' := [(6, .int ((danR v 0) ||| (danR v 1))), (5, .int (iI (v 126))), (4, .int (iI (1))), (0, .ref (tb)), (1, .int (iI (0))), (2, .int (iI (0))), (3, .int (iI (0)))]) rfl (fun ls hl => ?_)
      refine z_al_n C hl dL_isTurn_51 3 rfl 52 rfl ?_
      refine z_bipush C dL_isTurn_52 (by decide) 54 rfl ?_
      refine z_VR (r := .int (iI (cntR v n 0 8))) (rest := []) C (m_count l G tb r x cu h pa o sg qn qb sn S g n false v 0 8 w0 (by omega)) kV_L_8 ⟨Nat.le_of_ble_eq_true rfl, Nat.le_of_ble_eq_true rfl⟩ (gP_rg hW.1 [0, 1, 2, 4, 5] rfl) hK 0 rfl rfl rfl hl.1 rfl (Nat.le_of_ble_eq_true rfl) dL_isTurn_54 ⟨Nat.le_of_ble_eq_true rfl, Nat.le_of_ble_eq_true rfl⟩ 57 rfl ?_
      refine z_top (b := .int (iI (cntZ v 2))) (congrArg (fun z => Value.int (iI z)) (rfl)) ?_
      have rc54 := cntZ_rng w0 2
      refine z_is C hl dL_isTurn_57 59 rfl (by decide) (lv' := [(7, .int (iI (cntZ v 2))), (6, .int ((danR v 0) ||| (danR v 1))), (5, .int (iI (v 126))), (4, .int (iI (1))), (0, .ref (tb)), (1, .int (iI (0))), (2, .int (iI (0))), (3, .int (iI (0)))]) rfl (fun ls hl => ?_)
      refine z_al_n C hl dL_isTurn_59 4 rfl 60 rfl ?_
      refine z_bipush C dL_isTurn_60 (by decide) 62 rfl ?_
      refine z_VR (r := .int (iI (cntR v n 0 10))) (rest := []) C (m_count l G tb r x cu h pa o sg qn qb sn S g n false v 0 10 w0 (by omega)) kV_L_8 ⟨Nat.le_of_ble_eq_true rfl, Nat.le_of_ble_eq_true rfl⟩ (gP_rg hW.1 [0, 1, 2, 4, 5] rfl) hK 0 rfl rfl rfl hl.1 rfl (Nat.le_of_ble_eq_true rfl) dL_isTurn_62 ⟨Nat.le_of_ble_eq_true rfl, Nat.le_of_ble_eq_true rfl⟩ 65 rfl ?_
      refine z_top (b := .int (iI (v 128))) (congrArg (fun z => Value.int (iI z)) (rfl)) ?_
      refine z_is C hl dL_isTurn_65 67 rfl (by decide) (lv' := [(8, .int (iI (v 128))), (7, .int (iI (cntZ v 2))), (6, .int ((danR v 0) ||| (danR v 1))), (5, .int (iI (v 126))), (4, .int (iI (1))), (0, .ref (tb)), (1, .int (iI (0))), (2, .int (iI (0))), (3, .int (iI (0)))]) rfl (fun ls hl => ?_)
      refine z_il_n C hl dL_isTurn_67 8 rfl 68 rfl ?_
      refine z_if_ne C dL_isTurn_68 75 71 (by decide) rfl (by omega) (fun c68 => ?_) (fun c68 => ?_)
      · exfalso; omega
      · skip
        refine z_iconst C dL_isTurn_71 72 rfl ?_
        refine z_goto C dL_isTurn_72 81 (by decide) ?_
        refine z_is C hl dL_isTurn_81 83 rfl (by decide) (lv' := [(9, .int (iI (0))), (8, .int (iI (v 128))), (7, .int (iI (cntZ v 2))), (6, .int ((danR v 0) ||| (danR v 1))), (5, .int (iI (v 126))), (4, .int (iI (1))), (0, .ref (tb)), (1, .int (iI (0))), (2, .int (iI (0))), (3, .int (iI (0)))]) rfl (fun ls hl => ?_)
        refine z_iconst C dL_isTurn_83 84 rfl ?_
        refine z_is C hl dL_isTurn_84 86 rfl (by decide) (lv' := [(10, .int (iI (0))), (9, .int (iI (0))), (8, .int (iI (v 128))), (7, .int (iI (cntZ v 2))), (6, .int ((danR v 0) ||| (danR v 1))), (5, .int (iI (v 126))), (4, .int (iI (1))), (0, .ref (tb)), (1, .int (iI (0))), (2, .int (iI (0))), (3, .int (iI (0)))]) rfl (fun ls hl => ?_)
        refine z_iconst C dL_isTurn_86 87 rfl ?_
        refine z_is C hl dL_isTurn_87 89 rfl (by decide) (lv' := [(11, .int (iI (0))), (10, .int (iI (0))), (9, .int (iI (0))), (8, .int (iI (v 128))), (7, .int (iI (cntZ v 2))), (6, .int ((danR v 0) ||| (danR v 1))), (5, .int (iI (v 126))), (4, .int (iI (1))), (0, .ref (tb)), (1, .int (iI (0))), (2, .int (iI (0))), (3, .int (iI (0)))]) rfl (fun ls hl => ?_)
        have L89 : ∀ (fu : Nat) (j : Int) (z : Int32) (h1 : 0 ≤ j ∧ j ≤ v 127) (H : Heap) (locs : List Loc) (hW : Wd G (adr ([[tbO tb qn qb r x h o], [(r, .inr (3, [.ref (qn 0)]))], stW G qn v, stW G qb u, hiW G h pa sn n S g false, [orO G o sg 0]] : List va_W).flatten) [[tbO tb qn qb r x h o], [(r, .inr (3, [.ref (qn 0)]))], stW G qn v, stW G qb u, hiW G h pa sn n S g false, [orO G o sg 0]] s.heap H locs) (hm : v 127 - j < (fu : Int)) (ls : Array Slot) (hl : lv_has ls 15 [(11, .int (iI (j))), (10, .int (z)), (9, .int (iI (0))), (8, .int (iI (v 128))), (7, .int (iI (cntZ v 2))), (6, .int ((danR v 0) ||| (danR v 1))), (5, .int (iI (v 126))), (4, .int (iI (1))), (0, .ref (tb)), (1, .int (iI (0))), (2, .int (iI (0))), (3, .int (iI (0)))]), W p l e (rmN 7) s m [.ref (tb), .int (iI (0)), .int (iI (0)), .int (iI (0))].toArray below meth c H locs 0 0 (MQ below (QW G [[tbO tb qn qb r x h o], [(r, .inr (3, [.ref (qn 0)]))], stW G qn v, stW G qb u, hiW G h pa sn n S g false, [orO G o sg 0]] [[tbO tb qn qb r x h o], [(r, .inr (3, [.ref (qn 0)]))], stW G qn (waiV v), stW G qb v, hiW G h pa sn (actN (waiR v) n) (actS (waiR v) n S) (actG (waiR v) n g v) false, [orO G o sg 0]] (some (.int (iI (bZ (true)))))) [.ref (tb), .int (iI (0)), .int (iI (0)), .int (iI (0))].toArray s 0 0 (adr ([[tbO tb qn qb r x h o], [(r, .inr (3, [.ref (qn 0)]))], stW G qn v, stW G qb u, hiW G h pa sn n S g false, [orO G o sg 0]] : List va_W).flatten)) (F0 m 89 ls []) := by
          intro fu
          induction fu with
          | zero => intro j z h1 H locs hW hm ls hl; exfalso; omega
          | succ fu ih =>
            intro j z h1 H locs hW hm ls hl
            have ih89 := ih
            refine z_il C hl dL_isTurn_89 0 rfl 91 rfl ?_
            refine z_al_n C hl dL_isTurn_91 8 rfl 92 rfl ?_
            refine z_iconst C dL_isTurn_92 93 rfl ?_
            refine z_VR (r := .int (iI (cntR v n 0 5))) (rest := [.int (iI (j))]) C (m_count l G tb r x cu h pa o sg qn qb sn S g n false v 0 5 w0 (by omega)) kV_L_8 ⟨Nat.le_of_ble_eq_true rfl, Nat.le_of_ble_eq_true rfl⟩ (gP_rg hW.1 [0, 1, 2, 4, 5] rfl) hK 0 rfl rfl rfl hl.1 rfl (Nat.le_of_ble_eq_true rfl) dL_isTurn_93 ⟨Nat.le_of_ble_eq_true rfl, Nat.le_of_ble_eq_true rfl⟩ 96 rfl ?_
            refine z_top (b := .int (iI (v 127))) (congrArg (fun z => Value.int (iI z)) (rfl)) ?_
            refine z_icmp_ge C dL_isTurn_96 136 99 (by decide) rfl (by omega) (fun c96 => ?_) (fun c96 => ?_)
            · skip
              refine z_il_n C hl dL_isTurn_136 11 rfl 137 rfl ?_
              refine z_if_ne C dL_isTurn_137 147 140 (by decide) rfl (by omega) (fun c137 => ?_) (fun c137 => ?_)
              · exfalso; omega
              · skip
                refine z_al_n C hl dL_isTurn_140 8 rfl 141 rfl ?_
                refine z_VWi (r := .int (iI (waiR v))) (rest := []) C (m_pause l G tb r x cu h pa o sg qn qb sn S g n false u v  (by omega) w0  (gD_rg hW.2.1 [0, 1, 2, 3, 4] (by decide) rfl)) kV_L_41 ⟨Nat.le_of_ble_eq_true rfl, Nat.le_of_ble_eq_true rfl⟩ hW hK [0, 1, 2, 3, 4] rfl ((sameA_eq rfl (sameA_eq rfl (sameA_eq rfl (sameA_eq rfl (sameA_cons (hi_permA _ _) sameA_nil)))))) 0 rfl rfl rfl hl.1 rfl (Nat.le_of_ble_eq_true rfl) dL_isTurn_141 ⟨Nat.le_of_ble_eq_true rfl, Nat.le_of_ble_eq_true rfl⟩ 144 rfl (rs' := [[tbO tb qn qb r x h o], [(r, .inr (3, [.ref (qn 0)]))], stW G qn (waiV v), stW G qb v, hiW G h pa sn (actN (waiR v) n) (actS (waiR v) n S) (actG (waiR v) n g v) false, [orO G o sg 0]]) rfl (fun H locs hW hkeep => ?_)
                have rwr := waiR_rng w0
                have w2 := w0.wai
                have tt2 := w2.t
                have hof := fun h => wai_on w0 (v := v) h
                refine z_goto C dL_isTurn_144 154 (by decide) ?_
                refine z_is C hl dL_isTurn_154 156 rfl (by decide) (lv' := [(11, .int (iI (waiR v))), (10, .int (z)), (9, .int (iI (0))), (8, .int (iI (v 128))), (7, .int (iI (cntZ v 2))), (6, .int ((danR v 0) ||| (danR v 1))), (5, .int (iI (v 126))), (4, .int (iI (1))), (0, .ref (tb)), (1, .int (iI (0))), (2, .int (iI (0))), (3, .int (iI (0)))]) rfl (fun ls hl => ?_)
                refine z_il C hl dL_isTurn_156 7 rfl 158 rfl ?_
                refine z_if_le C dL_isTurn_158 212 161 (by decide) rfl (by omega) (fun c158 => ?_) (fun c158 => ?_)
                · exfalso; omega
                · skip
                  refine z_il_n C hl dL_isTurn_161 11 rfl 162 rfl ?_
                  refine z_if_ne C dL_isTurn_162 175 165 (by decide) rfl (by omega) (fun c162 => ?_) (fun c162 => ?_)
                  · exfalso; omega
                  · skip
                    refine z_il C hl dL_isTurn_165 0 rfl 167 rfl ?_
                    refine z_bipush C dL_isTurn_167 (by decide) 169 rfl ?_
                    refine z_icmp_ne C dL_isTurn_169 210 172 (by decide) rfl (by omega) (fun c169 => ?_) (fun c169 => ?_)
                    · exfalso; omega
                    · skip
                      refine z_goto C dL_isTurn_172 185 (by decide) ?_
                      refine z_al_n C hl dL_isTurn_185 8 rfl 186 rfl ?_
                      refine z_iconst C dL_isTurn_186 187 rfl ?_
                      refine z_VR (r := .int (iI (cntR (waiV v) (actN (waiR v) n) 0 0))) (rest := []) C (m_count l G tb r x cu h pa o sg qn qb sn (actS (waiR v) n S) (actG (waiR v) n g v) (actN (waiR v) n) false (waiV v) 0 0 (w0.wai) (by omega)) kV_L_8 ⟨Nat.le_of_ble_eq_true rfl, Nat.le_of_ble_eq_true rfl⟩ (gP_rg hW.1 [0, 1, 2, 4, 5] rfl) hK 0 rfl rfl rfl hl.1 rfl (Nat.le_of_ble_eq_true rfl) dL_isTurn_187 ⟨Nat.le_of_ble_eq_true rfl, Nat.le_of_ble_eq_true rfl⟩ 190 rfl ?_
                      refine z_top (b := .int (iI (((waiV v) 126)))) (congrArg (fun z => Value.int (iI z)) (rfl)) ?_
                      refine z_il C hl dL_isTurn_190 6 rfl 192 rfl ?_
                      refine z_icmp_ne C dL_isTurn_192 210 195 (by decide) rfl (by omega) (fun c192 => ?_) (fun c192 => ?_)
                      · exfalso; rw [hov.2] at c192; omega
                      · skip
                        refine z_al_n C hl dL_isTurn_195 8 rfl 196 rfl ?_
                        refine z_bipush C dL_isTurn_196 (by decide) 198 rfl ?_
                        refine z_VR (r := .int (iI (cntR (waiV v) (actN (waiR v) n) 0 8))) (rest := []) C (m_count l G tb r x cu h pa o sg qn qb sn (actS (waiR v) n S) (actG (waiR v) n g v) (actN (waiR v) n) false (waiV v) 0 8 (w0.wai) (by omega)) kV_L_8 ⟨Nat.le_of_ble_eq_true rfl, Nat.le_of_ble_eq_true rfl⟩ (gP_rg hW.1 [0, 1, 2, 4, 5] rfl) hK 0 rfl rfl rfl hl.1 rfl (Nat.le_of_ble_eq_true rfl) dL_isTurn_198 ⟨Nat.le_of_ble_eq_true rfl, Nat.le_of_ble_eq_true rfl⟩ 201 rfl ?_
                        refine z_top (b := .int (iI (cntZ (waiV v) 2))) (congrArg (fun z => Value.int (iI z)) (rfl)) ?_
                        have rc198 := cntZ_rng (w0.wai) 2
                        refine z_il C hl dL_isTurn_201 4 rfl 203 rfl ?_
                        refine z_icmp_ne C dL_isTurn_203 210 206 (by decide) rfl (by omega) (fun c203 => ?_) (fun c203 => ?_)
                        · exfalso; exact c203 (by rw [hov.2])
                        · skip
                          refine z_iconst C dL_isTurn_206 207 rfl ?_
                          refine z_goto C dL_isTurn_207 211 (by decide) ?_
                          exact z_wz C hW dL_isTurn_211 (rfl) rfl
            · skip
              refine z_il C hl dL_isTurn_99 0 rfl 101 rfl ?_
              refine z_bipush C dL_isTurn_101 (by decide) 103 rfl ?_
              refine z_icmp_ge C dL_isTurn_103 136 106 (by decide) rfl (by omega) (fun c103 => ?_) (fun c103 => ?_)
              · exfalso; omega
              · skip
                have hwj := w0.b j (by omega)
                refine z_il C hl dL_isTurn_106 1 rfl 108 rfl ?_
                refine z_al_n C hl dL_isTurn_108 8 rfl 109 rfl ?_
                refine z_il C hl dL_isTurn_109 0 rfl 111 rfl ?_
                refine z_iconst C dL_isTurn_111 112 rfl ?_
                refine z_VR (r := .int (iI (boaR v j 2))) (rest := [.int (z)]) C (m_boatOf l G tb r x cu h pa o sg qn qb sn v j 2 w0 (by omega) (by omega)) kV_L_14 ⟨Nat.le_of_ble_eq_true rfl, Nat.le_of_ble_eq_true rfl⟩ (gP_rg hW.1 [0, 1, 2] rfl) hK 0 rfl rfl rfl hl.1 rfl (Nat.le_of_ble_eq_true rfl) dL_isTurn_112 ⟨Nat.le_of_ble_eq_true rfl, Nat.le_of_ble_eq_true rfl⟩ 115 rfl ?_
                refine z_top (b := .int (iI (v (74 + 5 * j)))) (congrArg (fun z => Value.int (iI z)) (boa_2 (v := v) (b := j) (by omega))) ?_
                refine z_iconst C dL_isTurn_115 116 rfl ?_
                refine z_icmp_ne C dL_isTurn_116 126 119 (by decide) rfl (by omega) (fun c116 => ?_) (fun c116 => ?_)
                · skip
                  refine z_iconst C dL_isTurn_126 127 rfl ?_
                  refine z_ior C dL_isTurn_127 128 rfl ?_
                  refine z_is C hl dL_isTurn_128 130 rfl (by decide) (lv' := [(10, .int (z ||| (iI (0)))), (11, .int (iI (j))), (9, .int (iI (0))), (8, .int (iI (v 128))), (7, .int (iI (cntZ v 2))), (6, .int ((danR v 0) ||| (danR v 1))), (5, .int (iI (v 126))), (4, .int (iI (1))), (0, .ref (tb)), (1, .int (iI (0))), (2, .int (iI (0))), (3, .int (iI (0)))]) rfl (fun ls hl => ?_)
                  refine z_iinc C hl dL_isTurn_130 133 rfl 1 rfl (z := 1 + j) (by omega) (by decide) (lv' := [(11, .int (iI (1 + j))), (10, .int (z ||| (iI (0)))), (9, .int (iI (0))), (8, .int (iI (v 128))), (7, .int (iI (cntZ v 2))), (6, .int ((danR v 0) ||| (danR v 1))), (5, .int (iI (v 126))), (4, .int (iI (1))), (0, .ref (tb)), (1, .int (iI (0))), (2, .int (iI (0))), (3, .int (iI (0)))]) rfl (fun ls hl => ?_)
                  refine z_goto C dL_isTurn_133 89 (by decide) ?_
                  exact ih89 (1 + j) (z ||| (iI (0))) (by omega) _ _ hW (by omega) ls (lv_sub hl [0, 1, 2, 3, 4, 5, 6, 7, 8, 9, 10, 11] rfl)
                · skip
                  refine z_iconst C dL_isTurn_119 120 rfl ?_
                  refine z_il C hl dL_isTurn_120 0 rfl 122 rfl ?_
                  refine z_ishl C dL_isTurn_122 123 rfl ?_
                  refine z_goto C dL_isTurn_123 127 (by decide) ?_
                  refine z_ior C dL_isTurn_127 128 rfl ?_
                  refine z_is C hl dL_isTurn_128 130 rfl (by decide) (lv' := [(10, .int (z ||| ((iI (1)) <<< ((iI (j)) &&& 31)))), (11, .int (iI (j))), (9, .int (iI (0))), (8, .int (iI (v 128))), (7, .int (iI (cntZ v 2))), (6, .int ((danR v 0) ||| (danR v 1))), (5, .int (iI (v 126))), (4, .int (iI (1))), (0, .ref (tb)), (1, .int (iI (0))), (2, .int (iI (0))), (3, .int (iI (0)))]) rfl (fun ls hl => ?_)
                  refine z_iinc C hl dL_isTurn_130 133 rfl 1 rfl (z := 1 + j) (by omega) (by decide) (lv' := [(11, .int (iI (1 + j))), (10, .int (z ||| ((iI (1)) <<< ((iI (j)) &&& 31)))), (9, .int (iI (0))), (8, .int (iI (v 128))), (7, .int (iI (cntZ v 2))), (6, .int ((danR v 0) ||| (danR v 1))), (5, .int (iI (v 126))), (4, .int (iI (1))), (0, .ref (tb)), (1, .int (iI (0))), (2, .int (iI (0))), (3, .int (iI (0)))]) rfl (fun ls hl => ?_)
                  refine z_goto C dL_isTurn_133 89 (by decide) ?_
                  exact ih89 (1 + j) (z ||| ((iI (1)) <<< ((iI (j)) &&& 31))) (by omega) _ _ hW (by omega) ls (lv_sub hl [0, 1, 2, 3, 4, 5, 6, 7, 8, 9, 10, 11] rfl)
        exact L89 (Int.toNat (v 127 - 0) + 1) 0 (iI (0)) (by omega) _ _ hW (by omega) ls (lv_sub hl [0, 1, 2, 3, 4, 5, 6, 7, 8, 9, 10, 11] rfl)

set_option maxHeartbeats 16000000 in
set_option maxRecDepth 100000 in
theorem m_lwMove (l : Launch) (G : gT) (tb r x cu h pa o sg : Nat) (qn qb sn : Nat → Nat) (S : Nat → Nat → Nat) (u v : Int → Int) (g : Nat → Int → Int) (n : Int) (b d st : Int) (i : Ia v) (hn9 : 0 ≤ n ∧ n ≤ 4) (hb : 0 ≤ b ∧ b < v 127) (hd : 0 ≤ d ∧ d < 4) (hst : 1 ≤ st ∧ st ≤ 3) (hD : gD ([[tbO tb qn qb r x h o], [(r, .inr (3, [.ref (qn 0)]))], stW G qn v, stW G qb u, hiW G h pa sn n S g false, [orO G o sg 0]] : List va_W).flatten) : MW l G yL_isTurn cL_isTurn 15 (some .boolean) 7 [.ref (tb), .int (iI (b)), .int (iI (d)), .int (iI (st))] [[tbO tb qn qb r x h o], [(r, .inr (3, [.ref (qn 0)]))], stW G qn v, stW G qb u, hiW G h pa sn n S g false, [orO G o sg 0]] [[tbO tb qn qb r x h o], [(r, .inr (3, [.ref (qn 0)]))], stW G qn (saiV v b d st), stW G qb v, hiW G h pa sn (actN (saiR v b d st) n) (actS (saiR v b d st) n S) (actG (saiR v b d st) n g v) false, [orO G o sg 0]] ZT (some (.int (iI (bZ (true))))) := by
  refine enterW (own := RL) (by decide +kernel) rfl (Nat.le_of_ble_eq_true rfl) hD ?_
  intro p e s m below meth c C hW hK hZ ls hl
  have hl : lv_has ls 15 [(0, .ref (tb)), (1, .int (iI (b))), (2, .int (iI (d))), (3, .int (iI (st)))] := hl
  have w0 := i.w
  have hn := w0.n
  have ht := w0.t
  have hs := w0.s
  have hp := perZ_rng w0
  have hz := i.h
  have he := err_is hb hd hst
  have hsb := i.s b (by omega)
  have hrr := i.r
  have hcz := cntZ_rng w0 2
  refine z_il_n C hl dL_isTurn_0 3 rfl 1 rfl ?_
  refine z_if_ne C dL_isTurn_1 22 4 (by decide) rfl (by omega) (fun c1 => ?_) (fun c1 => ?_)
  · skip
    refine z_al_n C hl dL_isTurn_22 0 rfl 23 rfl ?_
    refine z_il_n C hl dL_isTurn_23 1 rfl 24 rfl ?_
    refine z_il_n C hl dL_isTurn_24 2 rfl 25 rfl ?_
    refine z_il_n C hl dL_isTurn_25 3 rfl 26 rfl ?_
    refine z_VR (r := .int (iI (whyR v b d st))) (rest := []) C (m_why l G tb r x cu h pa o sg qn qb sn v b d st w0 (by omega) (by omega) (by omega)) kV_L_21 ⟨Nat.le_of_ble_eq_true rfl, Nat.le_of_ble_eq_true rfl⟩ (gP_rg hW.1 [0, 1, 2] rfl) hK 0 rfl rfl rfl hl.1 rfl (Nat.le_of_ble_eq_true rfl) dL_isTurn_26 ⟨Nat.le_of_ble_eq_true rfl, Nat.le_of_ble_eq_true rfl⟩ 29 rfl ?_
    refine z_top (b := .int (iI (reaZ v b d st false))) (congrArg (fun z => Value.int (iI z)) (why_is (v := v) (b := b) (d := d) (n := st) (by omega) (by omega) (by omega))) ?_
    have rz26 := reaZ_rng v b d st false
    refine z_is C hl dL_isTurn_29 31 rfl (by decide) (lv' := [(4, .int (iI (reaZ v b d st false))), (0, .ref (tb)), (1, .int (iI (b))), (2, .int (iI (d))), (3, .int (iI (st)))]) rfl (fun ls hl => ?_)
    refine z_al_n C hl dL_isTurn_31 1 rfl 32 rfl ?_
    refine z_iconst C dL_isTurn_32 33 rfl ?_
    refine z_VR (r := .int (iI (cntR v n 0 0))) (rest := []) C (m_count l G tb r x cu h pa o sg qn qb sn S g n false v 0 0 w0 (by omega)) kV_L_8 ⟨Nat.le_of_ble_eq_true rfl, Nat.le_of_ble_eq_true rfl⟩ (gP_rg hW.1 [0, 1, 2, 4, 5] rfl) hK 0 rfl rfl rfl hl.1 rfl (Nat.le_of_ble_eq_true rfl) dL_isTurn_33 ⟨Nat.le_of_ble_eq_true rfl, Nat.le_of_ble_eq_true rfl⟩ 36 rfl ?_
    refine z_top (b := .int (iI (v 126))) (congrArg (fun z => Value.int (iI z)) (rfl)) ?_
    refine z_is C hl dL_isTurn_36 38 rfl (by decide) (lv' := [(5, .int (iI (v 126))), (4, .int (iI (reaZ v b d st false))), (0, .ref (tb)), (1, .int (iI (b))), (2, .int (iI (d))), (3, .int (iI (st)))]) rfl (fun ls hl => ?_)
    refine z_al_n C hl dL_isTurn_38 2 rfl 39 rfl ?_
    refine z_iconst C dL_isTurn_39 40 rfl ?_
    refine z_VR (r := .int (danR v 0)) (rest := []) C (m_inDanger l G tb r x cu h pa o sg qn qb sn v 0 w0 (by omega)) kV_L_38 ⟨Nat.le_of_ble_eq_true rfl, Nat.le_of_ble_eq_true rfl⟩ (gP_rg hW.1 [0, 2] rfl) hK 0 rfl rfl rfl hl.1 rfl (Nat.le_of_ble_eq_true rfl) dL_isTurn_40 ⟨Nat.le_of_ble_eq_true rfl, Nat.le_of_ble_eq_true rfl⟩ 43 rfl ?_
    refine z_al_n C hl dL_isTurn_43 2 rfl 44 rfl ?_
    refine z_iconst C dL_isTurn_44 45 rfl ?_
    refine z_VR (r := .int (danR v 1)) (rest := [.int (danR v 0)]) C (m_inDanger l G tb r x cu h pa o sg qn qb sn v 1 w0 (by omega)) kV_L_38 ⟨Nat.le_of_ble_eq_true rfl, Nat.le_of_ble_eq_true rfl⟩ (gP_rg hW.1 [0, 2] rfl) hK 0 rfl rfl rfl hl.1 rfl (Nat.le_of_ble_eq_true rfl) dL_isTurn_45 ⟨Nat.le_of_ble_eq_true rfl, Nat.le_of_ble_eq_true rfl⟩ 48 rfl ?_
    refine z_ior C dL_isTurn_48 49 rfl ?_
    refine z_is C hl dL_isTurn_49 51 rfl (by decide) (lv' := [(6, .int ((danR v 0) ||| (danR v 1))), (5, .int (iI (v 126))), (4, .int (iI (reaZ v b d st false))), (0, .ref (tb)), (1, .int (iI (b))), (2, .int (iI (d))), (3, .int (iI (st)))]) rfl (fun ls hl => ?_)
    refine z_al_n C hl dL_isTurn_51 3 rfl 52 rfl ?_
    refine z_bipush C dL_isTurn_52 (by decide) 54 rfl ?_
    refine z_VR (r := .int (iI (cntR v n 0 8))) (rest := []) C (m_count l G tb r x cu h pa o sg qn qb sn S g n false v 0 8 w0 (by omega)) kV_L_8 ⟨Nat.le_of_ble_eq_true rfl, Nat.le_of_ble_eq_true rfl⟩ (gP_rg hW.1 [0, 1, 2, 4, 5] rfl) hK 0 rfl rfl rfl hl.1 rfl (Nat.le_of_ble_eq_true rfl) dL_isTurn_54 ⟨Nat.le_of_ble_eq_true rfl, Nat.le_of_ble_eq_true rfl⟩ 57 rfl ?_
    refine z_top (b := .int (iI (cntZ v 2))) (congrArg (fun z => Value.int (iI z)) (rfl)) ?_
    have rc54 := cntZ_rng w0 2
    refine z_is C hl dL_isTurn_57 59 rfl (by decide) (lv' := [(7, .int (iI (cntZ v 2))), (6, .int ((danR v 0) ||| (danR v 1))), (5, .int (iI (v 126))), (4, .int (iI (reaZ v b d st false))), (0, .ref (tb)), (1, .int (iI (b))), (2, .int (iI (d))), (3, .int (iI (st)))]) rfl (fun ls hl => ?_)
    refine z_al_n C hl dL_isTurn_59 4 rfl 60 rfl ?_
    refine z_bipush C dL_isTurn_60 (by decide) 62 rfl ?_
    refine z_VR (r := .int (iI (cntR v n 0 10))) (rest := []) C (m_count l G tb r x cu h pa o sg qn qb sn S g n false v 0 10 w0 (by omega)) kV_L_8 ⟨Nat.le_of_ble_eq_true rfl, Nat.le_of_ble_eq_true rfl⟩ (gP_rg hW.1 [0, 1, 2, 4, 5] rfl) hK 0 rfl rfl rfl hl.1 rfl (Nat.le_of_ble_eq_true rfl) dL_isTurn_62 ⟨Nat.le_of_ble_eq_true rfl, Nat.le_of_ble_eq_true rfl⟩ 65 rfl ?_
    refine z_top (b := .int (iI (v 128))) (congrArg (fun z => Value.int (iI z)) (rfl)) ?_
    refine z_is C hl dL_isTurn_65 67 rfl (by decide) (lv' := [(8, .int (iI (v 128))), (7, .int (iI (cntZ v 2))), (6, .int ((danR v 0) ||| (danR v 1))), (5, .int (iI (v 126))), (4, .int (iI (reaZ v b d st false))), (0, .ref (tb)), (1, .int (iI (b))), (2, .int (iI (d))), (3, .int (iI (st)))]) rfl (fun ls hl => ?_)
    refine z_il_n C hl dL_isTurn_67 8 rfl 68 rfl ?_
    refine z_if_ne C dL_isTurn_68 75 71 (by decide) rfl (by omega) (fun c68 => ?_) (fun c68 => ?_)
    · skip
      refine z_al_n C hl dL_isTurn_75 5 rfl 76 rfl ?_
      refine z_il_n C hl dL_isTurn_76 6 rfl 77 rfl ?_
      refine z_iconst C dL_isTurn_77 78 rfl ?_
      refine z_VR (r := .int (iI (boaR v b 5))) (rest := []) C (m_boatOf l G tb r x cu h pa o sg qn qb sn v b 5 w0 (by omega) (by omega)) kV_L_14 ⟨Nat.le_of_ble_eq_true rfl, Nat.le_of_ble_eq_true rfl⟩ (gP_rg hW.1 [0, 1, 2] rfl) hK 0 rfl rfl rfl hl.1 rfl (Nat.le_of_ble_eq_true rfl) dL_isTurn_78 ⟨Nat.le_of_ble_eq_true rfl, Nat.le_of_ble_eq_true rfl⟩ 81 rfl ?_
      refine z_top (b := .int (iI (v (76 + 5 * b)))) (congrArg (fun z => Value.int (iI z)) (boa_5 (v := v) (b := b) (by omega))) ?_
      refine z_is C hl dL_isTurn_81 83 rfl (by decide) (lv' := [(9, .int (iI (v (76 + 5 * b)))), (8, .int (iI (v 128))), (7, .int (iI (cntZ v 2))), (6, .int ((danR v 0) ||| (danR v 1))), (5, .int (iI (v 126))), (4, .int (iI (reaZ v b d st false))), (0, .ref (tb)), (1, .int (iI (b))), (2, .int (iI (d))), (3, .int (iI (st)))]) rfl (fun ls hl => ?_)
      refine z_iconst C dL_isTurn_83 84 rfl ?_
      refine z_is C hl dL_isTurn_84 86 rfl (by decide) (lv' := [(10, .int (iI (0))), (9, .int (iI (v (76 + 5 * b)))), (8, .int (iI (v 128))), (7, .int (iI (cntZ v 2))), (6, .int ((danR v 0) ||| (danR v 1))), (5, .int (iI (v 126))), (4, .int (iI (reaZ v b d st false))), (0, .ref (tb)), (1, .int (iI (b))), (2, .int (iI (d))), (3, .int (iI (st)))]) rfl (fun ls hl => ?_)
      refine z_iconst C dL_isTurn_86 87 rfl ?_
      refine z_is C hl dL_isTurn_87 89 rfl (by decide) (lv' := [(11, .int (iI (0))), (10, .int (iI (0))), (9, .int (iI (v (76 + 5 * b)))), (8, .int (iI (v 128))), (7, .int (iI (cntZ v 2))), (6, .int ((danR v 0) ||| (danR v 1))), (5, .int (iI (v 126))), (4, .int (iI (reaZ v b d st false))), (0, .ref (tb)), (1, .int (iI (b))), (2, .int (iI (d))), (3, .int (iI (st)))]) rfl (fun ls hl => ?_)
      have L89 : ∀ (fu : Nat) (j : Int) (z : Int32) (h1 : 0 ≤ j ∧ j ≤ v 127) (H : Heap) (locs : List Loc) (hW : Wd G (adr ([[tbO tb qn qb r x h o], [(r, .inr (3, [.ref (qn 0)]))], stW G qn v, stW G qb u, hiW G h pa sn n S g false, [orO G o sg 0]] : List va_W).flatten) [[tbO tb qn qb r x h o], [(r, .inr (3, [.ref (qn 0)]))], stW G qn v, stW G qb u, hiW G h pa sn n S g false, [orO G o sg 0]] s.heap H locs) (hm : v 127 - j < (fu : Int)) (ls : Array Slot) (hl : lv_has ls 15 [(11, .int (iI (j))), (10, .int (z)), (9, .int (iI (v (76 + 5 * b)))), (8, .int (iI (v 128))), (7, .int (iI (cntZ v 2))), (6, .int ((danR v 0) ||| (danR v 1))), (5, .int (iI (v 126))), (4, .int (iI (reaZ v b d st false))), (0, .ref (tb)), (1, .int (iI (b))), (2, .int (iI (d))), (3, .int (iI (st)))]), W p l e (rmN 7) s m [.ref (tb), .int (iI (b)), .int (iI (d)), .int (iI (st))].toArray below meth c H locs 0 0 (MQ below (QW G [[tbO tb qn qb r x h o], [(r, .inr (3, [.ref (qn 0)]))], stW G qn v, stW G qb u, hiW G h pa sn n S g false, [orO G o sg 0]] [[tbO tb qn qb r x h o], [(r, .inr (3, [.ref (qn 0)]))], stW G qn (saiV v b d st), stW G qb v, hiW G h pa sn (actN (saiR v b d st) n) (actS (saiR v b d st) n S) (actG (saiR v b d st) n g v) false, [orO G o sg 0]] (some (.int (iI (bZ (true)))))) [.ref (tb), .int (iI (b)), .int (iI (d)), .int (iI (st))].toArray s 0 0 (adr ([[tbO tb qn qb r x h o], [(r, .inr (3, [.ref (qn 0)]))], stW G qn v, stW G qb u, hiW G h pa sn n S g false, [orO G o sg 0]] : List va_W).flatten)) (F0 m 89 ls []) := by
        intro fu
        induction fu with
        | zero => intro j z h1 H locs hW hm ls hl; exfalso; omega
        | succ fu ih =>
          intro j z h1 H locs hW hm ls hl
          have ih89 := ih
          refine z_il C hl dL_isTurn_89 0 rfl 91 rfl ?_
          refine z_al_n C hl dL_isTurn_91 8 rfl 92 rfl ?_
          refine z_iconst C dL_isTurn_92 93 rfl ?_
          refine z_VR (r := .int (iI (cntR v n 0 5))) (rest := [.int (iI (j))]) C (m_count l G tb r x cu h pa o sg qn qb sn S g n false v 0 5 w0 (by omega)) kV_L_8 ⟨Nat.le_of_ble_eq_true rfl, Nat.le_of_ble_eq_true rfl⟩ (gP_rg hW.1 [0, 1, 2, 4, 5] rfl) hK 0 rfl rfl rfl hl.1 rfl (Nat.le_of_ble_eq_true rfl) dL_isTurn_93 ⟨Nat.le_of_ble_eq_true rfl, Nat.le_of_ble_eq_true rfl⟩ 96 rfl ?_
          refine z_top (b := .int (iI (v 127))) (congrArg (fun z => Value.int (iI z)) (rfl)) ?_
          refine z_icmp_ge C dL_isTurn_96 136 99 (by decide) rfl (by omega) (fun c96 => ?_) (fun c96 => ?_)
          · skip
            refine z_il_n C hl dL_isTurn_136 11 rfl 137 rfl ?_
            refine z_if_ne C dL_isTurn_137 147 140 (by decide) rfl (by omega) (fun c137 => ?_) (fun c137 => ?_)
            · skip
              refine z_al_n C hl dL_isTurn_147 8 rfl 148 rfl ?_
              refine z_il_n C hl dL_isTurn_148 9 rfl 149 rfl ?_
              refine z_il_n C hl dL_isTurn_149 10 rfl 150 rfl ?_
              refine z_il_n C hl dL_isTurn_150 11 rfl 151 rfl ?_
              refine z_VWi (r := .int (iI (saiR v b d st))) (rest := []) C (m_move l G tb r x cu h pa o sg qn qb sn S g n false u v b d st (by omega) w0 (by omega) (by omega) (by omega) (gD_rg hW.2.1 [0, 1, 2, 3, 4] (by decide) rfl)) kV_L_45 ⟨Nat.le_of_ble_eq_true rfl, Nat.le_of_ble_eq_true rfl⟩ hW hK [0, 1, 2, 3, 4] rfl ((sameA_eq rfl (sameA_eq rfl (sameA_eq rfl (sameA_eq rfl (sameA_cons (hi_permA _ _) sameA_nil)))))) 0 rfl rfl rfl hl.1 rfl (Nat.le_of_ble_eq_true rfl) dL_isTurn_151 ⟨Nat.le_of_ble_eq_true rfl, Nat.le_of_ble_eq_true rfl⟩ 154 rfl (rs' := [[tbO tb qn qb r x h o], [(r, .inr (3, [.ref (qn 0)]))], stW G qn (saiV v b d st), stW G qb v, hiW G h pa sn (actN (saiR v b d st) n) (actS (saiR v b d st) n S) (actG (saiR v b d st) n g v) false, [orO G o sg 0]]) rfl (fun H locs hW hkeep => ?_)
              have rsr := saiR_rng w0 b d st
              have w2 := w0.sai b d st
              have tt2 := w2.t
              refine z_is C hl dL_isTurn_154 156 rfl (by decide) (lv' := [(11, .int (iI (saiR v b d st))), (10, .int (z)), (9, .int (iI (v (76 + 5 * b)))), (8, .int (iI (v 128))), (7, .int (iI (cntZ v 2))), (6, .int ((danR v 0) ||| (danR v 1))), (5, .int (iI (v 126))), (4, .int (iI (reaZ v b d st false))), (0, .ref (tb)), (1, .int (iI (b))), (2, .int (iI (d))), (3, .int (iI (st)))]) rfl (fun ls hl => ?_)
              refine z_il C hl dL_isTurn_156 7 rfl 158 rfl ?_
              refine z_if_le C dL_isTurn_158 212 161 (by decide) rfl (by omega) (fun c158 => ?_) (fun c158 => ?_)
              · skip
                have hr0 : reaZ v b d st false = 0 := by omega
                have hst := sai_stp w0 he hr0
                have hrm := sai_ram w0 he hr0
                have hcn := sai_cnt i he hr0
                have i2 := i.sai b d st
                have hs2 := i2.s b (by omega)
                have hr2 := i2.r
                have hc2 := cntZ_rng i2.w 2
                have hs1 := i.s b (by omega)
                refine z_al_n C hl dL_isTurn_212 8 rfl 213 rfl ?_
                refine z_iconst C dL_isTurn_213 214 rfl ?_
                refine z_VR (r := .int (iI (cntR (saiV v b d st) (actN (saiR v b d st) n) 0 0))) (rest := []) C (m_count l G tb r x cu h pa o sg qn qb sn (actS (saiR v b d st) n S) (actG (saiR v b d st) n g v) (actN (saiR v b d st) n) false (saiV v b d st) 0 0 (w0.sai b d st) (by omega)) kV_L_8 ⟨Nat.le_of_ble_eq_true rfl, Nat.le_of_ble_eq_true rfl⟩ (gP_rg hW.1 [0, 1, 2, 4, 5] rfl) hK 0 rfl rfl rfl hl.1 rfl (Nat.le_of_ble_eq_true rfl) dL_isTurn_214 ⟨Nat.le_of_ble_eq_true rfl, Nat.le_of_ble_eq_true rfl⟩ 217 rfl ?_
                refine z_top (b := .int (iI (((saiV v b d st) 126)))) (congrArg (fun z => Value.int (iI z)) (rfl)) ?_
                refine z_il C hl dL_isTurn_217 6 rfl 219 rfl ?_
                refine z_iconst C dL_isTurn_219 220 rfl ?_
                refine z_iadd C dL_isTurn_220 221 rfl (1 + v 126) (by omega) ?_
                refine z_icmp_ne C dL_isTurn_221 264 224 (by decide) rfl (by omega) (fun c221 => ?_) (fun c221 => ?_)
                · exfalso; omega
                · skip
                  refine z_al_n C hl dL_isTurn_224 8 rfl 225 rfl ?_
                  refine z_bipush C dL_isTurn_225 (by decide) 227 rfl ?_
                  refine z_VR (r := .int (iI (cntR (saiV v b d st) (actN (saiR v b d st) n) 0 10))) (rest := []) C (m_count l G tb r x cu h pa o sg qn qb sn (actS (saiR v b d st) n S) (actG (saiR v b d st) n g v) (actN (saiR v b d st) n) false (saiV v b d st) 0 10 (w0.sai b d st) (by omega)) kV_L_8 ⟨Nat.le_of_ble_eq_true rfl, Nat.le_of_ble_eq_true rfl⟩ (gP_rg hW.1 [0, 1, 2, 4, 5] rfl) hK 0 rfl rfl rfl hl.1 rfl (Nat.le_of_ble_eq_true rfl) dL_isTurn_227 ⟨Nat.le_of_ble_eq_true rfl, Nat.le_of_ble_eq_true rfl⟩ 230 rfl ?_
                  refine z_top (b := .int (iI (((saiV v b d st) 128)))) (congrArg (fun z => Value.int (iI z)) (rfl)) ?_
                  refine z_il C hl dL_isTurn_230 3 rfl 232 rfl ?_
                  refine z_il_n C hl dL_isTurn_232 11 rfl 233 rfl ?_
                  refine z_if_le C dL_isTurn_233 245 236 (by decide) rfl (by omega) (fun c233 => ?_) (fun c233 => ?_)
                  · exfalso; omega
                  · skip
                    refine z_il C hl dL_isTurn_236 0 rfl 238 rfl ?_
                    refine z_mif_le C dL_isTurn_238 dL_isTurn_241 dL_isTurn_242 dL_isTurn_245 (by omega) rfl rfl rfl 246 rfl ?_
                    refine z_iadd C dL_isTurn_246 247 rfl (bZ (decide (0 < saiR v b d st)) + v 128) (by omega) ?_
                    refine z_icmp_ne C dL_isTurn_247 264 250 (by decide) rfl (by have := bZ_rng (decide (0 < saiR v b d st)); omega) (fun c247 => ?_) (fun c247 => ?_)
                    · exfalso; rw [bZ_if] at c247; omega
                    · skip
                      refine z_il_n C hl dL_isTurn_250 11 rfl 251 rfl ?_
                      refine z_if_ne C dL_isTurn_251 266 254 (by decide) rfl (by omega) (fun c251 => ?_) (fun c251 => ?_)
                      · skip
                        refine z_iconst C dL_isTurn_266 267 rfl ?_
                        refine z_top (b := .int (iI (cntK (saiV v b d st) 2 0))) rfl ?_
                        refine z_is C hl dL_isTurn_267 269 rfl (by decide) (lv' := [(12, .int (iI (cntK (saiV v b d st) 2 0))), (11, .int (iI (saiR v b d st))), (10, .int (z)), (9, .int (iI (v (76 + 5 * b)))), (8, .int (iI (v 128))), (7, .int (iI (cntZ v 2))), (6, .int ((danR v 0) ||| (danR v 1))), (5, .int (iI (v 126))), (4, .int (iI (reaZ v b d st false))), (0, .ref (tb)), (1, .int (iI (b))), (2, .int (iI (d))), (3, .int (iI (st)))]) rfl (fun ls hl => ?_)
                        refine z_iconst C dL_isTurn_269 270 rfl ?_
                        refine z_is C hl dL_isTurn_270 272 rfl (by decide) (lv' := [(13, .int (iI (0))), (12, .int (iI (cntK (saiV v b d st) 2 0))), (11, .int (iI (saiR v b d st))), (10, .int (z)), (9, .int (iI (v (76 + 5 * b)))), (8, .int (iI (v 128))), (7, .int (iI (cntZ v 2))), (6, .int ((danR v 0) ||| (danR v 1))), (5, .int (iI (v 126))), (4, .int (iI (reaZ v b d st false))), (0, .ref (tb)), (1, .int (iI (b))), (2, .int (iI (d))), (3, .int (iI (st)))]) rfl (fun ls hl => ?_)
                        have L272 : ∀ (fu : Nat) (j : Int) (q1 : 0 ≤ j ∧ j ≤ (saiV v b d st) 127) (H : Heap) (locs : List Loc) (hW : Wd G (adr ([[tbO tb qn qb r x h o], [(r, .inr (3, [.ref (qn 0)]))], stW G qn v, stW G qb u, hiW G h pa sn n S g false, [orO G o sg 0]] : List va_W).flatten) [[tbO tb qn qb r x h o], [(r, .inr (3, [.ref (qn 0)]))], stW G qn (saiV v b d st), stW G qb v, hiW G h pa sn (actN (saiR v b d st) n) (actS (saiR v b d st) n S) (actG (saiR v b d st) n g v) false, [orO G o sg 0]] s.heap H locs) (hm : (saiV v b d st) 127 - j < (fu : Int)) (ls : Array Slot) (hl : lv_has ls 15 [(13, .int (iI (j))), (12, .int (iI (cntK (saiV v b d st) 2 j))), (11, .int (iI (saiR v b d st))), (9, .int (iI (v (76 + 5 * b)))), (8, .int (iI (v 128))), (7, .int (iI (cntZ v 2))), (6, .int ((danR v 0) ||| (danR v 1))), (5, .int (iI (v 126))), (4, .int (iI (reaZ v b d st false))), (0, .ref (tb)), (1, .int (iI (b))), (2, .int (iI (d))), (3, .int (iI (st)))]), W p l e (rmN 7) s m [.ref (tb), .int (iI (b)), .int (iI (d)), .int (iI (st))].toArray below meth c H locs 0 0 (MQ below (QW G [[tbO tb qn qb r x h o], [(r, .inr (3, [.ref (qn 0)]))], stW G qn v, stW G qb u, hiW G h pa sn n S g false, [orO G o sg 0]] [[tbO tb qn qb r x h o], [(r, .inr (3, [.ref (qn 0)]))], stW G qn (saiV v b d st), stW G qb v, hiW G h pa sn (actN (saiR v b d st) n) (actS (saiR v b d st) n S) (actG (saiR v b d st) n g v) false, [orO G o sg 0]] (some (.int (iI (bZ (true)))))) [.ref (tb), .int (iI (b)), .int (iI (d)), .int (iI (st))].toArray s 0 0 (adr ([[tbO tb qn qb r x h o], [(r, .inr (3, [.ref (qn 0)]))], stW G qn v, stW G qb u, hiW G h pa sn n S g false, [orO G o sg 0]] : List va_W).flatten)) (F0 m 272 ls []) := by
                          intro fu
                          induction fu with
                          | zero => intro j q1 H locs hW hm ls hl; exfalso; omega
                          | succ fu ih =>
                            intro j q1 H locs hW hm ls hl
                            have rj := cntK_rng (saiV v b d st) 2 (k := j) (by omega)
                            have ih272 := ih
                            refine z_il C hl dL_isTurn_272 0 rfl 274 rfl ?_
                            refine z_al_n C hl dL_isTurn_274 9 rfl 275 rfl ?_
                            refine z_iconst C dL_isTurn_275 276 rfl ?_
                            refine z_VR (r := .int (iI (cntR (saiV v b d st) (actN (saiR v b d st) n) 0 5))) (rest := [.int (iI (j))]) C (m_count l G tb r x cu h pa o sg qn qb sn (actS (saiR v b d st) n S) (actG (saiR v b d st) n g v) (actN (saiR v b d st) n) false (saiV v b d st) 0 5 (w0.sai b d st) (by omega)) kV_L_8 ⟨Nat.le_of_ble_eq_true rfl, Nat.le_of_ble_eq_true rfl⟩ (gP_rg hW.1 [0, 1, 2, 4, 5] rfl) hK 0 rfl rfl rfl hl.1 rfl (Nat.le_of_ble_eq_true rfl) dL_isTurn_276 ⟨Nat.le_of_ble_eq_true rfl, Nat.le_of_ble_eq_true rfl⟩ 279 rfl ?_
                            refine z_top (b := .int (iI (((saiV v b d st) 127)))) (congrArg (fun z => Value.int (iI z)) (rfl)) ?_
                            refine z_icmp_ge C dL_isTurn_279 356 282 (by decide) rfl (by omega) (fun c279 => ?_) (fun c279 => ?_)
                            · skip
                              have e9 : cntK (saiV v b d st) 2 j = cntZ (saiV v b d st) 2 := by rw [show j = (saiV v b d st) 127 by omega]; rfl
                              refine z_il C hl dL_isTurn_356 1 rfl 358 rfl ?_
                              refine z_al_n C hl dL_isTurn_358 9 rfl 359 rfl ?_
                              refine z_bipush C dL_isTurn_359 (by decide) 361 rfl ?_
                              refine z_VR (r := .int (iI (cntR (saiV v b d st) (actN (saiR v b d st) n) 0 8))) (rest := [.int (iI (cntK (saiV v b d st) 2 j))]) C (m_count l G tb r x cu h pa o sg qn qb sn (actS (saiR v b d st) n S) (actG (saiR v b d st) n g v) (actN (saiR v b d st) n) false (saiV v b d st) 0 8 (w0.sai b d st) (by omega)) kV_L_8 ⟨Nat.le_of_ble_eq_true rfl, Nat.le_of_ble_eq_true rfl⟩ (gP_rg hW.1 [0, 1, 2, 4, 5] rfl) hK 0 rfl rfl rfl hl.1 rfl (Nat.le_of_ble_eq_true rfl) dL_isTurn_361 ⟨Nat.le_of_ble_eq_true rfl, Nat.le_of_ble_eq_true rfl⟩ 364 rfl ?_
                              refine z_top (b := .int (iI (cntZ (saiV v b d st) 2))) (congrArg (fun z => Value.int (iI z)) (rfl)) ?_
                              have rc361 := cntZ_rng (w0.sai b d st) 2
                              refine z_icmp_ne C dL_isTurn_364 427 367 (by decide) rfl (by omega) (fun c364 => ?_) (fun c364 => ?_)
                              · exfalso; omega
                              · skip
                                refine z_il C hl dL_isTurn_367 1 rfl 369 rfl ?_
                                refine z_il C hl dL_isTurn_369 5 rfl 371 rfl ?_
                                refine z_il_n C hl dL_isTurn_371 12 rfl 372 rfl ?_
                                refine z_if_le C dL_isTurn_372 384 375 (by decide) rfl (by omega) (fun c372 => ?_) (fun c372 => ?_)
                                · exfalso; omega
                                · skip
                                  refine z_il C hl dL_isTurn_375 2 rfl 377 rfl ?_
                                  refine z_mif_le C dL_isTurn_377 dL_isTurn_380 dL_isTurn_381 dL_isTurn_384 (by omega) rfl rfl rfl 385 rfl ?_
                                  refine z_iadd C dL_isTurn_385 386 rfl (bZ (decide (0 < saiR v b d st)) + cntZ v 2) (by omega) ?_
                                  refine z_icmp_lt C dL_isTurn_386 427 389 (by decide) rfl (by have := bZ_rng (decide (0 < saiR v b d st)); omega) (fun c386 => ?_) (fun c386 => ?_)
                                  · exfalso; rw [bZ_if] at c386; omega
                                  · skip
                                    refine z_il_n C hl dL_isTurn_389 12 rfl 390 rfl ?_
                                    refine z_if_eq C dL_isTurn_390 406 393 (by decide) rfl (by omega) (fun c390 => ?_) (fun c390 => ?_)
                                    · exfalso; omega
                                    · skip
                                      refine z_al_n C hl dL_isTurn_393 9 rfl 394 rfl ?_
                                      refine z_il_n C hl dL_isTurn_394 10 rfl 395 rfl ?_
                                      refine z_iconst C dL_isTurn_395 396 rfl ?_
                                      refine z_VR (r := .int (iI (boaR (saiV v b d st) b 5))) (rest := []) C (m_boatOf l G tb r x cu h pa o sg qn qb sn (saiV v b d st) b 5 (w0.sai b d st) (by omega) (by omega)) kV_L_14 ⟨Nat.le_of_ble_eq_true rfl, Nat.le_of_ble_eq_true rfl⟩ (gP_rg hW.1 [0, 1, 2] rfl) hK 0 rfl rfl rfl hl.1 rfl (Nat.le_of_ble_eq_true rfl) dL_isTurn_396 ⟨Nat.le_of_ble_eq_true rfl, Nat.le_of_ble_eq_true rfl⟩ 399 rfl ?_
                                      refine z_top (b := .int (iI (((saiV v b d st) (76 + 5 * b))))) (congrArg (fun z => Value.int (iI z)) (boa_5 (v := (saiV v b d st)) (b := b) (by omega))) ?_
                                      refine z_il C hl dL_isTurn_399 3 rfl 401 rfl ?_
                                      refine z_il_n C hl dL_isTurn_401 12 rfl 402 rfl ?_
                                      refine z_iadd C dL_isTurn_402 403 rfl (st + v (76 + 5 * b)) (by omega) ?_
                                      refine z_icmp_ne C dL_isTurn_403 427 406 (by decide) rfl (by omega) (fun c403 => ?_) (fun c403 => ?_)
                                      · exfalso; omega
                                      · skip
                                        refine z_il_n C hl dL_isTurn_406 12 rfl 407 rfl ?_
                                        refine z_if_gt C dL_isTurn_407 423 410 (by decide) rfl (by omega) (fun c407 => ?_) (fun c407 => ?_)
                                        · skip
                                          refine z_iconst C dL_isTurn_423 424 rfl ?_
                                          refine z_goto C dL_isTurn_424 428 (by decide) ?_
                                          exact z_wz C hW dL_isTurn_428 (rfl) rfl
                                        · exfalso; omega
                            · skip
                              refine z_il C hl dL_isTurn_282 0 rfl 284 rfl ?_
                              refine z_bipush C dL_isTurn_284 (by decide) 286 rfl ?_
                              refine z_icmp_ge C dL_isTurn_286 356 289 (by decide) rfl (by omega) (fun c286 => ?_) (fun c286 => ?_)
                              · exfalso; omega
                              · skip
                                have hwj := w2.b j (by omega)
                                refine z_al_n C hl dL_isTurn_289 9 rfl 290 rfl ?_
                                refine z_il C hl dL_isTurn_290 0 rfl 292 rfl ?_
                                refine z_iconst C dL_isTurn_292 293 rfl ?_
                                refine z_VR (r := .int (iI (boaR (saiV v b d st) j 2))) (rest := []) C (m_boatOf l G tb r x cu h pa o sg qn qb sn (saiV v b d st) j 2 (w0.sai b d st) (by omega) (by omega)) kV_L_14 ⟨Nat.le_of_ble_eq_true rfl, Nat.le_of_ble_eq_true rfl⟩ (gP_rg hW.1 [0, 1, 2] rfl) hK 0 rfl rfl rfl hl.1 rfl (Nat.le_of_ble_eq_true rfl) dL_isTurn_293 ⟨Nat.le_of_ble_eq_true rfl, Nat.le_of_ble_eq_true rfl⟩ 296 rfl ?_
                                refine z_top (b := .int (iI (((saiV v b d st) (74 + 5 * j))))) (congrArg (fun z => Value.int (iI z)) (boa_2 (v := (saiV v b d st)) (b := j) (by omega))) ?_
                                refine z_iconst C dL_isTurn_296 297 rfl ?_
                                refine z_micmp_ne C dL_isTurn_297 dL_isTurn_300 dL_isTurn_301 dL_isTurn_304 (by omega) rfl rfl rfl 305 rfl ?_
                                refine z_is C hl dL_isTurn_305 307 rfl (by decide) (lv' := [(14, .int (iI (bZ (decide (((saiV v b d st) (74 + 5 * j)) = 2))))), (13, .int (iI (j))), (12, .int (iI (cntK (saiV v b d st) 2 j))), (11, .int (iI (saiR v b d st))), (9, .int (iI (v (76 + 5 * b)))), (8, .int (iI (v 128))), (7, .int (iI (cntZ v 2))), (6, .int ((danR v 0) ||| (danR v 1))), (5, .int (iI (v 126))), (4, .int (iI (reaZ v b d st false))), (0, .ref (tb)), (1, .int (iI (b))), (2, .int (iI (d))), (3, .int (iI (st)))]) rfl (fun ls hl => ?_)
                                refine z_il C hl dL_isTurn_307 2 rfl 309 rfl ?_
                                refine z_il C hl dL_isTurn_309 0 rfl 311 rfl ?_
                                refine z_mb_eq C dL_isTurn_311 dL_isTurn_314 dL_isTurn_315 dL_isTurn_318 rfl rfl rfl 319 rfl ?_
                                refine z_iadd C dL_isTurn_319 320 rfl (bZ (decide (((saiV v b d st) (74 + 5 * j)) = 2)) + cntK (saiV v b d st) 2 j) (by omega) ?_
                                refine z_top (b := .int (iI (cntK (saiV v b d st) 2 (1 + j)))) (congrArg (fun z => Value.int (iI z)) (by have hq := cntK_s (v := (saiV v b d st)) (x := 2) (k := j) (by omega); omega)) ?_
                                refine z_is C hl dL_isTurn_320 322 rfl (by decide) (lv' := [(12, .int (iI (cntK (saiV v b d st) 2 (1 + j)))), (14, .int (iI (bZ (decide (((saiV v b d st) (74 + 5 * j)) = 2))))), (13, .int (iI (j))), (11, .int (iI (saiR v b d st))), (9, .int (iI (v (76 + 5 * b)))), (8, .int (iI (v 128))), (7, .int (iI (cntZ v 2))), (6, .int ((danR v 0) ||| (danR v 1))), (5, .int (iI (v 126))), (4, .int (iI (reaZ v b d st false))), (0, .ref (tb)), (1, .int (iI (b))), (2, .int (iI (d))), (3, .int (iI (st)))]) rfl (fun ls hl => ?_)
                                refine z_il C hl dL_isTurn_322 7 rfl 324 rfl ?_
                                refine z_il C hl dL_isTurn_324 2 rfl 326 rfl ?_
                                refine z_ishr C dL_isTurn_326 327 rfl ?_
                                refine z_iconst C dL_isTurn_327 328 rfl ?_
                                refine z_iand C dL_isTurn_328 329 rfl ?_
                                refine z_top (b := .int (iI (bZ (btI (danR v 0 ||| danR v 1) j)))) (congrArg Value.int (bit_at (danR v 0 ||| danR v 1) (by omega))) ?_
                                refine z_iconst C dL_isTurn_329 330 rfl ?_
                                refine z_icmp_ne C dL_isTurn_330 350 333 (by decide) rfl (by have := bZ_rng (btI (danR v 0 ||| danR v 1) j); omega) (fun c330 => ?_) (fun c330 => ?_)
                                · skip
                                  refine z_iinc C hl dL_isTurn_350 353 rfl 2 rfl (z := 1 + j) (by omega) (by decide) (lv' := [(13, .int (iI (1 + j))), (12, .int (iI (cntK (saiV v b d st) 2 (1 + j)))), (14, .int (iI (bZ (decide (((saiV v b d st) (74 + 5 * j)) = 2))))), (11, .int (iI (saiR v b d st))), (9, .int (iI (v (76 + 5 * b)))), (8, .int (iI (v 128))), (7, .int (iI (cntZ v 2))), (6, .int ((danR v 0) ||| (danR v 1))), (5, .int (iI (v 126))), (4, .int (iI (reaZ v b d st false))), (0, .ref (tb)), (1, .int (iI (b))), (2, .int (iI (d))), (3, .int (iI (st)))]) rfl (fun ls hl => ?_)
                                  refine z_goto C dL_isTurn_353 272 (by decide) ?_
                                  exact ih272 (1 + j) (by omega) _ _ hW (by omega) ls (lv_sub hl [0, 1, 3, 4, 5, 6, 7, 8, 9, 10, 11, 12, 13] rfl)
                                · skip
                                  refine z_il C hl dL_isTurn_333 1 rfl 335 rfl ?_
                                  refine z_ifb_ne C dL_isTurn_335 350 338 (by decide) rfl (fun c335 => ?_) (fun c335 => ?_)
                                  · skip
                                    simp only [decide_eq_true_eq, decide_eq_false_iff_not] at c335
                                    refine z_iinc C hl dL_isTurn_350 353 rfl 2 rfl (z := 1 + j) (by omega) (by decide) (lv' := [(13, .int (iI (1 + j))), (12, .int (iI (cntK (saiV v b d st) 2 (1 + j)))), (14, .int (iI (bZ (decide (((saiV v b d st) (74 + 5 * j)) = 2))))), (11, .int (iI (saiR v b d st))), (9, .int (iI (v (76 + 5 * b)))), (8, .int (iI (v 128))), (7, .int (iI (cntZ v 2))), (6, .int ((danR v 0) ||| (danR v 1))), (5, .int (iI (v 126))), (4, .int (iI (reaZ v b d st false))), (0, .ref (tb)), (1, .int (iI (b))), (2, .int (iI (d))), (3, .int (iI (st)))]) rfl (fun ls hl => ?_)
                                    refine z_goto C dL_isTurn_353 272 (by decide) ?_
                                    exact ih272 (1 + j) (by omega) _ _ hW (by omega) ls (lv_sub hl [0, 1, 3, 4, 5, 6, 7, 8, 9, 10, 11, 12, 13] rfl)
                                  · skip
                                    simp only [decide_eq_true_eq, decide_eq_false_iff_not] at c335
                                    refine z_il_n C hl dL_isTurn_338 13 rfl 339 rfl ?_
                                    refine z_if_eq C dL_isTurn_339 348 342 (by decide) rfl (by omega) (fun c339 => ?_) (fun c339 => ?_)
                                    · exfalso; omega
                                    · skip
                                      refine z_il C hl dL_isTurn_342 2 rfl 344 rfl ?_
                                      refine z_il_n C hl dL_isTurn_344 11 rfl 345 rfl ?_
                                      refine z_icmp_eq C dL_isTurn_345 350 348 (by decide) rfl (by omega) (fun c345 => ?_) (fun c345 => ?_)
                                      · skip
                                        refine z_iinc C hl dL_isTurn_350 353 rfl 2 rfl (z := 1 + j) (by omega) (by decide) (lv' := [(13, .int (iI (1 + j))), (12, .int (iI (cntK (saiV v b d st) 2 (1 + j)))), (14, .int (iI (bZ (decide (((saiV v b d st) (74 + 5 * j)) = 2))))), (11, .int (iI (saiR v b d st))), (9, .int (iI (v (76 + 5 * b)))), (8, .int (iI (v 128))), (7, .int (iI (cntZ v 2))), (6, .int ((danR v 0) ||| (danR v 1))), (5, .int (iI (v 126))), (4, .int (iI (reaZ v b d st false))), (0, .ref (tb)), (1, .int (iI (b))), (2, .int (iI (d))), (3, .int (iI (st)))]) rfl (fun ls hl => ?_)
                                        refine z_goto C dL_isTurn_353 272 (by decide) ?_
                                        exact ih272 (1 + j) (by omega) _ _ hW (by omega) ls (lv_sub hl [0, 1, 3, 4, 5, 6, 7, 8, 9, 10, 11, 12, 13] rfl)
                                      · exfalso; exact c335 (mov_hit w0 he hr0 (by omega) c345 c330)
                        exact L272 (Int.toNat ((saiV v b d st) 127 - 0) + 1) 0 (by omega) _ _ hW (by omega) ls (lv_sub hl [0, 1, 2, 4, 5, 6, 7, 8, 9, 10, 11, 12, 13] rfl)
                      · exfalso; omega
              · skip
                have hno := sai_no (d := d) (n := st) he (by omega)
                refine z_il_n C hl dL_isTurn_161 11 rfl 162 rfl ?_
                refine z_if_ne C dL_isTurn_162 175 165 (by decide) rfl (by omega) (fun c162 => ?_) (fun c162 => ?_)
                · skip
                  refine z_il C hl dL_isTurn_175 0 rfl 177 rfl ?_
                  refine z_bipush C dL_isTurn_177 (by decide) 179 rfl ?_
                  refine z_il C hl dL_isTurn_179 7 rfl 181 rfl ?_
                  refine z_isub C dL_isTurn_181 182 rfl (-10 - reaZ v b d st false) (by omega) ?_
                  refine z_icmp_ne C dL_isTurn_182 210 185 (by decide) rfl (by omega) (fun c182 => ?_) (fun c182 => ?_)
                  · exfalso; omega
                  · skip
                    refine z_al_n C hl dL_isTurn_185 8 rfl 186 rfl ?_
                    refine z_iconst C dL_isTurn_186 187 rfl ?_
                    refine z_VR (r := .int (iI (cntR (saiV v b d st) (actN (saiR v b d st) n) 0 0))) (rest := []) C (m_count l G tb r x cu h pa o sg qn qb sn (actS (saiR v b d st) n S) (actG (saiR v b d st) n g v) (actN (saiR v b d st) n) false (saiV v b d st) 0 0 (w0.sai b d st) (by omega)) kV_L_8 ⟨Nat.le_of_ble_eq_true rfl, Nat.le_of_ble_eq_true rfl⟩ (gP_rg hW.1 [0, 1, 2, 4, 5] rfl) hK 0 rfl rfl rfl hl.1 rfl (Nat.le_of_ble_eq_true rfl) dL_isTurn_187 ⟨Nat.le_of_ble_eq_true rfl, Nat.le_of_ble_eq_true rfl⟩ 190 rfl ?_
                    refine z_top (b := .int (iI (((saiV v b d st) 126)))) (congrArg (fun z => Value.int (iI z)) (rfl)) ?_
                    refine z_il C hl dL_isTurn_190 6 rfl 192 rfl ?_
                    refine z_icmp_ne C dL_isTurn_192 210 195 (by decide) rfl (by omega) (fun c192 => ?_) (fun c192 => ?_)
                    · exfalso; rw [hno.2] at c192; omega
                    · skip
                      refine z_al_n C hl dL_isTurn_195 8 rfl 196 rfl ?_
                      refine z_bipush C dL_isTurn_196 (by decide) 198 rfl ?_
                      refine z_VR (r := .int (iI (cntR (saiV v b d st) (actN (saiR v b d st) n) 0 8))) (rest := []) C (m_count l G tb r x cu h pa o sg qn qb sn (actS (saiR v b d st) n S) (actG (saiR v b d st) n g v) (actN (saiR v b d st) n) false (saiV v b d st) 0 8 (w0.sai b d st) (by omega)) kV_L_8 ⟨Nat.le_of_ble_eq_true rfl, Nat.le_of_ble_eq_true rfl⟩ (gP_rg hW.1 [0, 1, 2, 4, 5] rfl) hK 0 rfl rfl rfl hl.1 rfl (Nat.le_of_ble_eq_true rfl) dL_isTurn_198 ⟨Nat.le_of_ble_eq_true rfl, Nat.le_of_ble_eq_true rfl⟩ 201 rfl ?_
                      refine z_top (b := .int (iI (cntZ (saiV v b d st) 2))) (congrArg (fun z => Value.int (iI z)) (rfl)) ?_
                      have rc198 := cntZ_rng (w0.sai b d st) 2
                      refine z_il C hl dL_isTurn_201 4 rfl 203 rfl ?_
                      refine z_icmp_ne C dL_isTurn_203 210 206 (by decide) rfl (by omega) (fun c203 => ?_) (fun c203 => ?_)
                      · exfalso; exact c203 (by rw [hno.2])
                      · skip
                        refine z_iconst C dL_isTurn_206 207 rfl ?_
                        refine z_goto C dL_isTurn_207 211 (by decide) ?_
                        exact z_wz C hW dL_isTurn_211 (rfl) rfl
                · exfalso; omega
            · exfalso; omega
          · skip
            refine z_il C hl dL_isTurn_99 0 rfl 101 rfl ?_
            refine z_bipush C dL_isTurn_101 (by decide) 103 rfl ?_
            refine z_icmp_ge C dL_isTurn_103 136 106 (by decide) rfl (by omega) (fun c103 => ?_) (fun c103 => ?_)
            · exfalso; omega
            · skip
              have hwj := w0.b j (by omega)
              refine z_il C hl dL_isTurn_106 1 rfl 108 rfl ?_
              refine z_al_n C hl dL_isTurn_108 8 rfl 109 rfl ?_
              refine z_il C hl dL_isTurn_109 0 rfl 111 rfl ?_
              refine z_iconst C dL_isTurn_111 112 rfl ?_
              refine z_VR (r := .int (iI (boaR v j 2))) (rest := [.int (z)]) C (m_boatOf l G tb r x cu h pa o sg qn qb sn v j 2 w0 (by omega) (by omega)) kV_L_14 ⟨Nat.le_of_ble_eq_true rfl, Nat.le_of_ble_eq_true rfl⟩ (gP_rg hW.1 [0, 1, 2] rfl) hK 0 rfl rfl rfl hl.1 rfl (Nat.le_of_ble_eq_true rfl) dL_isTurn_112 ⟨Nat.le_of_ble_eq_true rfl, Nat.le_of_ble_eq_true rfl⟩ 115 rfl ?_
              refine z_top (b := .int (iI (v (74 + 5 * j)))) (congrArg (fun z => Value.int (iI z)) (boa_2 (v := v) (b := j) (by omega))) ?_
              refine z_iconst C dL_isTurn_115 116 rfl ?_
              refine z_icmp_ne C dL_isTurn_116 126 119 (by decide) rfl (by omega) (fun c116 => ?_) (fun c116 => ?_)
              · skip
                refine z_iconst C dL_isTurn_126 127 rfl ?_
                refine z_ior C dL_isTurn_127 128 rfl ?_
                refine z_is C hl dL_isTurn_128 130 rfl (by decide) (lv' := [(10, .int (z ||| (iI (0)))), (11, .int (iI (j))), (9, .int (iI (v (76 + 5 * b)))), (8, .int (iI (v 128))), (7, .int (iI (cntZ v 2))), (6, .int ((danR v 0) ||| (danR v 1))), (5, .int (iI (v 126))), (4, .int (iI (reaZ v b d st false))), (0, .ref (tb)), (1, .int (iI (b))), (2, .int (iI (d))), (3, .int (iI (st)))]) rfl (fun ls hl => ?_)
                refine z_iinc C hl dL_isTurn_130 133 rfl 1 rfl (z := 1 + j) (by omega) (by decide) (lv' := [(11, .int (iI (1 + j))), (10, .int (z ||| (iI (0)))), (9, .int (iI (v (76 + 5 * b)))), (8, .int (iI (v 128))), (7, .int (iI (cntZ v 2))), (6, .int ((danR v 0) ||| (danR v 1))), (5, .int (iI (v 126))), (4, .int (iI (reaZ v b d st false))), (0, .ref (tb)), (1, .int (iI (b))), (2, .int (iI (d))), (3, .int (iI (st)))]) rfl (fun ls hl => ?_)
                refine z_goto C dL_isTurn_133 89 (by decide) ?_
                exact ih89 (1 + j) (z ||| (iI (0))) (by omega) _ _ hW (by omega) ls (lv_sub hl [0, 1, 2, 3, 4, 5, 6, 7, 8, 9, 10, 11] rfl)
              · skip
                refine z_iconst C dL_isTurn_119 120 rfl ?_
                refine z_il C hl dL_isTurn_120 0 rfl 122 rfl ?_
                refine z_ishl C dL_isTurn_122 123 rfl ?_
                refine z_goto C dL_isTurn_123 127 (by decide) ?_
                refine z_ior C dL_isTurn_127 128 rfl ?_
                refine z_is C hl dL_isTurn_128 130 rfl (by decide) (lv' := [(10, .int (z ||| ((iI (1)) <<< ((iI (j)) &&& 31)))), (11, .int (iI (j))), (9, .int (iI (v (76 + 5 * b)))), (8, .int (iI (v 128))), (7, .int (iI (cntZ v 2))), (6, .int ((danR v 0) ||| (danR v 1))), (5, .int (iI (v 126))), (4, .int (iI (reaZ v b d st false))), (0, .ref (tb)), (1, .int (iI (b))), (2, .int (iI (d))), (3, .int (iI (st)))]) rfl (fun ls hl => ?_)
                refine z_iinc C hl dL_isTurn_130 133 rfl 1 rfl (z := 1 + j) (by omega) (by decide) (lv' := [(11, .int (iI (1 + j))), (10, .int (z ||| ((iI (1)) <<< ((iI (j)) &&& 31)))), (9, .int (iI (v (76 + 5 * b)))), (8, .int (iI (v 128))), (7, .int (iI (cntZ v 2))), (6, .int ((danR v 0) ||| (danR v 1))), (5, .int (iI (v 126))), (4, .int (iI (reaZ v b d st false))), (0, .ref (tb)), (1, .int (iI (b))), (2, .int (iI (d))), (3, .int (iI (st)))]) rfl (fun ls hl => ?_)
                refine z_goto C dL_isTurn_133 89 (by decide) ?_
                exact ih89 (1 + j) (z ||| ((iI (1)) <<< ((iI (j)) &&& 31))) (by omega) _ _ hW (by omega) ls (lv_sub hl [0, 1, 2, 3, 4, 5, 6, 7, 8, 9, 10, 11] rfl)
      exact L89 (Int.toNat (v 127 - 0) + 1) 0 (iI (0)) (by omega) _ _ hW (by omega) ls (lv_sub hl [0, 1, 2, 3, 4, 5, 6, 7, 8, 9, 10, 11] rfl)
    · exfalso; omega
  · exfalso; omega
