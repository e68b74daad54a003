set_option maxHeartbeats 16000000 in
set_option maxRecDepth 100000 in
theorem m_areCells (l : Launch) (G : gT) (tb r x cu h pa o sg : Nat) (qn qb sn : Nat → Nat) (S : Nat → Nat → Nat) (v : Int → Int) (g : Nat → Int → Int) (n : Int) (i : Ia v) : MR l G yL_areCells cL_areCells 10 (some .boolean) 7 [.ref (tb)] [[tbO tb qn qb r x h o], [(r, .inr (3, [.ref (qn 0)]))], stW G qn v, hiW G h pa sn n S g false, [orO G o sg 0]] ZT (.int (iI (bZ (true)))) := by
  refine enterR (own := RL) (by decide +kernel) rfl (Nat.le_of_ble_eq_true rfl) ?_
  intro p e s m below meth c C hP hK hZ ls hl
  have hl : lv_has ls 10 [(0, .ref (tb))] := hl
  have w0 := i.w
  have hn := w0.n
  have ht := w0.t
  have hs := w0.s
  have hp := perZ_rng w0
  have hz := i.h
  refine z_iconst C dL_areCells_0 1 rfl ?_
  refine z_al_n C hl dL_areCells_1 0 rfl 2 rfl ?_
  refine z_bipush C dL_areCells_2 (by decide) 4 rfl ?_
  refine z_VR (r := .int (iI (cntR v n 0 16))) (rest := [.int (iI (2))]) C (m_count l G tb r x cu h pa o sg qn qb sn S g n false v 0 16 w0 (by omega)) kV_L_8 ⟨Nat.le_of_ble_eq_true rfl, Nat.le_of_ble_eq_true rfl⟩ hP hK 0 rfl rfl rfl hl.1 rfl (Nat.le_of_ble_eq_true rfl) dL_areCells_4 ⟨Nat.le_of_ble_eq_true rfl, Nat.le_of_ble_eq_true rfl⟩ 7 rfl ?_
  refine z_top (b := .int (iI (v 123))) (congrArg (fun z => Value.int (iI z)) (rfl)) ?_
  refine z_imul C dL_areCells_7 8 rfl (2 * v 123) (by omega) ?_
  refine z_al_n C hl dL_areCells_8 0 rfl 9 rfl ?_
  refine z_bipush C dL_areCells_9 (by decide) 11 rfl ?_
  refine z_VR (r := .int (iI (cntR v n 0 17))) (rest := [.int (iI (2 * v 123))]) C (m_count l G tb r x cu h pa o sg qn qb sn S g n false v 0 17 w0 (by omega)) kV_L_8 ⟨Nat.le_of_ble_eq_true rfl, Nat.le_of_ble_eq_true rfl⟩ hP hK 0 rfl rfl rfl hl.1 rfl (Nat.le_of_ble_eq_true rfl) dL_areCells_11 ⟨Nat.le_of_ble_eq_true rfl, Nat.le_of_ble_eq_true rfl⟩ 14 rfl ?_
  refine z_top (b := .int (iI (v 124))) (congrArg (fun z => Value.int (iI z)) (rfl)) ?_
  refine z_imul C dL_areCells_14 15 rfl (((2 * v 123) * (v 124))) (rfl) ?_
  refine z_top (b := .int (iI (perZ v))) (congrArg (fun z => Value.int (iI z)) (rfl)) ?_
  refine z_is_n C hl dL_areCells_15 16 rfl (by decide) (lv' := [(1, .int (iI (perZ v))), (0, .ref (tb))]) rfl (fun ls hl => ?_)
  refine z_iconst C dL_areCells_16 17 rfl ?_
  refine z_is_n C hl dL_areCells_17 18 rfl (by decide) (lv' := [(2, .int (iI (0))), (1, .int (iI (perZ v))), (0, .ref (tb))]) rfl (fun ls hl => ?_)
  have L18 : ∀ (fu : Nat) (k : Int) (h1 : 0 ≤ k ∧ k ≤ 36) (hm : 36 - k < (fu : Int)) (ls : Array Slot) (hl : lv_has ls 10 [(2, .int (iI (k))), (1, .int (iI (perZ v))), (0, .ref (tb))]), W p l e (rmN 7) s m [.ref (tb)].toArray below meth c s.heap [] 0 0 (MQ below (QR (.int (iI (bZ (true))))) [.ref (tb)].toArray s 0 0 (fun _ => False)) (F0 m 18 ls []) := by
    intro fu
    induction fu with
    | zero => intro k h1 hm ls hl; exfalso; omega
    | succ fu ih =>
      intro k h1 hm ls hl
      have ih18 := ih
      refine z_il_n C hl dL_areCells_18 0 rfl 19 rfl ?_
      refine z_bipush C dL_areCells_19 (by decide) 21 rfl ?_
      refine z_icmp_ge C dL_areCells_21 212 24 (by decide) rfl (by omega) (fun c21 => ?_) (fun c21 => ?_)
      · skip
        refine z_iconst C dL_areCells_212 213 rfl ?_
        refine z_is_n C hl dL_areCells_213 214 rfl (by decide) (lv' := [(2, .int (iI (0))), (1, .int (iI (perZ v))), (0, .ref (tb))]) rfl (fun ls hl => ?_)
        have L214 : ∀ (fu : Nat) (j : Int) (j1 : 0 ≤ j ∧ j ≤ 40) (hm : 40 - j < (fu : Int)) (ls : Array Slot) (hl : lv_has ls 10 [(2, .int (iI (j))), (1, .int (iI (perZ v))), (0, .ref (tb))]), W p l e (rmN 7) s m [.ref (tb)].toArray below meth c s.heap [] 0 0 (MQ below (QR (.int (iI (bZ (true))))) [.ref (tb)].toArray s 0 0 (fun _ => False)) (F0 m 214 ls []) := by
          intro fu
          induction fu with
          | zero => intro j j1 hm ls hl; exfalso; omega
          | succ fu ih =>
            intro j j1 hm ls hl
            have ih214 := ih
            refine z_il_n C hl dL_areCells_214 0 rfl 215 rfl ?_
            refine z_bipush C dL_areCells_215 (by decide) 217 rfl ?_
            refine z_icmp_ge C dL_areCells_217 302 220 (by decide) rfl (by omega) (fun c217 => ?_) (fun c217 => ?_)
            · skip
              refine z_al_n C hl dL_areCells_302 2 rfl 303 rfl ?_
              refine z_iconst C dL_areCells_303 304 rfl ?_
              refine z_VR (r := .int (iI (tidR v 0))) (rest := []) C (m_tide l G tb r x cu h pa o sg qn qb sn v 0 w0 (by omega)) kV_L_25 ⟨Nat.le_of_ble_eq_true rfl, Nat.le_of_ble_eq_true rfl⟩ (gP_rg hP [0, 2] rfl) hK 0 rfl rfl rfl hl.1 rfl (Nat.le_of_ble_eq_true rfl) dL_areCells_304 ⟨Nat.le_of_ble_eq_true rfl, Nat.le_of_ble_eq_true rfl⟩ 307 rfl ?_
              refine z_top (b := .int (iI (tideZ v 0))) (congrArg (fun z => Value.int (iI z)) (tid_is (v := v) (t := 0) (by omega))) ?_
              have rt304 := tide_lim w0 0
              refine z_al_n C hl dL_areCells_307 2 rfl 308 rfl ?_
              refine z_bipush C dL_areCells_308 (by decide) 310 rfl ?_
              refine z_VR (r := .int (iI (cntR v n 0 15))) (rest := [.int (iI (tideZ v 0))]) C (m_count l G tb r x cu h pa o sg qn qb sn S g n false v 0 15 w0 (by omega)) kV_L_8 ⟨Nat.le_of_ble_eq_true rfl, Nat.le_of_ble_eq_true rfl⟩ hP hK 0 rfl rfl rfl hl.1 rfl (Nat.le_of_ble_eq_true rfl) dL_areCells_310 ⟨Nat.le_of_ble_eq_true rfl, Nat.le_of_ble_eq_true rfl⟩ 313 rfl ?_
              refine z_top (b := .int (iI (v 122))) (congrArg (fun z => Value.int (iI z)) (rfl)) ?_
              refine z_icmp_ne C dL_areCells_313 320 316 (by decide) rfl (by omega) (fun c313 => ?_) (fun c313 => ?_)
              · exfalso; exact c313 (tide_0 w0)
              · skip
                refine z_iconst C dL_areCells_316 317 rfl ?_
                refine z_goto C dL_areCells_317 321 (by decide) ?_
                exact z_rz C dL_areCells_321 (rfl)
            · skip
              have st := tide_stp w0 (t := j) j1.1
              have pe := tide_per w0 j
              refine z_al_n C hl dL_areCells_220 2 rfl 221 rfl ?_
              refine z_il_n C hl dL_areCells_221 0 rfl 222 rfl ?_
              refine z_iconst C dL_areCells_222 223 rfl ?_
              refine z_iadd C dL_areCells_223 224 rfl (1 + j) (by omega) ?_
              refine z_VR (r := .int (iI (tidR v (1 + j)))) (rest := []) C (m_tide l G tb r x cu h pa o sg qn qb sn v (1 + j) w0 (by omega)) kV_L_25 ⟨Nat.le_of_ble_eq_true rfl, Nat.le_of_ble_eq_true rfl⟩ (gP_rg hP [0, 2] rfl) hK 0 rfl rfl rfl hl.1 rfl (Nat.le_of_ble_eq_true rfl) dL_areCells_224 ⟨Nat.le_of_ble_eq_true rfl, Nat.le_of_ble_eq_true rfl⟩ 227 rfl ?_
              refine z_top (b := .int (iI (tideZ v (1 + j)))) (congrArg (fun z => Value.int (iI z)) (tid_is (v := v) (t := (1 + j)) (by omega))) ?_
              have rt224 := tide_lim w0 (1 + j)
              refine z_al_n C hl dL_areCells_227 2 rfl 228 rfl ?_
              refine z_il_n C hl dL_areCells_228 0 rfl 229 rfl ?_
              refine z_VR (r := .int (iI (tidR v j))) (rest := [.int (iI (tideZ v (1 + j)))]) C (m_tide l G tb r x cu h pa o sg qn qb sn v j w0 (by omega)) kV_L_25 ⟨Nat.le_of_ble_eq_true rfl, Nat.le_of_ble_eq_true rfl⟩ (gP_rg hP [0, 2] rfl) hK 0 rfl rfl rfl hl.1 rfl (Nat.le_of_ble_eq_true rfl) dL_areCells_229 ⟨Nat.le_of_ble_eq_true rfl, Nat.le_of_ble_eq_true rfl⟩ 232 rfl ?_
              refine z_top (b := .int (iI (tideZ v j))) (congrArg (fun z => Value.int (iI z)) (tid_is (v := v) (t := j) (by omega))) ?_
              have rt229 := tide_lim w0 j
              refine z_isub C dL_areCells_232 233 rfl (tideZ v (1 + j) - tideZ v j) (by omega) ?_
              refine z_is_n C hl dL_areCells_233 234 rfl (by decide) (lv' := [(3, .int (iI (tideZ v (1 + j) - tideZ v j))), (2, .int (iI (j))), (1, .int (iI (perZ v))), (0, .ref (tb))]) rfl (fun ls hl => ?_)
              refine z_il_n C hl dL_areCells_234 0 rfl 235 rfl ?_
              refine z_iconst C dL_areCells_235 236 rfl ?_
              refine z_icmp_gt C dL_areCells_236 294 239 (by decide) rfl (by omega) (fun c236 => ?_) (fun c236 => ?_)
              · exfalso; omega
              · skip
                refine z_il_n C hl dL_areCells_239 0 rfl 240 rfl ?_
                refine z_iconst C dL_areCells_240 241 rfl ?_
                refine z_icmp_lt C dL_areCells_241 294 244 (by decide) rfl (by omega) (fun c241 => ?_) (fun c241 => ?_)
                · exfalso; omega
                · skip
                  refine z_al_n C hl dL_areCells_244 3 rfl 245 rfl ?_
                  refine z_il_n C hl dL_areCells_245 1 rfl 246 rfl ?_
                  refine z_VR (r := .int (iI (tidR v j))) (rest := []) C (m_tide l G tb r x cu h pa o sg qn qb sn v j w0 (by omega)) kV_L_25 ⟨Nat.le_of_ble_eq_true rfl, Nat.le_of_ble_eq_true rfl⟩ (gP_rg hP [0, 2] rfl) hK 0 rfl rfl rfl hl.1 rfl (Nat.le_of_ble_eq_true rfl) dL_areCells_246 ⟨Nat.le_of_ble_eq_true rfl, Nat.le_of_ble_eq_true rfl⟩ 249 rfl ?_
                  refine z_top (b := .int (iI (tideZ v j))) (congrArg (fun z => Value.int (iI z)) (tid_is (v := v) (t := j) (by omega))) ?_
                  have rt246 := tide_lim w0 j
                  refine z_al_n C hl dL_areCells_249 3 rfl 250 rfl ?_
                  refine z_il_n C hl dL_areCells_250 1 rfl 251 rfl ?_
                  refine z_il_n C hl dL_areCells_251 2 rfl 252 rfl ?_
                  refine z_iadd C dL_areCells_252 253 rfl (j + perZ v) (by omega) ?_
                  refine z_VR (r := .int (iI (tidR v (j + perZ v)))) (rest := [.int (iI (tideZ v j))]) C (m_tide l G tb r x cu h pa o sg qn qb sn v (j + perZ v) w0 (by omega)) kV_L_25 ⟨Nat.le_of_ble_eq_true rfl, Nat.le_of_ble_eq_true rfl⟩ (gP_rg hP [0, 2] rfl) hK 0 rfl rfl rfl hl.1 rfl (Nat.le_of_ble_eq_true rfl) dL_areCells_253 ⟨Nat.le_of_ble_eq_true rfl, Nat.le_of_ble_eq_true rfl⟩ 256 rfl ?_
                  refine z_top (b := .int (iI (tideZ v (j + perZ v)))) (congrArg (fun z => Value.int (iI z)) (tid_is (v := v) (t := (j + perZ v)) (by omega))) ?_
                  have rt253 := tide_lim w0 (j + perZ v)
                  refine z_icmp_ne C dL_areCells_256 294 259 (by decide) rfl (by omega) (fun c256 => ?_) (fun c256 => ?_)
                  · exfalso; omega
                  · skip
                    refine z_al_n C hl dL_areCells_259 3 rfl 260 rfl ?_
                    refine z_il_n C hl dL_areCells_260 1 rfl 261 rfl ?_
                    refine z_VR (r := .int (iI (tidR v j))) (rest := []) C (m_tide l G tb r x cu h pa o sg qn qb sn v j w0 (by omega)) kV_L_25 ⟨Nat.le_of_ble_eq_true rfl, Nat.le_of_ble_eq_true rfl⟩ (gP_rg hP [0, 2] rfl) hK 0 rfl rfl rfl hl.1 rfl (Nat.le_of_ble_eq_true rfl) dL_areCells_261 ⟨Nat.le_of_ble_eq_true rfl, Nat.le_of_ble_eq_true rfl⟩ 264 rfl ?_
                    refine z_top (b := .int (iI (tideZ v j))) (congrArg (fun z => Value.int (iI z)) (tid_is (v := v) (t := j) (by omega))) ?_
                    have rt261 := tide_lim w0 j
                    refine z_al_n C hl dL_areCells_264 3 rfl 265 rfl ?_
                    refine z_bipush C dL_areCells_265 (by decide) 267 rfl ?_
                    refine z_VR (r := .int (iI (cntR v n 0 15))) (rest := [.int (iI (tideZ v j))]) C (m_count l G tb r x cu h pa o sg qn qb sn S g n false v 0 15 w0 (by omega)) kV_L_8 ⟨Nat.le_of_ble_eq_true rfl, Nat.le_of_ble_eq_true rfl⟩ hP hK 0 rfl rfl rfl hl.1 rfl (Nat.le_of_ble_eq_true rfl) dL_areCells_267 ⟨Nat.le_of_ble_eq_true rfl, Nat.le_of_ble_eq_true rfl⟩ 270 rfl ?_
                    refine z_top (b := .int (iI (v 122))) (congrArg (fun z => Value.int (iI z)) (rfl)) ?_
                    refine z_icmp_lt C dL_areCells_270 294 273 (by decide) rfl (by omega) (fun c270 => ?_) (fun c270 => ?_)
                    · exfalso; omega
                    · skip
                      refine z_al_n C hl dL_areCells_273 3 rfl 274 rfl ?_
                      refine z_il_n C hl dL_areCells_274 1 rfl 275 rfl ?_
                      refine z_VR (r := .int (iI (tidR v j))) (rest := []) C (m_tide l G tb r x cu h pa o sg qn qb sn v j w0 (by omega)) kV_L_25 ⟨Nat.le_of_ble_eq_true rfl, Nat.le_of_ble_eq_true rfl⟩ (gP_rg hP [0, 2] rfl) hK 0 rfl rfl rfl hl.1 rfl (Nat.le_of_ble_eq_true rfl) dL_areCells_275 ⟨Nat.le_of_ble_eq_true rfl, Nat.le_of_ble_eq_true rfl⟩ 278 rfl ?_
                      refine z_top (b := .int (iI (tideZ v j))) (congrArg (fun z => Value.int (iI z)) (tid_is (v := v) (t := j) (by omega))) ?_
                      have rt275 := tide_lim w0 j
                      refine z_al_n C hl dL_areCells_278 3 rfl 279 rfl ?_
                      refine z_bipush C dL_areCells_279 (by decide) 281 rfl ?_
                      refine z_VR (r := .int (iI (cntR v n 0 15))) (rest := [.int (iI (tideZ v j))]) C (m_count l G tb r x cu h pa o sg qn qb sn S g n false v 0 15 w0 (by omega)) kV_L_8 ⟨Nat.le_of_ble_eq_true rfl, Nat.le_of_ble_eq_true rfl⟩ hP hK 0 rfl rfl rfl hl.1 rfl (Nat.le_of_ble_eq_true rfl) dL_areCells_281 ⟨Nat.le_of_ble_eq_true rfl, Nat.le_of_ble_eq_true rfl⟩ 284 rfl ?_
                      refine z_top (b := .int (iI (v 122))) (congrArg (fun z => Value.int (iI z)) (rfl)) ?_
                      refine z_al_n C hl dL_areCells_284 3 rfl 285 rfl ?_
                      refine z_bipush C dL_areCells_285 (by decide) 287 rfl ?_
                      refine z_VR (r := .int (iI (cntR v n 0 16))) (rest := [.int (iI (v 122)), .int (iI (tideZ v j))]) C (m_count l G tb r x cu h pa o sg qn qb sn S g n false v 0 16 w0 (by omega)) kV_L_8 ⟨Nat.le_of_ble_eq_true rfl, Nat.le_of_ble_eq_true rfl⟩ hP hK 0 rfl rfl rfl hl.1 rfl (Nat.le_of_ble_eq_true rfl) dL_areCells_287 ⟨Nat.le_of_ble_eq_true rfl, Nat.le_of_ble_eq_true rfl⟩ 290 rfl ?_
                      refine z_top (b := .int (iI (v 123))) (congrArg (fun z => Value.int (iI z)) (rfl)) ?_
                      refine z_iadd C dL_areCells_290 291 rfl (v 122 + v 123) (by omega) ?_
                      refine z_icmp_le C dL_areCells_291 296 294 (by decide) rfl (by omega) (fun c291 => ?_) (fun c291 => ?_)
                      · skip
                        refine z_iinc C hl dL_areCells_296 299 rfl 1 rfl (z := 1 + j) (by omega) (by decide) (lv' := [(2, .int (iI (1 + j))), (3, .int (iI (tideZ v (1 + j) - tideZ v j))), (1, .int (iI (perZ v))), (0, .ref (tb))]) rfl (fun ls hl => ?_)
                        refine z_goto C dL_areCells_299 214 (by decide) ?_
                        exact ih214 (1 + j) (by omega) (by omega) ls (lv_sub hl [0, 2, 3] rfl)
                      · exfalso; omega
        exact L214 (Int.toNat (40 - 0) + 1) 0 (by omega) (by omega) ls (lv_sub hl [0, 1, 2] rfl)
      · skip
        have hhk := w0.h k (by omega)
        have hh : k = 0 ∨ k = 35 → v k = 0 ∧ v (36 + k) = 0 := by rintro (e | e) <;> subst e <;> first | exact ⟨hz.1, hz.2.2.1⟩ | exact ⟨hz.2.1, hz.2.2.2⟩
        refine z_al_n C hl dL_areCells_24 2 rfl 25 rfl ?_
        refine z_il_n C hl dL_areCells_25 0 rfl 26 rfl ?_
        refine z_iconst C dL_areCells_26 27 rfl ?_
        refine z_VR (r := .int (iI (celR v k 0))) (rest := []) C (m_cellOf l G tb r x cu h pa o sg qn qb sn v k 0 w0 (by omega) (by omega)) kV_L_18 ⟨Nat.le_of_ble_eq_true rfl, Nat.le_of_ble_eq_true rfl⟩ (gP_rg hP [0, 2] rfl) hK 0 rfl rfl rfl hl.1 rfl (Nat.le_of_ble_eq_true rfl) dL_areCells_27 ⟨Nat.le_of_ble_eq_true rfl, Nat.le_of_ble_eq_true rfl⟩ 30 rfl ?_
        refine z_top (b := .int (iI (v k))) (congrArg (fun z => Value.int (iI z)) (cel_0 (v := v) (c := k) (by omega))) ?_
        have rh27 := w0.h k (by omega)
        refine z_is_n C hl dL_areCells_30 31 rfl (by decide) (lv' := [(3, .int (iI (v k))), (2, .int (iI (k))), (1, .int (iI (perZ v))), (0, .ref (tb))]) rfl (fun ls hl => ?_)
        refine z_al_n C hl dL_areCells_31 3 rfl 32 rfl ?_
        refine z_iconst C dL_areCells_32 33 rfl ?_
        refine z_VR (r := .int (iI (cntR v n 0 2))) (rest := []) C (m_count l G tb r x cu h pa o sg qn qb sn S g n false v 0 2 w0 (by omega)) kV_L_8 ⟨Nat.le_of_ble_eq_true rfl, Nat.le_of_ble_eq_true rfl⟩ hP hK 0 rfl rfl rfl hl.1 rfl (Nat.le_of_ble_eq_true rfl) dL_areCells_33 ⟨Nat.le_of_ble_eq_true rfl, Nat.le_of_ble_eq_true rfl⟩ 36 rfl ?_
        refine z_top (b := .int (iI (tideZ v (v 126)))) (congrArg (fun z => Value.int (iI z)) (rfl)) ?_
        have rt33 := tide_lim w0 (v 126)
        refine z_il_n C hl dL_areCells_36 0 rfl 37 rfl ?_
        refine z_isub C dL_areCells_37 38 rfl (tideZ v (v 126) - v k) (by omega) ?_
        refine z_is C hl dL_areCells_38 40 rfl (by decide) (lv' := [(4, .int (iI (tideZ v (v 126) - v k))), (3, .int (iI (v k))), (2, .int (iI (k))), (1, .int (iI (perZ v))), (0, .ref (tb))]) rfl (fun ls hl => ?_)
        refine z_al_n C hl dL_areCells_40 4 rfl 41 rfl ?_
        refine z_il_n C hl dL_areCells_41 2 rfl 42 rfl ?_
        refine z_iconst C dL_areCells_42 43 rfl ?_
        refine z_VR (r := .int (iI (celR v k 3))) (rest := []) C (m_cellOf l G tb r x cu h pa o sg qn qb sn v k 3 w0 (by omega) (by omega)) kV_L_18 ⟨Nat.le_of_ble_eq_true rfl, Nat.le_of_ble_eq_true rfl⟩ (gP_rg hP [0, 2] rfl) hK 0 rfl rfl rfl hl.1 rfl (Nat.le_of_ble_eq_true rfl) dL_areCells_43 ⟨Nat.le_of_ble_eq_true rfl, Nat.le_of_ble_eq_true rfl⟩ 46 rfl ?_
        refine z_top (b := .int (iI (batZ v k))) (congrArg (fun z => Value.int (iI z)) (cel_3 (v := v) (c := k) (by omega))) ?_
        have rb43 := batZ_rng w0 k
        refine z_is C hl dL_areCells_46 48 rfl (by decide) (lv' := [(5, .int (iI (batZ v k))), (4, .int (iI (tideZ v (v 126) - v k))), (3, .int (iI (v k))), (2, .int (iI (k))), (1, .int (iI (perZ v))), (0, .ref (tb))]) rfl (fun ls hl => ?_)
        refine z_il_n C hl dL_areCells_48 2 rfl 49 rfl ?_
        refine z_if_lt C dL_areCells_49 107 52 (by decide) rfl (by omega) (fun c49 => ?_) (fun c49 => ?_)
        · exfalso; omega
        · skip
          refine z_il_n C hl dL_areCells_52 2 rfl 53 rfl ?_
          refine z_iconst C dL_areCells_53 54 rfl ?_
          refine z_icmp_ge C dL_areCells_54 107 57 (by decide) rfl (by omega) (fun c54 => ?_) (fun c54 => ?_)
          · exfalso; omega
          · skip
            have J77 : ∀ (ls : Array Slot) (hl : lv_has ls 10 [(5, .int (iI (batZ v k))), (4, .int (iI (tideZ v (v 126) - v k))), (3, .int (iI (v k))), (2, .int (iI (k))), (1, .int (iI (perZ v))), (0, .ref (tb))]), W p l e (rmN 7) s m [.ref (tb)].toArray below meth c s.heap [] 0 0 (MQ below (QR (.int (iI (bZ (true))))) [.ref (tb)].toArray s 0 0 (fun _ => False)) (F0 m 77 ls []) := by
              intro ls hl
              have J103 : ∀ (ls : Array Slot) (hl : lv_has ls 10 [(5, .int (iI (batZ v k))), (4, .int (iI (tideZ v (v 126) - v k))), (3, .int (iI (v k))), (2, .int (iI (k))), (1, .int (iI (perZ v))), (0, .ref (tb))]), W p l e (rmN 7) s m [.ref (tb)].toArray below meth c s.heap [] 0 0 (MQ below (QR (.int (iI (bZ (true))))) [.ref (tb)].toArray s 0 0 (fun _ => False)) (F0 m 103 ls []) := by
                intro ls hl
                refine z_iconst C dL_areCells_103 104 rfl ?_
                refine z_goto C dL_areCells_104 108 (by decide) ?_
                refine z_is C hl dL_areCells_108 110 rfl (by decide) (lv' := [(6, .int (iI (1))), (5, .int (iI (batZ v k))), (4, .int (iI (tideZ v (v 126) - v k))), (3, .int (iI (v k))), (2, .int (iI (k))), (1, .int (iI (perZ v))), (0, .ref (tb))]) rfl (fun ls hl => ?_)
                refine z_iconst C dL_areCells_110 111 rfl ?_
                refine z_top (b := .int (iI (afnK v k (1 + k % 3) 0))) rfl ?_
                refine z_is C hl dL_areCells_111 113 rfl (by decide) (lv' := [(7, .int (iI (afnK v k (1 + k % 3) 0))), (6, .int (iI (1))), (5, .int (iI (batZ v k))), (4, .int (iI (tideZ v (v 126) - v k))), (3, .int (iI (v k))), (2, .int (iI (k))), (1, .int (iI (perZ v))), (0, .ref (tb))]) rfl (fun ls hl => ?_)
                refine z_iconst C dL_areCells_113 114 rfl ?_
                refine z_il_n C hl dL_areCells_114 5 rfl 115 rfl ?_
                refine z_iconst C dL_areCells_115 116 rfl ?_
                refine z_irem C dL_areCells_116 117 rfl (by omega) ((k % 3)) (rfl) ?_
                refine z_iadd C dL_areCells_117 118 rfl (1 + (k % 3)) (rfl) ?_
                refine z_top (b := .int (iI ((1 + k % 3)))) (congrArg (fun z => Value.int (iI z)) (by omega)) ?_
                refine z_is C hl dL_areCells_118 120 rfl (by decide) (lv' := [(8, .int (iI ((1 + k % 3)))), (7, .int (iI (afnK v k (1 + k % 3) 0))), (6, .int (iI (1))), (5, .int (iI (batZ v k))), (4, .int (iI (tideZ v (v 126) - v k))), (3, .int (iI (v k))), (2, .int (iI (k))), (1, .int (iI (perZ v))), (0, .ref (tb))]) rfl (fun ls hl => ?_)
                refine z_iconst C dL_areCells_120 121 rfl ?_
                refine z_is C hl dL_areCells_121 123 rfl (by decide) (lv' := [(9, .int (iI (0))), (8, .int (iI ((1 + k % 3)))), (7, .int (iI (afnK v k (1 + k % 3) 0))), (6, .int (iI (1))), (5, .int (iI (batZ v k))), (4, .int (iI (tideZ v (v 126) - v k))), (3, .int (iI (v k))), (2, .int (iI (k))), (1, .int (iI (perZ v))), (0, .ref (tb))]) rfl (fun ls hl => ?_)
                have L123 : ∀ (fu : Nat) (t : Int) (g1 : 0 ≤ t ∧ t ≤ perZ v) (hm : perZ v - t < (fu : Int)) (ls : Array Slot) (hl : lv_has ls 10 [(9, .int (iI (t))), (8, .int (iI ((1 + k % 3)))), (7, .int (iI (afnK v k (1 + k % 3) t))), (6, .int (iI (1))), (5, .int (iI (batZ v k))), (4, .int (iI (tideZ v (v 126) - v k))), (3, .int (iI (v k))), (2, .int (iI (k))), (1, .int (iI (perZ v))), (0, .ref (tb))]), W p l e (rmN 7) s m [.ref (tb)].toArray below meth c s.heap [] 0 0 (MQ below (QR (.int (iI (bZ (true))))) [.ref (tb)].toArray s 0 0 (fun _ => False)) (F0 m 123 ls []) := by
                  intro fu
                  induction fu with
                  | zero => intro t g1 hm ls hl; exfalso; omega
                  | succ fu ih =>
                    intro t g1 hm ls hl
                    have r7 := afnK_rng v k (1 + k % 3) (t := t) (by omega)
                    have ih123 := ih
                    refine z_il C hl dL_areCells_123 0 rfl 125 rfl ?_
                    refine z_il_n C hl dL_areCells_125 8 rfl 126 rfl ?_
                    refine z_icmp_ge C dL_areCells_126 158 129 (by decide) rfl (by omega) (fun c126 => ?_) (fun c126 => ?_)
                    · skip
                      refine z_il C hl dL_areCells_158 3 rfl 160 rfl ?_
                      refine z_if_eq C dL_areCells_160 204 163 (by decide) rfl (by omega) (fun c160 => ?_) (fun c160 => ?_)
                      · exfalso; omega
                      · skip
                        refine z_al_n C hl dL_areCells_163 9 rfl 164 rfl ?_
                        refine z_il_n C hl dL_areCells_164 7 rfl 165 rfl ?_
                        refine z_il C hl dL_areCells_165 1 rfl 167 rfl ?_
                        refine z_VR (r := .float (aflF v k (1 + k % 3))) (rest := []) C (m_afloat l G tb r x cu h pa o sg qn qb sn v k (1 + k % 3) w0 (by omega) (by omega)) kV_L_28 ⟨Nat.le_of_ble_eq_true rfl, Nat.le_of_ble_eq_true rfl⟩ (gP_rg hP [0, 2] rfl) hK 0 rfl rfl rfl hl.1 rfl (Nat.le_of_ble_eq_true rfl) dL_areCells_167 ⟨Nat.le_of_ble_eq_true rfl, Nat.le_of_ble_eq_true rfl⟩ 170 rfl ?_
                        refine z_top (b := .float (FP.fdiv (FP.i2f (iI (afnZ v k (1 + k % 3)))) (FP.i2f (iI (perZ v))))) (congrArg Value.float (afl_is (v := v) (c := k) (d := (1 + k % 3)) (by omega) (by omega))) ?_
                        refine z_il C hl dL_areCells_170 2 rfl 172 rfl ?_
                        refine z_top (b := .int (iI (afnZ v k (1 + k % 3)))) (congrArg (fun z => Value.int (iI z)) (by rw [show t = perZ v by omega]; rfl)) ?_
                        have ra := afn_rng w0 k (1 + k % 3)
                        refine z_i2f C dL_areCells_172 173 rfl ?_
                        refine z_il_n C hl dL_areCells_173 8 rfl 174 rfl ?_
                        refine z_i2f C dL_areCells_174 175 rfl ?_
                        refine z_fdiv C dL_areCells_175 (fdZ (afn_rng w0 _ _) (by omega)) 176 rfl ?_
                        refine z_fcm C dL_areCells_176 177 rfl ?_
                        refine z_top (b := .int (iI (0))) (congrArg Value.int (fqZ (afn_rng w0 _ _) (by omega))) ?_
                        refine z_if_ne C dL_areCells_177 204 180 (by decide) rfl (by omega) (fun c177 => ?_) (fun c177 => ?_)
                        · exfalso; omega
                        · skip
                          have J206 : ∀ (ls : Array Slot) (hl : lv_has ls 10 [(2, .int (iI (k))), (1, .int (iI (perZ v))), (0, .ref (tb))]), W p l e (rmN 7) s m [.ref (tb)].toArray below meth c s.heap [] 0 0 (MQ below (QR (.int (iI (bZ (true))))) [.ref (tb)].toArray s 0 0 (fun _ => False)) (F0 m 206 ls []) := by
                            intro ls hl
                            refine z_iinc C hl dL_areCells_206 209 rfl 0 rfl (z := 1 + k) (by omega) (by decide) (lv' := [(2, .int (iI (1 + k))), (1, .int (iI (perZ v))), (0, .ref (tb))]) rfl (fun ls hl => ?_)
                            refine z_goto C dL_areCells_209 18 (by decide) ?_
                            exact ih18 (1 + k) (by omega) (by omega) ls (lv_sub hl [0, 1, 2] rfl)
                          refine z_il_n C hl dL_areCells_180 7 rfl 181 rfl ?_
                          refine z_if_eq C dL_areCells_181 190 184 (by decide) rfl (by omega) (fun c181 => ?_) (fun c181 => ?_)
                          · skip
                            refine z_il_n C hl dL_areCells_190 6 rfl 191 rfl ?_
                            refine z_if_gt C dL_areCells_191 204 194 (by decide) rfl (by omega) (fun c191 => ?_) (fun c191 => ?_)
                            · exfalso; have hx := hh (by omega); omega
                            · skip
                              refine z_al_n C hl dL_areCells_194 9 rfl 195 rfl ?_
                              refine z_il_n C hl dL_areCells_195 7 rfl 196 rfl ?_
                              refine z_iconst C dL_areCells_196 197 rfl ?_
                              refine z_VR (r := .int (iI (celR v k 1))) (rest := []) C (m_cellOf l G tb r x cu h pa o sg qn qb sn v k 1 w0 (by omega) (by omega)) kV_L_18 ⟨Nat.le_of_ble_eq_true rfl, Nat.le_of_ble_eq_true rfl⟩ (gP_rg hP [0, 2] rfl) hK 0 rfl rfl rfl hl.1 rfl (Nat.le_of_ble_eq_true rfl) dL_areCells_197 ⟨Nat.le_of_ble_eq_true rfl, Nat.le_of_ble_eq_true rfl⟩ 200 rfl ?_
                              refine z_top (b := .int (iI (v (36 + k)))) (congrArg (fun z => Value.int (iI z)) (cel_1 (v := v) (c := k) (by omega))) ?_
                              have rr197 := w0.r k (by omega)
                              refine z_iconst C dL_areCells_200 201 rfl ?_
                              refine z_icmp_ne C dL_areCells_201 206 204 (by decide) rfl (by omega) (fun c201 => ?_) (fun c201 => ?_)
                              · skip
                                exact J206 ls (lv_sub hl [7, 8, 9] rfl)
                              · exfalso; have hx := hh (by omega); omega
                          · skip
                            refine z_il_n C hl dL_areCells_184 7 rfl 185 rfl ?_
                            refine z_bipush C dL_areCells_185 (by decide) 187 rfl ?_
                            refine z_icmp_ne C dL_areCells_187 206 190 (by decide) rfl (by omega) (fun c187 => ?_) (fun c187 => ?_)
                            · skip
                              exact J206 ls (lv_sub hl [7, 8, 9] rfl)
                            · skip
                              refine z_il_n C hl dL_areCells_190 6 rfl 191 rfl ?_
                              refine z_if_gt C dL_areCells_191 204 194 (by decide) rfl (by omega) (fun c191 => ?_) (fun c191 => ?_)
                              · exfalso; have hx := hh (by omega); omega
                              · skip
                                refine z_al_n C hl dL_areCells_194 9 rfl 195 rfl ?_
                                refine z_il_n C hl dL_areCells_195 7 rfl 196 rfl ?_
                                refine z_iconst C dL_areCells_196 197 rfl ?_
                                refine z_VR (r := .int (iI (celR v k 1))) (rest := []) C (m_cellOf l G tb r x cu h pa o sg qn qb sn v k 1 w0 (by omega) (by omega)) kV_L_18 ⟨Nat.le_of_ble_eq_true rfl, Nat.le_of_ble_eq_true rfl⟩ (gP_rg hP [0, 2] rfl) hK 0 rfl rfl rfl hl.1 rfl (Nat.le_of_ble_eq_true rfl) dL_areCells_197 ⟨Nat.le_of_ble_eq_true rfl, Nat.le_of_ble_eq_true rfl⟩ 200 rfl ?_
                                refine z_top (b := .int (iI (v (36 + k)))) (congrArg (fun z => Value.int (iI z)) (cel_1 (v := v) (c := k) (by omega))) ?_
                                have rr197 := w0.r k (by omega)
                                refine z_iconst C dL_areCells_200 201 rfl ?_
                                refine z_icmp_ne C dL_areCells_201 206 204 (by decide) rfl (by omega) (fun c201 => ?_) (fun c201 => ?_)
                                · skip
                                  exact J206 ls (lv_sub hl [7, 8, 9] rfl)
                                · exfalso; have hx := hh (by omega); omega
                    · skip
                      refine z_il C hl dL_areCells_129 2 rfl 131 rfl ?_
                      refine z_al_n C hl dL_areCells_131 9 rfl 132 rfl ?_
                      refine z_il C hl dL_areCells_132 0 rfl 134 rfl ?_
                      refine z_VR (r := .int (iI (tidR v t))) (rest := [.int (iI (afnK v k (1 + k % 3) t))]) C (m_tide l G tb r x cu h pa o sg qn qb sn v t w0 (by omega)) kV_L_25 ⟨Nat.le_of_ble_eq_true rfl, Nat.le_of_ble_eq_true rfl⟩ (gP_rg hP [0, 2] rfl) hK 0 rfl rfl rfl hl.1 rfl (Nat.le_of_ble_eq_true rfl) dL_areCells_134 ⟨Nat.le_of_ble_eq_true rfl, Nat.le_of_ble_eq_true rfl⟩ 137 rfl ?_
                      refine z_top (b := .int (iI (tideZ v t))) (congrArg (fun z => Value.int (iI z)) (tid_is (v := v) (t := t) (by omega))) ?_
                      have rt134 := tide_lim w0 t
                      refine z_il_n C hl dL_areCells_137 6 rfl 138 rfl ?_
                      refine z_isub C dL_areCells_138 139 rfl (tideZ v t - v k) (by omega) ?_
                      refine z_il C hl dL_areCells_139 1 rfl 141 rfl ?_
                      refine z_micmp_lt C dL_areCells_141 dL_areCells_144 dL_areCells_145 dL_areCells_148 (by omega) rfl rfl rfl 149 rfl ?_
                      refine z_iadd C dL_areCells_149 150 rfl (afnK v k (1 + k % 3) t + bZ (decide ((1 + k % 3) ≤ tideZ v t - v k))) (by omega) ?_
                      refine z_top (b := .int (iI (afnK v k (1 + k % 3) (1 + t)))) (congrArg (fun z => Value.int (iI z)) (by have hq := afnK_s (v := v) (c := k) (d := 1 + k % 3) (t := t) (by omega); omega)) ?_
                      refine z_is C hl dL_areCells_150 152 rfl (by decide) (lv' := [(7, .int (iI (afnK v k (1 + k % 3) (1 + t)))), (9, .int (iI (t))), (8, .int (iI ((1 + k % 3)))), (6, .int (iI (1))), (5, .int (iI (batZ v k))), (4, .int (iI (tideZ v (v 126) - v k))), (3, .int (iI (v k))), (2, .int (iI (k))), (1, .int (iI (perZ v))), (0, .ref (tb))]) rfl (fun ls hl => ?_)
                      refine z_iinc C hl dL_areCells_152 155 rfl 1 rfl (z := 1 + t) (by omega) (by decide) (lv' := [(9, .int (iI (1 + t))), (7, .int (iI (afnK v k (1 + k % 3) (1 + t)))), (8, .int (iI ((1 + k % 3)))), (6, .int (iI (1))), (5, .int (iI (batZ v k))), (4, .int (iI (tideZ v (v 126) - v k))), (3, .int (iI (v k))), (2, .int (iI (k))), (1, .int (iI (perZ v))), (0, .ref (tb))]) rfl (fun ls hl => ?_)
                      refine z_goto C dL_areCells_155 123 (by decide) ?_
                      exact ih123 (1 + t) (by omega) (by omega) ls (lv_sub hl [0, 2, 1, 3, 4, 5, 6, 7, 8, 9] rfl)
                exact L123 (Int.toNat (perZ v - 0) + 1) 0 (by omega) (by omega) ls (lv_sub hl [0, 1, 2, 3, 4, 5, 6, 7, 8, 9] rfl)
              refine z_il C hl dL_areCells_77 0 rfl 79 rfl ?_
              refine z_if_ge C dL_areCells_79 92 82 (by decide) rfl (by omega) (fun c79 => ?_) (fun c79 => ?_)
              · skip
                refine z_al_n C hl dL_areCells_92 5 rfl 93 rfl ?_
                refine z_il C hl dL_areCells_93 0 rfl 95 rfl ?_
                refine z_iconst C dL_areCells_95 96 rfl ?_
                refine z_VR (r := .int (iI (boaR v (batZ v k) 3))) (rest := []) C (m_boatOf l G tb r x cu h pa o sg qn qb sn v (batZ v k) 3 w0 (by omega) (by omega)) kV_L_14 ⟨Nat.le_of_ble_eq_true rfl, Nat.le_of_ble_eq_true rfl⟩ (gP_rg hP [0, 1, 2] rfl) hK 0 rfl rfl rfl hl.1 rfl (Nat.le_of_ble_eq_true rfl) dL_areCells_96 ⟨Nat.le_of_ble_eq_true rfl, Nat.le_of_ble_eq_true rfl⟩ 99 rfl ?_
                refine z_top (b := .int (iI (atZ v (batZ v k)))) (congrArg (fun z => Value.int (iI z)) (boa_3 (v := v) (b := (batZ v k)) (by omega))) ?_
                have ha := atZ_rng w0 (b := batZ v k) (by omega)
                refine z_il_n C hl dL_areCells_99 3 rfl 100 rfl ?_
                refine z_icmp_ne C dL_areCells_100 107 103 (by decide) rfl (by omega) (fun c100 => ?_) (fun c100 => ?_)
                · exfalso; omega
                · skip
                  exact J103 ls (lv_sub hl [0, 1, 2, 3, 4, 5] rfl)
              · skip
                refine z_il C hl dL_areCells_82 0 rfl 84 rfl ?_
                refine z_bipush C dL_areCells_84 (by decide) 86 rfl ?_
                refine z_icmp_ne C dL_areCells_86 107 89 (by decide) rfl (by omega) (fun c86 => ?_) (fun c86 => ?_)
                · exfalso; omega
                · skip
                  refine z_goto C dL_areCells_89 103 (by decide) ?_
                  exact J103 ls (lv_sub hl [0, 1, 2, 3, 4, 5] rfl)
            refine z_al_n C hl dL_areCells_57 5 rfl 58 rfl ?_
            refine z_il_n C hl dL_areCells_58 3 rfl 59 rfl ?_
            refine z_iconst C dL_areCells_59 60 rfl ?_
            refine z_VR (r := .int (iI (celR v k 2))) (rest := []) C (m_cellOf l G tb r x cu h pa o sg qn qb sn v k 2 w0 (by omega) (by omega)) kV_L_18 ⟨Nat.le_of_ble_eq_true rfl, Nat.le_of_ble_eq_true rfl⟩ (gP_rg hP [0, 2] rfl) hK 0 rfl rfl rfl hl.1 rfl (Nat.le_of_ble_eq_true rfl) dL_areCells_60 ⟨Nat.le_of_ble_eq_true rfl, Nat.le_of_ble_eq_true rfl⟩ 63 rfl ?_
            refine z_top (b := .int (iI (watZ v k))) (congrArg (fun z => Value.int (iI z)) (cel_2 (v := v) (c := k) (by omega))) ?_
            have rw60 := wat_is v k
            have rh60 := w0.h k (by omega)
            have rt60 := tide_lim w0 (v 126)
            refine z_il C hl dL_areCells_63 1 rfl 65 rfl ?_
            refine z_if_ge C dL_areCells_65 72 68 (by decide) rfl (by omega) (fun c65 => ?_) (fun c65 => ?_)
            · skip
              refine z_il C hl dL_areCells_72 1 rfl 74 rfl ?_
              refine z_icmp_ne C dL_areCells_74 107 77 (by decide) rfl (by omega) (fun c74 => ?_) (fun c74 => ?_)
              · exfalso; omega
              · skip
                have J103 : ∀ (ls : Array Slot) (hl : lv_has ls 10 [(5, .int (iI (batZ v k))), (4, .int (iI (tideZ v (v 126) - v k))), (3, .int (iI (v k))), (2, .int (iI (k))), (1, .int (iI (perZ v))), (0, .ref (tb))]), W p l e (rmN 7) s m [.ref (tb)].toArray below meth c s.heap [] 0 0 (MQ below (QR (.int (iI (bZ (true))))) [.ref (tb)].toArray s 0 0 (fun _ => False)) (F0 m 103 ls []) := by
                  intro ls hl
                  refine z_iconst C dL_areCells_103 104 rfl ?_
                  refine z_goto C dL_areCells_104 108 (by decide) ?_
                  refine z_is C hl dL_areCells_108 110 rfl (by decide) (lv' := [(6, .int (iI (1))), (5, .int (iI (batZ v k))), (4, .int (iI (tideZ v (v 126) - v k))), (3, .int (iI (v k))), (2, .int (iI (k))), (1, .int (iI (perZ v))), (0, .ref (tb))]) rfl (fun ls hl => ?_)
                  refine z_iconst C dL_areCells_110 111 rfl ?_
                  refine z_top (b := .int (iI (afnK v k (1 + k % 3) 0))) rfl ?_
                  refine z_is C hl dL_areCells_111 113 rfl (by decide) (lv' := [(7, .int (iI (afnK v k (1 + k % 3) 0))), (6, .int (iI (1))), (5, .int (iI (batZ v k))), (4, .int (iI (tideZ v (v 126) - v k))), (3, .int (iI (v k))), (2, .int (iI (k))), (1, .int (iI (perZ v))), (0, .ref (tb))]) rfl (fun ls hl => ?_)
                  refine z_iconst C dL_areCells_113 114 rfl ?_
                  refine z_il_n C hl dL_areCells_114 5 rfl 115 rfl ?_
                  refine z_iconst C dL_areCells_115 116 rfl ?_
                  refine z_irem C dL_areCells_116 117 rfl (by omega) ((k % 3)) (rfl) ?_
                  refine z_iadd C dL_areCells_117 118 rfl (1 + (k % 3)) (rfl) ?_
                  refine z_top (b := .int (iI ((1 + k % 3)))) (congrArg (fun z => Value.int (iI z)) (by omega)) ?_
                  refine z_is C hl dL_areCells_118 120 rfl (by decide) (lv' := [(8, .int (iI ((1 + k % 3)))), (7, .int (iI (afnK v k (1 + k % 3) 0))), (6, .int (iI (1))), (5, .int (iI (batZ v k))), (4, .int (iI (tideZ v (v 126) - v k))), (3, .int (iI (v k))), (2, .int (iI (k))), (1, .int (iI (perZ v))), (0, .ref (tb))]) rfl (fun ls hl => ?_)
                  refine z_iconst C dL_areCells_120 121 rfl ?_
                  refine z_is C hl dL_areCells_121 123 rfl (by decide) (lv' := [(9, .int (iI (0))), (8, .int (iI ((1 + k % 3)))), (7, .int (iI (afnK v k (1 + k % 3) 0))), (6, .int (iI (1))), (5, .int (iI (batZ v k))), (4, .int (iI (tideZ v (v 126) - v k))), (3, .int (iI (v k))), (2, .int (iI (k))), (1, .int (iI (perZ v))), (0, .ref (tb))]) rfl (fun ls hl => ?_)
                  have L123 : ∀ (fu : Nat) (t : Int) (g1 : 0 ≤ t ∧ t ≤ perZ v) (hm : perZ v - t < (fu : Int)) (ls : Array Slot) (hl : lv_has ls 10 [(9, .int (iI (t))), (8, .int (iI ((1 + k % 3)))), (7, .int (iI (afnK v k (1 + k % 3) t))), (6, .int (iI (1))), (5, .int (iI (batZ v k))), (4, .int (iI (tideZ v (v 126) - v k))), (3, .int (iI (v k))), (2, .int (iI (k))), (1, .int (iI (perZ v))), (0, .ref (tb))]), W p l e (rmN 7) s m [.ref (tb)].toArray below meth c s.heap [] 0 0 (MQ below (QR (.int (iI (bZ (true))))) [.ref (tb)].toArray s 0 0 (fun _ => False)) (F0 m 123 ls []) := by
                    intro fu
                    induction fu with
                    | zero => intro t g1 hm ls hl; exfalso; omega
                    | succ fu ih =>
                      intro t g1 hm ls hl
                      have r7 := afnK_rng v k (1 + k % 3) (t := t) (by omega)
                      have ih123 := ih
                      refine z_il C hl dL_areCells_123 0 rfl 125 rfl ?_
                      refine z_il_n C hl dL_areCells_125 8 rfl 126 rfl ?_
                      refine z_icmp_ge C dL_areCells_126 158 129 (by decide) rfl (by omega) (fun c126 => ?_) (fun c126 => ?_)
                      · skip
                        refine z_il C hl dL_areCells_158 3 rfl 160 rfl ?_
                        refine z_if_eq C dL_areCells_160 204 163 (by decide) rfl (by omega) (fun c160 => ?_) (fun c160 => ?_)
                        · exfalso; omega
                        · skip
                          refine z_al_n C hl dL_areCells_163 9 rfl 164 rfl ?_
                          refine z_il_n C hl dL_areCells_164 7 rfl 165 rfl ?_
                          refine z_il C hl dL_areCells_165 1 rfl 167 rfl ?_
                          refine z_VR (r := .float (aflF v k (1 + k % 3))) (rest := []) C (m_afloat l G tb r x cu h pa o sg qn qb sn v k (1 + k % 3) w0 (by omega) (by omega)) kV_L_28 ⟨Nat.le_of_ble_eq_true rfl, Nat.le_of_ble_eq_true rfl⟩ (gP_rg hP [0, 2] rfl) hK 0 rfl rfl rfl hl.1 rfl (Nat.le_of_ble_eq_true rfl) dL_areCells_167 ⟨Nat.le_of_ble_eq_true rfl, Nat.le_of_ble_eq_true rfl⟩ 170 rfl ?_
                          refine z_top (b := .float (FP.fdiv (FP.i2f (iI (afnZ v k (1 + k % 3)))) (FP.i2f (iI (perZ v))))) (congrArg Value.float (afl_is (v := v) (c := k) (d := (1 + k % 3)) (by omega) (by omega))) ?_
                          refine z_il C hl dL_areCells_170 2 rfl 172 rfl ?_
                          refine z_top (b := .int (iI (afnZ v k (1 + k % 3)))) (congrArg (fun z => Value.int (iI z)) (by rw [show t = perZ v by omega]; rfl)) ?_
                          have ra := afn_rng w0 k (1 + k % 3)
                          refine z_i2f C dL_areCells_172 173 rfl ?_
                          refine z_il_n C hl dL_areCells_173 8 rfl 174 rfl ?_
                          refine z_i2f C dL_areCells_174 175 rfl ?_
                          refine z_fdiv C dL_areCells_175 (fdZ (afn_rng w0 _ _) (by omega)) 176 rfl ?_
                          refine z_fcm C dL_areCells_176 177 rfl ?_
                          refine z_top (b := .int (iI (0))) (congrArg Value.int (fqZ (afn_rng w0 _ _) (by omega))) ?_
                          refine z_if_ne C dL_areCells_177 204 180 (by decide) rfl (by omega) (fun c177 => ?_) (fun c177 => ?_)
                          · exfalso; omega
                          · skip
                            have J206 : ∀ (ls : Array Slot) (hl : lv_has ls 10 [(2, .int (iI (k))), (1, .int (iI (perZ v))), (0, .ref (tb))]), W p l e (rmN 7) s m [.ref (tb)].toArray below meth c s.heap [] 0 0 (MQ below (QR (.int (iI (bZ (true))))) [.ref (tb)].toArray s 0 0 (fun _ => False)) (F0 m 206 ls []) := by
                              intro ls hl
                              refine z_iinc C hl dL_areCells_206 209 rfl 0 rfl (z := 1 + k) (by omega) (by decide) (lv' := [(2, .int (iI (1 + k))), (1, .int (iI (perZ v))), (0, .ref (tb))]) rfl (fun ls hl => ?_)
                              refine z_goto C dL_areCells_209 18 (by decide) ?_
                              exact ih18 (1 + k) (by omega) (by omega) ls (lv_sub hl [0, 1, 2] rfl)
                            refine z_il_n C hl dL_areCells_180 7 rfl 181 rfl ?_
                            refine z_if_eq C dL_areCells_181 190 184 (by decide) rfl (by omega) (fun c181 => ?_) (fun c181 => ?_)
                            · skip
                              refine z_il_n C hl dL_areCells_190 6 rfl 191 rfl ?_
                              refine z_if_gt C dL_areCells_191 204 194 (by decide) rfl (by omega) (fun c191 => ?_) (fun c191 => ?_)
                              · exfalso; have hx := hh (by omega); omega
                              · skip
                                refine z_al_n C hl dL_areCells_194 9 rfl 195 rfl ?_
                                refine z_il_n C hl dL_areCells_195 7 rfl 196 rfl ?_
                                refine z_iconst C dL_areCells_196 197 rfl ?_
                                refine z_VR (r := .int (iI (celR v k 1))) (rest := []) C (m_cellOf l G tb r x cu h pa o sg qn qb sn v k 1 w0 (by omega) (by omega)) kV_L_18 ⟨Nat.le_of_ble_eq_true rfl, Nat.le_of_ble_eq_true rfl⟩ (gP_rg hP [0, 2] rfl) hK 0 rfl rfl rfl hl.1 rfl (Nat.le_of_ble_eq_true rfl) dL_areCells_197 ⟨Nat.le_of_ble_eq_true rfl, Nat.le_of_ble_eq_true rfl⟩ 200 rfl ?_
                                refine z_top (b := .int (iI (v (36 + k)))) (congrArg (fun z => Value.int (iI z)) (cel_1 (v := v) (c := k) (by omega))) ?_
                                have rr197 := w0.r k (by omega)
                                refine z_iconst C dL_areCells_200 201 rfl ?_
                                refine z_icmp_ne C dL_areCells_201 206 204 (by decide) rfl (by omega) (fun c201 => ?_) (fun c201 => ?_)
                                · skip
                                  exact J206 ls (lv_sub hl [7, 8, 9] rfl)
                                · exfalso; have hx := hh (by omega); omega
                            · skip
                              refine z_il_n C hl dL_areCells_184 7 rfl 185 rfl ?_
                              refine z_bipush C dL_areCells_185 (by decide) 187 rfl ?_
                              refine z_icmp_ne C dL_areCells_187 206 190 (by decide) rfl (by omega) (fun c187 => ?_) (fun c187 => ?_)
                              · skip
                                exact J206 ls (lv_sub hl [7, 8, 9] rfl)
                              · skip
                                refine z_il_n C hl dL_areCells_190 6 rfl 191 rfl ?_
                                refine z_if_gt C dL_areCells_191 204 194 (by decide) rfl (by omega) (fun c191 => ?_) (fun c191 => ?_)
                                · exfalso; have hx := hh (by omega); omega
                                · skip
                                  refine z_al_n C hl dL_areCells_194 9 rfl 195 rfl ?_
                                  refine z_il_n C hl dL_areCells_195 7 rfl 196 rfl ?_
                                  refine z_iconst C dL_areCells_196 197 rfl ?_
                                  refine z_VR (r := .int (iI (celR v k 1))) (rest := []) C (m_cellOf l G tb r x cu h pa o sg qn qb sn v k 1 w0 (by omega) (by omega)) kV_L_18 ⟨Nat.le_of_ble_eq_true rfl, Nat.le_of_ble_eq_true rfl⟩ (gP_rg hP [0, 2] rfl) hK 0 rfl rfl rfl hl.1 rfl (Nat.le_of_ble_eq_true rfl) dL_areCells_197 ⟨Nat.le_of_ble_eq_true rfl, Nat.le_of_ble_eq_true rfl⟩ 200 rfl ?_
                                  refine z_top (b := .int (iI (v (36 + k)))) (congrArg (fun z => Value.int (iI z)) (cel_1 (v := v) (c := k) (by omega))) ?_
                                  have rr197 := w0.r k (by omega)
                                  refine z_iconst C dL_areCells_200 201 rfl ?_
                                  refine z_icmp_ne C dL_areCells_201 206 204 (by decide) rfl (by omega) (fun c201 => ?_) (fun c201 => ?_)
                                  · skip
                                    exact J206 ls (lv_sub hl [7, 8, 9] rfl)
                                  · exfalso; have hx := hh (by omega); omega
                      · skip
                        refine z_il C hl dL_areCells_129 2 rfl 131 rfl ?_
                        refine z_al_n C hl dL_areCells_131 9 rfl 132 rfl ?_
                        refine z_il C hl dL_areCells_132 0 rfl 134 rfl ?_
                        refine z_VR (r := .int (iI (tidR v t))) (rest := [.int (iI (afnK v k (1 + k % 3) t))]) C (m_tide l G tb r x cu h pa o sg qn qb sn v t w0 (by omega)) kV_L_25 ⟨Nat.le_of_ble_eq_true rfl, Nat.le_of_ble_eq_true rfl⟩ (gP_rg hP [0, 2] rfl) hK 0 rfl rfl rfl hl.1 rfl (Nat.le_of_ble_eq_true rfl) dL_areCells_134 ⟨Nat.le_of_ble_eq_true rfl, Nat.le_of_ble_eq_true rfl⟩ 137 rfl ?_
                        refine z_top (b := .int (iI (tideZ v t))) (congrArg (fun z => Value.int (iI z)) (tid_is (v := v) (t := t) (by omega))) ?_
                        have rt134 := tide_lim w0 t
                        refine z_il_n C hl dL_areCells_137 6 rfl 138 rfl ?_
                        refine z_isub C dL_areCells_138 139 rfl (tideZ v t - v k) (by omega) ?_
                        refine z_il C hl dL_areCells_139 1 rfl 141 rfl ?_
                        refine z_micmp_lt C dL_areCells_141 dL_areCells_144 dL_areCells_145 dL_areCells_148 (by omega) rfl rfl rfl 149 rfl ?_
                        refine z_iadd C dL_areCells_149 150 rfl (afnK v k (1 + k % 3) t + bZ (decide ((1 + k % 3) ≤ tideZ v t - v k))) (by omega) ?_
                        refine z_top (b := .int (iI (afnK v k (1 + k % 3) (1 + t)))) (congrArg (fun z => Value.int (iI z)) (by have hq := afnK_s (v := v) (c := k) (d := 1 + k % 3) (t := t) (by omega); omega)) ?_
                        refine z_is C hl dL_areCells_150 152 rfl (by decide) (lv' := [(7, .int (iI (afnK v k (1 + k % 3) (1 + t)))), (9, .int (iI (t))), (8, .int (iI ((1 + k % 3)))), (6, .int (iI (1))), (5, .int (iI (batZ v k))), (4, .int (iI (tideZ v (v 126) - v k))), (3, .int (iI (v k))), (2, .int (iI (k))), (1, .int (iI (perZ v))), (0, .ref (tb))]) rfl (fun ls hl => ?_)
                        refine z_iinc C hl dL_areCells_152 155 rfl 1 rfl (z := 1 + t) (by omega) (by decide) (lv' := [(9, .int (iI (1 + t))), (7, .int (iI (afnK v k (1 + k % 3) (1 + t)))), (8, .int (iI ((1 + k % 3)))), (6, .int (iI (1))), (5, .int (iI (batZ v k))), (4, .int (iI (tideZ v (v 126) - v k))), (3, .int (iI (v k))), (2, .int (iI (k))), (1, .int (iI (perZ v))), (0, .ref (tb))]) rfl (fun ls hl => ?_)
                        refine z_goto C dL_areCells_155 123 (by decide) ?_
                        exact ih123 (1 + t) (by omega) (by omega) ls (lv_sub hl [0, 2, 1, 3, 4, 5, 6, 7, 8, 9] rfl)
                  exact L123 (Int.toNat (perZ v - 0) + 1) 0 (by omega) (by omega) ls (lv_sub hl [0, 1, 2, 3, 4, 5, 6, 7, 8, 9] rfl)
                exact J77 ls (lv_sub hl [0, 1, 2, 3, 4, 5] rfl)
            · skip
              refine z_iconst C dL_areCells_68 69 rfl ?_
              refine z_goto C dL_areCells_69 74 (by decide) ?_
              refine z_icmp_ne C dL_areCells_74 107 77 (by decide) rfl (by omega) (fun c74 => ?_) (fun c74 => ?_)
              · exfalso; omega
              · skip
                have J103 : ∀ (ls : Array Slot) (hl : lv_has ls 10 [(5, .int (iI (batZ v k))), (4, .int (iI (tideZ v (v 126) - v k))), (3, .int (iI (v k))), (2, .int (iI (k))), (1, .int (iI (perZ v))), (0, .ref (tb))]), W p l e (rmN 7) s m [.ref (tb)].toArray below meth c s.heap [] 0 0 (MQ below (QR (.int (iI (bZ (true))))) [.ref (tb)].toArray s 0 0 (fun _ => False)) (F0 m 103 ls []) := by
                  intro ls hl
                  refine z_iconst C dL_areCells_103 104 rfl ?_
                  refine z_goto C dL_areCells_104 108 (by decide) ?_
                  refine z_is C hl dL_areCells_108 110 rfl (by decide) (lv' := [(6, .int (iI (1))), (5, .int (iI (batZ v k))), (4, .int (iI (tideZ v (v 126) - v k))), (3, .int (iI (v k))), (2, .int (iI (k))), (1, .int (iI (perZ v))), (0, .ref (tb))]) rfl (fun ls hl => ?_)
                  refine z_iconst C dL_areCells_110 111 rfl ?_
                  refine z_top (b := .int (iI (afnK v k (1 + k % 3) 0))) rfl ?_
                  refine z_is C hl dL_areCells_111 113 rfl (by decide) (lv' := [(7, .int (iI (afnK v k (1 + k % 3) 0))), (6, .int (iI (1))), (5, .int (iI (batZ v k))), (4, .int (iI (tideZ v (v 126) - v k))), (3, .int (iI (v k))), (2, .int (iI (k))), (1, .int (iI (perZ v))), (0, .ref (tb))]) rfl (fun ls hl => ?_)
                  refine z_iconst C dL_areCells_113 114 rfl ?_
                  refine z_il_n C hl dL_areCells_114 5 rfl 115 rfl ?_
                  refine z_iconst C dL_areCells_115 116 rfl ?_
                  refine z_irem C dL_areCells_116 117 rfl (by omega) ((k % 3)) (rfl) ?_
                  refine z_iadd C dL_areCells_117 118 rfl (1 + (k % 3)) (rfl) ?_
                  refine z_top (b := .int (iI ((1 + k % 3)))) (congrArg (fun z => Value.int (iI z)) (by omega)) ?_
                  refine z_is C hl dL_areCells_118 120 rfl (by decide) (lv' := [(8, .int (iI ((1 + k % 3)))), (7, .int (iI (afnK v k (1 + k % 3) 0))), (6, .int (iI (1))), (5, .int (iI (batZ v k))), (4, .int (iI (tideZ v (v 126) - v k))), (3, .int (iI (v k))), (2, .int (iI (k))), (1, .int (iI (perZ v))), (0, .ref (tb))]) rfl (fun ls hl => ?_)
                  refine z_iconst C dL_areCells_120 121 rfl ?_
                  refine z_is C hl dL_areCells_121 123 rfl (by decide) (lv' := [(9, .int (iI (0))), (8, .int (iI ((1 + k % 3)))), (7, .int (iI (afnK v k (1 + k % 3) 0))), (6, .int (iI (1))), (5, .int (iI (batZ v k))), (4, .int (iI (tideZ v (v 126) - v k))), (3, .int (iI (v k))), (2, .int (iI (k))), (1, .int (iI (perZ v))), (0, .ref (tb))]) rfl (fun ls hl => ?_)
                  have L123 : ∀ (fu : Nat) (t : Int) (g1 : 0 ≤ t ∧ t ≤ perZ v) (hm : perZ v - t < (fu : Int)) (ls : Array Slot) (hl : lv_has ls 10 [(9, .int (iI (t))), (8, .int (iI ((1 + k % 3)))), (7, .int (iI (afnK v k (1 + k % 3) t))), (6, .int (iI (1))), (5, .int (iI (batZ v k))), (4, .int (iI (tideZ v (v 126) - v k))), (3, .int (iI (v k))), (2, .int (iI (k))), (1, .int (iI (perZ v))), (0, .ref (tb))]), W p l e (rmN 7) s m [.ref (tb)].toArray below meth c s.heap [] 0 0 (MQ below (QR (.int (iI (bZ (true))))) [.ref (tb)].toArray s 0 0 (fun _ => False)) (F0 m 123 ls []) := by
                    intro fu
                    induction fu with
                    | zero => intro t g1 hm ls hl; exfalso; omega
                    | succ fu ih =>
                      intro t g1 hm ls hl
                      have r7 := afnK_rng v k (1 + k % 3) (t := t) (by omega)
                      have ih123 := ih
                      refine z_il C hl dL_areCells_123 0 rfl 125 rfl ?_
                      refine z_il_n C hl dL_areCells_125 8 rfl 126 rfl ?_
                      refine z_icmp_ge C dL_areCells_126 158 129 (by decide) rfl (by omega) (fun c126 => ?_) (fun c126 => ?_)
                      · skip
                        refine z_il C hl dL_areCells_158 3 rfl 160 rfl ?_
                        refine z_if_eq C dL_areCells_160 204 163 (by decide) rfl (by omega) (fun c160 => ?_) (fun c160 => ?_)
                        · exfalso; omega
                        · skip
                          refine z_al_n C hl dL_areCells_163 9 rfl 164 rfl ?_
                          refine z_il_n C hl dL_areCells_164 7 rfl 165 rfl ?_
                          refine z_il C hl dL_areCells_165 1 rfl 167 rfl ?_
                          refine z_VR (r := .float (aflF v k (1 + k % 3))) (rest := []) C (m_afloat l G tb r x cu h pa o sg qn qb sn v k (1 + k % 3) w0 (by omega) (by omega)) kV_L_28 ⟨Nat.le_of_ble_eq_true rfl, Nat.le_of_ble_eq_true rfl⟩ (gP_rg hP [0, 2] rfl) hK 0 rfl rfl rfl hl.1 rfl (Nat.le_of_ble_eq_true rfl) dL_areCells_167 ⟨Nat.le_of_ble_eq_true rfl, Nat.le_of_ble_eq_true rfl⟩ 170 rfl ?_
                          refine z_top (b := .float (FP.fdiv (FP.i2f (iI (afnZ v k (1 + k % 3)))) (FP.i2f (iI (perZ v))))) (congrArg Value.float (afl_is (v := v) (c := k) (d := (1 + k % 3)) (by omega) (by omega))) ?_
                          refine z_il C hl dL_areCells_170 2 rfl 172 rfl ?_
                          refine z_top (b := .int (iI (afnZ v k (1 + k % 3)))) (congrArg (fun z => Value.int (iI z)) (by rw [show t = perZ v by omega]; rfl)) ?_
                          have ra := afn_rng w0 k (1 + k % 3)
                          refine z_i2f C dL_areCells_172 173 rfl ?_
                          refine z_il_n C hl dL_areCells_173 8 rfl 174 rfl ?_
                          refine z_i2f C dL_areCells_174 175 rfl ?_
                          refine z_fdiv C dL_areCells_175 (fdZ (afn_rng w0 _ _) (by omega)) 176 rfl ?_
                          refine z_fcm C dL_areCells_176 177 rfl ?_
                          refine z_top (b := .int (iI (0))) (congrArg Value.int (fqZ (afn_rng w0 _ _) (by omega))) ?_
                          refine z_if_ne C dL_areCells_177 204 180 (by decide) rfl (by omega) (fun c177 => ?_) (fun c177 => ?_)
                          · exfalso; omega
                          · skip
                            have J206 : ∀ (ls : Array Slot) (hl : lv_has ls 10 [(2, .int (iI (k))), (1, .int (iI (perZ v))), (0, .ref (tb))]), W p l e (rmN 7) s m [.ref (tb)].toArray below meth c s.heap [] 0 0 (MQ below (QR (.int (iI (bZ (true))))) [.ref (tb)].toArray s 0 0 (fun _ => False)) (F0 m 206 ls []) := by
                              intro ls hl
                              refine z_iinc C hl dL_areCells_206 209 rfl 0 rfl (z := 1 + k) (by omega) (by decide) (lv' := [(2, .int (iI (1 + k))), (1, .int (iI (perZ v))), (0, .ref (tb))]) rfl (fun ls hl => ?_)
                              refine z_goto C dL_areCells_209 18 (by decide) ?_
                              exact ih18 (1 + k) (by omega) (by omega) ls (lv_sub hl [0, 1, 2] rfl)
                            refine z_il_n C hl dL_areCells_180 7 rfl 181 rfl ?_
                            refine z_if_eq C dL_areCells_181 190 184 (by decide) rfl (by omega) (fun c181 => ?_) (fun c181 => ?_)
                            · skip
                              refine z_il_n C hl dL_areCells_190 6 rfl 191 rfl ?_
                              refine z_if_gt C dL_areCells_191 204 194 (by decide) rfl (by omega) (fun c191 => ?_) (fun c191 => ?_)
                              · exfalso; have hx := hh (by omega); omega
                              · skip
                                refine z_al_n C hl dL_areCells_194 9 rfl 195 rfl ?_
                                refine z_il_n C hl dL_areCells_195 7 rfl 196 rfl ?_
                                refine z_iconst C dL_areCells_196 197 rfl ?_
                                refine z_VR (r := .int (iI (celR v k 1))) (rest := []) C (m_cellOf l G tb r x cu h pa o sg qn qb sn v k 1 w0 (by omega) (by omega)) kV_L_18 ⟨Nat.le_of_ble_eq_true rfl, Nat.le_of_ble_eq_true rfl⟩ (gP_rg hP [0, 2] rfl) hK 0 rfl rfl rfl hl.1 rfl (Nat.le_of_ble_eq_true rfl) dL_areCells_197 ⟨Nat.le_of_ble_eq_true rfl, Nat.le_of_ble_eq_true rfl⟩ 200 rfl ?_
                                refine z_top (b := .int (iI (v (36 + k)))) (congrArg (fun z => Value.int (iI z)) (cel_1 (v := v) (c := k) (by omega))) ?_
                                have rr197 := w0.r k (by omega)
                                refine z_iconst C dL_areCells_200 201 rfl ?_
                                refine z_icmp_ne C dL_areCells_201 206 204 (by decide) rfl (by omega) (fun c201 => ?_) (fun c201 => ?_)
                                · skip
                                  exact J206 ls (lv_sub hl [7, 8, 9] rfl)
                                · exfalso; have hx := hh (by omega); omega
                            · skip
                              refine z_il_n C hl dL_areCells_184 7 rfl 185 rfl ?_
                              refine z_bipush C dL_areCells_185 (by decide) 187 rfl ?_
                              refine z_icmp_ne C dL_areCells_187 206 190 (by decide) rfl (by omega) (fun c187 => ?_) (fun c187 => ?_)
                              · skip
                                exact J206 ls (lv_sub hl [7, 8, 9] rfl)
                              · skip
                                refine z_il_n C hl dL_areCells_190 6 rfl 191 rfl ?_
                                refine z_if_gt C dL_areCells_191 204 194 (by decide) rfl (by omega) (fun c191 => ?_) (fun c191 => ?_)
                                · exfalso; have hx := hh (by omega); omega
                                · skip
                                  refine z_al_n C hl dL_areCells_194 9 rfl 195 rfl ?_
                                  refine z_il_n C hl dL_areCells_195 7 rfl 196 rfl ?_
                                  refine z_iconst C dL_areCells_196 197 rfl ?_
                                  refine z_VR (r := .int (iI (celR v k 1))) (rest := []) C (m_cellOf l G tb r x cu h pa o sg qn qb sn v k 1 w0 (by omega) (by omega)) kV_L_18 ⟨Nat.le_of_ble_eq_true rfl, Nat.le_of_ble_eq_true rfl⟩ (gP_rg hP [0, 2] rfl) hK 0 rfl rfl rfl hl.1 rfl (Nat.le_of_ble_eq_true rfl) dL_areCells_197 ⟨Nat.le_of_ble_eq_true rfl, Nat.le_of_ble_eq_true rfl⟩ 200 rfl ?_
                                  refine z_top (b := .int (iI (v (36 + k)))) (congrArg (fun z => Value.int (iI z)) (cel_1 (v := v) (c := k) (by omega))) ?_
                                  have rr197 := w0.r k (by omega)
                                  refine z_iconst C dL_areCells_200 201 rfl ?_
                                  refine z_icmp_ne C dL_areCells_201 206 204 (by decide) rfl (by omega) (fun c201 => ?_) (fun c201 => ?_)
                                  · skip
                                    exact J206 ls (lv_sub hl [7, 8, 9] rfl)
                                  · exfalso; have hx := hh (by omega); omega
                      · skip
                        refine z_il C hl dL_areCells_129 2 rfl 131 rfl ?_
                        refine z_al_n C hl dL_areCells_131 9 rfl 132 rfl ?_
                        refine z_il C hl dL_areCells_132 0 rfl 134 rfl ?_
                        refine z_VR (r := .int (iI (tidR v t))) (rest := [.int (iI (afnK v k (1 + k % 3) t))]) C (m_tide l G tb r x cu h pa o sg qn qb sn v t w0 (by omega)) kV_L_25 ⟨Nat.le_of_ble_eq_true rfl, Nat.le_of_ble_eq_true rfl⟩ (gP_rg hP [0, 2] rfl) hK 0 rfl rfl rfl hl.1 rfl (Nat.le_of_ble_eq_true rfl) dL_areCells_134 ⟨Nat.le_of_ble_eq_true rfl, Nat.le_of_ble_eq_true rfl⟩ 137 rfl ?_
                        refine z_top (b := .int (iI (tideZ v t))) (congrArg (fun z => Value.int (iI z)) (tid_is (v := v) (t := t) (by omega))) ?_
                        have rt134 := tide_lim w0 t
                        refine z_il_n C hl dL_areCells_137 6 rfl 138 rfl ?_
                        refine z_isub C dL_areCells_138 139 rfl (tideZ v t - v k) (by omega) ?_
                        refine z_il C hl dL_areCells_139 1 rfl 141 rfl ?_
                        refine z_micmp_lt C dL_areCells_141 dL_areCells_144 dL_areCells_145 dL_areCells_148 (by omega) rfl rfl rfl 149 rfl ?_
                        refine z_iadd C dL_areCells_149 150 rfl (afnK v k (1 + k % 3) t + bZ (decide ((1 + k % 3) ≤ tideZ v t - v k))) (by omega) ?_
                        refine z_top (b := .int (iI (afnK v k (1 + k % 3) (1 + t)))) (congrArg (fun z => Value.int (iI z)) (by have hq := afnK_s (v := v) (c := k) (d := 1 + k % 3) (t := t) (by omega); omega)) ?_
                        refine z_is C hl dL_areCells_150 152 rfl (by decide) (lv' := [(7, .int (iI (afnK v k (1 + k % 3) (1 + t)))), (9, .int (iI (t))), (8, .int (iI ((1 + k % 3)))), (6, .int (iI (1))), (5, .int (iI (batZ v k))), (4, .int (iI (tideZ v (v 126) - v k))), (3, .int (iI (v k))), (2, .int (iI (k))), (1, .int (iI (perZ v))), (0, .ref (tb))]) rfl (fun ls hl => ?_)
                        refine z_iinc C hl dL_areCells_152 155 rfl 1 rfl (z := 1 + t) (by omega) (by decide) (lv' := [(9, .int (iI (1 + t))), (7, .int (iI (afnK v k (1 + k % 3) (1 + t)))), (8, .int (iI ((1 + k % 3)))), (6, .int (iI (1))), (5, .int (iI (batZ v k))), (4, .int (iI (tideZ v (v 126) - v k))), (3, .int (iI (v k))), (2, .int (iI (k))), (1, .int (iI (perZ v))), (0, .ref (tb))]) rfl (fun ls hl => ?_)
                        refine z_goto C dL_areCells_155 123 (by decide) ?_
                        exact ih123 (1 + t) (by omega) (by omega) ls (lv_sub hl [0, 2, 1, 3, 4, 5, 6, 7, 8, 9] rfl)
                  exact L123 (Int.toNat (perZ v - 0) + 1) 0 (by omega) (by omega) ls (lv_sub hl [0, 1, 2, 3, 4, 5, 6, 7, 8, 9] rfl)
                exact J77 ls (lv_sub hl [0, 1, 2, 3, 4, 5] rfl)
  exact L18 (Int.toNat (36 - 0) + 1) 0 (by omega) (by omega) ls (lv_sub hl [0, 1, 2] rfl)

set_option maxHeartbeats 16000000 in
set_option maxRecDepth 100000 in
theorem m_lwBoat (l : Launch) (G : gT) (tb r x cu h pa o sg : Nat) (qn qb sn : Nat → Nat) (S : Nat → Nat → Nat) (v : Int → Int) (g : Nat → Int → Int) (n : Int) (k : sK) (b : Int) (i : Ia v) (hb : 0 ≤ b ∧ b < v 127) (hD : gD ([[tbO tb qn qb r x h o], [(r, .inr (3, [.ref (qn 0)]))], [sxA x cu qn k.1], [arL G cu 5 k.2], stW G qn v, hiW G h pa sn n S g false, [orO G o sg 0]] : List va_W).flatten) : MW l G yL_isBoat cL_isBoat 7 (some .boolean) 7 [.ref (tb), .int (iI (b))] [[tbO tb qn qb r x h o], [(r, .inr (3, [.ref (qn 0)]))], [sxA x cu qn k.1], [arL G cu 5 k.2], stW G qn v, hiW G h pa sn n S g false, [orO G o sg 0]] [[tbO tb qn qb r x h o], [(r, .inr (3, [.ref (qn 0)]))], [sxA x cu qn (homK v b 1 (homK v b 0 k)).1], [arL G cu 5 (homK v b 1 (homK v b 0 k)).2], stW G qn v, hiW G h pa sn n S g false, [orO G o sg 0]] ZT (some (.int (iI (bZ (true))))) := by
  refine enterW (own := RL) (by decide +kernel) rfl (Nat.le_of_ble_eq_true rfl) hD ?_
  intro p e s m below meth c C hW hK hZ ls hl
  have hl : lv_has ls 7 [(0, .ref (tb)), (1, .int (iI (b)))] := hl
  have w0 := i.w
  have hn := w0.n
  have ht := w0.t
  have hs := w0.s
  have hp := perZ_rng w0
  have hz := i.h
  have hw := w0.b b (by omega)
  have hbb := w0.bb b hb
  refine z_al_n C hl dL_isBoat_0 0 rfl 1 rfl ?_
  refine z_il_n C hl dL_isBoat_1 1 rfl 2 rfl ?_
  refine z_iconst C dL_isBoat_2 3 rfl ?_
  refine z_VWi (r := .int (iI (homR v b 0))) (rest := []) C (m_homeIn l G tb r x cu h pa o sg qn qb sn v k b 0 w0 (by omega) (by omega) (gD_rg hW.2.1 [0, 2, 3, 4] (by decide) rfl)) kV_L_32 ⟨Nat.le_of_ble_eq_true rfl, Nat.le_of_ble_eq_true rfl⟩ hW hK [0, 2, 3, 4] rfl (sameA_of rfl) 0 rfl rfl rfl hl.1 rfl (Nat.le_of_ble_eq_true rfl) dL_isBoat_3 ⟨Nat.le_of_ble_eq_true rfl, Nat.le_of_ble_eq_true rfl⟩ 6 rfl (rs' := [[tbO tb qn qb r x h o], [(r, .inr (3, [.ref (qn 0)]))], [sxA x cu qn (homK v b 0 k).1], [arL G cu 5 (homK v b 0 k).2], stW G qn v, hiW G h pa sn n S g false, [orO G o sg 0]]) rfl (fun H locs hW hkeep => ?_)
  have rh3 := homR_rng w0 b 0
  refine z_is_n C hl dL_isBoat_6 7 rfl (by decide) (lv' := [(2, .int (iI (homR v b 0))), (0, .ref (tb)), (1, .int (iI (b)))]) rfl (fun ls hl => ?_)
  refine z_al_n C hl dL_isBoat_7 1 rfl 8 rfl ?_
  refine z_il_n C hl dL_isBoat_8 2 rfl 9 rfl ?_
  refine z_VR (r := .int (iI (floR v b))) (rest := []) C (m_floatsIn l G tb r x cu h pa o sg qn qb sn v b w0 (by omega)) kV_L_35 ⟨Nat.le_of_ble_eq_true rfl, Nat.le_of_ble_eq_true rfl⟩ (gP_rg hW.1 [0, 4] rfl) hK 0 rfl rfl rfl hl.1 rfl (Nat.le_of_ble_eq_true rfl) dL_isBoat_9 ⟨Nat.le_of_ble_eq_true rfl, Nat.le_of_ble_eq_true rfl⟩ 12 rfl ?_
  have rf9 := floR_rng w0 b
  refine z_is_n C hl dL_isBoat_12 13 rfl (by decide) (lv' := [(3, .int (iI (floR v b))), (2, .int (iI (homR v b 0))), (0, .ref (tb)), (1, .int (iI (b)))]) rfl (fun ls hl => ?_)
  refine z_il_n C hl dL_isBoat_13 1 rfl 14 rfl ?_
  refine z_al_n C hl dL_isBoat_14 2 rfl 15 rfl ?_
  refine z_il_n C hl dL_isBoat_15 3 rfl 16 rfl ?_
  refine z_iconst C dL_isBoat_16 17 rfl ?_
  refine z_VWi (r := .int (iI (homR v b 1))) (rest := [.int (iI (homR v b 0))]) C (m_homeIn l G tb r x cu h pa o sg qn qb sn v (homK v b 0 k) b 1 w0 (by omega) (by omega) (gD_rg hW.2.1 [0, 2, 3, 4] (by decide) rfl)) kV_L_32 ⟨Nat.le_of_ble_eq_true rfl, Nat.le_of_ble_eq_true rfl⟩ hW hK [0, 2, 3, 4] rfl (sameA_of rfl) 0 rfl rfl rfl hl.1 rfl (Nat.le_of_ble_eq_true rfl) dL_isBoat_17 ⟨Nat.le_of_ble_eq_true rfl, Nat.le_of_ble_eq_true rfl⟩ 20 rfl (rs' := [[tbO tb qn qb r x h o], [(r, .inr (3, [.ref (qn 0)]))], [sxA x cu qn (homK v b 1 (homK v b 0 k)).1], [arL G cu 5 (homK v b 1 (homK v b 0 k)).2], stW G qn v, hiW G h pa sn n S g false, [orO G o sg 0]]) rfl (fun H locs hW hkeep => ?_)
  have rh17 := homR_rng w0 b 1
  refine z_icmp_eq C dL_isBoat_20 25 23 (by decide) rfl (by omega) (fun c20 => ?_) (fun c20 => ?_)
  · skip
    refine z_al_n C hl dL_isBoat_25 2 rfl 26 rfl ?_
    refine z_il_n C hl dL_isBoat_26 3 rfl 27 rfl ?_
    refine z_iconst C dL_isBoat_27 28 rfl ?_
    refine z_VR (r := .int (iI (boaR v b 2))) (rest := []) C (m_boatOf l G tb r x cu h pa o sg qn qb sn v b 2 w0 (by omega) (by omega)) kV_L_14 ⟨Nat.le_of_ble_eq_true rfl, Nat.le_of_ble_eq_true rfl⟩ (gP_rg hW.1 [0, 1, 4] rfl) hK 0 rfl rfl rfl hl.1 rfl (Nat.le_of_ble_eq_true rfl) dL_isBoat_28 ⟨Nat.le_of_ble_eq_true rfl, Nat.le_of_ble_eq_true rfl⟩ 31 rfl ?_
    refine z_top (b := .int (iI (v (74 + 5 * b)))) (congrArg (fun z => Value.int (iI z)) (boa_2 (v := v) (b := b) (by omega))) ?_
    refine z_if_eq C dL_isBoat_31 52 34 (by decide) rfl (by omega) (fun c31 => ?_) (fun c31 => ?_)
    · skip
      have hhf := home_flo w0 hb c31
      refine z_al_n C hl dL_isBoat_52 2 rfl 53 rfl ?_
      refine z_al_n C hl dL_isBoat_53 2 rfl 54 rfl ?_
      refine z_il_n C hl dL_isBoat_54 3 rfl 55 rfl ?_
      refine z_iconst C dL_isBoat_55 56 rfl ?_
      refine z_VR (r := .int (iI (boaR v b 3))) (rest := [.ref (tb)]) C (m_boatOf l G tb r x cu h pa o sg qn qb sn v b 3 w0 (by omega) (by omega)) kV_L_14 ⟨Nat.le_of_ble_eq_true rfl, Nat.le_of_ble_eq_true rfl⟩ (gP_rg hW.1 [0, 1, 4] rfl) hK 0 rfl rfl rfl hl.1 rfl (Nat.le_of_ble_eq_true rfl) dL_isBoat_56 ⟨Nat.le_of_ble_eq_true rfl, Nat.le_of_ble_eq_true rfl⟩ 59 rfl ?_
      refine z_top (b := .int (iI (atZ v b))) (congrArg (fun z => Value.int (iI z)) (boa_3 (v := v) (b := b) (by omega))) ?_
      refine z_top (b := .int (iI (v (75 + 5 * b)))) (congrArg (fun z => Value.int (iI z)) (atZ_on c31)) ?_
      refine z_iconst C dL_isBoat_59 60 rfl ?_
      refine z_VR (r := .int (iI (celR v (v (75 + 5 * b)) 0))) (rest := []) C (m_cellOf l G tb r x cu h pa o sg qn qb sn v (v (75 + 5 * b)) 0 w0 (by omega) (by omega)) kV_L_18 ⟨Nat.le_of_ble_eq_true rfl, Nat.le_of_ble_eq_true rfl⟩ (gP_rg hW.1 [0, 4] rfl) hK 0 rfl rfl rfl hl.1 rfl (Nat.le_of_ble_eq_true rfl) dL_isBoat_60 ⟨Nat.le_of_ble_eq_true rfl, Nat.le_of_ble_eq_true rfl⟩ 63 rfl ?_
      refine z_top (b := .int (iI (v (v (75 + 5 * b))))) (congrArg (fun z => Value.int (iI z)) (cel_0 (v := v) (c := (v (75 + 5 * b))) (by omega))) ?_
      have rh60 := w0.h (v (75 + 5 * b)) (by omega)
      refine z_is C hl dL_isBoat_63 65 rfl (by decide) (lv' := [(4, .int (iI (v (v (75 + 5 * b))))), (3, .int (iI (floR v b))), (2, .int (iI (homR v b 0))), (0, .ref (tb)), (1, .int (iI (b)))]) rfl (fun ls hl => ?_)
      refine z_bipush C dL_isBoat_65 (by decide) 67 rfl ?_
      refine z_is C hl dL_isBoat_67 69 rfl (by decide) (lv' := [(5, .int (iI (-5))), (4, .int (iI (v (v (75 + 5 * b))))), (3, .int (iI (floR v b))), (2, .int (iI (homR v b 0))), (0, .ref (tb)), (1, .int (iI (b)))]) rfl (fun ls hl => ?_)
      refine z_iconst C dL_isBoat_69 70 rfl ?_
      refine z_al_n C hl dL_isBoat_70 4 rfl 71 rfl ?_
      refine z_bipush C dL_isBoat_71 (by decide) 73 rfl ?_
      refine z_VR (r := .int (iI (cntR v n 0 16))) (rest := [.int (iI (2))]) C (m_count l G tb r x cu h pa o sg qn qb sn S g n false v 0 16 w0 (by omega)) kV_L_8 ⟨Nat.le_of_ble_eq_true rfl, Nat.le_of_ble_eq_true rfl⟩ (gP_rg hW.1 [0, 1, 4, 5, 6] rfl) hK 0 rfl rfl rfl hl.1 rfl (Nat.le_of_ble_eq_true rfl) dL_isBoat_73 ⟨Nat.le_of_ble_eq_true rfl, Nat.le_of_ble_eq_true rfl⟩ 76 rfl ?_
      refine z_top (b := .int (iI (v 123))) (congrArg (fun z => Value.int (iI z)) (rfl)) ?_
      refine z_imul C dL_isBoat_76 77 rfl (2 * v 123) (by omega) ?_
      refine z_al_n C hl dL_isBoat_77 4 rfl 78 rfl ?_
      refine z_bipush C dL_isBoat_78 (by decide) 80 rfl ?_
      refine z_VR (r := .int (iI (cntR v n 0 17))) (rest := [.int (iI (2 * v 123))]) C (m_count l G tb r x cu h pa o sg qn qb sn S g n false v 0 17 w0 (by omega)) kV_L_8 ⟨Nat.le_of_ble_eq_true rfl, Nat.le_of_ble_eq_true rfl⟩ (gP_rg hW.1 [0, 1, 4, 5, 6] rfl) hK 0 rfl rfl rfl hl.1 rfl (Nat.le_of_ble_eq_true rfl) dL_isBoat_80 ⟨Nat.le_of_ble_eq_true rfl, Nat.le_of_ble_eq_true rfl⟩ 83 rfl ?_
      refine z_top (b := .int (iI (v 124))) (congrArg (fun z => Value.int (iI z)) (rfl)) ?_
      refine z_imul C dL_isBoat_83 84 rfl (((2 * v 123) * (v 124))) (rfl) ?_
      refine z_top (b := .int (iI (perZ v))) (congrArg (fun z => Value.int (iI z)) (rfl)) ?_
      refine z_is C hl dL_isBoat_84 86 rfl (by decide) (lv' := [(6, .int (iI (perZ v))), (5, .int (iI (-5))), (4, .int (iI (v (v (75 + 5 * b))))), (3, .int (iI (floR v b))), (2, .int (iI (homR v b 0))), (0, .ref (tb)), (1, .int (iI (b)))]) rfl (fun ls hl => ?_)
      have L86 : ∀ (fu : Nat) (j : Int) (y : Int) (h1 : -1 ≤ j ∧ j ≤ perZ v) (hy : -5 ≤ y ∧ y ≤ 24) (h2 : y = firN v (v (75 + 5 * b)) (v (73 + 5 * b)) (v 126) (Int.toNat (perZ v - j)) (1 + j)) (H : Heap) (locs : List Loc) (hW : Wd G (adr ([[tbO tb qn qb r x h o], [(r, .inr (3, [.ref (qn 0)]))], [sxA x cu qn k.1], [arL G cu 5 k.2], stW G qn v, hiW G h pa sn n S g false, [orO G o sg 0]] : List va_W).flatten) [[tbO tb qn qb r x h o], [(r, .inr (3, [.ref (qn 0)]))], [sxA x cu qn (homK v b 1 (homK v b 0 k)).1], [arL G cu 5 (homK v b 1 (homK v b 0 k)).2], stW G qn v, hiW G h pa sn n S g false, [orO G o sg 0]] s.heap H locs) (hm : j + 1 < (fu : Int)) (ls : Array Slot) (hl : lv_has ls 7 [(6, .int (iI (j))), (5, .int (iI (y))), (4, .int (iI (v (v (75 + 5 * b))))), (3, .int (iI (floR v b))), (2, .int (iI (homR v b 0))), (1, .int (iI (b))), (0, .ref (tb))]), W p l e (rmN 7) s m [.ref (tb), .int (iI (b))].toArray below meth c H locs 0 0 (MQ below (QW G [[tbO tb qn qb r x h o], [(r, .inr (3, [.ref (qn 0)]))], [sxA x cu qn k.1], [arL G cu 5 k.2], stW G qn v, hiW G h pa sn n S g false, [orO G o sg 0]] [[tbO tb qn qb r x h o], [(r, .inr (3, [.ref (qn 0)]))], [sxA x cu qn (homK v b 1 (homK v b 0 k)).1], [arL G cu 5 (homK v b 1 (homK v b 0 k)).2], stW G qn v, hiW G h pa sn n S g false, [orO G o sg 0]] (some (.int (iI (bZ (true)))))) [.ref (tb), .int (iI (b))].toArray s 0 0 (adr ([[tbO tb qn qb r x h o], [(r, .inr (3, [.ref (qn 0)]))], [sxA x cu qn k.1], [arL G cu 5 k.2], stW G qn v, hiW G h pa sn n S g false, [orO G o sg 0]] : List va_W).flatten)) (F0 m 86 ls []) := by
        intro fu
        induction fu with
        | zero => intro j y h1 hy h2 H locs hW hm ls hl; exfalso; omega
        | succ fu ih =>
          intro j y h1 hy h2 H locs hW hm ls hl
          have ih86 := ih
          refine z_il C hl dL_isBoat_86 0 rfl 88 rfl ?_
          refine z_if_lt C dL_isBoat_88 130 91 (by decide) rfl (by omega) (fun c88 => ?_) (fun c88 => ?_)
          · skip
            have hfr : floR v b = y := by rw [h2, show j = -1 by omega, show perZ v - (-1) = perZ v + 1 by omega, show (1 : Int) + -1 = 0 by omega, fir_more w0]; unfold floR; rw [if_neg (by omega), if_neg (by unfold onB; rw [decide_eq_true c31]; decide)]
            refine z_il_n C hl dL_isBoat_130 3 rfl 131 rfl ?_
            refine z_il C hl dL_isBoat_131 1 rfl 133 rfl ?_
            refine z_icmp_ne C dL_isBoat_133 197 136 (by decide) rfl (by omega) (fun c133 => ?_) (fun c133 => ?_)
            · exfalso; omega
            · skip
              refine z_il_n C hl dL_isBoat_136 4 rfl 137 rfl ?_
              refine z_bipush C dL_isBoat_137 (by decide) 139 rfl ?_
              refine z_icmp_eq C dL_isBoat_139 193 142 (by decide) rfl (by omega) (fun c139 => ?_) (fun c139 => ?_)
              · skip
                refine z_iconst C dL_isBoat_193 194 rfl ?_
                refine z_goto C dL_isBoat_194 198 (by decide) ?_
                exact z_wz C hW dL_isBoat_198 (rfl) rfl
              · skip
                refine z_il_n C hl dL_isBoat_142 4 rfl 143 rfl ?_
                refine z_if_le C dL_isBoat_143 197 146 (by decide) rfl (by omega) (fun c143 => ?_) (fun c143 => ?_)
                · exfalso; omega
                · skip
                  refine z_al_n C hl dL_isBoat_146 6 rfl 147 rfl ?_
                  refine z_iconst C dL_isBoat_147 148 rfl ?_
                  refine z_VR (r := .int (iI (cntR v n 0 0))) (rest := []) C (m_count l G tb r x cu h pa o sg qn qb sn S g n false v 0 0 w0 (by omega)) kV_L_8 ⟨Nat.le_of_ble_eq_true rfl, Nat.le_of_ble_eq_true rfl⟩ (gP_rg hW.1 [0, 1, 4, 5, 6] rfl) hK 0 rfl rfl rfl hl.1 rfl (Nat.le_of_ble_eq_true rfl) dL_isBoat_148 ⟨Nat.le_of_ble_eq_true rfl, Nat.le_of_ble_eq_true rfl⟩ 151 rfl ?_
                  refine z_top (b := .int (iI (v 126))) (congrArg (fun z => Value.int (iI z)) (rfl)) ?_
                  refine z_il_n C hl dL_isBoat_151 4 rfl 152 rfl ?_
                  refine z_iadd C dL_isBoat_152 153 rfl (homR v b 0 + v 126) (by omega) ?_
                  refine z_iconst C dL_isBoat_153 154 rfl ?_
                  refine z_isub C dL_isBoat_154 155 rfl (homR v b 0 + v 126 - 1) (by omega) ?_
                  refine z_al_n C hl dL_isBoat_155 6 rfl 156 rfl ?_
                  refine z_bipush C dL_isBoat_156 (by decide) 158 rfl ?_
                  refine z_VR (r := .int (iI (cntR v n 0 18))) (rest := [.int (iI (homR v b 0 + v 126 - 1))]) C (m_count l G tb r x cu h pa o sg qn qb sn S g n false v 0 18 w0 (by omega)) kV_L_8 ⟨Nat.le_of_ble_eq_true rfl, Nat.le_of_ble_eq_true rfl⟩ (gP_rg hW.1 [0, 1, 4, 5, 6] rfl) hK 0 rfl rfl rfl hl.1 rfl (Nat.le_of_ble_eq_true rfl) dL_isBoat_158 ⟨Nat.le_of_ble_eq_true rfl, Nat.le_of_ble_eq_true rfl⟩ 161 rfl ?_
                  refine z_top (b := .int (iI (v 125))) (congrArg (fun z => Value.int (iI z)) (rfl)) ?_
                  refine z_icmp_gt C dL_isBoat_161 197 164 (by decide) rfl (by omega) (fun c161 => ?_) (fun c161 => ?_)
                  · exfalso; omega
                  · skip
                    refine z_al_n C hl dL_isBoat_164 6 rfl 165 rfl ?_
                    refine z_iconst C dL_isBoat_165 166 rfl ?_
                    refine z_VR (r := .int (iI (cntR v n 0 0))) (rest := []) C (m_count l G tb r x cu h pa o sg qn qb sn S g n false v 0 0 w0 (by omega)) kV_L_8 ⟨Nat.le_of_ble_eq_true rfl, Nat.le_of_ble_eq_true rfl⟩ (gP_rg hW.1 [0, 1, 4, 5, 6] rfl) hK 0 rfl rfl rfl hl.1 rfl (Nat.le_of_ble_eq_true rfl) dL_isBoat_166 ⟨Nat.le_of_ble_eq_true rfl, Nat.le_of_ble_eq_true rfl⟩ 169 rfl ?_
                    refine z_top (b := .int (iI (v 126))) (congrArg (fun z => Value.int (iI z)) (rfl)) ?_
                    refine z_il_n C hl dL_isBoat_169 4 rfl 170 rfl ?_
                    refine z_iadd C dL_isBoat_170 171 rfl (homR v b 0 + v 126) (by omega) ?_
                    refine z_iconst C dL_isBoat_171 172 rfl ?_
                    refine z_isub C dL_isBoat_172 173 rfl (homR v b 0 + v 126 - 1) (by omega) ?_
                    refine z_iconst C dL_isBoat_173 174 rfl ?_
                    refine z_irem C dL_isBoat_174 175 rfl (by omega) (((homR v b 0 + v 126 - 1) % 2)) (rfl) ?_
                    refine z_al_n C hl dL_isBoat_175 6 rfl 176 rfl ?_
                    refine z_il_n C hl dL_isBoat_176 5 rfl 177 rfl ?_
                    refine z_iconst C dL_isBoat_177 178 rfl ?_
                    refine z_VR (r := .int (iI (boaR v b 0))) (rest := [.int (iI (((homR v b 0 + v 126 - 1) % 2)))]) C (m_boatOf l G tb r x cu h pa o sg qn qb sn v b 0 w0 (by omega) (by omega)) kV_L_14 ⟨Nat.le_of_ble_eq_true rfl, Nat.le_of_ble_eq_true rfl⟩ (gP_rg hW.1 [0, 1, 4] rfl) hK 0 rfl rfl rfl hl.1 rfl (Nat.le_of_ble_eq_true rfl) dL_isBoat_178 ⟨Nat.le_of_ble_eq_true rfl, Nat.le_of_ble_eq_true rfl⟩ 181 rfl ?_
                    refine z_top (b := .int (iI (v (72 + 5 * b)))) (congrArg (fun z => Value.int (iI z)) (boa_0 (v := v) (b := b) (by omega))) ?_
                    refine z_icmp_ne C dL_isBoat_181 197 184 (by decide) rfl (by omega) (fun c181 => ?_) (fun c181 => ?_)
                    · exfalso; omega
                    · skip
                      refine z_il_n C hl dL_isBoat_184 3 rfl 185 rfl ?_
                      refine z_if_lt C dL_isBoat_185 197 188 (by decide) rfl (by omega) (fun c185 => ?_) (fun c185 => ?_)
                      · exfalso; omega
                      · skip
                        refine z_il_n C hl dL_isBoat_188 4 rfl 189 rfl ?_
                        refine z_il_n C hl dL_isBoat_189 3 rfl 190 rfl ?_
                        refine z_icmp_le C dL_isBoat_190 197 193 (by decide) rfl (by omega) (fun c190 => ?_) (fun c190 => ?_)
                        · exfalso; omega
                        · skip
                          refine z_iconst C dL_isBoat_193 194 rfl ?_
                          refine z_goto C dL_isBoat_194 198 (by decide) ?_
                          exact z_wz C hW dL_isBoat_198 (rfl) rfl
          · skip
            refine z_al_n C hl dL_isBoat_91 6 rfl 92 rfl ?_
            refine z_al_n C hl dL_isBoat_92 6 rfl 93 rfl ?_
            refine z_iconst C dL_isBoat_93 94 rfl ?_
            refine z_VR (r := .int (iI (cntR v n 0 0))) (rest := [.ref (tb)]) C (m_count l G tb r x cu h pa o sg qn qb sn S g n false v 0 0 w0 (by omega)) kV_L_8 ⟨Nat.le_of_ble_eq_true rfl, Nat.le_of_ble_eq_true rfl⟩ (gP_rg hW.1 [0, 1, 4, 5, 6] rfl) hK 0 rfl rfl rfl hl.1 rfl (Nat.le_of_ble_eq_true rfl) dL_isBoat_94 ⟨Nat.le_of_ble_eq_true rfl, Nat.le_of_ble_eq_true rfl⟩ 97 rfl ?_
            refine z_top (b := .int (iI (v 126))) (congrArg (fun z => Value.int (iI z)) (rfl)) ?_
            refine z_il C hl dL_isBoat_97 0 rfl 99 rfl ?_
            refine z_iadd C dL_isBoat_99 100 rfl (j + v 126) (by omega) ?_
            refine z_VR (r := .int (iI (tidR v (j + v 126)))) (rest := []) C (m_tide l G tb r x cu h pa o sg qn qb sn v (j + v 126) w0 (by omega)) kV_L_25 ⟨Nat.le_of_ble_eq_true rfl, Nat.le_of_ble_eq_true rfl⟩ (gP_rg hW.1 [0, 4] rfl) hK 0 rfl rfl rfl hl.1 rfl (Nat.le_of_ble_eq_true rfl) dL_isBoat_100 ⟨Nat.le_of_ble_eq_true rfl, Nat.le_of_ble_eq_true rfl⟩ 103 rfl ?_
            refine z_top (b := .int (iI (tideZ v (j + v 126)))) (congrArg (fun z => Value.int (iI z)) (tid_is (v := v) (t := (j + v 126)) (by omega))) ?_
            have rt100 := tide_lim w0 (j + v 126)
            refine z_il C hl dL_isBoat_103 2 rfl 105 rfl ?_
            refine z_isub C dL_isBoat_105 106 rfl (tideZ v (j + v 126) - v (v (75 + 5 * b))) (by omega) ?_
            refine z_al_n C hl dL_isBoat_106 6 rfl 107 rfl ?_
            refine z_il_n C hl dL_isBoat_107 5 rfl 108 rfl ?_
            refine z_iconst C dL_isBoat_108 109 rfl ?_
            refine z_VR (r := .int (iI (boaR v b 1))) (rest := [.int (iI (tideZ v (j + v 126) - v (v (75 + 5 * b))))]) C (m_boatOf l G tb r x cu h pa o sg qn qb sn v b 1 w0 (by omega) (by omega)) kV_L_14 ⟨Nat.le_of_ble_eq_true rfl, Nat.le_of_ble_eq_true rfl⟩ (gP_rg hW.1 [0, 1, 4] rfl) hK 0 rfl rfl rfl hl.1 rfl (Nat.le_of_ble_eq_true rfl) dL_isBoat_109 ⟨Nat.le_of_ble_eq_true rfl, Nat.le_of_ble_eq_true rfl⟩ 112 rfl ?_
            refine z_top (b := .int (iI (v (73 + 5 * b)))) (congrArg (fun z => Value.int (iI z)) (boa_1 (v := v) (b := b) (by omega))) ?_
            refine z_icmp_lt C dL_isBoat_112 120 115 (by decide) rfl (by omega) (fun c112 => ?_) (fun c112 => ?_)
            · skip
              refine z_il C hl dL_isBoat_120 1 rfl 122 rfl ?_
              refine z_is C hl dL_isBoat_122 124 rfl (by decide) (lv' := [(5, .int (iI (y))), (6, .int (iI (j))), (4, .int (iI (v (v (75 + 5 * b))))), (3, .int (iI (floR v b))), (2, .int (iI (homR v b 0))), (1, .int (iI (b))), (0, .ref (tb))]) rfl (fun ls hl => ?_)
              refine z_iinc C hl dL_isBoat_124 127 rfl 1 rfl (z := j - 1) (by omega) (by decide) (lv' := [(6, .int (iI (j - 1))), (5, .int (iI (y))), (4, .int (iI (v (v (75 + 5 * b))))), (3, .int (iI (floR v b))), (2, .int (iI (homR v b 0))), (1, .int (iI (b))), (0, .ref (tb))]) rfl (fun ls hl => ?_)
              refine z_goto C dL_isBoat_127 86 (by decide) ?_
              exact ih86 (j - 1) y (by omega) (by omega) (by rw [show perZ v - (j - 1) = perZ v - j + 1 by omega, show 1 + (j - 1) = j by omega, firN_1 (by omega), if_neg (show ¬ wetB v (v (75 + 5 * b)) (v (73 + 5 * b)) (j + v 126) = true from fun z => by have z := of_decide_eq_true z; omega), show perZ v - j + 1 - 1 = perZ v - j by omega]; exact h2) _ _ hW (by omega) ls (lv_sub hl [0, 1, 2, 3, 4, 5, 6] rfl)
            · skip
              refine z_il C hl dL_isBoat_115 0 rfl 117 rfl ?_
              refine z_goto C dL_isBoat_117 122 (by decide) ?_
              refine z_is C hl dL_isBoat_122 124 rfl (by decide) (lv' := [(5, .int (iI (j))), (6, .int (iI (j))), (4, .int (iI (v (v (75 + 5 * b))))), (3, .int (iI (floR v b))), (2, .int (iI (homR v b 0))), (1, .int (iI (b))), (0, .ref (tb))]) rfl (fun ls hl => ?_)
              refine z_iinc C hl dL_isBoat_124 127 rfl 1 rfl (z := j - 1) (by omega) (by decide) (lv' := [(6, .int (iI (j - 1))), (5, .int (iI (j))), (4, .int (iI (v (v (75 + 5 * b))))), (3, .int (iI (floR v b))), (2, .int (iI (homR v b 0))), (1, .int (iI (b))), (0, .ref (tb))]) rfl (fun ls hl => ?_)
              refine z_goto C dL_isBoat_127 86 (by decide) ?_
              exact ih86 (j - 1) j (by omega) (by omega) (by rw [show perZ v - (j - 1) = perZ v - j + 1 by omega, show 1 + (j - 1) = j by omega, firN_1 (by omega), if_pos (show wetB v (v (75 + 5 * b)) (v (73 + 5 * b)) (j + v 126) = true from decide_eq_true (by omega))]) _ _ hW (by omega) ls (lv_sub hl [0, 1, 2, 3, 4, 5, 6] rfl)
      exact L86 (Int.toNat ((perZ v) + 1) + 1) (perZ v) (-5) (by omega) (by omega) (by rw [show perZ v - perZ v = 0 by omega]; rfl) _ _ hW (by omega) ls (lv_sub hl [0, 1, 2, 3, 4, 6, 5] rfl)
    · skip
      have hof := hom_off hb c31
      refine z_il_n C hl dL_isBoat_34 1 rfl 35 rfl ?_
      refine z_bipush C dL_isBoat_35 (by decide) 37 rfl ?_
      refine z_icmp_ne C dL_isBoat_37 50 40 (by decide) rfl (by omega) (fun c37 => ?_) (fun c37 => ?_)
      · exfalso; omega
      · skip
        refine z_il_n C hl dL_isBoat_40 0 rfl 41 rfl ?_
        refine z_bipush C dL_isBoat_41 (by decide) 43 rfl ?_
        refine z_icmp_ne C dL_isBoat_43 50 46 (by decide) rfl (by omega) (fun c43 => ?_) (fun c43 => ?_)
        · exfalso; omega
        · skip
          refine z_iconst C dL_isBoat_46 47 rfl ?_
          refine z_goto C dL_isBoat_47 51 (by decide) ?_
          exact z_wz C hW dL_isBoat_51 (rfl) rfl
  · exfalso; exact c20 (hom_fb w0 b)
