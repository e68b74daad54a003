/-! what the law's start gives -/
def flN : List Cond := flatC (Jvm.Cond.and given_1 narrow_1)
theorem fn_L : Cond.arrayOf (.static "TideBoats" "LEAST_SETTING" "[I") .int ∈ flN ∧ Cond.eq (.length (.static "TideBoats" "LEAST_SETTING" "[I")) (.int (Int32.ofNat 4)) ∈ flN := by decide +kernel
theorem fn_M : Cond.arrayOf (.static "TideBoats" "MOST_SETTING" "[I") .int ∈ flN ∧ Cond.eq (.length (.static "TideBoats" "MOST_SETTING" "[I")) (.int (Int32.ofNat 4)) ∈ flN := by decide +kernel
theorem fn_Le : ∀ j : Nat, j < 4 → Cond.eq (.elem (.static "TideBoats" "LEAST_SETTING" "[I") (.int (Int32.ofNat j))) (.int (iI (lstZ j))) ∈ flN := by decide +kernel
theorem fn_Me : ∀ j : Nat, j < 4 → Cond.eq (.elem (.static "TideBoats" "MOST_SETTING" "[I") (.int (Int32.ofNat j))) (.int (iI (mstZ j))) ∈ flN := by decide +kernel
theorem fn_t : (Cond.laysStatic "TideBoats" "LEAST_SETTING" "[I" ∈ lw_tbl ∧ Cond.laysStatic "TideBoats" "MOST_SETTING" "[I" ∈ lw_tbl ∧ Cond.initialized "TideBoats" ∈ lw_tbl) ∧ Cond.arrayOver (.object "TideBoats$State") ∈ lw_tbl := by decide +kernel
theorem law_env {s : State} {args : Array Value} (hts : ∀ w ∈ lw_tbl, w.before args s = true) (hgv : (Jvm.Cond.and given_1 narrow_1).before args s = true) : ∃ E : eT, EV E (fun q => s.heap.size ≤ q) s s.heap := by
  have hs : ∀ w ∈ flN, w.before args s = true := flat_of_before _ hgv
  have hA : ∀ a : Nat, a < s.heap.size → ¬ (fun q => s.heap.size ≤ q) a := fun a h z => by have z : s.heap.size ≤ a := z; omega
  obtain ⟨⟨t5, t6, t7⟩, -⟩ := fn_t
  obtain ⟨tL, hL1, hL2⟩ := va_Tof (s := s) (args := args) (N := 4) (f := fun j => .int (iI (lstZ j))) (A := fun q => s.heap.size ≤ q) (by decide) (hs _ fn_L.1) (va_eqt (hs _ fn_L.2)) (fun j hj => va_eqt (hs _ (fn_Le j hj))) hA
  obtain ⟨tM, hM1, hM2⟩ := va_Tof (s := s) (args := args) (N := 4) (f := fun j => .int (iI (mstZ j))) (A := fun q => s.heap.size ≤ q) (by decide) (hs _ fn_M.1) (va_eqt (hs _ fn_M.2)) (fun j hj => va_eqt (hs _ (fn_Me j hj))) hA
  exact ⟨(fun _ => 0, fun _ => 0, tL, tM), trivial, trivial, trivial, trivial, ⟨va_Zof (hts _ t5) (hts _ t7) hL1 hA, hL2⟩, va_Zof (hts _ t6) (hts _ t7) hM1 hA, hM2⟩
theorem zo_law {s : State} {args : Array Value} (hts : ∀ w ∈ lw_tbl, w.before args s = true) : ZO s := va_AO.of (hts _ fn_t.2)
theorem arr_p {s : State} {args : Array Value} {ty : FieldType} (h : (Cond.arrayClass ty).before args s = true) : ∃ cA : ClassId, ArrOfT s cA ty ∧ s.vm.findClass ("[" ++ ty.toString) = some cA := by
  obtain ⟨cA, kA, comp, h1, h2, h3⟩ := Cond.arrayClass_spec h
  exact ⟨cA, fun n z => ⟨fun k h => (by cases h), kA, h2, comp, h3⟩, h1⟩
theorem arr_o {s : State} {args : Array Value} {C : String} (h : (Cond.arrayOver (.object C)).before args s = true) : ∃ cA : ClassId, ArrOfT s cA (.object C) ∧ va_RA s cA (.object C) := by
  obtain ⟨comp, cA, kA, h1, -, h2, h3, h4⟩ := Cond.arrayOver_spec h
  exact ⟨cA, fun n z => ⟨fun k h => (by cases h), kA, h2, comp, h3⟩, kA, comp, h2, h3, h1, h4⟩
theorem law_known {s : State} {args : Array Value} (hts : ∀ w ∈ lw_tbl, w.before args s = true) : ∃ G : gT, gK G s := by
  have hta : ∀ w ∈ tables_1, w.before args s = true := fun w h => hts w (List.mem_append_right _ h)
  obtain ⟨c0, i0, k0⟩ := u_known (C := RX0) (T := TX0) (N := 4) (n := 4) hta in_tX0 (hta _ (List.mem_of_getElem? (i := 142) (by decide +kernel)))
  obtain ⟨c1, i1, k1⟩ := u_known (C := RX1) (T := TX1) (N := 7) (n := 7) hta in_tX1 (hta _ (List.mem_of_getElem? (i := 113) (by decide +kernel)))
  obtain ⟨c2, i2, k2⟩ := u_known (C := RX2) (T := TX2) (N := 2) (n := 2) hta in_tX2 (hta _ (List.mem_of_getElem? (i := 165) (by decide +kernel)))
  obtain ⟨c3, i3, k3⟩ := u_known (C := RX3) (T := TX3) (N := 1) (n := 1) hta in_tX3 (hta _ (List.mem_of_getElem? (i := 103) (by decide +kernel)))
  obtain ⟨c4, i4, k4⟩ := u_known (C := RX4) (T := TX4) (N := 14) (n := 14) hta in_tX4 (hta _ (List.mem_of_getElem? (i := 17) (by decide +kernel)))
  obtain ⟨c5, i5, k5⟩ := u_known (C := RX5) (T := TX5) (N := 6) (n := 6) hta in_tX5 (hta _ (List.mem_of_getElem? (i := 9) (by decide +kernel)))
  obtain ⟨a0, f0, g0⟩ := arr_p (ty := .int) (hts _ (all_tbl qa_int))
  obtain ⟨a1, f1, g1⟩ := arr_p (ty := .long) (hts _ (all_tbl qa_long))
  obtain ⟨a2, f2, g2⟩ := arr_p (ty := .char) (hts _ (all_tbl qa_char))
  obtain ⟨a4, f4, g4⟩ := arr_o (C := "TideBoats$State") (hts _ fn_t.2)
  refine ⟨((fun k => if k = 0 then c0 else if k = 1 then c1 else if k = 2 then c2 else if k = 3 then c3 else if k = 4 then c4 else c5, fun k => if k = 0 then i0 else if k = 1 then i1 else if k = 2 then i2 else if k = 3 then i3 else if k = 4 then i4 else i5), fun k => if k = 0 then a0 else if k = 1 then a1 else if k = 2 then a2 else if k = 3 then a0 else a4), ⟨fun k q hq => ?_, fun k q hq => ?_⟩, fun w hw => va_Nw.of (nst_on (nst_is hw)) (hta w (List.mem_filter.mp hw).1)⟩
  · match k, hq with
    | 0, hq => cases hq; exact k0
    | 1, hq => cases hq; exact k1
    | 2, hq => cases hq; exact k2
    | 3, hq => cases hq; exact k3
    | 4, hq => cases hq; exact k4
    | 5, hq => cases hq; exact k5
    | k + 6, hq => simp [vwCl] at hq
  · match k, hq with
    | 0, hq => cases hq; exact ⟨f0, g0⟩
    | 1, hq => cases hq; exact ⟨f1, g1⟩
    | 2, hq => cases hq; exact ⟨f2, g2⟩
    | 3, hq => cases hq; exact ⟨f0, g0⟩
    | 4, hq => cases hq; exact ⟨f4, g4⟩
    | k + 5, hq => simp [tysG] at hq
