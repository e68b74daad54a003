theorem gP_nil {G : gT} {H : Heap} : gP G ([] : List va_W).flatten H := gP_iff.mpr fun q hq => by cases hq
theorem gP_c {G : gT} {w : va_W} {H : Heap} {x : Nat × va_E} (h : gP G w H) (q0 : Nat) (he : w[q0]? = some x) : gP G [[x]].flatten H := gP_iff.mpr fun q hq => by
  have : q = x := by simpa using hq
  subst this
  exact h q0 q he
theorem fit_bZ (b : Bool) : fits .boolean (.int (iI (bZ b))) = true := by cases b <;> rfl
theorem bZ_dt {P : Prop} [Decidable P] (h : P) : 1 = bZ (decide P) := by rw [decide_eq_true h]; rfl
theorem bZ_df {P : Prop} [Decidable P] (h : ¬ P) : 0 = bZ (decide P) := by rw [decide_eq_false h]; rfl
theorem bZ_1 {b : Bool} (h : b = true) : 1 = bZ b := by rw [h]; rfl
theorem bZ_0 {b : Bool} (h : b = false) : 0 = bZ b := by rw [h]; rfl
/-- cells that hold the same, read below their lengths -/
def ceq (x y : Nat × va_E) : Prop := x.1 = y.1 ∧ ∀ (D : va_G) (H : Heap), va_at D vwCl x H → va_at D vwCl y H
theorem ceq.rf {x : Nat × va_E} : ceq x x := ⟨rfl, fun _ _ h => h⟩
theorem ceq.of_eq {x y : Nat × va_E} (h : x = y) : ceq x y := h ▸ ceq.rf
theorem arrV_congr {cA : ClassId} {n : Nat} {f f' : Nat → Value} (h : ∀ j, j < n → f j = f' j) : arrV cA n f = arrV cA n f' := by
  unfold arrV
  congr 1
  apply Array.ext
  · simp
  · intro i h1 h2
    have hi : i < n := by simpa using h1
    simp only [Array.getElem_ofFn]
    exact h i hi
theorem ceq.I {G : gT} {a n : Nat} {f f' : Int → Int} (h : ∀ k : Int, 0 ≤ k → k < n → f k = f' k) : ceq (arI G a n f) (arI G a n f') := by
  refine ⟨rfl, fun D H hx => ?_⟩
  refine (hx : H[a]? = some (vp_cell (G.2 0) (n, .inl (fun k : Nat => iI (f k))))).trans (congrArg some ?_)
  show vp_cell (G.2 0) (n, .inl (fun k : Nat => iI (f k))) = vp_cell (G.2 0) (n, .inl (fun k : Nat => iI (f' k)))
  rw [vp_cell_i, vp_cell_i]
  exact arrV_congr fun j hj => by rw [h j (by omega) (by omega)]
theorem ceq.B {G : gT} {a n : Nat} {f f' : Int → Bool} (h : ∀ k : Int, 0 ≤ k → k < n → f k = f' k) : ceq (arB G a n f) (arB G a n f') := by
  refine ⟨rfl, fun D H hx => ?_⟩
  refine (hx : H[a]? = some (vp_cell (G.2 3) (n, .inl (fun k : Nat => iI (bZ (f k)))))).trans (congrArg some ?_)
  show vp_cell (G.2 3) (n, .inl (fun k : Nat => iI (bZ (f k)))) = vp_cell (G.2 3) (n, .inl (fun k : Nat => iI (bZ (f' k))))
  rw [vp_cell_i, vp_cell_i]
  exact arrV_congr fun j hj => by rw [h j (by omega) (by omega)]
/-- lists of cells, cell by cell -/
def ceqs : va_W → va_W → Prop
  | [], [] => True
  | x :: xs, y :: ys => ceq x y ∧ ceqs xs ys
  | _, _ => False
theorem ceqs.fst : ∀ {w w' : va_W}, ceqs w w' → w.map Prod.fst = w'.map Prod.fst
  | [], [], _ => rfl
  | x :: xs, y :: ys, h => by rw [List.map_cons, List.map_cons, h.1.1, ceqs.fst h.2]
  | [], _ :: _, h => h.elim
  | _ :: _, [], h => h.elim
theorem ceqs.gP {G : gT} {H : Heap} : ∀ {w w' : va_W}, ceqs w w' → gP G w H → gP G w' H
  | [], [], _, h => h
  | x :: xs, y :: ys, hc, h => gP_iff.mpr fun q hq => by
    have h := gP_iff.mp h
    rcases List.mem_cons.mp hq with rfl | hq
    · exact hc.1.2 _ _ (h x List.mem_cons_self)
    · exact gP_iff.mp (ceqs.gP hc.2 (gP_iff.mpr fun q hq => h q (List.mem_cons_of_mem _ hq))) q hq
  | [], _ :: _, h, _ => h.elim
  | _ :: _, [], h, _ => h.elim
theorem Wd.ceq {G : gT} {A : Nat → Prop} {rs rs' : List va_W} {H0 H : Heap} {locs : List Loc} (h : Wd G A rs H0 H locs) (hc : ceqs rs.flatten rs'.flatten) : Wd G A rs' H0 H locs := by
  have e := hc.fst
  refine ⟨hc.gP h.1, ?_, fun q hq => h.2.2.1 q ?_, h.2.2.2⟩
  · unfold gD; rw [← e]; exact h.2.1
  · unfold adr at *; rw [e]; exact hq
/-! THE BOARD, IN INTEGERS. v: the row of 129 numbers: heights 0.., rocks 36.., boats 72 + 5 b (player, draft, how, cell, steps), settings 122.., turn 126, boats 127, rammed 128 -/
def harZ (p : Int) : Int := if p = 0 then 35 else 0
def besZ (cell dir : Int) : Int :=
  if ¬ (0 ≤ cell ∧ cell < 36) then -1
  else if dir = 0 then (if cell % 6 < 5 then cell + 1 else -1)
  else if dir = 1 then (if cell + 6 < 36 then cell + 6 else -1)
  else if dir = 2 then (if 0 < cell % 6 then cell - 1 else -1)
  else if dir = 3 then (if 6 ≤ cell then cell - 6 else -1)
  else -1
theorem besZ_rng (c d : Int) : -1 ≤ besZ c d ∧ besZ c d < 36 := by
  unfold besZ
  (repeat' split) <;> omega
theorem harZ_rng (p : Int) : 0 ≤ harZ p ∧ harZ p ≤ 35 := by unfold harZ; split <;> omega
/-- some steps on -/
def froZ (dir : Int) : Nat → Int → Int
  | 0, c => c
  | n + 1, c => froZ dir n (besZ c dir)
def rdZ (n : Nat) (f : Int → Int) (i : Int) : Int := if 0 ≤ i ∧ i < n then f i else 0
/-- f below n, g from there on -/
def mixZ (f g : Int → Int) (n : Int) : Int → Int := fun k => if k < n then f k else g k
theorem mixZ_0 {f g : Int → Int} {k : Int} (h : 0 ≤ k) : mixZ f g 0 k = g k := if_neg (by omega)
theorem mixZ_n {f g : Int → Int} {k n : Int} (h : k < n) : mixZ f g n k = f k := if_pos h
theorem mixZ_s {f g : Int → Int} {n : Int} : updZ (mixZ f g n) n (f n) = mixZ f g (n + 1) := by
  funext k
  unfold updZ mixZ
  by_cases h : k = n
  · subst h; rw [if_pos rfl, if_pos (by omega)]
  · rw [if_neg h]
    by_cases h2 : k < n
    · rw [if_pos h2, if_pos (by omega)]
    · rw [if_neg h2, if_neg (by omega)]
/-- a contract's walk for a member of a class that has entries of the machine's own -/
theorem enterRF {l : Launch} {G : gT} {y : MethodName} {cc : ByteArray} {n d : Nat} {ret : Option FieldType} {As : List Value} {ss : List va_W} {Z : State → Prop} {r : Value} {own : String} (hy : plainFor y = true) (ho : y.cls = own) (hfit : (lg_sl As).length ≤ n)
    (body : ∀ p e s m below meth c, CX p s m As.toArray meth c own cc n ret → gP G ss.flatten s.heap → gK G s → Z s → ∀ ls, lv_has ls n (lv_args 0 As) → W p l e (rmN d) s m As.toArray below meth c s.heap [] 0 0 (MQ below (QR r) As.toArray s 0 0 (fun _ => False)) (F0 m 0 ls [])) : MR l G y cc n ret d As ss Z r := by
  refine va_MetF (cc := cc) (maxL := n) (ret := ret) hy rfl ?_
  intro p e s m args below meth c s₁ B hml hv
  obtain ⟨rfl, hP, hK, hZ⟩ := hv
  have hts := atoms_spec (ws := ws_ y cc n ret) B.pre
  have hts : ∀ w ∈ lw_all, w.before _ s = true := fun w h => hts w (List.mem_cons_of_mem _ h)
  have hown : s.vm.findClass own = some m.cls := ho ▸ findClass_of_methodNamed B.named
  have hl := lv_entry As (n := n) hfit
  rw [lg_entry_eq]
  exact body p e s m below meth c ⟨⟨B.exec, B.bytes, hml, hown, hts⟩, B.returns, B.notSynchronized⟩ hP hK hZ _ hl
