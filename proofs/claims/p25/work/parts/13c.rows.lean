abbrev arL (G : gT) (a n : Nat) (f : Int → Int64) : Nat × va_E := (a, .inl (G.2 1, n, .inr (.inl (fun k : Nat => f k))))
def updL (f : Int → Int64) (k : Int) (x : Int64) : Int → Int64 := fun j => if j = k then x else f j
theorem updLI {f : Int → Int64} {i : Int} {x : Int64} (hi : 0 ≤ i) : vp_updL (fun k : Nat => f k) i.toNat x = fun k : Nat => updL f i x k := by
  funext k
  unfold vp_updL updL
  by_cases h : k = i.toNat
  · have : (k : Int) = i := by omega
    rw [if_pos h, if_pos this]
  · have : ¬ (k : Int) = i := by omega
    rw [if_neg h, if_neg this]
theorem ceq.L {G : gT} {a n : Nat} {f f' : Int → Int64} (h : ∀ k : Int, 0 ≤ k → k < n → f k = f' k) : ceq (arL G a n f) (arL G a n f') := by
  refine ⟨rfl, fun D H hx => ?_⟩
  refine (hx : H[a]? = some (vp_cell (G.2 1) (n, .inr (.inl (fun k : Nat => f k))))).trans (congrArg some ?_)
  show vp_cell (G.2 1) (n, .inr (.inl (fun k : Nat => f k))) = vp_cell (G.2 1) (n, .inr (.inl (fun k : Nat => f' k)))
  rw [vp_cell_l, vp_cell_l]
  exact arrV_congr fun j hj => by rw [h j (by omega) (by omega)]
section Z
variable {p : Program} {l : Launch} {e : Env} {R : Room} {s : State} {m : MethodId} {args : Array Value} {below : List Frame} {meth : Method} {c : Code} {H : Heap} {locs : List Loc} {cells slots : Nat} {Q : State → Prop}
variable {own : String} {cc : ByteArray} {nL : Nat} {ret : Option FieldType} {pc : Nat} {ls : Array Slot} {rest : List Value}
theorem z_iaL (C : CX p s m args meth c own cc nL ret) {G : gT} {w : va_W} {a n : Nat} (f : Int → Int64) {i : Int} (hP : gP G w H) (hK : gK G s) (q0 : Nat) (he : w[q0]? = some (arL G a n f)) (hi : 0 ≤ i ∧ i < n) (hn : (n : Int) ≤ 2147483647) (x : Int64) (hx : f i = x) (d : decode cc pc = .ok (.laload, 1)) (q : Nat) (hq : pc + 1 = q) (k : W p l e R s m args below meth c H locs cells slots Q (F0 m q ls (.long x :: rest))) : W p l e R s m args below meth c H locs cells slots Q (F0 m pc ls (.int (iI i) :: .ref a :: rest)) :=
  z_lald C hP hK q0 he hi hn x (by show f (i.toNat : Int) = _; rw [Int.toNat_of_nonneg hi.1, hx]) d q hq k
theorem z_iasL (C : CX p s m args meth c own cc nL ret) {G : gT} {A : Nat → Prop} {rs rs' : List va_W} {H0 : Heap} {a n : Nat} (f : Int → Int64) {i : Int} {x : Int64} (hW : Wd G A rs H0 H locs) (hK : gK G s) (q0 : Nat) (he : rs.flatten[q0]? = some (arL G a n f)) (hi : 0 ≤ i ∧ i < n) (hn : (n : Int) ≤ 2147483647) (d : decode cc pc = .ok (.lastore, 1)) (q : Nat) (hq : pc + 1 = q) (hrs : rs.flatten.set q0 (arL G a n (updL f i x)) = rs'.flatten) (k : ∀ (H1 : Heap) (locs1 : List Loc), Wd G A rs' H0 H1 locs1 → W p l e R s m args below meth c H1 locs1 cells slots Q (F0 m q ls rest)) : W p l e R s m args below meth c H locs cells slots Q (F0 m pc ls (.long x :: .int (iI i) :: .ref a :: rest)) :=
  z_last C hW hK q0 he hi hn _ (updLI hi.1) d q hq hrs k
theorem z_landS (C : CX p s m args meth c own cc nL ret) {S T : Int → Bool} (d : decode cc pc = .ok (.land, 1)) (q : Nat) (hq : pc + 1 = q) (k : W p l e R s m args below meth c H locs cells slots Q (F0 m q ls (.long (bL (andS S T)) :: rest))) : W p l e R s m args below meth c H locs cells slots Q (F0 m pc ls (.long (bL T) :: .long (bL S) :: rest)) :=
  z_land C d q hq (by rw [bL_and]; exact k)
theorem z_ldifS (C : CX p s m args meth c own cc nL ret) {S T : Int → Bool} (d : decode cc pc = .ok (.land, 1)) (q : Nat) (hq : pc + 1 = q) (k : W p l e R s m args below meth c H locs cells slots Q (F0 m q ls (.long (bL (difS S T)) :: rest))) : W p l e R s m args below meth c H locs cells slots Q (F0 m pc ls (.long (bL T ^^^ -1) :: .long (bL S) :: rest)) :=
  z_land C d q hq (by rw [bL_dif]; exact k)
theorem z_lorS (C : CX p s m args meth c own cc nL ret) {S T : Int → Bool} (d : decode cc pc = .ok (.lor, 1)) (q : Nat) (hq : pc + 1 = q) (k : W p l e R s m args below meth c H locs cells slots Q (F0 m q ls (.long (bL (orS S T)) :: rest))) : W p l e R s m args below meth c H locs cells slots Q (F0 m pc ls (.long (bL T) :: .long (bL S) :: rest)) :=
  z_lor C d q hq (by rw [bL_or]; exact k)
end Z
/-- the search's object and its cells by heights, as prepared; and as it may be -/
abbrev sxO (x cu : Nat) (q : Nat → Nat) (v : Int → Int) (P D : Int) : Nat × va_E := (x, .inr (1, [.ref (q 0), .ref cu, .long (bL (rkS v)), .long (bL (oneS (harZ P))), .long (bL (oneS (harZ (1 - P)))), .int (iI P), .int (iI D)]))
abbrev sxA (x cu : Nat) (q : Nat → Nat) (k : Int64 × Int64 × Int64 × Int × Int) : Nat × va_E := (x, .inr (1, [.ref (q 0), .ref cu, .long k.1, .long k.2.1, .long k.2.2.1, .int (iI k.2.2.2.1), .int (iI k.2.2.2.2)]))
def upM (v : Int → Int) (i h k : Int) : Int → Bool := fun c => decide (v c ≤ k) && (decide (c < i) || (decide (c = i) && decide (k < h)))
def rkM (v : Int → Int) (i : Int) : Int → Bool := fun c => decide (v (36 + c) = 1) && decide (c < i)
theorem rkM_0 (v : Int → Int) : bL botS = bL (rkM v 0) := bL_ext fun c h1 h2 => by
  unfold botS rkM
  rw [decide_eq_false (p := c < 0) (by omega), Bool.and_false]
theorem rkM_y {v : Int → Int} {i : Int} (h : v (36 + i) = 1) : bL (orS (rkM v i) (oneS i)) = bL (rkM v (1 + i)) := bL_ext fun c h1 h2 => by
  unfold orS rkM oneS
  by_cases e : c = i
  · subst e; rw [h, decide_eq_true (p := c = c) rfl, decide_eq_true (p := c < 1 + c) (by omega)]; simp
  · rw [decide_eq_false (p := c = i) e, Bool.or_false]
    congr 1
    exact decide_eq_decide.mpr (by omega)
theorem rkM_n {v : Int → Int} {i : Int} (h : ¬ v (36 + i) = 1) : bL (rkM v i) = bL (rkM v (1 + i)) := bL_ext fun c h1 h2 => by
  unfold rkM
  by_cases e : c = i
  · subst e; rw [decide_eq_false h]; rfl
  · congr 1
    exact decide_eq_decide.mpr (by omega)
theorem rkM_36 (v : Int → Int) : bL (rkM v 36) = bL (rkS v) := bL_ext fun c h1 h2 => by
  unfold rkM rkS
  rw [decide_eq_true (p := c < 36) h2, Bool.and_true]
theorem upM_0 (v : Int → Int) {k : Int} (hk : 0 ≤ k) : (0 : Int64) = bL (upM v 0 0 k) := by
  rw [bL_bot]
  refine bL_ext fun c h1 h2 => ?_
  unfold botS upM
  rw [decide_eq_false (p := k < 0) (by omega), decide_eq_false (p := c < 0) (by omega)]
  simp
theorem upM_s (v : Int → Int) {i k : Int} (hk : 0 ≤ k) : bL (upM v i 0 k) = bL (upM v i (v i) k) := bL_ext fun c h1 h2 => by
  unfold upM
  rw [decide_eq_false (p := k < 0) (by omega)]
  by_cases e : c = i
  · subst e
    by_cases h : v c ≤ k
    · rw [decide_eq_false (p := k < v c) (by omega)]
    · rw [decide_eq_false h]; rfl
  · rw [decide_eq_false e]; rfl
theorem upM_h {v : Int → Int} {i h : Int} (hv : v i ≤ h) (k : Int) : updL (fun k => bL (upM v i h k)) h (bL (orS (upM v i h h) (oneS i))) k = bL (upM v i (1 + h) k) := by
  unfold updL
  split
  · rename_i e; subst e
    refine bL_ext fun c h1 h2 => ?_
    unfold orS upM oneS
    by_cases e : c = i
    · subst e; rw [decide_eq_true hv, decide_eq_true (p := c = c) rfl, decide_eq_true (p := k < 1 + k) (by omega)]; simp
    · rw [decide_eq_false e]; simp
  · refine bL_ext fun c h1 h2 => ?_
    unfold upM
    congr 3
    exact decide_eq_decide.mpr (by omega)
theorem upM_e (v : Int → Int) {i k : Int} (hk : 0 ≤ k ∧ k < 5) : bL (upM v i 5 k) = bL (upM v (1 + i) 0 k) := bL_ext fun c h1 h2 => by
  unfold upM
  rw [decide_eq_true (p := k < 5) (by omega), decide_eq_false (p := k < 0) (by omega), Bool.and_true, Bool.and_false, Bool.or_false]
  congr 1
  by_cases e : c < i
  · rw [decide_eq_true e, decide_eq_true (p := c < 1 + i) (by omega)]; rfl
  · rw [decide_eq_false e, Bool.false_or]
    exact decide_eq_decide.mpr (by omega)
theorem upM_36 (v : Int → Int) {k : Int} (hk : 0 ≤ k) : bL (upM v 36 0 k) = bL (upS v k) := bL_ext fun c h1 h2 => by
  unfold upM upS
  rw [decide_eq_true (p := c < 36) h2]; simp
