/-! signs and orders -/
def ranZ (lo hi x : Int) : Int := if lo ≤ x ∧ x ≤ hi then x - lo else -1
def dirZ (x : Int) : Int := if x = 114 then 0 else if x = 100 then 1 else if x = 108 then 2 else if x = 117 then 3 else -1
theorem idx0 (x : Int) : idxZ 0 x = ranZ 97 102 x := by
  have h : idxZ 0 x = (if (97 : Int) = x then (0 : Int) else if (98 : Int) = x then (1 : Int) else if (99 : Int) = x then (2 : Int) else if (100 : Int) = x then (3 : Int) else if (101 : Int) = x then (4 : Int) else if (102 : Int) = x then (5 : Int) else -1) := rfl
  rw [h]; unfold ranZ
  (repeat' split) <;> omega
theorem idx3 (x : Int) : idxZ 3 x = ranZ 48 57 x := by
  have h : idxZ 3 x = (if (48 : Int) = x then (0 : Int) else if (49 : Int) = x then (1 : Int) else if (50 : Int) = x then (2 : Int) else if (51 : Int) = x then (3 : Int) else if (52 : Int) = x then (4 : Int) else if (53 : Int) = x then (5 : Int) else if (54 : Int) = x then (6 : Int) else if (55 : Int) = x then (7 : Int) else if (56 : Int) = x then (8 : Int) else if (57 : Int) = x then (9 : Int) else -1) := rfl
  rw [h]; unfold ranZ
  (repeat' split) <;> omega
theorem idx6 (x : Int) : idxZ 6 x = ranZ 49 54 x := by
  have h : idxZ 6 x = (if (49 : Int) = x then (0 : Int) else if (50 : Int) = x then (1 : Int) else if (51 : Int) = x then (2 : Int) else if (52 : Int) = x then (3 : Int) else if (53 : Int) = x then (4 : Int) else if (54 : Int) = x then (5 : Int) else -1) := rfl
  rw [h]; unfold ranZ
  (repeat' split) <;> omega
theorem idx7 (x : Int) : idxZ 7 x = ranZ 48 52 x := by
  have h : idxZ 7 x = (if (48 : Int) = x then (0 : Int) else if (49 : Int) = x then (1 : Int) else if (50 : Int) = x then (2 : Int) else if (51 : Int) = x then (3 : Int) else if (52 : Int) = x then (4 : Int) else -1) := rfl
  rw [h]; unfold ranZ
  (repeat' split) <;> omega
theorem idx8 (x : Int) : idxZ 8 x = ranZ 48 49 x := by
  have h : idxZ 8 x = (if (48 : Int) = x then (0 : Int) else if (49 : Int) = x then (1 : Int) else -1) := rfl
  rw [h]; unfold ranZ
  (repeat' split) <;> omega
theorem idx9 (x : Int) : idxZ 9 x = ranZ 49 51 x := by
  have h : idxZ 9 x = (if (49 : Int) = x then (0 : Int) else if (50 : Int) = x then (1 : Int) else if (51 : Int) = x then (2 : Int) else -1) := rfl
  rw [h]; unfold ranZ
  (repeat' split) <;> omega
theorem idx10 (x : Int) : idxZ 10 x = dirZ x := by
  have h : idxZ 10 x = (if (114 : Int) = x then (0 : Int) else if (100 : Int) = x then (1 : Int) else if (108 : Int) = x then (2 : Int) else if (117 : Int) = x then (3 : Int) else -1) := rfl
  rw [h]; unfold dirZ
  (repeat' split) <;> omega
theorem ranZ_rng {lo hi : Int} (x : Int) (h : 0 ≤ hi - lo ∧ hi - lo ≤ 9) : -1 ≤ ranZ lo hi x ∧ ranZ lo hi x ≤ 9 := by
  unfold ranZ; split <;> omega
theorem dirZ_rng (x : Int) : -1 ≤ dirZ x ∧ dirZ x ≤ 3 := by
  unfold dirZ; (repeat' split) <;> omega
/-- whether a sign fits a place of an order's form -/
def fitB (x c : Int) : Bool :=
  if c = 67 then decide (97 ≤ x ∧ x ≤ 102) else if c = 82 then decide (49 ≤ x ∧ x ≤ 54) else if c = 72 then decide (48 ≤ x ∧ x ≤ 52) else if c = 80 then decide (48 ≤ x ∧ x ≤ 49)
  else if c = 68 then decide (49 ≤ x ∧ x ≤ 51) else if c = 66 then decide (48 ≤ x ∧ x ≤ 57) else if c = 87 then decide (0 ≤ dirZ x) else if c = 83 then decide (49 ≤ x ∧ x ≤ 51) else decide (x = c)
def alZ (c : Int) : Nat := if c = 67 then 0 else if c = 82 then 6 else if c = 72 then 7 else if c = 80 then 8 else if c = 68 then 9 else if c = 66 then 3 else if c = 87 then 10 else if c = 83 then 9 else 11
def plZ (c : Int) : Nat := if 97 ≤ c ∧ c ≤ 102 then 1 else if c = 43 then 2 else if 48 ≤ c ∧ c ≤ 57 then 4 else 5
theorem alZ_lt (c : Int) : alZ c < 12 := by
  unfold alZ; (repeat' split) <;> omega
theorem ran0 {lo hi x : Int} : decide (0 ≤ ranZ lo hi x) = decide (lo ≤ x ∧ x ≤ hi) := by
  unfold ranZ
  split
  · rename_i h; rw [decide_eq_true h, decide_eq_true (by omega)]
  · rename_i h; rw [decide_eq_false h]; rfl
theorem alZ_n {x c : Int} (h : ¬ sLen (alZ c) = 0) : fitB x c = decide (0 ≤ idxZ (alZ c) x) := by
  unfold alZ at h ⊢
  unfold fitB
  (repeat' split) <;> first | (rw [idx0, ran0]; done) | (rw [idx6, ran0]; done) | (rw [idx7, ran0]; done) | (rw [idx8, ran0]; done) | (rw [idx9, ran0]; done) | (rw [idx3, ran0]; done) | (rw [idx10]; done) | (simp_all [sLen, lenJ]; done)
theorem alZ_e {x c : Int} (h : sLen (alZ c) = 0) : fitB x c = decide (x = c) := by
  unfold alZ at h
  unfold fitB
  (repeat' split) <;> first | rfl | (simp_all [sLen, lenJ]; done)
theorem plZ_cases (c : Int) : (plZ c = 1 ∧ 97 ≤ c ∧ c ≤ 102) ∨ (plZ c = 2 ∧ c = 43) ∨ (plZ c = 4 ∧ 48 ≤ c ∧ c ≤ 57) ∨ (plZ c = 5 ∧ ¬ (97 ≤ c ∧ c ≤ 102) ∧ c ≠ 43 ∧ ¬ (48 ≤ c ∧ c ≤ 57)) := by
  unfold plZ
  (repeat' split) <;> simp_all <;> omega
/-- the signs of a text, 0 behind its end; and with -1 there -/
def sgC (n : Int) (tx : Int → Int) (k : Int) : Int := if 0 ≤ k ∧ k < n then tx k else 0
def sgM (n : Int) (tx : Int → Int) (k : Int) : Int := if k < n then tx k else -1
def Ot (n : Int) (tx : Int → Int) : Prop := (0 ≤ n ∧ n ≤ 60) ∧ ∀ k : Int, 0 ≤ tx k ∧ tx k < 65536
theorem sgC_rng {n : Int} {tx : Int → Int} (w : Ot n tx) (k : Int) : 0 ≤ sgC n tx k ∧ sgC n tx k < 65536 := by
  have := w.2 k
  unfold sgC; split <;> omega
theorem sgM_rng {n : Int} {tx : Int → Int} (w : Ot n tx) (k : Int) : -1 ≤ sgM n tx k ∧ sgM n tx k < 65536 := by
  have := w.2 k
  unfold sgM; split <;> omega
/-- where an order ends; below 0 a fault, -1 minus its place -/
def endZ (g : Int → Int) (p : Int) : Int :=
  if 97 ≤ g p ∧ g p ≤ 102 then (if fitB (g (1 + p)) 82 = false then -2 - p else if fitB (g (2 + p)) 61 = false then -3 - p else if fitB (g (3 + p)) 72 = false then -4 - p else if g (4 + p) = 42 then 5 + p else 4 + p)
  else if g p = 43 then (if fitB (g (1 + p)) 80 = false then -2 - p else if fitB (g (2 + p)) 68 = false then -3 - p else if fitB (g (3 + p)) 67 = false then -4 - p else if fitB (g (4 + p)) 82 = false then -5 - p else 5 + p)
  else if 48 ≤ g p ∧ g p ≤ 57 then (if fitB (g (1 + p)) 87 = false then -2 - p else if fitB (g (2 + p)) 83 = false then -3 - p else 3 + p)
  else if g p = 119 then 1 + p else -1 - p
theorem endZ_rng (g : Int → Int) (p : Int) (h : 0 ≤ p) : (-5 - p ≤ endZ g p ∧ endZ g p < 0) ∨ (1 + p ≤ endZ g p ∧ endZ g p ≤ 5 + p) := by
  unfold endZ
  (repeat' split) <;> omega
theorem sgP {n : Int} {tx : Int → Int} {P : Int → Prop} (h : P (-1) ↔ P 0) {k : Int} (hk : 0 ≤ k) : P (sgM n tx k) ↔ P (sgC n tx k) := by
  unfold sgM sgC
  by_cases h1 : k < n
  · rw [if_pos h1, if_pos ⟨hk, h1⟩]
  · rw [if_neg h1, if_neg (fun z => h1 z.2)]; exact h
theorem sgF {n : Int} {tx : Int → Int} {c : Int} (h : fitB (-1) c = fitB 0 c) {k : Int} (hk : 0 ≤ k) : fitB (sgM n tx k) c = fitB (sgC n tx k) c := by
  unfold sgM sgC
  by_cases h1 : k < n
  · rw [if_pos h1, if_pos ⟨hk, h1⟩]
  · rw [if_neg h1, if_neg (fun z => h1 z.2)]; exact h
theorem endZ_MC {n : Int} {tx : Int → Int} {p : Int} (h : 0 ≤ p) : endZ (sgM n tx) p = endZ (sgC n tx) p := by
  unfold endZ
  rw [sgF (c := 82) (by decide) (by omega : 0 ≤ 1 + p), sgF (c := 61) (by decide) (by omega : 0 ≤ 2 + p), sgF (c := 72) (by decide) (by omega : 0 ≤ 3 + p), sgF (c := 80) (by decide) (by omega : 0 ≤ 1 + p), sgF (c := 68) (by decide) (by omega : 0 ≤ 2 + p), sgF (c := 67) (by decide) (by omega : 0 ≤ 3 + p), sgF (c := 82) (by decide) (by omega : 0 ≤ 4 + p), sgF (c := 87) (by decide) (by omega : 0 ≤ 1 + p), sgF (c := 83) (by decide) (by omega : 0 ≤ 2 + p)]
  simp only [sgP (n := n) (tx := tx) (P := fun x => 97 ≤ x ∧ x ≤ 102) (by decide) h, sgP (n := n) (tx := tx) (P := fun x => x = 43) (by decide) h, sgP (n := n) (tx := tx) (P := fun x => 48 ≤ x ∧ x ≤ 57) (by decide) h, sgP (n := n) (tx := tx) (P := fun x => x = 119) (by decide) h, sgP (n := n) (tx := tx) (P := fun x => x = 42) (by decide) (by omega : 0 ≤ 4 + p)]
theorem sgC_in {n : Int} {tx : Int → Int} {k : Int} (h : sgC n tx k ≠ 0) : k < n := by
  unfold sgC at h
  split at h
  · omega
  · exact absurd rfl h
theorem fit_in {n : Int} {tx : Int → Int} {k c : Int} (h : fitB (sgC n tx k) c = true) (hc : fitB 0 c = false) : k < n := by
  refine sgC_in (tx := tx) fun z => ?_
  rw [z, hc] at h; cases h
/-- an order ends in the text -/
theorem endZ_le {n : Int} {tx : Int → Int} {p : Int} (h : 0 ≤ p) (he : 0 ≤ endZ (sgC n tx) p) : endZ (sgC n tx) p ≤ n := by
  unfold endZ at he ⊢
  by_cases h1 : 97 ≤ sgC n tx p ∧ sgC n tx p ≤ 102
  · rw [if_pos h1] at he ⊢
    by_cases h2 : fitB (sgC n tx (1 + p)) 82 = false
    · rw [if_pos h2] at he; omega
    rw [if_neg h2] at he ⊢
    by_cases h3 : fitB (sgC n tx (2 + p)) 61 = false
    · rw [if_pos h3] at he; omega
    rw [if_neg h3] at he ⊢
    by_cases h4 : fitB (sgC n tx (3 + p)) 72 = false
    · rw [if_pos h4] at he; omega
    rw [if_neg h4] at he ⊢
    have := fit_in (Bool.not_eq_false _ ▸ h4) (by decide)
    by_cases h5 : sgC n tx (4 + p) = 42
    · have := sgC_in (n := n) (tx := tx) (k := 4 + p) (by omega)
      rw [if_pos h5]; omega
    · rw [if_neg h5]; omega
  rw [if_neg h1] at he ⊢
  by_cases h1 : sgC n tx p = 43
  · rw [if_pos h1] at he ⊢
    by_cases h2 : fitB (sgC n tx (1 + p)) 80 = false
    · rw [if_pos h2] at he; omega
    rw [if_neg h2] at he ⊢
    by_cases h3 : fitB (sgC n tx (2 + p)) 68 = false
    · rw [if_pos h3] at he; omega
    rw [if_neg h3] at he ⊢
    by_cases h4 : fitB (sgC n tx (3 + p)) 67 = false
    · rw [if_pos h4] at he; omega
    rw [if_neg h4] at he ⊢
    by_cases h5 : fitB (sgC n tx (4 + p)) 82 = false
    · rw [if_pos h5] at he; omega
    rw [if_neg h5] at he ⊢
    have := fit_in (Bool.not_eq_false _ ▸ h5) (by decide)
    omega
  rw [if_neg h1] at he ⊢
  by_cases h1 : 48 ≤ sgC n tx p ∧ sgC n tx p ≤ 57
  · rw [if_pos h1] at he ⊢
    by_cases h2 : fitB (sgC n tx (1 + p)) 87 = false
    · rw [if_pos h2] at he; omega
    rw [if_neg h2] at he ⊢
    by_cases h3 : fitB (sgC n tx (2 + p)) 83 = false
    · rw [if_pos h3] at he; omega
    rw [if_neg h3] at he ⊢
    have := fit_in (Bool.not_eq_false _ ▸ h3) (by decide)
    omega
  rw [if_neg h1] at he ⊢
  by_cases h1 : sgC n tx p = 119
  · rw [if_pos h1] at he ⊢
    have := sgC_in (n := n) (tx := tx) (k := p) (by omega)
    omega
  · rw [if_neg h1] at he; omega
/-- the fault of a text, from a place on -/
def fltN (n : Int) (g : Int → Int) : Nat → Int → Int
  | 0, _ => -5
  | k + 1, p => if endZ g p < 0 then -1 - endZ g p else if n ≤ endZ g p then -5 else if g (endZ g p) ≠ 59 then endZ g p else fltN n g k (1 + endZ g p)
def fltZ (n : Int) (g : Int → Int) : Int := fltN n g 61 0
theorem fltN_1 {n : Int} {g : Int → Int} {k p : Int} (h : 0 < k) : fltN n g k.toNat p = if endZ g p < 0 then -1 - endZ g p else if n ≤ endZ g p then -5 else if g (endZ g p) ≠ 59 then endZ g p else fltN n g (k - 1).toNat (1 + endZ g p) := by
  rw [show k.toNat = (k - 1).toNat + 1 by omega]
  rfl
theorem fltN_MC {n : Int} {tx : Int → Int} : ∀ (k : Nat) (p : Int), 0 ≤ p → fltN n (sgM n tx) k p = fltN n (sgC n tx) k p := by
  intro k
  induction k with
  | zero => intro p _; rfl
  | succ k ih =>
    intro p hp
    unfold fltN
    rw [endZ_MC hp]
    by_cases h1 : endZ (sgC n tx) p < 0
    · rw [if_pos h1, if_pos h1]
    · rw [if_neg h1, if_neg h1, ih _ (by omega)]
      simp only [ne_eq, sgP (n := n) (tx := tx) (P := fun x => x = 59) (by decide) (by omega : 0 ≤ endZ (sgC n tx) p)]
theorem fltN_rng {n : Int} {g : Int → Int} (hn : n ≤ 60) : ∀ (k : Nat) (p : Int), 0 ≤ p → p ≤ n → -5 ≤ fltN n g k p ∧ fltN n g k p ≤ 70 ∧ (fltN n g k p < 0 → fltN n g k p = -5) := by
  intro k
  induction k with
  | zero => intro p _ _; exact ⟨by show (-5 : Int) ≤ -5; omega, by show (-5 : Int) ≤ 70; omega, fun _ => rfl⟩
  | succ k ih =>
    intro p hp hp2
    unfold fltN
    have hr := endZ_rng g p hp
    split
    · omega
    · split
      · omega
      · split
        · omega
        · exact ih _ (by omega) (by omega)
/-! an order done -/
def celZ (g : Int → Int) (p : Int) : Int := 6 * ranZ 49 54 (g (1 + p)) + ranZ 97 102 (g p)
theorem celZ_rng (g : Int → Int) (p : Int) : -7 ≤ celZ g p ∧ celZ g p ≤ 63 := by
  have h1 := ranZ_rng (lo := 49) (hi := 54) (g (1 + p)) (by omega)
  have h2 := ranZ_rng (lo := 97) (hi := 102) (g p) (by omega)
  unfold celZ; omega
def ordR (v : Int → Int) (g : Int → Int) (p : Int) : Int :=
  if 97 ≤ g p ∧ g p ≤ 102 then layR v (celZ g p) (ranZ 48 52 (g (3 + p))) (bZ (decide (g (4 + p) = 42)))
  else if g p = 43 then addR v (ranZ 48 49 (g (1 + p))) (1 + ranZ 49 51 (g (2 + p))) (celZ g (3 + p))
  else if g p = 119 then waiR v
  else saiR v (ranZ 48 57 (g p)) (dirZ (g (1 + p))) (1 + ranZ 49 51 (g (2 + p)))
def ordV (v : Int → Int) (g : Int → Int) (p : Int) : Int → Int :=
  if 97 ≤ g p ∧ g p ≤ 102 then layV v (celZ g p) (ranZ 48 52 (g (3 + p))) (bZ (decide (g (4 + p) = 42)))
  else if g p = 43 then addV v (ranZ 48 49 (g (1 + p))) (1 + ranZ 49 51 (g (2 + p))) (celZ g (3 + p))
  else if g p = 119 then waiV v
  else saiV v (ranZ 48 57 (g p)) (dirZ (g (1 + p))) (1 + ranZ 49 51 (g (2 + p)))
/-- what append makes -/
def apR (n : Int) : Int := if 60 ≤ n then -3 else 1 + n
def apN (n : Int) : Int := if 60 ≤ n then n else 1 + n
def apT (n : Int) (tx : Int → Int) (x : Int) : Int → Int := if 60 ≤ n then tx else updZ tx n x
theorem Ot.ap {n : Int} {tx : Int → Int} {x : Int} (w : Ot n tx) (hx : 0 ≤ x ∧ x < 65536) : Ot (apN n) (apT n tx x) := by
  obtain ⟨h1, h2⟩ := w
  unfold apN apT
  split
  · exact ⟨h1, h2⟩
  · refine ⟨by omega, fun k => ?_⟩
    unfold updZ
    split
    · exact hx
    · exact h2 k
/-- the object of the text, and the cell of a char array -/
abbrev orO (G : gT) (o sg : Nat) (n : Int) : Nat × va_E := (o, .inr (2, [.ref sg, .int (iI n)]))
abbrev arC (G : gT) (a n : Nat) (f : Int → Int) : Nat × va_E := (a, .inl (G.2 2, n, .inl (fun k : Nat => iI (f k))))
theorem vnar_char {x : Int} (h : 0 ≤ x ∧ x < 65536) : vp_nar .char (iI x) = iI x := by
  have := nar_char h
  exact Value.int.inj this
section Z
variable {p : Program} {l : Launch} {e : Env} {R : Room} {s : State} {m : MethodId} {args : Array Value} {below : List Frame} {meth : Method} {c : Code} {H : Heap} {locs : List Loc} {cells slots : Nat} {Q : State → Prop}
variable {own : String} {cc : ByteArray} {nL : Nat} {ret : Option FieldType} {pc : Nat} {ls : Array Slot} {rest : List Value}
theorem z_iaC (C : CX p s m args meth c own cc nL ret) {G : gT} {w : va_W} {a n : Nat} (f : Int → Int) {i : Int} (hP : gP G w H) (hK : gK G s) (q0 : Nat) (he : w[q0]? = some (arC G a n f)) (hi : 0 ≤ i ∧ i < n) (hn : (n : Int) ≤ 2147483647) (x : Int) (hx : f i = x) (d : decode cc pc = .ok (.caload, 1)) (q : Nat) (hq : pc + 1 = q) (k : W p l e R s m args below meth c H locs cells slots Q (F0 m q ls (.int (iI x) :: rest))) : W p l e R s m args below meth c H locs cells slots Q (F0 m pc ls (.int (iI i) :: .ref a :: rest)) :=
  z_cald C hP hK q0 he hi hn (iI x) (by show iI (f (i.toNat : Int)) = _; rw [Int.toNat_of_nonneg hi.1, hx]) d q hq k
theorem z_iasC (C : CX p s m args meth c own cc nL ret) {G : gT} {A : Nat → Prop} {rs rs' : List va_W} {H0 : Heap} {a n : Nat} (f : Int → Int) {i x : Int} (hW : Wd G A rs H0 H locs) (hK : gK G s) (q0 : Nat) (he : rs.flatten[q0]? = some (arC G a n f)) (hi : 0 ≤ i ∧ i < n) (hn : (n : Int) ≤ 2147483647) (hx : 0 ≤ x ∧ x < 65536) (d : decode cc pc = .ok (.castore, 1)) (q : Nat) (hq : pc + 1 = q) (hrs : rs.flatten.set q0 (arC G a n (updZ f i x)) = rs'.flatten) (k : ∀ (H1 : Heap) (locs1 : List Loc), Wd G A rs' H0 H1 locs1 → W p l e R s m args below meth c H1 locs1 cells slots Q (F0 m q ls rest)) : W p l e R s m args below meth c H locs cells slots Q (F0 m pc ls (.int (iI x) :: .int (iI i) :: .ref a :: rest)) :=
  z_cast C hW hK q0 he hi hn (vnar_char hx) _ (updI hi.1) d q hq hrs k
end Z
