/-! arrays whose contents are images of integers, or of truth values -/
theorem updI {f : Int → Int} {i x : Int} (hi : 0 ≤ i) : upd (fun k : Nat => iI (f k)) i.toNat (iI x) = fun k : Nat => iI (updZ f i x k) := by
  funext k
  unfold upd updZ
  by_cases h : k = i.toNat
  · have : (k : Int) = i := by omega
    rw [if_pos h, if_pos this]
  · have : ¬ (k : Int) = i := by omega
    rw [if_neg h, if_neg this]
def updB (f : Int → Bool) (k : Int) (x : Bool) : Int → Bool := fun j => if j = k then x else f j
theorem updBI {f : Int → Bool} {i : Int} {x : Bool} (hi : 0 ≤ i) : upd (fun k : Nat => iI (bZ (f k))) i.toNat (iI (bZ x)) = fun k : Nat => iI (bZ (updB f i x k)) := by
  funext k
  unfold upd updB
  by_cases h : k = i.toNat
  · have : (k : Int) = i := by omega
    rw [if_pos h, if_pos this]
  · have : ¬ (k : Int) = i := by omega
    rw [if_neg h, if_neg this]
theorem nar_vbZ (b : Bool) : vp_nar .boolean (iI (bZ b)) = iI (bZ b) := by cases b <;> rfl
theorem nar_fit (ty : FieldType) : ty = .int → ∀ x, fits ty (.int x) = true := by rintro rfl x; rfl
/-- the cell of an int array that holds f -/
abbrev arI (G : gT) (a n : Nat) (f : Int → Int) : Nat × va_E := (a, .inl (G.2 0, n, .inl (fun k : Nat => iI (f k))))
abbrev arB (G : gT) (a n : Nat) (f : Int → Bool) : Nat × va_E := (a, .inl (G.2 3, n, .inl (fun k : Nat => iI (bZ (f k)))))
/-- the regions of a State of the class: its object and its seven rows; v holds the numbers in the places of the row of 129 -/
def stC (G : gT) (q : Nat → Nat) (v : Int → Int) : List va_W := [
  [(q 0, .inr (4, [.ref (q 1), .ref (q 2), .ref (q 3), .ref (q 4), .ref (q 5), .ref (q 6), .ref (q 7), .int (iI (v 127)), .int (iI (v 128)), .int (iI (v 126)), .int (iI (v 122)), .int (iI (v 123)), .int (iI (v 124)), .int (iI (v 125))]))],
  [arI G (q 1) 36 (fun k => v k)],
  [arI G (q 2) 36 (fun k => v (36 + k))],
  [arI G (q 3) 10 (fun k => v (72 + 5 * k))],
  [arI G (q 4) 10 (fun k => v (73 + 5 * k))],
  [arI G (q 5) 10 (fun k => v (74 + 5 * k))],
  [arI G (q 6) 10 (fun k => v (75 + 5 * k))],
  [arI G (q 7) 10 (fun k => v (76 + 5 * k))]]
def stW (G : gT) (q : Nat → Nat) (v : Int → Int) : va_W := (stC G q v).flatten
section Z
variable {p : Program} {l : Launch} {e : Env} {R : Room} {s : State} {m : MethodId} {args : Array Value} {below : List Frame} {meth : Method} {c : Code} {H : Heap} {locs : List Loc} {cells slots : Nat} {Q : State → Prop}
variable {own : String} {cc : ByteArray} {nL : Nat} {ret : Option FieldType} {pc : Nat} {ls : Array Slot} {rest : List Value}
theorem z_iaZ (C : CX p s m args meth c own cc nL ret) {G : gT} {w : va_W} {a n : Nat} (f : Int → Int) {i : Int} (hP : gP G w H) (hK : gK G s) (q0 : Nat) (he : w[q0]? = some (arI G a n f)) (hi : 0 ≤ i ∧ i < n) (hn : (n : Int) ≤ 2147483647) (x : Int) (hx : f i = x) (d : decode cc pc = .ok (.iaload, 1)) (q : Nat) (hq : pc + 1 = q) (k : W p l e R s m args below meth c H locs cells slots Q (F0 m q ls (.int (iI x) :: rest))) : W p l e R s m args below meth c H locs cells slots Q (F0 m pc ls (.int (iI i) :: .ref a :: rest)) :=
  z_iald C hP hK q0 he hi hn (iI x) (by show iI (f (i.toNat : Int)) = _; rw [Int.toNat_of_nonneg hi.1, hx]) d q hq k
theorem z_iasZ (C : CX p s m args meth c own cc nL ret) {G : gT} {A : Nat → Prop} {rs rs' : List va_W} {H0 : Heap} {a n : Nat} (f : Int → Int) {i x : Int} (hW : Wd G A rs H0 H locs) (hK : gK G s) (q0 : Nat) (he : rs.flatten[q0]? = some (arI G a n f)) (hi : 0 ≤ i ∧ i < n) (hn : (n : Int) ≤ 2147483647) (d : decode cc pc = .ok (.iastore, 1)) (q : Nat) (hq : pc + 1 = q) (hrs : rs.flatten.set q0 (arI G a n (updZ f i x)) = rs'.flatten) (k : ∀ (H1 : Heap) (locs1 : List Loc), Wd G A rs' H0 H1 locs1 → W p l e R s m args below meth c H1 locs1 cells slots Q (F0 m q ls rest)) : W p l e R s m args below meth c H locs cells slots Q (F0 m pc ls (.int (iI x) :: .int (iI i) :: .ref a :: rest)) :=
  z_iast C hW hK q0 he hi hn _ (updI hi.1) d q hq hrs k
end Z
