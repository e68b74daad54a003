/-- the state of a new object -/
def v0Z : Int → Int := fun k => if k = 122 then 1 else if k = 123 then 3 else if k = 124 then 1 else if k = 125 then 60 else if 1 ≤ k ∧ k < 35 then 1 else 0
def hg0 (n : Int) : Int → Int := fun j => if j < n then (if j = 0 ∨ j = 35 then 0 else 1) else 0
theorem hg0_s {n x : Int} (h : x = if n = 0 ∨ n = 35 then 0 else 1) : updZ (hg0 n) n x = hg0 (1 + n) := by
  funext k
  unfold updZ hg0
  by_cases h1 : k = n
  · subst h1; rw [if_pos rfl, if_pos (by omega), h]
  · rw [if_neg h1]
    by_cases h2 : k < n
    · rw [if_pos h2, if_pos (show k < 1 + n by omega)]
    · rw [if_neg h2, if_neg (show ¬ k < 1 + n by omega)]
theorem hg0_e {k : Int} (h : 0 ≤ k ∧ k < 36) : hg0 36 k = v0Z k := by
  unfold hg0 v0Z
  rw [if_pos h.2]
  (repeat' split) <;> omega
theorem v0_z {k : Int} (h : 36 ≤ k) (h2 : k < 122 ∨ 126 ≤ k) : 0 = v0Z k := by
  unfold v0Z
  rw [if_neg (by omega), if_neg (by omega), if_neg (by omega), if_neg (by omega), if_neg (by omega)]
theorem Wf.v0 : Wf v0Z := by
  refine ⟨fun c h1 h2 => ?_, fun c h1 h2 => ?_, by decide, fun b h1 h2 => ?_, fun b h1 h2 => ?_, by decide, by decide⟩
  · unfold v0Z; (repeat' split) <;> omega
  · rw [← v0_z (by omega) (by omega)]; omega
  · rw [← v0_z (k := 72 + 5 * b) (by omega) (by omega), ← v0_z (k := 73 + 5 * b) (by omega) (by omega), ← v0_z (k := 74 + 5 * b) (by omega) (by omega), ← v0_z (k := 75 + 5 * b) (by omega) (by omega)]; omega
  · rw [← v0_z (k := 127) (by omega) (by omega)] at h2; omega
theorem perm_end {a b c d e f x : va_W} : ([a, b, x, c, d, e, f] : List va_W).flatten.Perm ([a, b, c, d, e, f, x] : List va_W).flatten := by
  have h : ([x, c, d, e, f] : List va_W).flatten.Perm ([c, d, e, f, x] : List va_W).flatten := by
    simp only [List.flatten_cons, List.flatten_nil, List.append_nil]
    have := List.perm_append_comm (l₁ := x) (l₂ := c ++ (d ++ (e ++ f)))
    simpa [List.append_assoc] using this
  simp only [List.flatten_cons] at h ⊢
  exact List.Perm.append_left a (List.Perm.append_left b h)
/-- eight addresses as one row; four such rows -/
def qa8 (a b c d e f g h : Nat) : Nat → Nat := fun i => if i = 0 then a else if i = 1 then b else if i = 2 then c else if i = 3 then d else if i = 4 then e else if i = 5 then f else if i = 6 then g else h
def qa9 (a b c d e f g h i9 : Nat) : Nat → Nat := fun i => if i = 8 then i9 else qa8 a b c d e f g h i
def S4 (a b c d : Nat → Nat) : Nat → Nat → Nat := fun i => if i = 0 then a else if i = 1 then b else if i = 2 then c else d
theorem hz_s {k : Int} (h : 1 ≤ k) : updZ (fun j => if 1 ≤ j ∧ j < k then (1 : Int) else 0) k 1 = fun j => if 1 ≤ j ∧ j < (1 + k) then (1 : Int) else 0 := by
  funext j
  unfold updZ
  by_cases h1 : j = k
  · subst h1; rw [if_pos rfl, if_pos (by omega)]
  · rw [if_neg h1]
    show (if 1 ≤ j ∧ j < k then (1 : Int) else 0) = if 1 ≤ j ∧ j < 1 + k then 1 else 0
    by_cases h2 : 1 ≤ j ∧ j < k
    · rw [if_pos h2, if_pos (by omega)]
    · rw [if_neg h2, if_neg (by omega)]
