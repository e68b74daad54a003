/-! THE REFERENCE: one row of 258, the state's and the work's -/
def s2Z (v y : Int → Int) : Int → Int := fun k => if k < 129 then v k else y (k - 129)
theorem s2_lo {v y : Int → Int} {k : Int} (h : k < 129) : s2Z v y k = v k := if_pos h
theorem s2_hi {v y : Int → Int} {k : Int} (h : 0 ≤ k) : s2Z v y (129 + k) = y k := by
  unfold s2Z
  rw [if_neg (by omega)]
  congr 1; omega
theorem s2_0 (v y : Int → Int) : ∀ k : Int, 0 ≤ k → k < 129 → s2Z v y (0 + k) = v k := fun k _ h => by rw [Int.zero_add]; exact s2_lo h
theorem s2_1 (v y : Int → Int) : ∀ k : Int, 0 ≤ k → k < 129 → s2Z v y (129 + k) = y k := fun k h _ => s2_hi h
theorem s2_up {v y : Int → Int} {k x : Int} (h : 0 ≤ k) : updZ (s2Z v y) (129 + k) x = s2Z v (updZ y k x) := by
  funext j
  unfold updZ s2Z
  by_cases h1 : j < 129
  · rw [if_pos h1, if_pos h1, if_neg (by omega)]
  · rw [if_neg h1, if_neg h1]
    by_cases h2 : j = 129 + k
    · rw [if_pos h2]; exact (if_pos (by omega)).symm
    · rw [if_neg h2]; exact (if_neg (by omega)).symm
theorem s2_lw {v y : Int → Int} {k x : Int} (h : k < 129) : updZ (s2Z v y) k x = s2Z (updZ v k x) y := by
  funext j
  unfold updZ s2Z
  by_cases h1 : j < 129
  · rw [if_pos h1, if_pos h1]
  · rw [if_neg h1, if_neg h1, if_neg (by omega)]
/-- the reference's object. X: its address and those of its rows -/
abbrev moO (X : Nat → Nat) (kn : Int) (kp : Bool) (ml : Int) : Nat × va_E := (X 0, .inr (6, [.ref (X 1), .ref (X 2), .int (iI kn), .ref (X 3), .int (iI (bZ kp)), .ref (X 4), .int (iI ml), .ref (X 5), .ref (X 6), .ref (X 7), .ref (X 8)]))
def nbZ (c d : Int) : Int := if besZ c d = -1 then -5 else besZ c d
theorem nbZ_m {c d : Int} (h : nbZ c d = -5) : besZ c d = -1 := by
  have := besZ_rng c d
  unfold nbZ at h
  split at h <;> omega
theorem nbZ_e {c d : Int} (h : ¬ nbZ c d = -5) : nbZ c d = besZ c d := by
  unfold nbZ at h ⊢
  split
  · rename_i hh; rw [if_pos hh] at h; exact absurd rfl h
  · rfl
theorem nbZ_b {c d : Int} (h : besZ c d ≠ -1) : nbZ c d = besZ c d := if_neg h
theorem nbZ_rng (c d : Int) : -5 ≤ nbZ c d ∧ nbZ c d < 36 := by
  have := besZ_rng c d
  unfold nbZ
  split <;> omega
theorem rea_f {v : Int → Int} {b d n : Int} : reaZ v b d n false = if ¬ reaZ v b d n true = 1 ∧ ¬ reaZ v b d n true = 2 ∧ ¬ v (72 + 5 * b) = v 126 % 2 then 3 else reaZ v b d n true := by
  unfold reaZ
  by_cases h1 : overB v = true
  · simp [h1]
  · by_cases h2 : onB v b = false
    · simp [h1, h2]
    · by_cases h3 : v (72 + 5 * b) = v 126 % 2
      · simp [h1, h2, h3]
      · simp only [h1, h2, h3]
        simp
        (repeat' split) <;> simp_all
def wofZ (d n : Int) : Int := if (0 ≤ d ∧ d ≤ 3) ∧ (1 ≤ n ∧ n ≤ 3) then 10 * d + n else -5
theorem wayN_rng {v : Int → Int} {p dr t d : Int} : ∀ (n : Nat) (c : Int), 0 ≤ c ∧ c < 36 → -5 ≤ wayN v p dr t d n c ∧ wayN v p dr t d n c < 36 := by
  intro n
  induction n with
  | zero => intro c hc; exact ⟨by show (-5 : Int) ≤ c; omega, hc.2⟩
  | succ n ih =>
    intro c hc
    unfold wayN
    split
    · omega
    · rename_i hh
      have := besZ_rng c d
      exact ih _ (by omega)
theorem wayZ_rng {v : Int → Int} {b d n : Int} (h : 0 ≤ v (75 + 5 * b) ∧ v (75 + 5 * b) < 36) : -5 ≤ wayZ v b d n ∧ wayZ v b d n < 36 := wayN_rng _ _ h
