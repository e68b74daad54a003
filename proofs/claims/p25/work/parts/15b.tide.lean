/-! sums -/
theorem sumN_add {f g h : Int → Int} {n : Nat} (e : ∀ k : Int, 0 ≤ k → k < n → h k = f k + g k) : sumN h n = sumN f n + sumN g n := by
  induction n with
  | zero => rfl
  | succ n ih =>
    show sumN h n + h n = (sumN f n + f n) + (sumN g n + g n)
    rw [ih (fun k h1 h2 => e k h1 (by omega)), e n (by omega) (by omega)]
    omega
theorem sumN_le {f g : Int → Int} {n : Nat} (e : ∀ k : Int, 0 ≤ k → k < n → f k ≤ g k) : sumN f n ≤ sumN g n := by
  induction n with
  | zero => exact Int.le_refl _
  | succ n ih =>
    show sumN f n + f n ≤ sumN g n + g n
    have h1 := ih (fun k h1 h2 => e k h1 (by omega))
    have h2 := e n (by omega) (by omega)
    omega
theorem sumN_lt {f g : Int → Int} {n : Nat} {j : Int} (hj : 0 ≤ j ∧ j < n) (e : ∀ k : Int, 0 ≤ k → k < n → f k ≤ g k) (hj2 : f j + 1 ≤ g j) : sumN f n + 1 ≤ sumN g n := by
  induction n with
  | zero => omega
  | succ n ih =>
    show sumN f n + f n + 1 ≤ sumN g n + g n
    have h2 := e n (by omega) (by omega)
    by_cases h : j = n
    · subst h
      have h1 := sumN_le (f := f) (g := g) (n := n) (fun k h1 h2 => e k h1 (by omega))
      omega
    · have h1 := ih (by omega) (fun k h1 h2 => e k h1 (by omega))
      omega
theorem sumN_ext {f : Int → Int} {n : Nat} : ∀ m : Nat, n ≤ m → (∀ k : Int, n ≤ k → k < m → f k = 0) → sumN f m = sumN f n := by
  intro m
  induction m with
  | zero => intro h _; rw [show n = 0 by omega]
  | succ m ih =>
    intro h e
    by_cases hm : n = m + 1
    · rw [hm]
    · show sumN f m + f m = _
      rw [ih (by omega) (fun k h1 h2 => e k h1 (by omega)), e m (by omega) (by omega)]
      omega
theorem bZ_if {p : Prop} [Decidable p] : bZ (decide p) = if p then 1 else 0 := by
  by_cases h : p
  · rw [decide_eq_true h, if_pos h]; rfl
  · rw [decide_eq_false h, if_neg h]; rfl
/-! the tide -/
theorem tide_lim {v : Int → Int} (w : Wf v) (t : Int) : v 122 ≤ tideZ v t ∧ tideZ v t ≤ v 122 + v 123 := by
  have h1 := w.s
  have h2 := stepZ_rng w t
  unfold tideZ
  split <;> omega
theorem tide_0 {v : Int → Int} (w : Wf v) : tideZ v 0 = v 122 := by
  have h := w.s
  have e : stepZ v 0 = 0 := by unfold stepZ; rw [Int.zero_ediv, Int.zero_emod]
  unfold tideZ
  rw [e, if_pos (by omega)]
  omega
theorem tide_per {v : Int → Int} (w : Wf v) (t : Int) : tideZ v (t + perZ v) = tideZ v t := by
  have h := w.s
  have e : stepZ v (t + perZ v) = stepZ v t := by
    unfold stepZ perZ
    rw [show (t + 2 * v 123 * v 124) / v 124 = t / v 124 + 2 * v 123 from Int.add_mul_ediv_right _ _ (by omega)]
    generalize t / v 124 = x
    rcases (show v 123 = 1 ∨ v 123 = 2 ∨ v 123 = 3 ∨ v 123 = 4 by omega) with e | e | e | e <;> rw [e] <;> omega
  unfold tideZ
  rw [e]
theorem tide_stp {v : Int → Int} (w : Wf v) {t : Int} (ht : 0 ≤ t) : tideZ v (1 + t) - tideZ v t ≤ 1 ∧ -1 ≤ tideZ v (1 + t) - tideZ v t := by
  have h := w.s
  unfold tideZ stepZ
  rcases (show v 123 = 1 ∨ v 123 = 2 ∨ v 123 = 3 ∨ v 123 = 4 by omega) with e | e | e | e <;> rcases (show v 124 = 1 ∨ v 124 = 2 ∨ v 124 = 3 by omega) with e2 | e2 | e2 <;> simp only [e, e2] <;> (repeat' split) <;> omega
theorem wet_per {v : Int → Int} (w : Wf v) (c d t : Int) : wetB v c d (t + perZ v) = wetB v c d t := by
  unfold wetB
  rw [tide_per w]
theorem wet_perN {v : Int → Int} (w : Wf v) (c d : Int) : ∀ (n : Nat) (t : Int), wetB v c d (t + n * perZ v) = wetB v c d t := by
  intro n
  induction n with
  | zero => intro t; rw [show t + ((0 : Nat) : Int) * perZ v = t by simp]
  | succ n ih =>
    intro t
    rw [show t + ((n + 1 : Nat) : Int) * perZ v = (t + n * perZ v) + perZ v by rw [Int.natCast_succ, Int.add_mul, Int.one_mul]; omega, wet_per w, ih]
/-- the first of some turns in which it floats -/
theorem fir_lst {v : Int → Int} {c d t : Int} : ∀ (n : Nat) (k : Int), 0 ≤ k → (firN v c d t n k = -5 ∧ ∀ i : Int, k ≤ i → i < k + n → wetB v c d (i + t) = false) ∨ ((k ≤ firN v c d t n k ∧ firN v c d t n k < k + n) ∧ wetB v c d (firN v c d t n k + t) = true ∧ ∀ i : Int, k ≤ i → i < firN v c d t n k → wetB v c d (i + t) = false) := by
  intro n
  induction n with
  | zero => intro k _; exact Or.inl ⟨rfl, fun i h1 h2 => by omega⟩
  | succ n ih =>
    intro k hk
    have e : firN v c d t (n + 1) k = if wetB v c d (k + t) = true then k else firN v c d t n (1 + k) := rfl
    rw [e]
    split
    · rename_i h
      exact Or.inr ⟨by omega, h, fun i h1 h2 => by omega⟩
    · rename_i h
      have h : wetB v c d (k + t) = false := by simpa using h
      rcases ih (1 + k) (by omega) with ⟨h1, h2⟩ | ⟨h1, h2, h3⟩
      · refine Or.inl ⟨h1, fun i g1 g2 => ?_⟩
        by_cases hi : i = k
        · rw [hi]; exact h
        · exact h2 i (by omega) (by omega)
      · refine Or.inr ⟨by omega, h2, fun i g1 g2 => ?_⟩
        by_cases hi : i = k
        · rw [hi]; exact h
        · exact h3 i (by omega) g2
theorem fir_more {v : Int → Int} (w : Wf v) (c d t : Int) : firN v c d t (perZ v + 1).toNat 0 = firN v c d t (perZ v).toNat 0 := by
  have hp := perZ_rng w
  rcases fir_lst (v := v) (c := c) (d := d) (t := t) (perZ v + 1).toNat 0 (by omega) with ⟨h1, h2⟩ | ⟨h1, h2, h3⟩
  · rcases fir_lst (v := v) (c := c) (d := d) (t := t) (perZ v).toNat 0 (by omega) with ⟨g1, g2⟩ | ⟨g1, g2, g3⟩
    · rw [h1, g1]
    · rw [h2 _ g1.1 (by omega)] at g2; cases g2
  · rcases fir_lst (v := v) (c := c) (d := d) (t := t) (perZ v).toNat 0 (by omega) with ⟨g1, g2⟩ | ⟨g1, g2, g3⟩
    · exfalso
      by_cases hl : firN v c d t (perZ v + 1).toNat 0 < perZ v
      · rw [g2 _ h1.1 (by omega)] at h2; cases h2
      · have e : firN v c d t (perZ v + 1).toNat 0 = perZ v := by omega
        rw [e, show perZ v + t = (0 + t) + perZ v by omega, wet_per w, g2 0 (by omega) (by omega)] at h2
        cases h2
    · by_cases hl : firN v c d t (perZ v + 1).toNat 0 < firN v c d t (perZ v).toNat 0
      · rw [g3 _ h1.1 hl] at h2; cases h2
      · by_cases hl2 : firN v c d t (perZ v).toNat 0 < firN v c d t (perZ v + 1).toNat 0
        · rw [h3 _ g1.1 hl2] at g2; cases g2
        · omega
/-- what is told of a boat's way home, and of when it floats -/
theorem home_flo {v : Int → Int} (w : Wf v) {b : Int} (hb : 0 ≤ b ∧ b < v 127) (hon : v (74 + 5 * b) = 0) : homR v b 0 = -5 ∨ ((0 < homR v b 0 ∧ homR v b 0 ≤ 100) ∧ v 126 + homR v b 0 - 1 ≤ v 125 ∧ (v 126 + homR v b 0 - 1) % 2 = v (72 + 5 * b) ∧ 0 ≤ floR v b ∧ floR v b < homR v b 0) := by
  have hn := w.n
  have hw := w.b b (by omega)
  have ht := w.t
  have hs := w.s
  have hp := perZ_rng w
  have h3 : ¬ onB v b = false := by unfold onB; rw [decide_eq_true hon]; decide
  have e1 : homR v b 0 = fwZ v (v (72 + 5 * b)) (v (73 + 5 * b)) (v (75 + 5 * b)) (v 126) := by
    unfold homR
    rw [if_neg (by omega), if_neg (by omega), if_neg h3, if_pos rfl]
  have e2 : floR v b = firN v (v (75 + 5 * b)) (v (73 + 5 * b)) (v 126) (perZ v).toNat 0 := by
    unfold floR
    rw [if_neg (by omega), if_neg h3]
  rw [e1, e2]
  rcases fwZ_lst (v := v) (P := v (72 + 5 * b)) (D := v (73 + 5 * b)) (c := v (75 + 5 * b)) (f := v 126) (by omega) with ⟨h, -⟩ | ⟨k, g1, g2, g3, g4, -⟩
  · exact Or.inl h
  · right
    rw [g3]
    have hpar := hm_par _ _ _ g4
    obtain ⟨i, hi, hwet⟩ := hm_wet _ _ _ g4
    refine ⟨by omega, by omega, hpar, ?_⟩
    have hm1 : 0 ≤ (i : Int) % perZ v := Int.emod_nonneg _ (by omega)
    have hm2 : (i : Int) % perZ v < perZ v := Int.emod_lt_of_pos _ (by omega)
    have hd0 : 0 ≤ (i : Int) / perZ v := Int.ediv_nonneg (by omega) (by omega)
    have he := Int.emod_add_mul_ediv (i : Int) (perZ v)
    have hle : (i : Int) % perZ v ≤ i := by
      have h5 : 0 ≤ perZ v * ((i : Int) / perZ v) := Int.mul_nonneg (by omega) hd0
      omega
    have hwm : wetB v (v (75 + 5 * b)) (v (73 + 5 * b)) ((i : Int) % perZ v + v 126) = true := by
      have h5 := wet_perN w (v (75 + 5 * b)) (v (73 + 5 * b)) ((i : Int) / perZ v).toNat ((i : Int) % perZ v + v 126)
      rw [Int.toNat_of_nonneg hd0, show (i : Int) % perZ v + v 126 + (i : Int) / perZ v * perZ v = (i : Int) + v 126 by rw [Int.mul_comm ((i : Int) / perZ v)]; omega] at h5
      rw [← h5]; exact hwet
    rcases fir_lst (v := v) (c := v (75 + 5 * b)) (d := v (73 + 5 * b)) (t := v 126) (perZ v).toNat 0 (by omega) with ⟨-, h2⟩ | ⟨h1, -, h3⟩
    · rw [h2 _ hm1 (by omega)] at hwm; cases hwm
    · refine ⟨h1.1, ?_⟩
      rcases Int.lt_or_le ((i : Int) % perZ v) (firN v (v (75 + 5 * b)) (v (73 + 5 * b)) (v 126) (perZ v).toNat 0) with hl | hl
      · rw [h3 _ hm1 hl] at hwm; cases hwm
      · omega
