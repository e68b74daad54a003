/-! the reference's texts -/
def celM (n : Int) (tx : Int → Int) (p : Int) : Int := 6 * (sgM n tx (1 + p) - 49) + sgM n tx p - 97
def dirM (x : Int) : Int := if x = 114 then 0 else if x = 100 then 1 else if x = 108 then 2 else if x = 117 then 3 else -5
theorem dirM_m {x : Int} (h : dirM x = -5) : ¬ 0 ≤ dirZ x := by
  unfold dirM at h
  unfold dirZ
  (repeat' split at h) <;> (repeat' split) <;> omega
theorem dirM_e {x : Int} (h : ¬ dirM x = -5) : dirM x = dirZ x ∧ 0 ≤ dirZ x := by
  unfold dirM at h ⊢
  unfold dirZ
  (repeat' split at h) <;> (repeat' split) <;> omega
theorem dirM_z {x : Int} (h : 0 ≤ dirZ x) : dirM x = dirZ x := by
  unfold dirZ at h
  unfold dirM dirZ
  (repeat' split at h) <;> (repeat' split) <;> omega
theorem dirM_rng (x : Int) : -5 ≤ dirM x ∧ dirM x ≤ 3 := by unfold dirM; (repeat' split) <;> omega
theorem fit80 (x : Int) : fitB x 80 = decide (48 ≤ x ∧ x ≤ 49) := rfl
theorem fit68 (x : Int) : fitB x 68 = decide (49 ≤ x ∧ x ≤ 51) := rfl
theorem fit67 (x : Int) : fitB x 67 = decide (97 ≤ x ∧ x ≤ 102) := rfl
theorem fit82 (x : Int) : fitB x 82 = decide (49 ≤ x ∧ x ≤ 54) := rfl
theorem fit87 (x : Int) : fitB x 87 = decide (0 ≤ dirZ x) := rfl
theorem fit83 (x : Int) : fitB x 83 = decide (49 ≤ x ∧ x ≤ 51) := rfl
theorem fit61 (x : Int) : fitB x 61 = decide (x = 61) := rfl
theorem fit72 (x : Int) : fitB x 72 = decide (48 ≤ x ∧ x ≤ 52) := rfl
def celE (g : Int → Int) (p : Int) : Int := if 97 ≤ g p ∧ g p ≤ 102 then (if 49 ≤ g (1 + p) ∧ g (1 + p) ≤ 54 then 2 + p else -2 - p) else -1 - p
def sanE (g : Int → Int) (p : Int) : Int :=
  if celE g p < 0 then celE g p else if g (celE g p) ≠ 61 then -1 - celE g p else if ¬ (48 ≤ g (1 + celE g p) ∧ g (1 + celE g p) ≤ 52) then -2 - celE g p else if g (2 + celE g p) = 42 then 3 + celE g p else 2 + celE g p
theorem celE_rng (g : Int → Int) (p : Int) (h : 0 ≤ p) : (-2 - p ≤ celE g p ∧ celE g p < 0) ∨ celE g p = 2 + p := by
  unfold celE
  (repeat' split) <;> omega
theorem celE_p (g : Int → Int) (p : Int) : celE g (3 + p) = if fitB (g (3 + p)) 67 = false then -4 - p else if fitB (g (4 + p)) 82 = false then -5 - p else 5 + p := by
  unfold celE
  rw [fit67, fit82, show 1 + (3 + p) = 4 + p by omega]
  simp only [decide_eq_false_iff_not]
  (repeat' split) <;> omega
theorem sanE_end {g : Int → Int} {p : Int} (hp : 0 ≤ p) (h1 : ¬ g p = 119) (h2 : ¬ g p = 43) (h3 : ¬ (48 ≤ g p ∧ g p ≤ 57)) : sanE g p = endZ g p := by
  unfold endZ
  rw [if_neg h2, if_neg h3, if_neg h1, fit82, fit61, fit72]
  simp only [decide_eq_false_iff_not]
  unfold sanE
  by_cases h4 : 97 ≤ g p ∧ g p ≤ 102
  · rw [if_pos h4]
    by_cases h5 : 49 ≤ g (1 + p) ∧ g (1 + p) ≤ 54
    · have e : celE g p = 2 + p := by unfold celE; rw [if_pos h4, if_pos h5]
      rw [e, show 1 + (2 + p) = 3 + p by omega, show 2 + (2 + p) = 4 + p by omega]
      (repeat' split) <;> first | omega | (exfalso; simp_all; done) | (exfalso; simp_all; omega)
    · have e : celE g p = -2 - p := by unfold celE; rw [if_pos h4, if_neg h5]
      rw [e, if_pos (by omega), if_pos h5]
  · have e : celE g p = -1 - p := by unfold celE; rw [if_neg h4]
    rw [e, if_pos (by omega), if_neg h4]
theorem sg_MC {n : Int} {tx : Int → Int} {k : Int} (hk : 0 ≤ k) (h : sgM n tx k ≠ -1) : sgC n tx k = sgM n tx k := by
  unfold sgM at h ⊢
  unfold sgC
  split
  · rename_i h2; rw [if_pos h2.2]
  · rename_i h2; rw [if_neg (by omega)] at h; exact absurd rfl h
theorem ran_in {lo hi x : Int} (h : lo ≤ x ∧ x ≤ hi) : ranZ lo hi x = x - lo := if_pos h
theorem celM_e {n : Int} {tx : Int → Int} {p : Int} (hp : 0 ≤ p) (h1 : 97 ≤ sgM n tx p ∧ sgM n tx p ≤ 102) (h2 : 49 ≤ sgM n tx (1 + p) ∧ sgM n tx (1 + p) ≤ 54) : celZ (sgC n tx) p = celM n tx p := by
  unfold celZ celM
  rw [sg_MC hp (by omega), sg_MC (k := 1 + p) (by omega) (by omega), ran_in h1, ran_in h2]
  omega
theorem fit_t {x c : Int} {P : Prop} [Decidable P] (hf : fitB x c = decide P) (h : ¬ fitB x c = false) : P := by
  rw [hf] at h
  exact of_decide_eq_true (by simpa using h)
theorem ord_w {y : Int → Int} {n : Int} {tx : Int → Int} {p : Int} (hp : 0 ≤ p) (h : sgM n tx p = 119) : ordR y (sgC n tx) p = waiR y ∧ ordV y (sgC n tx) p = waiV y := by
  have e : sgC n tx p = 119 := by rw [sg_MC hp (by omega), h]
  unfold ordR ordV
  rw [if_neg (by omega), if_neg (by omega), if_pos e, if_neg (by omega), if_neg (by omega), if_pos e]
  exact ⟨rfl, rfl⟩
theorem ord_p {y : Int → Int} {n : Int} {tx : Int → Int} {p : Int} (hp : 0 ≤ p) (h : sgM n tx p = 43) (hv : 0 ≤ endZ (sgM n tx) p) : ordR y (sgC n tx) p = addR y (sgM n tx (1 + p) - 48) (sgM n tx (2 + p) - 48) (celM n tx (3 + p)) ∧ ordV y (sgC n tx) p = addV y (sgM n tx (1 + p) - 48) (sgM n tx (2 + p) - 48) (celM n tx (3 + p)) := by
  unfold endZ at hv
  rw [if_neg (by omega), if_pos h] at hv
  by_cases h1 : fitB (sgM n tx (1 + p)) 80 = false
  · rw [if_pos h1] at hv; omega
  rw [if_neg h1] at hv
  by_cases h2 : fitB (sgM n tx (2 + p)) 68 = false
  · rw [if_pos h2] at hv; omega
  rw [if_neg h2] at hv
  by_cases h3 : fitB (sgM n tx (3 + p)) 67 = false
  · rw [if_pos h3] at hv; omega
  rw [if_neg h3] at hv
  by_cases h4 : fitB (sgM n tx (4 + p)) 82 = false
  · rw [if_pos h4] at hv; omega
  have g1 := fit_t (fit80 _) h1
  have g2 := fit_t (fit68 _) h2
  have g3 := fit_t (fit67 _) h3
  have g4 := fit_t (fit82 _) h4
  have e : sgC n tx p = 43 := by rw [sg_MC hp (by omega), h]
  unfold ordR ordV
  rw [if_neg (by omega), if_pos e, if_neg (by omega), if_pos e, sg_MC (k := 1 + p) (by omega) (by omega), sg_MC (k := 2 + p) (by omega) (by omega), ran_in g1, ran_in g2, celM_e (p := 3 + p) (by omega) g3 (by rw [show 1 + (3 + p) = 4 + p by omega]; exact g4), show 1 + (sgM n tx (2 + p) - 49) = sgM n tx (2 + p) - 48 by omega]
  exact ⟨rfl, rfl⟩
theorem ord_m {y : Int → Int} {n : Int} {tx : Int → Int} {p : Int} (hp : 0 ≤ p) (h : 48 ≤ sgM n tx p ∧ sgM n tx p ≤ 57) (hv : 0 ≤ endZ (sgM n tx) p) : ordR y (sgC n tx) p = saiR y (sgM n tx p - 48) (dirM (sgM n tx (1 + p))) (sgM n tx (2 + p) - 48) ∧ ordV y (sgC n tx) p = saiV y (sgM n tx p - 48) (dirM (sgM n tx (1 + p))) (sgM n tx (2 + p) - 48) := by
  unfold endZ at hv
  rw [if_neg (by omega), if_neg (by omega), if_pos h] at hv
  by_cases h1 : fitB (sgM n tx (1 + p)) 87 = false
  · rw [if_pos h1] at hv; omega
  rw [if_neg h1] at hv
  by_cases h2 : fitB (sgM n tx (2 + p)) 83 = false
  · rw [if_pos h2] at hv; omega
  have g1 := fit_t (fit87 _) h1
  have g2 := fit_t (fit83 _) h2
  have g0 : sgM n tx (1 + p) ≠ -1 := fun z => by rw [z] at g1; revert g1; decide
  have e : sgC n tx p = sgM n tx p := sg_MC hp (by omega)
  unfold ordR ordV
  rw [e, if_neg (by omega), if_neg (by omega), if_neg (by omega), if_neg (by omega), if_neg (by omega), if_neg (by omega), sg_MC (k := 1 + p) (by omega) g0, sg_MC (k := 2 + p) (by omega) (by omega), ran_in h, ran_in g2, dirM_z g1, show 1 + (sgM n tx (2 + p) - 49) = sgM n tx (2 + p) - 48 by omega]
  exact ⟨rfl, rfl⟩
theorem ord_s {y : Int → Int} {n : Int} {tx : Int → Int} {p k : Int} (hp : 0 ≤ p) (h1 : ¬ sgM n tx p = 119) (h2 : ¬ sgM n tx p = 43) (h3 : ¬ (48 ≤ sgM n tx p ∧ sgM n tx p ≤ 57)) (hv : 0 ≤ endZ (sgM n tx) p) (hk : k = bZ (decide (sgM n tx (4 + p) = 42))) : ordR y (sgC n tx) p = layR y (celM n tx p) (sgM n tx (3 + p) - 48) k ∧ ordV y (sgC n tx) p = layV y (celM n tx p) (sgM n tx (3 + p) - 48) k := by
  unfold endZ at hv
  by_cases h : 97 ≤ sgM n tx p ∧ sgM n tx p ≤ 102
  · rw [if_pos h] at hv
    by_cases g1 : fitB (sgM n tx (1 + p)) 82 = false
    · rw [if_pos g1] at hv; omega
    rw [if_neg g1] at hv
    by_cases g2 : fitB (sgM n tx (2 + p)) 61 = false
    · rw [if_pos g2] at hv; omega
    rw [if_neg g2] at hv
    by_cases g3 : fitB (sgM n tx (3 + p)) 72 = false
    · rw [if_pos g3] at hv; omega
    have g1 := fit_t (fit82 _) g1
    have g3 := fit_t (fit72 _) g3
    have e : sgC n tx p = sgM n tx p := sg_MC hp (by omega)
    have e4 : bZ (decide (sgC n tx (4 + p) = 42)) = k := by
      rw [hk]
      exact congrArg bZ (decide_eq_decide.mpr (sgP (n := n) (tx := tx) (P := fun x => x = 42) (by decide) (by omega : 0 ≤ 4 + p)).symm)
    unfold ordR ordV
    rw [e, if_pos h, if_pos h, celM_e hp h g1, sg_MC (k := 3 + p) (by omega) (by omega), ran_in g3, e4]
    exact ⟨rfl, rfl⟩
  · rw [if_neg h, if_neg h2, if_neg h3, if_neg h1] at hv; omega
/-- the work's row behind the orders -/
def runW (n : Int) (g : Int → Int) : Nat → (Int → Int) → Int → Int → Int
  | 0, y, _ => y
  | k + 1, y, p => if n ≤ p then y else if ordR y g p < 0 ∧ ordR y g p ≠ -5 then ordV y g p else runW n g k (ordV y g p) (1 + endZ g p)
def doaW (v y : Int → Int) (n : Int) (g : Int → Int) : Int → Int := if fltZ n g = -5 then runW n g 60 v 0 else y
theorem runW_0 {y : Int → Int} {n : Int} {g : Int → Int} {k : Nat} {p : Int} (h : n ≤ p) : runW n g k y p = y := by
  cases k with
  | zero => rfl
  | succ k => unfold runW; rw [if_pos h]
theorem runW_1 {y : Int → Int} {n : Int} {g : Int → Int} {k p : Int} (hk : 0 < k) (h : ¬ n ≤ p) : runW n g k.toNat y p = if ordR y g p < 0 ∧ ordR y g p ≠ -5 then ordV y g p else runW n g (k - 1).toNat (ordV y g p) (1 + endZ g p) := by
  rw [show k.toNat = (k - 1).toNat + 1 by omega]
  conv => lhs; unfold runW
  rw [if_neg h]
theorem set_at {v : Int → Int} {k : Int} (h : 0 ≤ k ∧ k < 4) : v (122 + k) = setZ v k := by
  rcases (show k = 0 ∨ k = 1 ∨ k = 2 ∨ k = 3 by omega) with e | e | e | e <;> subst e <;> rfl
