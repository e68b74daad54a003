/-- four rows of 129 one behind the other -/
def paF (g : Nat → Int → Int) : Int → Int := fun j => g (j / 129).toNat (j % 129)
theorem paF_at {g : Nat → Int → Int} {i k : Int} (hi : 0 ≤ i) (hk : 0 ≤ k ∧ k < 129) : paF g (129 * i + k) = g i.toNat k := by
  unfold paF
  rw [show (129 * i + k) / 129 = i by omega, show (129 * i + k) % 129 = k by omega]
def wrZ (b : Int → Int) (o : Int) (v : Int → Int) (k : Int) : Int → Int := fun j => if o ≤ j ∧ j < o + k then v (j - o) else b j
theorem wrZ_0 {b v : Int → Int} {o : Int} : wrZ b o v 0 = b := by
  funext j
  exact if_neg (by omega)
theorem wrZ_s {b v : Int → Int} {o k : Int} (h : 0 ≤ k) : updZ (wrZ b o v k) (o + k) (v k) = wrZ b o v (1 + k) := by
  funext j
  unfold updZ wrZ
  by_cases h1 : j = o + k
  · rw [if_pos h1, if_pos (by omega)]
    congr 1; omega
  · rw [if_neg h1]
    by_cases h2 : o ≤ j ∧ j < o + k
    · rw [if_pos h2, if_pos (by omega)]
    · rw [if_neg h2, if_neg (by omega)]
theorem pa_rec {g : Nat → Int → Int} {v : Int → Int} {n : Int} (hn : 0 ≤ n ∧ n < 4) {j : Int} (h0 : 0 ≤ j) : wrZ (paF g) (129 * n) v 129 j = paF (recG n g v) j := by
  have e : recG n g v = fun i : Nat => if (i : Int) = n then v else g i := if_neg (by omega)
  rw [e]
  show (if 129 * n ≤ j ∧ j < 129 * n + 129 then v (j - 129 * n) else g (j / 129).toNat (j % 129)) = (if (((j / 129).toNat : Nat) : Int) = n then v else g (j / 129).toNat) (j % 129)
  by_cases h1 : 129 * n ≤ j ∧ j < 129 * n + 129
  · rw [if_pos h1, if_pos (by omega)]
    congr 1; omega
  · rw [if_neg h1, if_neg (by omega)]
theorem pa_rec4 {g : Nat → Int → Int} {v : Int → Int} {j : Int} (h0 : 0 ≤ j) (h5 : j < 516) : wrZ (mixZ (fun j => paF g (129 + j)) (paF g) 387) 387 v 129 j = paF (recG 4 g v) j := by
  have e : recG 4 g v = fun i : Nat => if i = 3 then v else g (i + 1) := if_pos rfl
  rw [e]
  show (if 387 ≤ j ∧ j < 387 + 129 then v (j - 387) else if j < 387 then g ((129 + j) / 129).toNat ((129 + j) % 129) else paF g j) = (if (j / 129).toNat = 3 then v else g ((j / 129).toNat + 1)) (j % 129)
  by_cases h1 : 387 ≤ j ∧ j < 387 + 129
  · rw [if_pos h1, if_pos (by omega)]
    congr 1; omega
  · rw [if_neg h1, if_pos (by omega), if_neg (by omega)]
    rw [show (129 + j) / 129 = j / 129 + 1 by omega, show (129 + j) % 129 = j % 129 by omega, show (j / 129 + 1).toNat = (j / 129).toNat + 1 by omega]
def acV (r : Int) (v y : Int → Int) : Int → Int := if 0 ≤ r then y else v
theorem ac_lay {v : Int → Int} {x h k : Int} : acV (layR v x h k) v (layV v x h k) = layV v x h k := by
  unfold acV layV; split <;> rfl
theorem ac_add {v : Int → Int} {p d x : Int} : acV (addR v p d x) v (addV v p d x) = addV v p d x := by
  unfold acV addV; split <;> rfl
theorem ac_sai {v : Int → Int} {b d n : Int} : acV (saiR v b d n) v (saiV v b d n) = saiV v b d n := by
  unfold acV saiV; split <;> rfl
theorem ac_wai {v : Int → Int} (w : Wf v) : acV (waiR v) v (waiV v) = waiV v := by
  unfold acV waiV
  split
  · rfl
  · rename_i h
    split
    · rfl
    · rename_i h2
      exfalso
      apply h
      unfold waiR
      rw [if_neg h2]
      have ho := over0 (v := v) (by cases hb : overB v <;> first | rfl | exact absurd hb h2)
      have wp := w.pas (by have := w.s; omega)
      have := tideZ_rng wp (pasV v 126)
      omega
theorem updZ_comm {f : Int → Int} {a b x y : Int} (h : a ≠ b) : updZ (updZ f a x) b y = updZ (updZ f b y) a x := by
  funext j
  show (if j = b then y else if j = a then x else f j) = (if j = a then x else if j = b then y else f j)
  by_cases h1 : j = a
  · rw [if_pos h1, if_neg (by omega), if_pos h1]
  · rw [if_neg h1, if_neg h1]
theorem wof_e {d n : Int} (h : ¬ wofZ d n = -5) : (0 ≤ d ∧ d < 4) ∧ (1 ≤ n ∧ n ≤ 3) ∧ wofZ d n = 10 * d + n := by
  unfold wofZ at h ⊢
  split
  · rename_i hh; exact ⟨by omega, by omega, rfl⟩
  · rename_i hh; rw [if_neg hh] at h; exact absurd rfl h
theorem wof_m {d n : Int} (h : wofZ d n = -5) : ¬ ((0 ≤ d ∧ d < 4) ∧ (1 ≤ n ∧ n ≤ 3)) := by
  unfold wofZ at h
  split at h
  · rename_i hh; omega
  · rename_i hh; intro z; apply hh; omega
theorem wof_rng (d n : Int) : -5 ≤ wofZ d n ∧ wofZ d n ≤ 33 := by unfold wofZ; split <;> omega
