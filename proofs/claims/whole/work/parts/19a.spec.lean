/-! the reference's searches, as they go -/
def mixB (f g : Int → Bool) (n : Int) : Int → Bool := fun k => if k < n then f k else g k
theorem mixB_0 {f g : Int → Bool} {k : Int} (h : 0 ≤ k) : mixB f g 0 k = g k := if_neg (by omega)
theorem mixB_n {f g : Int → Bool} {k n : Int} (h : k < n) : mixB f g n k = f k := if_pos h
theorem mixB_s {f g : Int → Bool} {n : Int} {x : Bool} (h : f n = x) : updB (mixB f g n) n x = mixB f g (1 + n) := by
  funext k
  unfold updB mixB
  by_cases h1 : k = n
  · subst h1; rw [if_pos rfl, if_pos (by omega), h]
  · rw [if_neg h1]
    by_cases h2 : k < n
    · rw [if_pos h2, if_pos (by omega)]
    · rw [if_neg h2, if_neg (by omega)]
/-- the way by its number, from a cell -/
def wyN (u : Int → Int) (P D t c k : Int) : Int := wayN u P D t (k / 3) (k % 3 + 1).toNat c
theorem wayN_2 {v : Int → Int} {p dr t d : Int} (n : Nat) (c : Int) (hc : 0 ≤ c ∧ c < 36) : wayN v p dr t d n c = -5 ∨ (0 ≤ wayN v p dr t d n c ∧ wayN v p dr t d n c < 36) := by
  by_cases h : wayN v p dr t d n c = -5
  · exact Or.inl h
  · have := wayN_on n c hc h
    right; rw [this.1]; exact this.2
theorem wyN_2 {u : Int → Int} {P D t c k : Int} (hc : 0 ≤ c ∧ c < 36) : wyN u P D t c k = -5 ∨ (0 ≤ wyN u P D t c k ∧ wyN u P D t c k < 36) := wayN_2 _ _ hc
def go1 (u : Int → Int) (D t : Int) (S : Int → Bool) (i : Int) (T : Int → Bool) : Int → Bool := updB T i (T i || (S i && !wreckB u i D t))
def goW (u : Int → Int) (P D t c : Int) (x : Bool × (Int → Bool)) : Nat → Bool × (Int → Bool)
  | 0 => x
  | k + 1 => ((goW u P D t c x k).1 || decide (wyN u P D t c k = harZ P), if wyN u P D t c k ≠ -5 ∧ wreckB u (wyN u P D t c k) D t = false then updB (goW u P D t c x k).2 (wyN u P D t c k) true else (goW u P D t c x k).2)
def canB (u : Int → Int) (P D t : Int) (S : Int → Bool) (i : Int) : Bool := S i && (decide (t % 2 = P) && wetB u i D t)
def goC (u : Int → Int) (P D t : Int) (S : Int → Bool) (x : Bool × (Int → Bool)) : Nat → Bool × (Int → Bool)
  | 0 => x
  | i + 1 => if canB u P D t S i = true then goW u P D t i ((goC u P D t S x i).1, go1 u D t S i (goC u P D t S x i).2) 12 else ((goC u P D t S x i).1, go1 u D t S i (goC u P D t S x i).2)
theorem goW_s {u : Int → Int} {P D t c k : Int} {x : Bool × (Int → Bool)} {h : Bool} {T : Int → Bool} (hk : 0 ≤ k) (e : goW u P D t c x k.toNat = (h, T)) : goW u P D t c x (1 + k).toNat = (h || decide (wyN u P D t c k = harZ P), if wyN u P D t c k ≠ -5 ∧ wreckB u (wyN u P D t c k) D t = false then updB T (wyN u P D t c k) true else T) := by
  rw [show (1 + k).toNat = k.toNat + 1 by omega]
  conv => lhs; unfold goW
  rw [e, Int.toNat_of_nonneg hk]
theorem goC_y {u : Int → Int} {P D t i : Int} {S : Int → Bool} {x : Bool × (Int → Bool)} {h : Bool} {T : Int → Bool} (hi : 0 ≤ i) (e : goC u P D t S x i.toNat = (h, T)) (hc : canB u P D t S i = true) : goC u P D t S x (1 + i).toNat = goW u P D t i (h, go1 u D t S i T) 12 := by
  rw [show (1 + i).toNat = i.toNat + 1 by omega]
  conv => lhs; unfold goC
  rw [e, Int.toNat_of_nonneg hi, if_pos hc]
theorem goC_n {u : Int → Int} {P D t i : Int} {S : Int → Bool} {x : Bool × (Int → Bool)} {h : Bool} {T : Int → Bool} (hi : 0 ≤ i) (e : goC u P D t S x i.toNat = (h, T)) (hc : canB u P D t S i = false) : goC u P D t S x (1 + i).toNat = (h, go1 u D t S i T) := by
  rw [show (1 + i).toNat = i.toNat + 1 by omega]
  conv => lhs; unfold goC
  rw [e, Int.toNat_of_nonneg hi, if_neg (by rw [hc]; decide)]
/-! what they come to -/
theorem goW_1 {u : Int → Int} {P D t c : Int} {x : Bool × (Int → Bool)} : ∀ n : Nat, (goW u P D t c x n).1 = true ↔ x.1 = true ∨ ∃ k : Int, (0 ≤ k ∧ k < n) ∧ wyN u P D t c k = harZ P := by
  intro n
  induction n with
  | zero =>
    constructor
    · intro h; exact Or.inl h
    · rintro (h | ⟨k, h, _⟩)
      · exact h
      · omega
  | succ n ih =>
    show ((goW u P D t c x n).1 || decide (wyN u P D t c n = harZ P)) = true ↔ _
    rw [Bool.or_eq_true, ih, decide_eq_true_eq]
    constructor
    · rintro ((h | ⟨k, h1, h2⟩) | h)
      · exact Or.inl h
      · exact Or.inr ⟨k, by omega, h2⟩
      · exact Or.inr ⟨n, by omega, h⟩
    · rintro (h | ⟨k, h1, h2⟩)
      · exact Or.inl (Or.inl h)
      · by_cases e : k = n
        · subst e; exact Or.inr h2
        · exact Or.inl (Or.inr ⟨k, by omega, h2⟩)
theorem updB_true {T : Int → Bool} {a e : Int} : updB T a true e = true ↔ T e = true ∨ e = a := by
  unfold updB
  split
  · rename_i h; exact ⟨fun _ => Or.inr h, fun _ => rfl⟩
  · rename_i h; exact ⟨Or.inl, fun z => z.resolve_right h⟩
theorem goW_2 {u : Int → Int} {P D t c : Int} {x : Bool × (Int → Bool)} {e : Int} : ∀ n : Nat, (goW u P D t c x n).2 e = true ↔ x.2 e = true ∨ ((∃ k : Int, (0 ≤ k ∧ k < n) ∧ wyN u P D t c k = e) ∧ e ≠ -5 ∧ wreckB u e D t = false) := by
  intro n
  induction n with
  | zero =>
    constructor
    · intro h; exact Or.inl h
    · rintro (h | ⟨⟨k, h, _⟩, _⟩)
      · exact h
      · omega
  | succ n ih =>
    show (if wyN u P D t c n ≠ -5 ∧ wreckB u (wyN u P D t c n) D t = false then updB (goW u P D t c x n).2 (wyN u P D t c n) true else (goW u P D t c x n).2) e = true ↔ _
    constructor
    · intro h
      split at h
      · rename_i hh
        rcases updB_true.mp h with h | h
        · rcases ih.mp h with h | ⟨⟨k, h1, h2⟩, h3⟩
          · exact Or.inl h
          · exact Or.inr ⟨⟨k, by omega, h2⟩, h3⟩
        · subst h; exact Or.inr ⟨⟨n, by omega, rfl⟩, hh⟩
      · rcases ih.mp h with h | ⟨⟨k, h1, h2⟩, h3⟩
        · exact Or.inl h
        · exact Or.inr ⟨⟨k, by omega, h2⟩, h3⟩
    · intro h
      have hi : (goW u P D t c x n).2 e = true ∨ (wyN u P D t c n = e ∧ e ≠ -5 ∧ wreckB u e D t = false) := by
        rcases h with h | ⟨⟨k, h1, h2⟩, h3⟩
        · exact Or.inl (ih.mpr (Or.inl h))
        · by_cases e2 : k = n
          · subst e2; exact Or.inr ⟨h2, h3⟩
          · exact Or.inl (ih.mpr (Or.inr ⟨⟨k, by omega, h2⟩, h3⟩))
      split
      · rename_i hh
        rcases hi with h | h
        · exact updB_true.mpr (Or.inl h)
        · exact updB_true.mpr (Or.inr h.1.symm)
      · rename_i hh
        rcases hi with h | h
        · exact h
        · exact absurd (by rw [h.1]; exact h.2) hh
/-- the twelve ways are the moves -/
theorem wy_mv {u : Int → Int} {P D t c e : Int} : (∃ k : Int, (0 ≤ k ∧ k < 12) ∧ wyN u P D t c k = e) ↔ mvP u P D t c e := by
  constructor
  · rintro ⟨k, h1, h2⟩
    exact ⟨k / 3, k % 3 + 1, by omega, by omega, h2⟩
  · rintro ⟨d, n, h1, h2, h3⟩
    refine ⟨3 * d + n - 1, by omega, ?_⟩
    unfold wyN
    rw [show (3 * d + n - 1) / 3 = d by omega, show (3 * d + n - 1) % 3 + 1 = n by omega]
    exact h3
theorem goC_c {u : Int → Int} {P D t : Int} {S : Int → Bool} {x : Bool × (Int → Bool)} (i : Nat) : goC u P D t S x (i + 1) = if canB u P D t S i = true then goW u P D t i ((goC u P D t S x i).1, go1 u D t S i (goC u P D t S x i).2) 12 else ((goC u P D t S x i).1, go1 u D t S i (goC u P D t S x i).2) := rfl
theorem goC_1 {u : Int → Int} {P D t : Int} {S : Int → Bool} {x : Bool × (Int → Bool)} : ∀ n : Nat, (goC u P D t S x n).1 = true ↔ x.1 = true ∨ ∃ c : Int, (0 ≤ c ∧ c < n) ∧ canB u P D t S c = true ∧ mvP u P D t c (harZ P) := by
  intro n
  induction n with
  | zero =>
    constructor
    · intro h; exact Or.inl h
    · rintro (h | ⟨k, h, _⟩)
      · exact h
      · omega
  | succ n ih =>
    have hs : (goC u P D t S x (n + 1)).1 = true ↔ (goC u P D t S x n).1 = true ∨ (canB u P D t S n = true ∧ mvP u P D t n (harZ P)) := by
      rw [goC_c]
      split
      · rename_i hc
        rw [goW_1, ← wy_mv]
        constructor
        · rintro (h | h)
          · exact Or.inl h
          · exact Or.inr ⟨hc, h⟩
        · rintro (h | h)
          · exact Or.inl h
          · exact Or.inr h.2
      · rename_i hc
        constructor
        · intro h; exact Or.inl h
        · rintro (h | h)
          · exact h
          · exact absurd h.1 hc
    rw [hs, ih]
    constructor
    · rintro ((h | ⟨c, h1, h2⟩) | h)
      · exact Or.inl h
      · exact Or.inr ⟨c, by omega, h2⟩
      · exact Or.inr ⟨n, by omega, h⟩
    · rintro (h | ⟨c, h1, h2⟩)
      · exact Or.inl (Or.inl h)
      · by_cases e : c = n
        · subst e; exact Or.inr h2
        · exact Or.inl (Or.inr ⟨c, by omega, h2⟩)
theorem go1_t {u : Int → Int} {D t i e : Int} {S T : Int → Bool} : go1 u D t S i T e = true ↔ T e = true ∨ (e = i ∧ S e = true ∧ wreckB u e D t = false) := by
  unfold go1 updB
  split
  · rename_i h; subst h
    rw [Bool.or_eq_true, Bool.and_eq_true, Bool.not_eq_true']
    exact ⟨fun z => z.imp id (fun z => ⟨rfl, z⟩), fun z => z.imp id (fun z => z.2)⟩
  · rename_i h; exact ⟨Or.inl, fun z => z.resolve_right (fun z => h z.1)⟩
theorem goC_2 {u : Int → Int} {P D t : Int} {S : Int → Bool} {x : Bool × (Int → Bool)} {e : Int} : ∀ n : Nat, (goC u P D t S x n).2 e = true ↔ x.2 e = true ∨ ((0 ≤ e ∧ e < n) ∧ S e = true ∧ wreckB u e D t = false) ∨ ∃ c : Int, (0 ≤ c ∧ c < n) ∧ canB u P D t S c = true ∧ mvP u P D t c e ∧ e ≠ -5 ∧ wreckB u e D t = false := by
  intro n
  induction n with
  | zero =>
    constructor
    · intro h; exact Or.inl h
    · rintro (h | ⟨h, _⟩ | ⟨k, h, _⟩)
      · exact h
      · omega
      · omega
  | succ n ih =>
    have hs : (goC u P D t S x (n + 1)).2 e = true ↔ ((goC u P D t S x n).2 e = true ∨ (e = n ∧ S e = true ∧ wreckB u e D t = false)) ∨ (canB u P D t S n = true ∧ mvP u P D t n e ∧ e ≠ -5 ∧ wreckB u e D t = false) := by
      rw [goC_c]
      split
      · rename_i hc
        rw [goW_2, ← wy_mv, go1_t]
        constructor
        · rintro (h | h)
          · exact Or.inl h
          · exact Or.inr ⟨hc, h⟩
        · rintro (h | h)
          · exact Or.inl h
          · exact Or.inr h.2
      · rename_i hc
        rw [go1_t]
        constructor
        · intro h; exact Or.inl h
        · rintro (h | h)
          · exact h
          · exact absurd h.1 hc
    rw [hs, ih]
    constructor
    · rintro (((h | ⟨h1, h2⟩ | ⟨c, h1, h2⟩) | h) | h)
      · exact Or.inl h
      · exact Or.inr (Or.inl ⟨by omega, h2⟩)
      · exact Or.inr (Or.inr ⟨c, by omega, h2⟩)
      · exact Or.inr (Or.inl ⟨by omega, h.2⟩)
      · exact Or.inr (Or.inr ⟨n, by omega, h⟩)
    · rintro (h | ⟨h1, h2⟩ | ⟨c, h1, h2⟩)
      · exact Or.inl (Or.inl (Or.inl h))
      · by_cases e2 : e = n
        · exact Or.inl (Or.inr ⟨e2, h2⟩)
        · exact Or.inl (Or.inl (Or.inr (Or.inl ⟨by omega, h2⟩)))
      · by_cases e2 : c = n
        · subst e2; exact Or.inr h2
        · exact Or.inl (Or.inl (Or.inr (Or.inr ⟨c, by omega, h2⟩)))
theorem wr_wreck {v : Int → Int} {D t c : Int} : wrS v D t c = wreckB v c D t := by
  unfold wrS difS andS rkS wtS wreckB
  rw [Bool.and_assoc]
theorem can_iff {u : Int → Int} {P D t c : Int} {S : Int → Bool} : canB u P D t S c = true ↔ S c = true ∧ t % 2 = P ∧ wetB u c D t = true := by
  unfold canB
  rw [Bool.and_eq_true, Bool.and_eq_true, decide_eq_true_eq]
theorem bool_ext {a b : Bool} (h : a = true ↔ b = true) : a = b := by
  cases a <;> cases b <;> simp_all
/-- a whole turn: home, and the cells then -/
theorem go_home {u : Int → Int} {P D t : Int} {S : Int → Bool} : (goC u P D t S (false, botS) 36).1 = decide (t % 2 = P ∧ golS P (wtS u D t) S (harZ P) = true) := by
  refine bool_ext ?_
  rw [goC_1, decide_eq_true_eq, gol_iff (harZ_in P)]
  constructor
  · rintro (h | ⟨c, h1, h2, h3⟩)
    · cases h
    · have := can_iff.mp h2
      exact ⟨this.2.1, c, h1, this.1, this.2.2, h3⟩
  · rintro ⟨h0, c, h1, h2, h3, h4⟩
    exact Or.inr ⟨c, h1, can_iff.mpr ⟨h2, h0, h3⟩, h4⟩
theorem go_then {u : Int → Int} {P D t : Int} {S : Int → Bool} {e : Int} (he : 0 ≤ e ∧ e < 36) : (goC u P D t S (false, botS) 36).2 e = nxS u P D t S e := by
  refine bool_ext ?_
  rw [goC_2]
  unfold nxS difS
  rw [Bool.and_eq_true, Bool.not_eq_true', wr_wreck]
  constructor
  · rintro (h | ⟨h1, h2, h3⟩ | ⟨c, h1, h2, h3, h4, h5⟩)
    · cases h
    · refine ⟨?_, h3⟩
      split
      · unfold orS; rw [h2]; rfl
      · exact h2
    · have := can_iff.mp h2
      refine ⟨?_, h5⟩
      rw [if_pos this.2.1]
      unfold orS
      rw [Bool.or_eq_true]
      exact Or.inr ((gol_iff he).mpr ⟨c, h1, this.1, this.2.2, h3⟩)
  · rintro ⟨h1, h2⟩
    split at h1
    · rename_i hp
      unfold orS at h1
      rw [Bool.or_eq_true] at h1
      rcases h1 with h1 | h1
      · exact Or.inr (Or.inl ⟨he, h1, h2⟩)
      · obtain ⟨c, g1, g2, g3, g4⟩ := (gol_iff he).mp h1
        exact Or.inr (Or.inr ⟨c, g1, can_iff.mpr ⟨g2, hp, g3⟩, g4, by omega, h2⟩)
    · exact Or.inr (Or.inl ⟨he, h1, h2⟩)
/-- the two rows of cells behind a search -/
def fwA (u : Int → Int) (P D : Int) : Nat → (Int → Bool) → (Int → Bool) → Int → (Int → Bool) × (Int → Bool)
  | 0, S, T, _ => (S, T)
  | n + 1, S, T, t => if t % 2 = P ∧ golS P (wtS u D t) S (harZ P) = true then (S, nxS u P D t S) else fwA u P D n (nxS u P D t S) (nxS u P D t S) (1 + t)
def fwAZ (u : Int → Int) (P D c f : Int) (T : Int → Bool) : (Int → Bool) × (Int → Bool) := fwA u P D (u 125 + 1 - f).toNat (oneS c) T f
theorem fwA_1 {u : Int → Int} {P D t k : Int} {S T : Int → Bool} (hk : 0 < k) : fwA u P D k.toNat S T t = if t % 2 = P ∧ golS P (wtS u D t) S (harZ P) = true then (S, nxS u P D t S) else fwA u P D (k - 1).toNat (nxS u P D t S) (nxS u P D t S) (1 + t) := by
  rw [show k.toNat = (k - 1).toNat + 1 by omega]
  rfl
theorem fwA_0 {u : Int → Int} {P D t k : Int} {S T : Int → Bool} (hk : k ≤ 0) : fwA u P D k.toNat S T t = (S, T) := by
  rw [show k.toNat = 0 by omega]
  rfl
/-! backwards from the last turn -/
def fewX (v : Int → Int) (P D c t : Int) (A : Int → Int) (k : Int) : Int := if wyN v P D t c k = harZ P then 1 else if wyN v P D t c k = -5 ∨ wreckB v (wyN v P D t c k) D t = true then 10000 else 1 + A (wyN v P D t c k)
def fewN (v : Int → Int) (P D c t : Int) (A : Int → Int) : Nat → Int
  | 0 => if wreckB v c D t = true then 10000 else 1 + A c
  | k + 1 => if fewX v P D c t A k < fewN v P D c t A k then fewX v P D c t A k else fewN v P D c t A k
def fewZ (v : Int → Int) (P D c t : Int) (A : Int → Int) : Int := if t % 2 = P ∧ wetB v c D t = true then fewN v P D c t A 12 else fewN v P D c t A 0
theorem fewN_s {v : Int → Int} {P D c t k : Int} {A : Int → Int} (h : 0 ≤ k) : fewN v P D c t A (1 + k).toNat = if fewX v P D c t A k < fewN v P D c t A k.toNat then fewX v P D c t A k else fewN v P D c t A k.toNat := by
  rw [show (1 + k).toNat = k.toNat + 1 by omega]
  conv => lhs; unfold fewN
  rw [Int.toNat_of_nonneg h]
def dpN (v : Int → Int) (P D : Int) : Nat → Int → Int
  | 0 => fun _ => 10000
  | j + 1 => fun c => fewZ v P D c (v 125 - j) (dpN v P D j)
def baZ (v : Int → Int) (P D c : Int) : Int := if dpN v P D (v 125 + 1 - v 126).toNat c < 10000 then dpN v P D (v 125 + 1 - v 126).toNat c else -5
def lsA (v : Int → Int) (P D : Int) (L : Int → Int) : Int → Int := if v 126 ≤ v 125 then dpN v P D (v 125 + 1 - v 126).toNat else L
theorem fewX_rng {v : Int → Int} {P D c t k m : Int} {A : Int → Int} (hc : 0 ≤ c ∧ c < 36) (hA : ∀ c : Int, 0 ≤ c → c < 36 → 1 ≤ A c ∧ A c ≤ m) (hm : 10000 ≤ m) : 1 ≤ fewX v P D c t A k ∧ fewX v P D c t A k ≤ m + 1 := by
  unfold fewX
  split
  · omega
  · split
    · omega
    · rename_i h
      have h2 := wyN_2 (u := v) (P := P) (D := D) (t := t) (k := k) hc
      have := hA _ (h2.resolve_left (fun z => h (Or.inl z))).1 (h2.resolve_left (fun z => h (Or.inl z))).2
      omega
theorem fewN_rng {v : Int → Int} {P D c t m : Int} {A : Int → Int} (hc : 0 ≤ c ∧ c < 36) (hA : ∀ c : Int, 0 ≤ c → c < 36 → 1 ≤ A c ∧ A c ≤ m) (hm : 10000 ≤ m) : ∀ n : Nat, 1 ≤ fewN v P D c t A n ∧ fewN v P D c t A n ≤ m + 1 := by
  intro n
  induction n with
  | zero =>
    have := hA c hc.1 hc.2
    unfold fewN
    split <;> omega
  | succ n ih =>
    have := fewX_rng (v := v) (P := P) (D := D) (t := t) (k := n) hc hA hm
    unfold fewN
    split <;> omega
theorem dpN_rng {v : Int → Int} {P D : Int} : ∀ (j : Nat) (c : Int), 0 ≤ c → c < 36 → 1 ≤ dpN v P D j c ∧ dpN v P D j c ≤ 10000 + j := by
  intro j
  induction j with
  | zero => intro c _ _; exact ⟨by show (1 : Int) ≤ 10000; omega, by show (10000 : Int) ≤ 10000 + ((0 : Nat) : Int); omega⟩
  | succ j ih =>
    intro c h1 h2
    have hA : ∀ n : Nat, 1 ≤ fewN v P D c (v 125 - j) (dpN v P D j) n ∧ fewN v P D c (v 125 - j) (dpN v P D j) n ≤ 10000 + j + 1 := fewN_rng ⟨h1, h2⟩ (fun c g1 g2 => ih c g1 g2) (by omega)
    show 1 ≤ fewZ v P D c (v 125 - j) (dpN v P D j) ∧ fewZ v P D c (v 125 - j) (dpN v P D j) ≤ _
    unfold fewZ
    split
    · have := hA 12; omega
    · have := hA 0; omega
theorem dpN_1 {v : Int → Int} {P D k : Int} (hk : 0 < k) : dpN v P D k.toNat = fun c => fewZ v P D c (v 125 + 1 - k) (dpN v P D (k - 1).toNat) := by
  rw [show k.toNat = (k - 1).toNat + 1 by omega]
  funext c
  show fewZ v P D c (v 125 - (((k - 1).toNat : Nat) : Int)) _ = _
  rw [Int.toNat_of_nonneg (by omega), show v 125 - (k - 1) = v 125 + 1 - k by omega]
