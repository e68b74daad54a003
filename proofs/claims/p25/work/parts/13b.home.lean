/-! the searches, in sets -/
def rkS (v : Int → Int) : Int → Bool := fun c => decide (v (36 + c) = 1)
def upS (v : Int → Int) (k : Int) : Int → Bool := fun c => decide (v c ≤ k)
def wtS (v : Int → Int) (D t : Int) : Int → Bool := fun c => wetB v c D t
def wrS (v : Int → Int) (D t : Int) : Int → Bool := difS (andS (rkS v) (wtS v D t)) (wtS v D (1 + t))
def stpS (P : Int) (W : Int → Bool) (d : Int) (F : Int → Bool) : Int → Bool := difS (andS (imgS d (difS F (oneS (harZ P)))) W) (oneS (harZ (1 - P)))
def gacS (P : Int) (W S : Int → Bool) : Nat → Int → Bool
  | 0 => botS
  | n + 1 => orS (orS (orS (gacS P W S n) (stpS P W n (andS S W))) (stpS P W n (stpS P W n (andS S W)))) (stpS P W n (stpS P W n (stpS P W n (andS S W))))
def golS (P : Int) (W S : Int → Bool) : Int → Bool := gacS P W S 4
def opnS (P : Int) (W : Int → Bool) : Int → Bool := difS (difS W (oneS (harZ P))) (oneS (harZ (1 - P)))
def bkS (P : Int) (W : Int → Bool) (d : Int) (F : Int → Bool) : Int → Bool := andS (imgS d F) (opnS P W)
def sacS (P : Int) (W S : Int → Bool) : Nat → Int → Bool
  | 0 => botS
  | n + 1 => orS (orS (orS (sacS P W S n) (bkS P W n (andS S W))) (bkS P W n (bkS P W n (andS S W)))) (bkS P W n (bkS P W n (bkS P W n (andS S W))))
def staS (P : Int) (W S : Int → Bool) : Int → Bool := sacS P W S 4
def nxS (v : Int → Int) (P D t : Int) (S : Int → Bool) : Int → Bool := difS (if t % 2 = P then orS S (golS P (wtS v D t) S) else S) (wrS v D t)
def fwN (v : Int → Int) (P D f : Int) : Nat → (Int → Bool) → Int → Int
  | 0, _, _ => -5
  | n + 1, S, t => if t % 2 = P ∧ golS P (wtS v D t) S (harZ P) = true then 1 + t - f else fwN v P D f n (nxS v P D t S) (1 + t)
def fwZ (v : Int → Int) (P D c f : Int) : Int := fwN v P D f (v 125 + 1 - f).toNat (oneS c) f
def ldN (v : Int → Int) (P D T : Int) : Nat → Int → Bool
  | 0 => staS P (wtS v D T) (oneS (harZ P))
  | k + 1 => if (T - 1 - k) % 2 = P then orS (difS (ldN v P D T k) (wrS v D (T - 1 - k))) (staS P (wtS v D (T - 1 - k)) (difS (ldN v P D T k) (wrS v D (T - 1 - k)))) else difS (ldN v P D T k) (wrS v D (T - 1 - k))
def bwN (v : Int → Int) (P D c f : Int) : Nat → Int → Int
  | 0, _ => -5
  | n + 1, T => if T % 2 = P ∧ ldN v P D T (T - f).toNat c = true then 1 + T - f else bwN v P D c f n (1 + T)
def bwZ (v : Int → Int) (P D c f : Int) : Int := bwN v P D c f (v 125 + 1 - f).toNat f
def behZ (v : Int → Int) (P D c t : Int) : Int := if wrS v D t c = true then -5 else fwZ v P D c (1 + t)
/-! what they mean -/
theorem bes_oppN : ∀ c : Nat, c < 36 → ∀ c' : Nat, c' < 36 → ∀ d : Nat, d < 4 → (besZ c d = (c' : Int) ↔ besZ c' (oppZ d) = (c : Int)) := by decide +kernel
theorem bes_opp {c c' d : Int} (h : 0 ≤ c ∧ c < 36) (h' : 0 ≤ c' ∧ c' < 36) (hd : 0 ≤ d ∧ d < 4) : besZ c d = c' ↔ besZ c' (oppZ d) = c := by
  have := bes_oppN c.toNat (by omega) c'.toNat (by omega) d.toNat (by omega)
  rwa [Int.toNat_of_nonneg h.1, Int.toNat_of_nonneg h'.1, Int.toNat_of_nonneg hd.1] at this
theorem oppZ_rng (d : Int) : 0 ≤ oppZ d ∧ oppZ d < 4 := by unfold oppZ; (repeat' split) <;> omega
theorem oppZ_opp {d : Int} (hd : 0 ≤ d ∧ d < 4) : oppZ (oppZ d) = d := by
  rcases (show d = 0 ∨ d = 1 ∨ d = 2 ∨ d = 3 by omega) with h | h | h | h <;> rw [h] <;> rfl
theorem stp_iff {v : Int → Int} {P D t d : Int} {F : Int → Bool} (hd : 0 ≤ d ∧ d < 4) {c' : Int} (h' : 0 ≤ c' ∧ c' < 36) : stpS P (wtS v D t) d F c' = true ↔ ∃ c : Int, (0 ≤ c ∧ c < 36) ∧ F c = true ∧ c ≠ harZ P ∧ besZ c d = c' ∧ c' ≠ harZ (1 - P) ∧ wetB v c' D t = true := by
  unfold stpS difS andS imgS oneS wtS
  simp only [Bool.and_eq_true, Bool.not_eq_true', decide_eq_true_eq, decide_eq_false_iff_not]
  have hr := besZ_rng c' (oppZ d)
  constructor
  · rintro ⟨⟨⟨h1, h2, h3⟩, h4⟩, h5⟩
    exact ⟨besZ c' (oppZ d), by omega, h2, h3, (bes_opp (by omega) h' hd).mpr rfl, h5, h4⟩
  · rintro ⟨c, hc, h1, h2, h3, h4, h5⟩
    have e := (bes_opp hc h' hd).mp h3
    rw [e]
    exact ⟨⟨⟨by omega, h1, h2⟩, h5⟩, h4⟩
def stpN (P : Int) (W : Int → Bool) (d : Int) : Nat → (Int → Bool) → Int → Bool
  | 0, F => F
  | n + 1, F => stpN P W d n (stpS P W d F)
theorem stpN_iff {v : Int → Int} {P D t d : Int} (hd : 0 ≤ d ∧ d < 4) {c' : Int} (h' : 0 ≤ c' ∧ c' < 36) : ∀ (n : Nat) (F : Int → Bool), stpN P (wtS v D t) d n F c' = true ↔ ∃ c : Int, (0 ≤ c ∧ c < 36) ∧ F c = true ∧ wayN v P D t d n c = c' := by
  intro n
  induction n with
  | zero =>
    intro F
    constructor
    · intro h; exact ⟨c', h', h, rfl⟩
    · rintro ⟨c, _, h2, h3⟩
      have h3 : c = c' := h3
      subst h3; exact h2
  | succ n ih =>
    intro F
    show stpN P (wtS v D t) d n (stpS P (wtS v D t) d F) c' = true ↔ _
    rw [ih]
    constructor
    · rintro ⟨c1, hc1, h1, h2⟩
      obtain ⟨c, hc, g1, g2, g3, g4, g5⟩ := (stp_iff hd hc1).mp h1
      refine ⟨c, hc, g1, ?_⟩
      unfold wayN
      rw [g3, if_neg]
      · exact h2
      · rintro (h | h | h | h)
        · exact g2 h
        · omega
        · exact g4 h
        · rw [g5] at h; cases h
    · rintro ⟨c, hc, h1, h2⟩
      unfold wayN at h2
      split at h2
      · omega
      · rename_i hh
        have hr := besZ_rng c d
        have hcr : 0 ≤ besZ c d ∧ besZ c d < 36 := by
          constructor
          · have : besZ c d ≠ -1 := fun z => hh (Or.inr (Or.inl z))
            omega
          · exact hr.2
        refine ⟨besZ c d, hcr, (stp_iff hd hcr).mpr ⟨c, hc, h1, fun z => hh (Or.inl z), rfl, fun z => hh (Or.inr (Or.inr (Or.inl z))), ?_⟩, h2⟩
        cases hw : wetB v (besZ c d) D t
        · exact absurd (Or.inr (Or.inr (Or.inr hw))) hh
        · rfl
/-- one move leads from a cell to a cell -/
def mvP (v : Int → Int) (P D t c c' : Int) : Prop := ∃ d n : Int, (0 ≤ d ∧ d < 4) ∧ (1 ≤ n ∧ n ≤ 3) ∧ wayN v P D t d n.toNat c = c'
theorem gac_iff {P : Int} {W S : Int → Bool} {c' : Int} : ∀ m : Nat, gacS P W S m c' = true ↔ ∃ d n : Int, (0 ≤ d ∧ d < m) ∧ (1 ≤ n ∧ n ≤ 3) ∧ stpN P W d n.toNat (andS S W) c' = true := by
  intro m
  induction m with
  | zero =>
    constructor
    · intro h; cases h
    · rintro ⟨d, n, h, _⟩; omega
  | succ m ih =>
    unfold gacS orS
    simp only [Bool.or_eq_true]
    rw [ih]
    constructor
    · rintro (((⟨d, n, h1, h2, h3⟩ | h) | h) | h)
      · exact ⟨d, n, by omega, h2, h3⟩
      · exact ⟨m, 1, by omega, by omega, h⟩
      · exact ⟨m, 2, by omega, by omega, h⟩
      · exact ⟨m, 3, by omega, by omega, h⟩
    · rintro ⟨d, n, h1, h2, h3⟩
      by_cases hd : d = m
      · subst hd
        rcases (show n = 1 ∨ n = 2 ∨ n = 3 by omega) with e | e | e <;> subst e
        · exact Or.inl (Or.inl (Or.inr h3))
        · exact Or.inl (Or.inr h3)
        · exact Or.inr h3
      · exact Or.inl (Or.inl (Or.inl ⟨d, n, by omega, h2, h3⟩))
theorem gol_iff {v : Int → Int} {P D t : Int} {S : Int → Bool} {c' : Int} (h' : 0 ≤ c' ∧ c' < 36) : golS P (wtS v D t) S c' = true ↔ ∃ c : Int, (0 ≤ c ∧ c < 36) ∧ S c = true ∧ wetB v c D t = true ∧ mvP v P D t c c' := by
  unfold golS
  rw [gac_iff]
  constructor
  · rintro ⟨d, n, hd, hn, h⟩
    obtain ⟨c, hc, h1, h2⟩ := (stpN_iff (by omega) h' n.toNat _).mp h
    unfold andS wtS at h1
    rw [Bool.and_eq_true] at h1
    exact ⟨c, hc, h1.1, h1.2, d, n, by omega, hn, h2⟩
  · rintro ⟨c, hc, h1, h2, d, n, hd, hn, h3⟩
    refine ⟨d, n, by omega, hn, (stpN_iff hd h' n.toNat _).mpr ⟨c, hc, ?_, h3⟩⟩
    unfold andS wtS
    rw [h1, h2]; rfl
theorem harZ_in (P : Int) : 0 ≤ harZ P ∧ harZ P < 36 := by have := harZ_rng P; omega
theorem nx_emp {v : Int → Int} {P D t : Int} {S : Int → Bool} (h : ∀ i : Int, 0 ≤ i → i < 36 → S i = false) : (∀ i : Int, 0 ≤ i → i < 36 → nxS v P D t S i = false) ∧ (∀ i : Int, 0 ≤ i → i < 36 → golS P (wtS v D t) S i = false) := by
  have hg : ∀ i : Int, 0 ≤ i → i < 36 → golS P (wtS v D t) S i = false := by
    intro i h1 h2
    cases hb : golS P (wtS v D t) S i
    · rfl
    · obtain ⟨c, hc, h3, -⟩ := (gol_iff ⟨h1, h2⟩).mp hb
      rw [h c hc.1 hc.2] at h3; cases h3
  refine ⟨fun i h1 h2 => ?_, hg⟩
  unfold nxS difS
  split
  · unfold orS; rw [h i h1 h2, hg i h1 h2]; rfl
  · rw [h i h1 h2]; rfl
theorem fwN_emp {v : Int → Int} {P D f : Int} : ∀ (n : Nat) (S : Int → Bool) (t : Int), (∀ i : Int, 0 ≤ i → i < 36 → S i = false) → fwN v P D f n S t = -5 := by
  intro n
  induction n with
  | zero => intro S t _; rfl
  | succ n ih =>
    intro S t h
    have hx := nx_emp (v := v) (P := P) (D := D) (t := t) h
    unfold fwN
    rw [if_neg (by rw [hx.2 _ (harZ_in P).1 (harZ_in P).2]; simp)]
    exact ih _ _ hx.1
theorem fwN_1 {v : Int → Int} {P D f t k : Int} {S : Int → Bool} (hk : 0 < k) : fwN v P D f k.toNat S t = if t % 2 = P ∧ golS P (wtS v D t) S (harZ P) = true then 1 + t - f else fwN v P D f (k - 1).toNat (nxS v P D t S) (1 + t) := by
  rw [show k.toNat = (k - 1).toNat + 1 by omega]
  rfl
theorem fwN_0 {v : Int → Int} {P D f t k : Int} {S : Int → Bool} (hk : k ≤ 0) : fwN v P D f k.toNat S t = -5 := by
  rw [show k.toNat = 0 by omega]
  rfl
theorem bwN_1 {v : Int → Int} {P D c f T k : Int} (hk : 0 < k) : bwN v P D c f k.toNat T = if T % 2 = P ∧ ldN v P D T (T - f).toNat c = true then 1 + T - f else bwN v P D c f (k - 1).toNat (1 + T) := by
  rw [show k.toNat = (k - 1).toNat + 1 by omega]
  rfl
theorem bwN_0 {v : Int → Int} {P D c f T k : Int} (hk : k ≤ 0) : bwN v P D c f k.toNat T = -5 := by
  rw [show k.toNat = 0 by omega]
  rfl
theorem bk_iff {P : Int} {W F : Int → Bool} {d c : Int} : bkS P W d F c = true ↔ (c ≠ harZ P ∧ c ≠ harZ (1 - P) ∧ W c = true) ∧ besZ c (oppZ d) ≠ -1 ∧ F (besZ c (oppZ d)) = true := by
  unfold bkS andS imgS opnS difS oneS
  simp only [Bool.and_eq_true, Bool.not_eq_true', decide_eq_true_eq, decide_eq_false_iff_not]
  constructor
  · rintro ⟨⟨h1, h2⟩, ⟨h3, h4⟩, h5⟩; exact ⟨⟨h4, h5, h3⟩, h1, h2⟩
  · rintro ⟨⟨h4, h5, h3⟩, h1, h2⟩; exact ⟨⟨h1, h2⟩, ⟨h3, h4⟩, h5⟩
def bkN (P : Int) (W : Int → Bool) (d : Int) (F : Int → Bool) : Nat → Int → Bool
  | 0 => F
  | n + 1 => bkS P W d (bkN P W d F n)
theorem bkN_iff {v : Int → Int} {P D t d : Int} {F : Int → Bool} (hF : ∀ c : Int, F c = true → wetB v c D t = true ∧ c ≠ harZ (1 - P)) : ∀ (n : Nat) (c : Int), (0 ≤ c ∧ c < 36) → (bkN P (wtS v D t) d F (n + 1) c = true ↔ (c ≠ harZ P ∧ c ≠ harZ (1 - P) ∧ wetB v c D t = true) ∧ wayN v P D t (oppZ d) (n + 1) c ≠ -5 ∧ F (wayN v P D t (oppZ d) (n + 1) c) = true) := by
  intro n
  induction n with
  | zero =>
    intro c hc
    show bkS P (wtS v D t) d F c = true ↔ _
    rw [bk_iff]
    have hr := besZ_rng c (oppZ d)
    constructor
    · rintro ⟨⟨h1, h2, h3⟩, h4, h5⟩
      obtain ⟨g1, g2⟩ := hF _ h5
      have e : wayN v P D t (oppZ d) (0 + 1) c = besZ c (oppZ d) := by
        unfold wayN
        rw [if_neg]
        · rfl
        · rintro (h | h | h | h)
          · exact h1 h
          · exact h4 h
          · exact g2 h
          · rw [g1] at h; cases h
      rw [e]
      exact ⟨⟨h1, h2, h3⟩, by omega, h5⟩
    · rintro ⟨h1, h2, h3⟩
      unfold wayN at h2 h3
      split at h2
      · exact absurd rfl h2
      · rename_i hh
        rw [if_neg hh] at h3
        exact ⟨h1, fun z => hh (Or.inr (Or.inl z)), h3⟩
  | succ n ih =>
    intro c hc
    show bkS P (wtS v D t) d (bkN P (wtS v D t) d F (n + 1)) c = true ↔ _
    rw [bk_iff]
    have hr := besZ_rng c (oppZ d)
    constructor
    · rintro ⟨h1, h4, h5⟩
      obtain ⟨g0, g1, g2⟩ := (ih _ ⟨by omega, hr.2⟩).mp h5
      have e : wayN v P D t (oppZ d) (n + 1 + 1) c = wayN v P D t (oppZ d) (n + 1) (besZ c (oppZ d)) := by
        conv => lhs; unfold wayN
        rw [if_neg]
        rintro (h | h | h | h)
        · exact h1.1 h
        · exact h4 h
        · exact g0.2.1 h
        · rw [g0.2.2] at h; cases h
      rw [e]
      exact ⟨h1, g1, g2⟩
    · rintro ⟨h1, h2, h3⟩
      have e : ¬ (c = harZ P ∨ besZ c (oppZ d) = -1 ∨ besZ c (oppZ d) = harZ (1 - P) ∨ wetB v (besZ c (oppZ d)) D t = false) ∧ wayN v P D t (oppZ d) (n + 1 + 1) c = wayN v P D t (oppZ d) (n + 1) (besZ c (oppZ d)) := by
        have h2' := h2
        conv at h2' => lhs; unfold wayN
        split at h2'
        · exact absurd rfl h2'
        · rename_i hh
          refine ⟨hh, ?_⟩
          conv => lhs; unfold wayN
          rw [if_neg hh]
      obtain ⟨hh, e⟩ := e
      rw [e] at h2 h3
      have hb : besZ c (oppZ d) ≠ -1 := fun z => hh (Or.inr (Or.inl z))
      refine ⟨h1, hb, (ih _ ⟨by omega, hr.2⟩).mpr ⟨⟨?_, fun z => hh (Or.inr (Or.inr (Or.inl z))), ?_⟩, h2, h3⟩⟩
      · intro z
        unfold wayN at h2
        rw [if_pos (Or.inl z)] at h2
        exact h2 rfl
      · cases hw : wetB v (besZ c (oppZ d)) D t
        · exact absurd (Or.inr (Or.inr (Or.inr hw))) hh
        · rfl
theorem sac_iff {P : Int} {W S : Int → Bool} {c : Int} : ∀ m : Nat, sacS P W S m c = true ↔ ∃ d n : Int, (0 ≤ d ∧ d < m) ∧ (1 ≤ n ∧ n ≤ 3) ∧ bkN P W d (andS S W) n.toNat c = true := by
  intro m
  induction m with
  | zero =>
    constructor
    · intro h; cases h
    · rintro ⟨d, n, h, _⟩; omega
  | succ m ih =>
    unfold sacS orS
    simp only [Bool.or_eq_true]
    rw [ih]
    constructor
    · rintro (((⟨d, n, h1, h2, h3⟩ | h) | h) | h)
      · exact ⟨d, n, by omega, h2, h3⟩
      · exact ⟨m, 1, by omega, by omega, h⟩
      · exact ⟨m, 2, by omega, by omega, h⟩
      · exact ⟨m, 3, by omega, by omega, h⟩
    · rintro ⟨d, n, h1, h2, h3⟩
      by_cases hd : d = m
      · subst hd
        rcases (show n = 1 ∨ n = 2 ∨ n = 3 by omega) with e | e | e <;> subst e
        · exact Or.inl (Or.inl (Or.inr h3))
        · exact Or.inl (Or.inr h3)
        · exact Or.inr h3
      · exact Or.inl (Or.inl (Or.inl ⟨d, n, by omega, h2, h3⟩))
theorem sta_iff {v : Int → Int} {P D t : Int} {S : Int → Bool} (hS : S (harZ (1 - P)) = false) {c : Int} (hc : 0 ≤ c ∧ c < 36) : staS P (wtS v D t) S c = true ↔ (c ≠ harZ P ∧ c ≠ harZ (1 - P) ∧ wetB v c D t = true) ∧ ∃ d n : Int, (0 ≤ d ∧ d < 4) ∧ (1 ≤ n ∧ n ≤ 3) ∧ wayN v P D t d n.toNat c ≠ -5 ∧ S (wayN v P D t d n.toNat c) = true ∧ wetB v (wayN v P D t d n.toNat c) D t = true := by
  have hF : ∀ c : Int, andS S (wtS v D t) c = true → wetB v c D t = true ∧ c ≠ harZ (1 - P) := by
    intro c h
    unfold andS wtS at h
    rw [Bool.and_eq_true] at h
    refine ⟨h.2, fun z => ?_⟩
    rw [z, hS] at h; cases h.1
  unfold staS
  rw [sac_iff]
  constructor
  · rintro ⟨d, n, hd, hn, h⟩
    rw [show n.toNat = (n.toNat - 1) + 1 by omega] at h
    obtain ⟨h1, h2, h3⟩ := (bkN_iff hF _ _ hc).mp h
    rw [show (n.toNat - 1) + 1 = n.toNat by omega] at h2 h3
    unfold andS wtS at h3
    rw [Bool.and_eq_true] at h3
    exact ⟨h1, oppZ d, n, oppZ_rng d, hn, h2, h3.1, h3.2⟩
  · rintro ⟨h1, d, n, hd, hn, h2, h3, h4⟩
    have ho := oppZ_rng d
    refine ⟨oppZ d, n, by omega, hn, ?_⟩
    rw [show n.toNat = (n.toNat - 1) + 1 by omega]
    refine (bkN_iff hF _ _ hc).mpr ⟨h1, ?_⟩
    rw [oppZ_opp hd, show (n.toNat - 1) + 1 = n.toNat by omega]
    refine ⟨h2, ?_⟩
    unfold andS wtS
    rw [h3, h4]; rfl
theorem ld_emp1 {v : Int → Int} {P D T : Int} {k : Nat} (h : ∀ i : Int, 0 ≤ i → i < 36 → ldN v P D T k i = false) : ∀ i : Int, 0 ≤ i → i < 36 → ldN v P D T (k + 1) i = false := by
  intro i h1 h2
  have hd : ∀ i : Int, 0 ≤ i → i < 36 → difS (ldN v P D T k) (wrS v D (T - 1 - k)) i = false := fun i h1 h2 => by unfold difS; rw [h i h1 h2]; rfl
  unfold ldN
  split
  · unfold orS
    rw [hd i h1 h2, Bool.false_or]
    cases hb : staS P (wtS v D (T - 1 - k)) (difS (ldN v P D T k) (wrS v D (T - 1 - k))) i
    · rfl
    · obtain ⟨-, d, n, hd2, hn, g1, g2, -⟩ := (sta_iff (hd _ (harZ_in _).1 (harZ_in _).2) ⟨h1, h2⟩).mp hb
      have hw := wayN_on n.toNat i ⟨h1, h2⟩ g1
      rw [hw.1, hd _ hw.2.1 hw.2.2] at g2; cases g2
  · exact hd i h1 h2
theorem ld_emp {v : Int → Int} {P D T : Int} {k : Nat} (h : ∀ i : Int, 0 ≤ i → i < 36 → ldN v P D T k i = false) : ∀ (j : Nat) (i : Int), 0 ≤ i → i < 36 → ldN v P D T (k + j) i = false := by
  intro j
  induction j with
  | zero => exact h
  | succ j ih => exact ld_emp1 ih
/-! water, by heights -/
theorem wt_up {v : Int → Int} (w : Wf v) (D t : Int) : bL (upS v (minZ (tideZ v t - D) 4)) = bL (wtS v D t) := by
  refine bL_ext fun c h1 h2 => ?_
  have := w.h c ⟨h1, h2⟩
  unfold upS wtS wetB minZ
  refine decide_eq_decide.mpr ?_
  split <;> omega
theorem wt_neg {v : Int → Int} (w : Wf v) {D t : Int} (h : minZ (tideZ v t - D) 4 < 0) : 0 = bL (wtS v D t) := by
  rw [bL_bot]
  refine bL_ext fun c h1 h2 => ?_
  have := w.h c ⟨h1, h2⟩
  unfold botS wtS wetB
  unfold minZ at h
  rw [decide_eq_false]
  split at h <;> omega
theorem or_own {S T : Int → Bool} {P : Int} (hS : S (harZ P) = false) : (bL (andS (orS S T) (oneS (harZ P))) = 0) ↔ T (harZ P) = false := by
  rw [bL_0]
  constructor
  · intro h
    have := h _ (harZ_in P).1 (harZ_in P).2
    unfold andS orS oneS at this
    rw [hS, decide_eq_true rfl] at this
    simpa using this
  · intro h i _ _
    unfold andS orS oneS
    by_cases e : i = harZ P
    · rw [e, hS, h]; rfl
    · rw [decide_eq_false e]; simp
theorem one_in {S : Int → Bool} {x : Int} (hx : 0 ≤ x ∧ x < 36) : (bL (andS S (oneS x)) = 0) ↔ S x = false := by
  rw [bL_0]
  constructor
  · intro h
    have := h _ hx.1 hx.2
    unfold andS oneS at this
    rw [decide_eq_true rfl] at this
    simpa using this
  · intro h i _ _
    unfold andS oneS
    by_cases e : i = x
    · rw [e, h]; rfl
    · rw [decide_eq_false e]; simp
