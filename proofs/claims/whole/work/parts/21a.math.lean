/-! home in the fewest turns: both ways of telling it backwards say the same -/
def mvH (v : Int → Int) (P D t c c' : Int) : Prop := t % 2 = P ∧ wetB v c D t = true ∧ mvP v P D t c c'
def hmP (v : Int → Int) (P D : Int) : Nat → Int → Int → Prop
  | 0, _, _ => False
  | 1, c, t => mvH v P D t c (harZ P)
  | k + 2, c, t => ∃ c' : Int, (0 ≤ c' ∧ c' < 36) ∧ (c' = c ∨ mvH v P D t c c') ∧ wreckB v c' D t = false ∧ hmP v P D (k + 1) c' (1 + t)
theorem hm_par {v : Int → Int} {P D : Int} : ∀ (k : Nat) (c t : Int), hmP v P D k c t → (t + k - 1) % 2 = P := by
  intro k
  induction k with
  | zero => intro c t h; exact h.elim
  | succ k ih =>
    intro c t h
    cases k with
    | zero =>
      have := h.1
      rw [show t + ((0 + 1 : Nat) : Int) - 1 = t by omega]; exact this
    | succ k =>
      obtain ⟨c', -, -, -, h4⟩ := h
      have := ih c' (1 + t) h4
      rw [show t + ((k + 1 + 1 : Nat) : Int) - 1 = 1 + t + ((k + 1 : Nat) : Int) - 1 by omega]; exact this
theorem way_wet {v : Int → Int} {p dr t d : Int} : ∀ (n : Nat) (c : Int), wayN v p dr t d (n + 1) c ≠ -5 → wetB v (wayN v p dr t d (n + 1) c) dr t = true ∧ c ≠ harZ p := by
  intro n
  induction n with
  | zero =>
    intro c h
    unfold wayN at h ⊢
    split at h
    · exact absurd rfl h
    · rename_i hh
      rw [if_neg hh]
      refine ⟨?_, fun z => hh (Or.inl z)⟩
      show wetB v (besZ c d) dr t = true
      cases hw : wetB v (besZ c d) dr t
      · exact absurd (Or.inr (Or.inr (Or.inr hw))) hh
      · rfl
  | succ n ih =>
    intro c h
    have hh : ¬ (c = harZ p ∨ besZ c d = -1 ∨ besZ c d = harZ (1 - p) ∨ wetB v (besZ c d) dr t = false) := by
      intro z
      apply h
      unfold wayN
      rw [if_pos z]
    have e : wayN v p dr t d (n + 1 + 1) c = wayN v p dr t d (n + 1) (besZ c d) := by
      conv => lhs; unfold wayN
      rw [if_neg hh]
    rw [e] at h ⊢
    exact ⟨(ih _ h).1, fun z => hh (Or.inl z)⟩
theorem mv_facts {v : Int → Int} {P D t c c' : Int} (h : mvP v P D t c c') (h5 : c' ≠ -5) : wetB v c' D t = true ∧ c ≠ harZ P := by
  obtain ⟨d, n, hd, hn, e⟩ := h
  have e2 : n.toNat = (n.toNat - 1) + 1 := by omega
  rw [e2] at e
  have := way_wet (n.toNat - 1) c (by rw [e]; exact h5)
  rw [e] at this
  exact this
theorem mv_notX {v : Int → Int} {P D t c c' : Int} (h : mvP v P D t c c') (hc : c ≠ harZ (1 - P)) (h5 : c' ≠ -5) : c' ≠ harZ (1 - P) := by
  obtain ⟨d, n, hd, hn, e⟩ := h
  have := wayN_not (v := v) (dr := D) (t := t) (d := d) n.toNat c hc
  rw [e] at this
  exact this.resolve_right h5
theorem har_ne {P : Int} (hP : 0 ≤ P ∧ P ≤ 1) : harZ P ≠ harZ (1 - P) := by
  unfold harZ
  (repeat' split) <;> omega
theorem ld_iff {v : Int → Int} {P D T : Int} (hP : 0 ≤ P ∧ P ≤ 1) (hT : T % 2 = P) : ∀ (j : Nat) (c : Int), 0 ≤ c ∧ c < 36 → (ldN v P D T j c = true ↔ c ≠ harZ (1 - P) ∧ hmP v P D (j + 1) c (T - j)) := by
  intro j
  induction j with
  | zero =>
    intro c hc
    show staS P (wtS v D T) (oneS (harZ P)) c = true ↔ c ≠ harZ (1 - P) ∧ mvH v P D (T - ((0 : Nat) : Int)) c (harZ P)
    rw [show T - ((0 : Nat) : Int) = T by omega, sta_iff (decide_eq_false (fun z => har_ne hP z.symm)) hc]
    have hr := harZ_rng P
    constructor
    · rintro ⟨⟨h1, h2, h3⟩, d, n, hd, hn, h4, h5, -⟩
      exact ⟨h2, hT, h3, d, n, hd, hn, of_decide_eq_true h5⟩
    · rintro ⟨h2, -, h3, h4⟩
      have hf := mv_facts h4 (by omega)
      obtain ⟨d, n, hd, hn, e⟩ := h4
      exact ⟨⟨hf.2, h2, h3⟩, d, n, hd, hn, by rw [e]; omega, by rw [e]; exact decide_eq_true rfl, by rw [e]; exact hf.1⟩
  | succ j ih =>
    intro c hc
    have et : 1 + (T - ((j + 1 : Nat) : Int)) = T - j := by omega
    have et2 : T - ((j + 1 : Nat) : Int) = T - 1 - j := by omega
    have hF : ∀ e : Int, 0 ≤ e ∧ e < 36 → (difS (ldN v P D T j) (wrS v D (T - 1 - j)) e = true ↔ (e ≠ harZ (1 - P) ∧ hmP v P D (j + 1) e (T - j)) ∧ wreckB v e D (T - 1 - j) = false) := by
      intro e he
      unfold difS
      rw [Bool.and_eq_true, Bool.not_eq_true', wr_wreck, ih e he]
    have hFX : difS (ldN v P D T j) (wrS v D (T - 1 - j)) (harZ (1 - P)) = false := by
      cases hb : difS (ldN v P D T j) (wrS v D (T - 1 - j)) (harZ (1 - P))
      · rfl
      · exact absurd rfl ((hF _ (harZ_in _)).mp hb).1.1
    have hG : c ≠ harZ (1 - P) ∧ hmP v P D (j + 1 + 1) c (T - ((j + 1 : Nat) : Int)) ↔ difS (ldN v P D T j) (wrS v D (T - 1 - j)) c = true ∨ ((T - 1 - j) % 2 = P ∧ staS P (wtS v D (T - 1 - j)) (difS (ldN v P D T j) (wrS v D (T - 1 - j))) c = true) := by
      constructor
      · rintro ⟨hX, c', hc', h1, h2, h3⟩
        rw [et] at h3
        rw [et2] at h1 h2
        rcases h1 with h1 | ⟨h1, h4, h5⟩
        · subst h1
          exact Or.inl ((hF _ hc').mpr ⟨⟨hX, h3⟩, h2⟩)
        · right
          have hf := mv_facts h5 (by omega)
          have hx := mv_notX h5 hX (by omega)
          refine ⟨h1, (sta_iff hFX hc).mpr ⟨⟨hf.2, hX, h4⟩, ?_⟩⟩
          obtain ⟨d, n, hd, hn, e⟩ := h5
          exact ⟨d, n, hd, hn, by rw [e]; omega, by rw [e]; exact (hF _ hc').mpr ⟨⟨hx, h3⟩, h2⟩, by rw [e]; exact hf.1⟩
      · rintro (h | ⟨hp, h⟩)
        · obtain ⟨⟨h1, h2⟩, h3⟩ := (hF _ hc).mp h
          refine ⟨h1, c, hc, Or.inl rfl, ?_, ?_⟩
          · rw [et2]; exact h3
          · rw [et]; exact h2
        · obtain ⟨⟨h1, h2, h3⟩, d, n, hd, hn, h4, h5, h6⟩ := (sta_iff hFX hc).mp h
          have hr : 0 ≤ wayN v P D (T - 1 - j) d n.toNat c ∧ wayN v P D (T - 1 - j) d n.toNat c < 36 := (wayN_2 n.toNat c hc).resolve_left h4
          obtain ⟨⟨g1, g2⟩, g3⟩ := (hF _ hr).mp h5
          refine ⟨h2, _, hr, Or.inr ⟨?_, ?_, d, n, hd, hn, ?_⟩, ?_, ?_⟩
          · rw [et2]; exact hp
          · rw [et2]; exact h3
          · rw [et2]
          · rw [et2]; exact g3
          · rw [et]; exact g2
    rw [hG]
    have hl : ldN v P D T (j + 1) c = (if (T - 1 - j) % 2 = P then orS (difS (ldN v P D T j) (wrS v D (T - 1 - j))) (staS P (wtS v D (T - 1 - j)) (difS (ldN v P D T j) (wrS v D (T - 1 - j)))) else difS (ldN v P D T j) (wrS v D (T - 1 - j))) c := rfl
    rw [hl]
    split
    · rename_i hp
      unfold orS
      rw [Bool.or_eq_true]
      exact ⟨fun z => z.imp id (fun z => ⟨hp, z⟩), fun z => z.imp id (fun z => z.2)⟩
    · rename_i hp
      exact ⟨Or.inl, fun z => z.resolve_right (fun z => hp z.1)⟩
/-- the least number of turns from j + 1 to j + n, or -5 -/
def lstP (Q : Nat → Prop) (j n : Nat) (r : Int) : Prop := (r = -5 ∧ ∀ k, j + 1 ≤ k → k ≤ j + n → ¬ Q k) ∨ ∃ k, j + 1 ≤ k ∧ k ≤ j + n ∧ r = (k : Int) ∧ Q k ∧ ∀ i, j + 1 ≤ i → i < k → ¬ Q i
theorem lst_uniq {Q : Nat → Prop} {j n : Nat} {r r' : Int} (h : lstP Q j n r) (h' : lstP Q j n r') : r = r' := by
  rcases h with ⟨h1, h2⟩ | ⟨k, h1, h2, h3, h4, h5⟩
  · rcases h' with ⟨g1, -⟩ | ⟨k', g1, g2, -, g4, -⟩
    · rw [h1, g1]
    · exact absurd g4 (h2 k' g1 g2)
  · rcases h' with ⟨g1, g2⟩ | ⟨k', g1, g2, g3, g4, g5⟩
    · exact absurd h4 (g2 k h1 h2)
    · have : k = k' := by
        rcases Nat.lt_trichotomy k k' with hl | hl | hl
        · exact absurd h4 (g5 k h1 hl)
        · exact hl
        · exact absurd g4 (h5 k' g1 hl)
      rw [h3, g3, this]
theorem bw_lst {v : Int → Int} {P D c f : Int} (hP : 0 ≤ P ∧ P ≤ 1) (hc : 0 ≤ c ∧ c < 36) (hX : c ≠ harZ (1 - P)) : ∀ (n j : Nat), lstP (fun k => hmP v P D k c f) j n (bwN v P D c f n (f + j)) := by
  intro n
  induction n with
  | zero => intro j; exact Or.inl ⟨rfl, fun k h1 h2 => by omega⟩
  | succ n ih =>
    intro j
    have e : bwN v P D c f (n + 1) (f + j) = if (f + (j : Int)) % 2 = P ∧ ldN v P D (f + j) j c = true then 1 + (f + (j : Int)) - f else bwN v P D c f n (f + ((j + 1 : Nat) : Int)) := by
      conv => lhs; unfold bwN
      rw [show (f + (j : Int) - f).toNat = j by omega, show 1 + (f + (j : Int)) = f + ((j + 1 : Nat) : Int) by omega]
    have hq : ((f + (j : Int)) % 2 = P ∧ ldN v P D (f + j) j c = true) ↔ hmP v P D (j + 1) c f := by
      constructor
      · rintro ⟨h1, h2⟩
        have := ((ld_iff hP h1 j c hc).mp h2).2
        rwa [show f + (j : Int) - (j : Int) = f by omega] at this
      · intro h
        have hp := hm_par _ _ _ h
        have hp : (f + (j : Int)) % 2 = P := by rw [show f + (j : Int) = f + ((j + 1 : Nat) : Int) - 1 by omega]; exact hp
        refine ⟨hp, (ld_iff hP hp j c hc).mpr ⟨hX, ?_⟩⟩
        rwa [show f + (j : Int) - (j : Int) = f by omega]
    rw [e]
    split
    · rename_i h
      refine Or.inr ⟨j + 1, by omega, by omega, by omega, hq.mp h, fun i h1 h2 => by omega⟩
    · rename_i h
      have hn := fun z => h (hq.mpr z)
      rcases ih (j + 1) with ⟨g1, g2⟩ | ⟨k, g1, g2, g3, g4, g5⟩
      · refine Or.inl ⟨g1, fun k h1 h2 => ?_⟩
        by_cases hk : k = j + 1
        · subst hk; exact hn
        · exact g2 k (by omega) (by omega)
      · refine Or.inr ⟨k, by omega, by omega, g3, g4, fun i h1 h2 => ?_⟩
        by_cases hk : i = j + 1
        · subst hk; exact hn
        · exact g5 i (by omega) h2
/-! the fewest, out of what follows -/
theorem few_le0 {v : Int → Int} {P D c t : Int} {A : Int → Int} : ∀ n : Nat, fewN v P D c t A n ≤ fewN v P D c t A 0 := by
  intro n
  induction n with
  | zero => exact Int.le_refl _
  | succ n ih =>
    conv => lhs; unfold fewN
    split <;> omega
theorem few_leX {v : Int → Int} {P D c t : Int} {A : Int → Int} : ∀ (n : Nat) (k : Int), 0 ≤ k ∧ k < n → fewN v P D c t A n ≤ fewX v P D c t A k := by
  intro n
  induction n with
  | zero => intro k h; omega
  | succ n ih =>
    intro k h
    by_cases e : k = n
    · subst e
      conv => lhs; unfold fewN
      split <;> omega
    · have := ih k (by omega)
      conv => lhs; unfold fewN
      split <;> omega
theorem few_mem {v : Int → Int} {P D c t : Int} {A : Int → Int} : ∀ n : Nat, fewN v P D c t A n = fewN v P D c t A 0 ∨ ∃ k : Int, (0 ≤ k ∧ k < n) ∧ fewN v P D c t A n = fewX v P D c t A k := by
  intro n
  induction n with
  | zero => exact Or.inl rfl
  | succ n ih =>
    by_cases h : fewX v P D c t A n < fewN v P D c t A n
    · exact Or.inr ⟨n, by omega, by conv => lhs; unfold fewN
                                    rw [if_pos h]⟩
    · have e : fewN v P D c t A (n + 1) = fewN v P D c t A n := by
        conv => lhs; unfold fewN
        rw [if_neg h]
      rw [e]
      rcases ih with h2 | ⟨k, h1, h2⟩
      · exact Or.inl h2
      · exact Or.inr ⟨k, by omega, h2⟩
/-- a step to a cell where the boat is in the next turn -/
def stpP (v : Int → Int) (P D t c c' : Int) : Prop := (0 ≤ c' ∧ c' < 36) ∧ (c' = c ∨ mvH v P D t c c') ∧ wreckB v c' D t = false
theorem few_step {v : Int → Int} {P D t c c' : Int} {A : Int → Int} (hA : 1 ≤ A c') (h : stpP v P D t c c') : fewZ v P D c t A ≤ 1 + A c' := by
  obtain ⟨hc', h1, h2⟩ := h
  have h0 : c' = c → fewN v P D c t A 0 = 1 + A c' := by
    intro e
    subst e
    show (if wreckB v c' D t = true then (10000 : Int) else 1 + A c') = _
    rw [if_neg (by rw [h2]; decide)]
  unfold fewZ
  rcases h1 with h1 | ⟨h3, h4, h5⟩
  · have := h0 h1
    split
    · have := few_le0 (v := v) (P := P) (D := D) (c := c) (t := t) (A := A) 12; omega
    · omega
  · rw [if_pos ⟨h3, h4⟩]
    obtain ⟨k, hk, e⟩ := wy_mv.mpr h5
    have hx := few_leX (v := v) (P := P) (D := D) (c := c) (t := t) (A := A) 12 k (by omega)
    have : fewX v P D c t A k ≤ 1 + A c' := by
      unfold fewX
      rw [e]
      split
      · omega
      · rw [if_neg]
        · omega
        · rintro (z | z)
          · omega
          · rw [h2] at z; cases z
    omega
theorem few_out {v : Int → Int} {P D t c : Int} {A : Int → Int} (hc : 0 ≤ c ∧ c < 36) (h1 : ¬ mvH v P D t c (harZ P)) : fewZ v P D c t A = 10000 ∨ ∃ c', stpP v P D t c c' ∧ fewZ v P D c t A = 1 + A c' := by
  have h0 : fewN v P D c t A 0 = 10000 ∨ ∃ c', stpP v P D t c c' ∧ fewN v P D c t A 0 = 1 + A c' := by
    show (if wreckB v c D t = true then (10000 : Int) else 1 + A c) = 10000 ∨ ∃ c', stpP v P D t c c' ∧ (if wreckB v c D t = true then (10000 : Int) else 1 + A c) = 1 + A c'
    cases hw : wreckB v c D t
    · exact Or.inr ⟨c, ⟨hc, Or.inl rfl, hw⟩, if_neg (by decide)⟩
    · exact Or.inl (if_pos rfl)
  unfold fewZ
  split
  · rename_i hcan
    rcases few_mem (v := v) (P := P) (D := D) (c := c) (t := t) (A := A) 12 with e | ⟨k, hk, e⟩
    · rw [e]; exact h0
    · rw [e]
      have hne : wyN v P D t c k ≠ harZ P := fun z => h1 ⟨hcan.1, hcan.2, wy_mv.mp ⟨k, by omega, z⟩⟩
      unfold fewX
      rw [if_neg hne]
      split
      · exact Or.inl rfl
      · rename_i hh
        have h5 : wyN v P D t c k ≠ -5 := fun z => hh (Or.inl z)
        refine Or.inr ⟨_, ⟨(wyN_2 hc).resolve_left h5, Or.inr ⟨hcan.1, hcan.2, wy_mv.mp ⟨k, by omega, rfl⟩⟩, ?_⟩, rfl⟩
        cases hw : wreckB v (wyN v P D t c k) D t
        · rfl
        · exact absurd (Or.inr hw) hh
  · exact h0
theorem few_home {v : Int → Int} {P D t c : Int} {A : Int → Int} (h : mvH v P D t c (harZ P)) : fewZ v P D c t A ≤ 1 := by
  obtain ⟨h1, h2, h3⟩ := h
  obtain ⟨k, hk, e⟩ := wy_mv.mpr h3
  unfold fewZ
  rw [if_pos ⟨h1, h2⟩]
  have hx := few_leX (v := v) (P := P) (D := D) (c := c) (t := t) (A := A) 12 k (by omega)
  have : fewX v P D c t A k = 1 := by unfold fewX; rw [if_pos e]
  omega
theorem dp_lst {v : Int → Int} {P D : Int} : ∀ (j : Nat) (c : Int), j ≤ 9000 → 0 ≤ c ∧ c < 36 → ((1 ≤ dpN v P D j c ∧ dpN v P D j c ≤ j ∧ hmP v P D (dpN v P D j c).toNat c (v 125 + 1 - j) ∧ ∀ i : Nat, 1 ≤ i → (i : Int) < dpN v P D j c → ¬ hmP v P D i c (v 125 + 1 - j)) ∨ (10000 ≤ dpN v P D j c ∧ ∀ i : Nat, 1 ≤ i → i ≤ j → ¬ hmP v P D i c (v 125 + 1 - j))) := by
  intro j
  induction j with
  | zero => intro c _ _; exact Or.inr ⟨by show (10000 : Int) ≤ 10000; omega, fun i h1 h2 => by omega⟩
  | succ j ih =>
    intro c hj hc
    have et : v 125 + 1 - ((j + 1 : Nat) : Int) = v 125 - j := by omega
    have et2 : 1 + (v 125 - (j : Int)) = v 125 + 1 - j := by omega
    have hA := dpN_rng (v := v) (P := P) (D := D) j
    have hr := dpN_rng (v := v) (P := P) (D := D) (j + 1) c hc.1 hc.2
    have ed : dpN v P D (j + 1) c = fewZ v P D c (v 125 - j) (dpN v P D j) := rfl
    rw [ed] at hr ⊢
    rw [et]
    by_cases h1 : mvH v P D (v 125 - j) c (harZ P)
    · have := few_home (A := dpN v P D j) h1
      have e1 : fewZ v P D c (v 125 - j) (dpN v P D j) = 1 := by omega
      rw [e1]
      exact Or.inl ⟨by omega, by omega, h1, fun i h2 h3 => by omega⟩
    · have hmin : ∀ i : Nat, 1 ≤ i → i ≤ j + 1 → hmP v P D i c (v 125 - j) → fewZ v P D c (v 125 - j) (dpN v P D j) ≤ i := by
        intro i g1 g2 g3
        match i, g1, g3 with
        | 1, _, g3 => exact absurd g3 h1
        | i + 2, _, g3 =>
          obtain ⟨c', k1, k2, k3, k4⟩ := g3
          rw [et2] at k4
          have hle : dpN v P D j c' ≤ (i + 1 : Nat) := by
            rcases ih c' (by omega) k1 with ⟨m1, m2, m3, m4⟩ | ⟨m1, m2⟩
            · rcases Int.lt_or_le ((i + 1 : Nat) : Int) (dpN v P D j c') with hl | hl
              · exact absurd k4 (m4 (i + 1) (by omega) hl)
              · exact hl
            · exact absurd k4 (m2 (i + 1) (by omega) (by omega))
          have := few_step (A := dpN v P D j) (hA c' k1.1 k1.2).1 ⟨k1, k2, k3⟩
          omega
      rcases few_out (A := dpN v P D j) hc h1 with e | ⟨c', hs, e⟩
      · right
        refine ⟨by omega, fun i g1 g2 g3 => ?_⟩
        have := hmin i g1 g2 g3
        omega
      · have hc' := hs.1
        rcases ih c' (by omega) hc' with ⟨m1, m2, m3, m4⟩ | ⟨m1, m2⟩
        · left
          refine ⟨by omega, by omega, ?_, fun i g1 g2 g3 => ?_⟩
          · rw [e, show (1 + dpN v P D j c').toNat = ((dpN v P D j c').toNat - 1) + 2 by omega]
            refine ⟨c', hs.1, hs.2.1, hs.2.2, ?_⟩
            rw [et2, show (dpN v P D j c').toNat - 1 + 1 = (dpN v P D j c').toNat by omega]
            exact m3
          · have := hmin i g1 (by omega) g3
            omega
        · right
          refine ⟨by omega, fun i g1 g2 g3 => ?_⟩
          have := hmin i g1 g2 g3
          omega
theorem bw_ba {v : Int → Int} (w : Wf v) {P D c : Int} (hP : 0 ≤ P ∧ P ≤ 1) (hc : 0 ≤ c ∧ c < 36) (hX : c ≠ harZ (1 - P)) : bwZ v P D c (v 126) = baZ v P D c := by
  have hs := w.s
  have ht := w.t
  have h1 := bw_lst (v := v) (D := D) (f := v 126) hP hc hX (v 125 + 1 - v 126).toNat 0
  rw [show v 126 + ((0 : Nat) : Int) = v 126 by omega] at h1
  refine lst_uniq h1 ?_
  unfold baZ
  by_cases hn : v 125 + 1 - v 126 ≤ 0
  · rw [show (v 125 + 1 - v 126).toNat = 0 by omega]
    refine Or.inl ⟨?_, fun k g1 g2 => by omega⟩
    exact if_neg (by show ¬ (10000 : Int) < 10000; omega)
  · have e : v 125 + 1 - (((v 125 + 1 - v 126).toNat : Nat) : Int) = v 126 := by omega
    rcases dp_lst (v := v) (P := P) (D := D) (v 125 + 1 - v 126).toNat c (by omega) hc with ⟨m1, m2, m3, m4⟩ | ⟨m1, m2⟩
    · rw [e] at m3 m4
      rw [if_pos (by omega)]
      refine Or.inr ⟨(dpN v P D (v 125 + 1 - v 126).toNat c).toNat, by omega, by omega, by omega, m3, fun i g1 g2 => m4 i (by omega) (by omega)⟩
    · rw [e] at m2
      rw [if_neg (by omega)]
      exact Or.inl ⟨rfl, fun k g1 g2 => m2 k (by omega) (by omega)⟩
theorem hom_eq {v : Int → Int} (w : Wf v) (b y : Int) : homR v b y = hoxR v b y := by
  by_cases h1 : 0 ≤ b ∧ b < v 127
  · by_cases h3 : onB v b = false
    · unfold homR hoxR; simp [h3]
    · have hn := w.n
      have hw := w.b b (by omega)
      have hbb := w.bb b h1
      have hon : v (74 + 5 * b) = 0 := of_decide_eq_true (by unfold onB at h3; simpa using h3)
      unfold homR hoxR
      rw [bw_ba w (P := v (72 + 5 * b)) (D := v (73 + 5 * b)) (c := v (75 + 5 * b)) (by omega) (by omega) (by have h8 := hbb.2 hon; unfold harZ; split <;> omega)]
  · unfold homR hoxR
    rw [if_pos h1, if_pos h1]
