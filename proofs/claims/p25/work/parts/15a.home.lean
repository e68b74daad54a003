theorem wayN_2 {v : Int → Int} {p dr t d : Int} (n : Nat) (c : Int) (hc : 0 ≤ c ∧ c < 36) : wayN v p dr t d n c = -5 ∨ (0 ≤ wayN v p dr t d n c ∧ wayN v p dr t d n c < 36) := by
  by_cases h : wayN v p dr t d n c = -5
  · exact Or.inl h
  · have := wayN_on n c hc h
    right; rw [this.1]; exact this.2
theorem wr_wreck {v : Int → Int} {D t c : Int} : wrS v D t c = wreckB v c D t := by
  unfold wrS difS andS rkS wtS wreckB
  rw [Bool.and_assoc]
theorem bool_ext {a b : Bool} (h : a = true ↔ b = true) : a = b := by
  cases a <;> cases b <;> simp_all
/-! home in the fewest turns: both ways of telling it backwards say the same -/
def mvH (v : Int → Int) (P D t c c' : Int) : Prop := t % 2 = P ∧ wetB v c D t = true ∧ mvP v P D t c c'
def hmP (v : Int → Int) (P D : Int) : Nat → Int → Int → Prop
  | 0, _, _ => False
  | 1, c, t => mvH v P D t c (harZ P)
  | k + 2, c, t => ∃ c' : Int, (0 ≤ c' ∧ c' < 36) ∧ (c' = c ∨ mvH v P D t c c') ∧ wreckB v c' D t = false ∧ hmP v P D (k + 1) c' (1 + t)
theorem hm_par {v : Int → Int} {P D : Int} : ∀ (k : Nat) (c t : Int), hmP v P D k c t → (t + k - 1) % 2 = P := by
  intro k
  induction k with
  | zero => intro c t h; exact h.elim
  | succ k ih =>
    intro c t h
    cases k with
    | zero =>
      have := h.1
      rw [show t + ((0 + 1 : Nat) : Int) - 1 = t by omega]; exact this
    | succ k =>
      obtain ⟨c', -, -, -, h4⟩ := h
      have := ih c' (1 + t) h4
      rw [show t + ((k + 1 + 1 : Nat) : Int) - 1 = 1 + t + ((k + 1 : Nat) : Int) - 1 by omega]; exact this
theorem way_wet {v : Int → Int} {p dr t d : Int} : ∀ (n : Nat) (c : Int), wayN v p dr t d (n + 1) c ≠ -5 → wetB v (wayN v p dr t d (n + 1) c) dr t = true ∧ c ≠ harZ p := by
  intro n
  induction n with
  | zero =>
    intro c h
    unfold wayN at h ⊢
    split at h
    · exact absurd rfl h
    · rename_i hh
      rw [if_neg hh]
      refine ⟨?_, fun z => hh (Or.inl z)⟩
      show wetB v (besZ c d) dr t = true
      cases hw : wetB v (besZ c d) dr t
      · exact absurd (Or.inr (Or.inr (Or.inr hw))) hh
      · rfl
  | succ n ih =>
    intro c h
    have hh : ¬ (c = harZ p ∨ besZ c d = -1 ∨ besZ c d = harZ (1 - p) ∨ wetB v (besZ c d) dr t = false) := by
      intro z
      apply h
      unfold wayN
      rw [if_pos z]
    have e : wayN v p dr t d (n + 1 + 1) c = wayN v p dr t d (n + 1) (besZ c d) := by
      conv => lhs; unfold wayN
      rw [if_neg hh]
    rw [e] at h ⊢
    exact ⟨(ih _ h).1, fun z => hh (Or.inl z)⟩
theorem mv_facts {v : Int → Int} {P D t c c' : Int} (h : mvP v P D t c c') (h5 : c' ≠ -5) : wetB v c' D t = true ∧ c ≠ harZ P := by
  obtain ⟨d, n, hd, hn, e⟩ := h
  have e2 : n.toNat = (n.toNat - 1) + 1 := by omega
  rw [e2] at e
  have := way_wet (n.toNat - 1) c (by rw [e]; exact h5)
  rw [e] at this
  exact this
theorem mv_notX {v : Int → Int} {P D t c c' : Int} (h : mvP v P D t c c') (hc : c ≠ harZ (1 - P)) (h5 : c' ≠ -5) : c' ≠ harZ (1 - P) := by
  obtain ⟨d, n, hd, hn, e⟩ := h
  have := wayN_not (v := v) (dr := D) (t := t) (d := d) n.toNat c hc
  rw [e] at this
  exact this.resolve_right h5
theorem har_ne {P : Int} (hP : 0 ≤ P ∧ P ≤ 1) : harZ P ≠ harZ (1 - P) := by
  unfold harZ
  (repeat' split) <;> omega
theorem ld_iff {v : Int → Int} {P D T : Int} (hP : 0 ≤ P ∧ P ≤ 1) (hT : T % 2 = P) : ∀ (j : Nat) (c : Int), 0 ≤ c ∧ c < 36 → (ldN v P D T j c = true ↔ c ≠ harZ (1 - P) ∧ hmP v P D (j + 1) c (T - j)) := by
  intro j
  induction j with
  | zero =>
    intro c hc
    show staS P (wtS v D T) (oneS (harZ P)) c = true ↔ c ≠ harZ (1 - P) ∧ mvH v P D (T - ((0 : Nat) : Int)) c (harZ P)
    rw [show T - ((0 : Nat) : Int) = T by omega, sta_iff (decide_eq_false (fun z => har_ne hP z.symm)) hc]
    have hr := harZ_rng P
    constructor
    · rintro ⟨⟨h1, h2, h3⟩, d, n, hd, hn, h4, h5, -⟩
      exact ⟨h2, hT, h3, d, n, hd, hn, of_decide_eq_true h5⟩
    · rintro ⟨h2, -, h3, h4⟩
      have hf := mv_facts h4 (by omega)
      obtain ⟨d, n, hd, hn, e⟩ := h4
      exact ⟨⟨hf.2, h2, h3⟩, d, n, hd, hn, by rw [e]; omega, by rw [e]; exact decide_eq_true rfl, by rw [e]; exact hf.1⟩
  | succ j ih =>
    intro c hc
    have et : 1 + (T - ((j + 1 : Nat) : Int)) = T - j := by omega
    have et2 : T - ((j + 1 : Nat) : Int) = T - 1 - j := by omega
    have hF : ∀ e : Int, 0 ≤ e ∧ e < 36 → (difS (ldN v P D T j) (wrS v D (T - 1 - j)) e = true ↔ (e ≠ harZ (1 - P) ∧ hmP v P D (j + 1) e (T - j)) ∧ wreckB v e D (T - 1 - j) = false) := by
      intro e he
      unfold difS
      rw [Bool.and_eq_true, Bool.not_eq_true', wr_wreck, ih e he]
    have hFX : difS (ldN v P D T j) (wrS v D (T - 1 - j)) (harZ (1 - P)) = false := by
      cases hb : difS (ldN v P D T j) (wrS v D (T - 1 - j)) (harZ (1 - P))
      · rfl
      · exact absurd rfl ((hF _ (harZ_in _)).mp hb).1.1
    have hG : c ≠ harZ (1 - P) ∧ hmP v P D (j + 1 + 1) c (T - ((j + 1 : Nat) : Int)) ↔ difS (ldN v P D T j) (wrS v D (T - 1 - j)) c = true ∨ ((T - 1 - j) % 2 = P ∧ staS P (wtS v D (T - 1 - j)) (difS (ldN v P D T j) (wrS v D (T - 1 - j))) c = true) := by
      constructor
      · rintro ⟨hX, c', hc', h1, h2, h3⟩
        rw [et] at h3
        rw [et2] at h1 h2
        rcases h1 with h1 | ⟨h1, h4, h5⟩
        · subst h1
          exact Or.inl ((hF _ hc').mpr ⟨⟨hX, h3⟩, h2⟩)
        · right
          have hf := mv_facts h5 (by omega)
          have hx := mv_notX h5 hX (by omega)
          refine ⟨h1, (sta_iff hFX hc).mpr ⟨⟨hf.2, hX, h4⟩, ?_⟩⟩
          obtain ⟨d, n, hd, hn, e⟩ := h5
          exact ⟨d, n, hd, hn, by rw [e]; omega, by rw [e]; exact (hF _ hc').mpr ⟨⟨hx, h3⟩, h2⟩, by rw [e]; exact hf.1⟩
      · rintro (h | ⟨hp, h⟩)
        · obtain ⟨⟨h1, h2⟩, h3⟩ := (hF _ hc).mp h
          refine ⟨h1, c, hc, Or.inl rfl, ?_, ?_⟩
          · rw [et2]; exact h3
          · rw [et]; exact h2
        · obtain ⟨⟨h1, h2, h3⟩, d, n, hd, hn, h4, h5, h6⟩ := (sta_iff hFX hc).mp h
          have hr : 0 ≤ wayN v P D (T - 1 - j) d n.toNat c ∧ wayN v P D (T - 1 - j) d n.toNat c < 36 := (wayN_2 n.toNat c hc).resolve_left h4
          obtain ⟨⟨g1, g2⟩, g3⟩ := (hF _ hr).mp h5
          refine ⟨h2, _, hr, Or.inr ⟨?_, ?_, d, n, hd, hn, ?_⟩, ?_, ?_⟩
          · rw [et2]; exact hp
          · rw [et2]; exact h3
          · rw [et2]
          · rw [et2]; exact g3
          · rw [et]; exact g2
    rw [hG]
    have hl : ldN v P D T (j + 1) c = (if (T - 1 - j) % 2 = P then orS (difS (ldN v P D T j) (wrS v D (T - 1 - j))) (staS P (wtS v D (T - 1 - j)) (difS (ldN v P D T j) (wrS v D (T - 1 - j)))) else difS (ldN v P D T j) (wrS v D (T - 1 - j))) c := rfl
    rw [hl]
    split
    · rename_i hp
      unfold orS
      rw [Bool.or_eq_true]
      exact ⟨fun z => z.imp id (fun z => ⟨hp, z⟩), fun z => z.imp id (fun z => z.2)⟩
    · rename_i hp
      exact ⟨Or.inl, fun z => z.resolve_right (fun z => hp z.1)⟩
/-- the least number of turns from j + 1 to j + n, or -5 -/
def lstP (Q : Nat → Prop) (j n : Nat) (r : Int) : Prop := (r = -5 ∧ ∀ k, j + 1 ≤ k → k ≤ j + n → ¬ Q k) ∨ ∃ k, j + 1 ≤ k ∧ k ≤ j + n ∧ r = (k : Int) ∧ Q k ∧ ∀ i, j + 1 ≤ i → i < k → ¬ Q i
theorem lst_uniq {Q : Nat → Prop} {j n : Nat} {r r' : Int} (h : lstP Q j n r) (h' : lstP Q j n r') : r = r' := by
  rcases h with ⟨h1, h2⟩ | ⟨k, h1, h2, h3, h4, h5⟩
  · rcases h' with ⟨g1, -⟩ | ⟨k', g1, g2, -, g4, -⟩
    · rw [h1, g1]
    · exact absurd g4 (h2 k' g1 g2)
  · rcases h' with ⟨g1, g2⟩ | ⟨k', g1, g2, g3, g4, g5⟩
    · exact absurd h4 (g2 k h1 h2)
    · have : k = k' := by
        rcases Nat.lt_trichotomy k k' with hl | hl | hl
        · exact absurd h4 (g5 k h1 hl)
        · exact hl
        · exact absurd g4 (h5 k' g1 hl)
      rw [h3, g3, this]
theorem bw_lst {v : Int → Int} {P D c f : Int} (hP : 0 ≤ P ∧ P ≤ 1) (hc : 0 ≤ c ∧ c < 36) (hX : c ≠ harZ (1 - P)) : ∀ (n j : Nat), lstP (fun k => hmP v P D k c f) j n (bwN v P D c f n (f + j)) := by
  intro n
  induction n with
  | zero => intro j; exact Or.inl ⟨rfl, fun k h1 h2 => by omega⟩
  | succ n ih =>
    intro j
    have e : bwN v P D c f (n + 1) (f + j) = if (f + (j : Int)) % 2 = P ∧ ldN v P D (f + j) j c = true then 1 + (f + (j : Int)) - f else bwN v P D c f n (f + ((j + 1 : Nat) : Int)) := by
      conv => lhs; unfold bwN
      rw [show (f + (j : Int) - f).toNat = j by omega, show 1 + (f + (j : Int)) = f + ((j + 1 : Nat) : Int) by omega]
    have hq : ((f + (j : Int)) % 2 = P ∧ ldN v P D (f + j) j c = true) ↔ hmP v P D (j + 1) c f := by
      constructor
      · rintro ⟨h1, h2⟩
        have := ((ld_iff hP h1 j c hc).mp h2).2
        rwa [show f + (j : Int) - (j : Int) = f by omega] at this
      · intro h
        have hp := hm_par _ _ _ h
        have hp : (f + (j : Int)) % 2 = P := by rw [show f + (j : Int) = f + ((j + 1 : Nat) : Int) - 1 by omega]; exact hp
        refine ⟨hp, (ld_iff hP hp j c hc).mpr ⟨hX, ?_⟩⟩
        rwa [show f + (j : Int) - (j : Int) = f by omega]
    rw [e]
    split
    · rename_i h
      refine Or.inr ⟨j + 1, by omega, by omega, by omega, hq.mp h, fun i h1 h2 => by omega⟩
    · rename_i h
      have hn := fun z => h (hq.mpr z)
      rcases ih (j + 1) with ⟨g1, g2⟩ | ⟨k, g1, g2, g3, g4, g5⟩
      · refine Or.inl ⟨g1, fun k h1 h2 => ?_⟩
        by_cases hk : k = j + 1
        · subst hk; exact hn
        · exact g2 k (by omega) (by omega)
      · refine Or.inr ⟨k, by omega, by omega, g3, g4, fun i h1 h2 => ?_⟩
        by_cases hk : i = j + 1
        · subst hk; exact hn
        · exact g5 i (by omega) h2
/-! the way forwards says the same -/
def stpP (v : Int → Int) (P D t c c' : Int) : Prop := (0 ≤ c' ∧ c' < 36) ∧ (c' = c ∨ mvH v P D t c c') ∧ wreckB v c' D t = false
def rcH (v : Int → Int) (P D : Int) : Nat → Int → Int → Int → Prop
  | 0, c, _, c' => c' = c
  | j + 1, c, t, c' => ∃ c1 : Int, stpP v P D t c c1 ∧ rcH v P D j c1 (1 + t) c'
theorem rc_snoc {v : Int → Int} {P D : Int} : ∀ (j : Nat) (c t c' : Int), rcH v P D (j + 1) c t c' ↔ ∃ c1 : Int, rcH v P D j c t c1 ∧ stpP v P D (t + j) c1 c' := by
  intro j
  induction j with
  | zero =>
    intro c t c'
    rw [show t + ((0 : Nat) : Int) = t by omega]
    constructor
    · rintro ⟨c1, h, e⟩
      have e : c' = c1 := e
      subst e
      exact ⟨c, rfl, h⟩
    · rintro ⟨c1, e, h⟩
      have e : c1 = c := e
      subst e
      exact ⟨c', h, rfl⟩
  | succ j ih =>
    intro c t c'
    constructor
    · rintro ⟨c1, h1, h2⟩
      obtain ⟨c2, h3, h4⟩ := (ih c1 (1 + t) c').mp h2
      refine ⟨c2, ⟨c1, h1, h3⟩, ?_⟩
      rwa [show t + ((j + 1 : Nat) : Int) = 1 + t + (j : Int) by omega]
    · rintro ⟨c2, ⟨c1, h1, h3⟩, h4⟩
      refine ⟨c1, h1, (ih c1 (1 + t) c').mpr ⟨c2, h3, ?_⟩⟩
      rwa [show t + ((j + 1 : Nat) : Int) = 1 + t + (j : Int) by omega] at h4
theorem hm_rc {v : Int → Int} {P D : Int} : ∀ (j : Nat) (c t : Int), hmP v P D (j + 1) c t ↔ ∃ c' : Int, rcH v P D j c t c' ∧ mvH v P D (t + j) c' (harZ P) := by
  intro j
  induction j with
  | zero =>
    intro c t
    rw [show t + ((0 : Nat) : Int) = t by omega]
    constructor
    · intro h; exact ⟨c, rfl, h⟩
    · rintro ⟨c', e, h⟩
      have e : c' = c := e
      subst e; exact h
  | succ j ih =>
    intro c t
    constructor
    · rintro ⟨c1, h1, h2, h3, h4⟩
      obtain ⟨c', h5, h6⟩ := (ih c1 (1 + t)).mp h4
      refine ⟨c', ⟨c1, ⟨h1, h2, h3⟩, h5⟩, ?_⟩
      rwa [show t + ((j + 1 : Nat) : Int) = 1 + t + (j : Int) by omega]
    · rintro ⟨c', ⟨c1, ⟨h1, h2, h3⟩, h5⟩, h6⟩
      refine ⟨c1, h1, h2, h3, (ih c1 (1 + t)).mpr ⟨c', h5, ?_⟩⟩
      rwa [show t + ((j + 1 : Nat) : Int) = 1 + t + (j : Int) by omega] at h6
theorem rc_in {v : Int → Int} {P D : Int} : ∀ (j : Nat) (c t c' : Int), 0 ≤ c ∧ c < 36 → rcH v P D j c t c' → 0 ≤ c' ∧ c' < 36 := by
  intro j
  induction j with
  | zero =>
    intro c t c' h e
    have e : c' = c := e
    omega
  | succ j ih =>
    rintro c t c' h ⟨c1, h1, h2⟩
    exact ih c1 (1 + t) c' h1.1 h2
theorem nx_iff {v : Int → Int} {P D t : Int} {S : Int → Bool} {c' : Int} (h' : 0 ≤ c' ∧ c' < 36) : nxS v P D t S c' = true ↔ ∃ c : Int, (0 ≤ c ∧ c < 36) ∧ S c = true ∧ stpP v P D t c c' := by
  unfold nxS difS
  rw [Bool.and_eq_true, Bool.not_eq_true', wr_wreck]
  constructor
  · rintro ⟨h1, h2⟩
    split at h1
    · rename_i hp
      unfold orS at h1
      rw [Bool.or_eq_true] at h1
      rcases h1 with h1 | h1
      · exact ⟨c', h', h1, h', Or.inl rfl, h2⟩
      · obtain ⟨c, hc, g1, g2, g3⟩ := (gol_iff h').mp h1
        exact ⟨c, hc, g1, h', Or.inr ⟨hp, g2, g3⟩, h2⟩
    · exact ⟨c', h', h1, h', Or.inl rfl, h2⟩
  · rintro ⟨c, hc, h1, -, h3, h4⟩
    refine ⟨?_, h4⟩
    rcases h3 with h3 | ⟨g1, g2, g3⟩
    · subst h3
      split
      · unfold orS; rw [h1]; rfl
      · exact h1
    · rw [if_pos g1]
      unfold orS
      rw [(gol_iff h').mpr ⟨c, hc, h1, g2, g3⟩, Bool.or_true]
theorem fw_lst {v : Int → Int} {P D c f : Int} (hc : 0 ≤ c ∧ c < 36) : ∀ (n j : Nat) (S : Int → Bool), (∀ c' : Int, 0 ≤ c' ∧ c' < 36 → (S c' = true ↔ rcH v P D j c f c')) → lstP (fun k => hmP v P D k c f) j n (fwN v P D f n S (f + j)) := by
  intro n
  induction n with
  | zero => intro j S _; exact Or.inl ⟨rfl, fun k h1 h2 => by omega⟩
  | succ n ih =>
    intro j S hS
    have e : fwN v P D f (n + 1) S (f + j) = if (f + (j : Int)) % 2 = P ∧ golS P (wtS v D (f + j)) S (harZ P) = true then 1 + (f + (j : Int)) - f else fwN v P D f n (nxS v P D (f + j) S) (f + ((j + 1 : Nat) : Int)) := by
      conv => lhs; unfold fwN
      rw [show 1 + (f + (j : Int)) = f + ((j + 1 : Nat) : Int) by omega]
    have hq : ((f + (j : Int)) % 2 = P ∧ golS P (wtS v D (f + j)) S (harZ P) = true) ↔ hmP v P D (j + 1) c f := by
      rw [hm_rc, gol_iff (harZ_in P)]
      constructor
      · rintro ⟨h1, c1, hc1, h2, h3, h4⟩
        exact ⟨c1, (hS c1 hc1).mp h2, h1, h3, h4⟩
      · rintro ⟨c1, h1, h2, h3, h4⟩
        have hc1 := rc_in j c f c1 hc h1
        exact ⟨h2, c1, hc1, (hS c1 hc1).mpr h1, h3, h4⟩
    rw [e]
    split
    · rename_i h
      refine Or.inr ⟨j + 1, by omega, by omega, by omega, hq.mp h, fun i h1 h2 => by omega⟩
    · rename_i h
      have hn := fun z => h (hq.mpr z)
      have hS2 : ∀ c' : Int, 0 ≤ c' ∧ c' < 36 → (nxS v P D (f + j) S c' = true ↔ rcH v P D (j + 1) c f c') := by
        intro c' hc'
        rw [nx_iff hc', rc_snoc]
        constructor
        · rintro ⟨c1, hc1, h1, h2⟩
          exact ⟨c1, (hS c1 hc1).mp h1, h2⟩
        · rintro ⟨c1, h1, h2⟩
          have hc1 := rc_in j c f c1 hc h1
          exact ⟨c1, hc1, (hS c1 hc1).mpr h1, h2⟩
      rcases ih (j + 1) _ hS2 with ⟨g1, g2⟩ | ⟨k, g1, g2, g3, g4, g5⟩
      · refine Or.inl ⟨g1, fun k h1 h2 => ?_⟩
        by_cases hk : k = j + 1
        · subst hk; exact hn
        · exact g2 k (by omega) (by omega)
      · refine Or.inr ⟨k, by omega, by omega, g3, g4, fun i h1 h2 => ?_⟩
        by_cases hk : i = j + 1
        · subst hk; exact hn
        · exact g5 i (by omega) h2
theorem fwZ_lst {v : Int → Int} {P D c f : Int} (hc : 0 ≤ c ∧ c < 36) : lstP (fun k => hmP v P D k c f) 0 (v 125 + 1 - f).toNat (fwZ v P D c f) := by
  have h := fw_lst (v := v) (P := P) (D := D) (f := f) hc (v 125 + 1 - f).toNat 0 (oneS c) (fun c' _ => by
    unfold oneS
    rw [decide_eq_true_eq]
    exact Iff.rfl)
  rwa [show f + ((0 : Nat) : Int) = f by omega] at h
theorem fw_bw {v : Int → Int} {P D c f : Int} (hP : 0 ≤ P ∧ P ≤ 1) (hc : 0 ≤ c ∧ c < 36) (hX : c ≠ harZ (1 - P)) : fwZ v P D c f = bwZ v P D c f := by
  have h1 := bw_lst (v := v) (D := D) (f := f) hP hc hX (v 125 + 1 - f).toNat 0
  rw [show f + ((0 : Nat) : Int) = f by omega] at h1
  exact lst_uniq (fwZ_lst hc) h1
/-- both ways home say the same -/
theorem hom_fb {v : Int → Int} (w : Wf v) (b : Int) : homR v b 0 = homR v b 1 := by
  unfold homR
  by_cases h1 : 0 ≤ b ∧ b < v 127
  · by_cases h3 : onB v b = false
    · simp [h3]
    · have hn := w.n
      have hw := w.b b (by omega)
      have hbb := w.bb b h1
      have hon : v (74 + 5 * b) = 0 := of_decide_eq_true (by unfold onB at h3; simpa using h3)
      rw [if_neg (by omega), if_neg (by omega), if_neg h3, if_pos rfl, if_neg (by omega), if_neg (by omega), if_neg h3, if_neg (by omega)]
      exact fw_bw (by omega) (by omega) (by have h8 := hbb.2 hon; unfold harZ; split <;> omega)
  · rw [if_pos h1, if_pos h1]
/-- who comes home floats once where it is -/
theorem hm_wet {v : Int → Int} {P D : Int} : ∀ (k : Nat) (c t : Int), hmP v P D k c t → ∃ i : Nat, i < k ∧ wetB v c D (i + t) = true := by
  intro k
  induction k with
  | zero => intro c t h; exact h.elim
  | succ k ih =>
    intro c t h
    cases k with
    | zero => exact ⟨0, by omega, by rw [show ((0 : Nat) : Int) + t = t by omega]; exact h.2.1⟩
    | succ k =>
      obtain ⟨c', h1, h2, h3, h4⟩ := h
      rcases h2 with h2 | h2
      · subst h2
        obtain ⟨i, g1, g2⟩ := ih c' (1 + t) h4
        exact ⟨i + 1, by omega, by rw [show ((i + 1 : Nat) : Int) + t = (i : Int) + (1 + t) by omega]; exact g2⟩
      · exact ⟨0, by omega, by rw [show ((0 : Nat) : Int) + t = t by omega]; exact h2.2.1⟩
