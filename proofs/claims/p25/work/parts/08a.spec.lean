/-! ways, boats in the way, reasons -/
/-- where a way of n steps ends from a cell, by the board and the water; -5 if it cannot be gone -/
def wayN (v : Int → Int) (p dr t d : Int) : Nat → Int → Int
  | 0, c => c
  | n + 1, c => if c = harZ p ∨ besZ c d = -1 ∨ besZ c d = harZ (1 - p) ∨ wetB v (besZ c d) dr t = false then -5 else wayN v p dr t d n (besZ c d)
def wayZ (v : Int → Int) (b d n : Int) : Int := wayN v (v (72 + 5 * b)) (v (73 + 5 * b)) (v 126) d n.toNat (v (75 + 5 * b))
def blkN (v : Int → Int) (b d : Int) : Nat → Int → Bool
  | 0, _ => false
  | n + 1, c => (decide (batZ v (besZ c d) ≠ -5) && !(decide (n = 0) && (decide (v (72 + 5 * batZ v (besZ c d)) ≠ v (72 + 5 * b)) && !wetB v (besZ c d) (v (73 + 5 * batZ v (besZ c d))) (v 126)))) || blkN v b d n (besZ c d)
def blkB (v : Int → Int) (b d n : Int) : Bool := blkN v b d n.toNat (v (75 + 5 * b))
def reaZ (v : Int → Int) (b d n : Int) (any : Bool) : Int :=
  if overB v = true then 1
  else if onB v b = false then 2
  else if any = false ∧ v (72 + 5 * b) ≠ v 126 % 2 then 3
  else if floB v b = false then 4
  else if wayZ v b d n = -5 then 5
  else if blkB v b d n = true then 6
  else 0
theorem reaZ_rng (v : Int → Int) (b d n : Int) (a : Bool) : 0 ≤ reaZ v b d n a ∧ reaZ v b d n a ≤ 6 := by
  unfold reaZ
  (repeat' split) <;> omega
def mvsZ (v : Int → Int) (b : Int) : Int := sumN (fun k => if reaZ v b (k / 3) (k % 3 + 1) true = 0 then 1 else 0) 12
/-- a way that can be gone leads on the board: no cell of it but the last is a harbour, and its cells are on the board -/
theorem wayN_on {v : Int → Int} {p dr t d : Int} : ∀ (n : Nat) (c : Int), 0 ≤ c ∧ c < 36 → wayN v p dr t d n c ≠ -5 → wayN v p dr t d n c = froZ d n c ∧ 0 ≤ froZ d n c ∧ froZ d n c < 36 := by
  intro n
  induction n with
  | zero => intro c hc _; exact ⟨rfl, hc.1, hc.2⟩
  | succ n ih =>
    intro c hc h
    unfold wayN at h ⊢
    split at h
    · exact absurd rfl h
    · rename_i hh
      rw [if_neg hh]
      have := besZ_rng c d
      exact ih (besZ c d) (by omega) h
theorem wayN_not {v : Int → Int} {p dr t d : Int} : ∀ (n : Nat) (c : Int), c ≠ harZ (1 - p) → wayN v p dr t d n c ≠ harZ (1 - p) ∨ wayN v p dr t d n c = -5 := by
  intro n
  induction n with
  | zero => intro c hc; exact Or.inl hc
  | succ n ih =>
    intro c hc
    unfold wayN
    split
    · exact Or.inr rfl
    · rename_i hh
      exact ih _ (by omega)
/-- one step of a way -/
theorem wayN_1 {v : Int → Int} {p dr t d c : Int} {k : Int} (hk : 1 ≤ k) : wayN v p dr t d k.toNat c = if c = harZ p ∨ besZ c d = -1 ∨ besZ c d = harZ (1 - p) ∨ wetB v (besZ c d) dr t = false then -5 else wayN v p dr t d (k - 1).toNat (besZ c d) := by
  rw [show k.toNat = (k - 1).toNat + 1 by omega]
  rfl
theorem wayN_0 {v : Int → Int} {p dr t d c : Int} {k : Int} (hk : k ≤ 0) : wayN v p dr t d k.toNat c = c := by
  rw [show k.toNat = 0 by omega]
  rfl
theorem blkN_1 {v : Int → Int} {b d c k : Int} (hk : 1 ≤ k) : blkN v b d k.toNat c = ((decide (batZ v (besZ c d) ≠ -5) && !(decide (k = 1) && (decide (v (72 + 5 * batZ v (besZ c d)) ≠ v (72 + 5 * b)) && !wetB v (besZ c d) (v (73 + 5 * batZ v (besZ c d))) (v 126)))) || blkN v b d (k - 1).toNat (besZ c d)) := by
  have e : k.toNat = (k - 1).toNat + 1 := by omega
  have e2 : decide (k = 1) = decide ((k - 1).toNat = 0) := by
    by_cases h : k = 1
    · subst h; rfl
    · rw [decide_eq_false h, decide_eq_false (by omega)]
  rw [e2, e]
  rfl
theorem blkN_0 {v : Int → Int} {b d c k : Int} (hk : k ≤ 0) : blkN v b d k.toNat c = false := by
  rw [show k.toNat = 0 by omega]
  rfl
/-! what acts make of a row -/
def layR (v : Int → Int) (x h k : Int) : Int :=
  if ¬ (0 ≤ x ∧ x < 36) then -1 else if ¬ (0 ≤ h ∧ h ≤ 4) then -2 else if x = 0 ∨ x = 35 ∨ v 126 ≠ 0 then -4 else if v x = h ∧ v (36 + x) = k then -5 else v x
def layV (v : Int → Int) (x h k : Int) : Int → Int := if 0 ≤ layR v x h k then updZ (updZ v x h) (36 + x) k else v
def addR (v : Int → Int) (p dr x : Int) : Int :=
  if ¬ (0 ≤ p ∧ p < 2) ∨ ¬ (0 ≤ x ∧ x < 36) then -1 else if ¬ (1 ≤ dr ∧ dr < 4) then -2 else if v 126 ≠ 0 ∨ x = 0 ∨ x = 35 ∨ batZ v x ≠ -5 then -4 else if 10 ≤ v 127 then -3 else v 127
def addV (v : Int → Int) (p dr x : Int) : Int → Int :=
  if 0 ≤ addR v p dr x then updZ (updZ (updZ (updZ (updZ (updZ v (72 + 5 * v 127) p) (73 + 5 * v 127) dr) (74 + 5 * v 127) 0) (75 + 5 * v 127) x) (76 + 5 * v 127) 0) 127 (1 + v 127) else v
def lstZ (k : Int) : Int := if k = 0 then 0 else if k = 1 then 1 else if k = 2 then 1 else 10
def mstZ (k : Int) : Int := if k = 0 then 3 else if k = 1 then 4 else if k = 2 then 3 else 99
def chsR (v : Int → Int) (k x : Int) : Int :=
  if ¬ (0 ≤ k ∧ k < 4) then -2 else if x < lstZ k ∨ mstZ k < x then -2 else if v 126 ≠ 0 then -4 else if setZ v k = x then -5 else setZ v k
def chsV (v : Int → Int) (k x : Int) : Int → Int := if 0 ≤ chsR v k x then updZ v (122 + k) x else v
def pasP (v : Int → Int) (i : Int) : Int → Int := fun k => if 74 ≤ k ∧ k < 74 + 5 * i ∧ (k - 74) % 5 = 0 ∧ hitB v ((k - 74) / 5) = true then 2 else v k
def pasV (v : Int → Int) : Int → Int := updZ (pasP v (v 127)) 126 (1 + v 126)
def ramV (v : Int → Int) (o : Int) : Int → Int := if o = -5 then v else updZ (updZ v (74 + 5 * o) 2) 128 (1 + v 128)
def ramR (v : Int → Int) (o : Int) : Int := if o = -5 then 0 else v (73 + 5 * o)
def golZ (v : Int → Int) (b d n : Int) : Int := froZ d n.toNat (v (75 + 5 * b))
def mvV (v : Int → Int) (b d n : Int) : Int → Int :=
  updZ (updZ (updZ (ramV v (batZ v (golZ v b d n))) (76 + 5 * b) (n + v (76 + 5 * b))) (75 + 5 * b) (golZ v b d n)) (74 + 5 * b) (if golZ v b d n = harZ (v (72 + 5 * b)) then 1 else 0)
def saiR (v : Int → Int) (b d n : Int) : Int :=
  if ¬ (0 ≤ b ∧ b < v 127) then -1 else if ¬ (0 ≤ d ∧ d < 4 ∧ 1 ≤ n ∧ n ≤ 3) then -2 else if reaZ v b d n false ≠ 0 then -10 - reaZ v b d n false else ramR v (batZ v (golZ v b d n))
def saiV (v : Int → Int) (b d n : Int) : Int → Int := if 0 ≤ saiR v b d n then pasV (mvV v b d n) else v
def waiR (v : Int → Int) : Int := if overB v = true then -4 else tideZ (pasV v) (pasV v 126)
def waiV (v : Int → Int) : Int → Int := if overB v = true then v else pasV v
/-! they keep a row well-formed -/
theorem pasP_b {v : Int → Int} {b : Int} (i : Int) (j : Int) (hj : j = 72 ∨ j = 73 ∨ j = 75 ∨ j = 76) : pasP v i (j + 5 * b) = v (j + 5 * b) := by
  unfold pasP
  rw [if_neg]
  rintro ⟨h1, h2, h3, -⟩
  omega
theorem pasP_h {v : Int → Int} {b : Int} (i : Int) (h : 0 ≤ b) : pasP v i (74 + 5 * b) = if b < i ∧ hitB v b = true then 2 else v (74 + 5 * b) := by
  unfold pasP
  have e : (74 + 5 * b - 74) / 5 = b := by omega
  rw [e]
  by_cases hb : b < i ∧ hitB v b = true
  · rw [if_pos hb, if_pos ⟨by omega, by omega, by omega, hb.2⟩]
  · rw [if_neg hb, if_neg]
    rintro ⟨h1, h2, h3, h4⟩
    exact hb ⟨by omega, h4⟩
theorem pasP_o {v : Int → Int} {k : Int} {i : Int} (h : k < 74 ∨ 74 + 5 * i ≤ k ∨ (k - 74) % 5 ≠ 0) : pasP v i k = v k := by
  unfold pasP
  rw [if_neg]
  rintro ⟨h1, h2, h3, -⟩
  omega
theorem Wf.lay {v : Int → Int} (w : Wf v) (x h k : Int) (hk : 0 ≤ k ∧ k ≤ 1) : Wf (layV v x h k) := by
  unfold layV
  split
  · rename_i hr
    have hx : (0 ≤ x ∧ x < 36) ∧ (0 ≤ h ∧ h ≤ 4) := by
      unfold layR at hr
      split at hr
      · omega
      · split at hr <;> omega
    obtain ⟨w1, w2, w3, w4, w5, w6, w7⟩ := w
    have e : ∀ j : Int, 72 ≤ j → updZ (updZ v x h) (36 + x) k j = v j := fun j hj => by
      unfold updZ
      rw [if_neg (by omega), if_neg (by omega)]
    refine ⟨fun c h1 h2 => ?_, fun c h1 h2 => ?_, ?_, fun b h1 h2 => ?_, fun b h1 h2 => ?_, ?_, ?_⟩
    · have := w1 c h1 h2
      unfold updZ
      (repeat' split) <;> omega
    · have := w2 c h1 h2
      unfold updZ
      (repeat' split) <;> omega
    · rw [e 127 (by omega)]; exact w3
    · rw [e _ (by omega), e _ (by omega), e _ (by omega), e _ (by omega)]; exact w4 b h1 h2
    · rw [e _ (by omega)] at h2
      rw [e _ (by omega), e _ (by omega), e _ (by omega)]; exact w5 b h1 h2
    · rw [e _ (by omega), e _ (by omega), e _ (by omega), e _ (by omega)]; exact w6
    · rw [e _ (by omega)]; exact w7
  · exact w
theorem Wf.add {v : Int → Int} (w : Wf v) (p dr x : Int) : Wf (addV v p dr x) := by
  unfold addV
  split
  · rename_i hr
    have hn := w.n
    have hx : (0 ≤ p ∧ p < 2) ∧ (0 ≤ x ∧ x < 36) ∧ (1 ≤ dr ∧ dr < 4) ∧ x ≠ 0 ∧ x ≠ 35 ∧ v 127 < 10 := by
      unfold addR at hr
      (repeat' split at hr) <;> omega
    obtain ⟨w1, w2, w3, w4, w5, w6, w7⟩ := w
    have e : ∀ j : Int, j < 72 ∨ (122 ≤ j ∧ j ≠ 127) → updZ (updZ (updZ (updZ (updZ (updZ v (72 + 5 * v 127) p) (73 + 5 * v 127) dr) (74 + 5 * v 127) 0) (75 + 5 * v 127) x) (76 + 5 * v 127) 0) 127 (1 + v 127) j = v j := fun j hj => by
      unfold updZ
      rw [if_neg (by omega), if_neg (by omega), if_neg (by omega), if_neg (by omega), if_neg (by omega), if_neg (by omega)]
    refine ⟨fun c h1 h2 => ?_, fun c h1 h2 => ?_, ?_, fun b h1 h2 => ?_, fun b h1 h2 => ?_, ?_, ?_⟩
    · rw [e c (by omega)]; exact w1 c h1 h2
    · rw [e _ (by omega)]; exact w2 c h1 h2
    · rw [updZ_s]; omega
    · have := w4 b h1 h2
      unfold updZ
      refine ⟨?_, ?_, ?_, ?_⟩ <;> (repeat' split) <;> omega
    · rw [updZ_s] at h2
      have := w5 b h1
      unfold updZ
      by_cases hb : b = v 127
      · subst hb
        refine ⟨?_, fun _ => ⟨?_, ?_⟩⟩ <;> (repeat' split) <;> omega
      · have := this (by omega)
        rw [if_neg (by omega), if_neg (by omega), if_neg (by omega), if_neg (by omega), if_neg (by omega), if_neg (by omega)]
        rw [if_neg (by omega), if_neg (by omega), if_neg (by omega), if_neg (by omega), if_neg (by omega), if_neg (by omega)]
        rw [if_neg (by omega), if_neg (by omega), if_neg (by omega), if_neg (by omega), if_neg (by omega), if_neg (by omega)]
        exact this
    · rw [e _ (by omega), e _ (by omega), e _ (by omega), e _ (by omega)]; exact w6
    · rw [e _ (by omega)]; exact w7
  · exact w
theorem Wf.chs {v : Int → Int} (w : Wf v) (k x : Int) : Wf (chsV v k x) := by
  unfold chsV
  split
  · rename_i hr
    have hx : (0 ≤ k ∧ k < 4) ∧ lstZ k ≤ x ∧ x ≤ mstZ k := by
      unfold chsR at hr
      (repeat' split at hr) <;> omega
    obtain ⟨w1, w2, w3, w4, w5, w6, w7⟩ := w
    have e : ∀ j : Int, j < 122 ∨ 126 ≤ j → updZ v (122 + k) x j = v j := fun j hj => by
      unfold updZ
      rw [if_neg (by omega)]
    unfold lstZ mstZ at hx
    refine ⟨fun c h1 h2 => ?_, fun c h1 h2 => ?_, ?_, fun b h1 h2 => ?_, fun b h1 h2 => ?_, ?_, ?_⟩
    · rw [e c (by omega)]; exact w1 c h1 h2
    · rw [e _ (by omega)]; exact w2 c h1 h2
    · rw [e _ (by omega)]; exact w3
    · rw [e _ (by omega), e _ (by omega), e _ (by omega), e _ (by omega)]; exact w4 b h1 h2
    · rw [e _ (by omega)] at h2
      have : b < 10 := by omega
      rw [e _ (by omega), e _ (by omega), e _ (by omega)]; exact w5 b h1 h2
    · obtain ⟨hk, hx1, hx2⟩ := hx
      have hk4 : k = 0 ∨ k = 1 ∨ k = 2 ∨ k = 3 := by omega
      rcases hk4 with rfl | rfl | rfl | rfl <;> simp at hx1 hx2 <;> unfold updZ <;> refine ⟨?_, ?_, ?_, ?_⟩ <;> simp <;> omega
    · rw [e _ (by omega)]; exact w7
  · exact w
theorem Wf.paq {v : Int → Int} (w : Wf v) (i : Int) (hi : 0 ≤ i ∧ i ≤ v 127) : Wf (pasP v i) := by
  have hn := w.n
  obtain ⟨w1, w2, w3, w4, w5, w6, w7⟩ := w
  refine ⟨fun c h1 h2 => ?_, fun c h1 h2 => ?_, ?_, fun b h1 h2 => ?_, fun b h1 h2 => ?_, ?_, ?_⟩
  · rw [pasP_o (by omega)]; exact w1 c h1 h2
  · rw [pasP_o (by omega)]; exact w2 c h1 h2
  · rw [pasP_o (by omega)]; exact w3
  · have := w4 b h1 h2
    rw [pasP_b _ 72 (by omega), pasP_b _ 73 (by omega), pasP_b _ 75 (by omega), pasP_h _ h1]
    refine ⟨this.1, this.2.1, ?_, this.2.2.2⟩
    split <;> omega
  · rw [pasP_o (by omega)] at h2
    have := w5 b h1 h2
    rw [pasP_b _ 73 (by omega), pasP_b _ 75 (by omega), pasP_h _ h1]
    refine ⟨this.1, fun h => this.2 ?_⟩
    split at h
    · omega
    · exact h
  · rw [pasP_o (by omega), pasP_o (by omega), pasP_o (by omega), pasP_o (by omega)]; exact w6
  · rw [pasP_o (by omega)]; exact w7
theorem Wf.pas {v : Int → Int} (w : Wf v) (ht : v 126 < 100) : Wf (pasV v) := by
  have hn := w.n
  have hp := w.paq (v 127) (by omega)
  obtain ⟨w1, w2, w3, w4, w5, w6, w7⟩ := hp
  have e : ∀ j : Int, j ≠ 126 → pasV v j = pasP v (v 127) j := fun j hj => if_neg hj
  have t0 := w.t
  refine ⟨fun c h1 h2 => ?_, fun c h1 h2 => ?_, ?_, fun b h1 h2 => ?_, fun b h1 h2 => ?_, ?_, ?_⟩
  · rw [e c (by omega)]; exact w1 c h1 h2
  · rw [e _ (by omega)]; exact w2 c h1 h2
  · rw [e _ (by omega)]; exact w3
  · rw [e _ (by omega), e _ (by omega), e _ (by omega), e _ (by omega)]; exact w4 b h1 h2
  · rw [e _ (by omega)] at h2
    have : b < 10 := by omega
    rw [e _ (by omega), e _ (by omega), e _ (by omega)]; exact w5 b h1 h2
  · rw [e _ (by omega), e _ (by omega), e _ (by omega), e _ (by omega)]; exact w6
  · unfold pasV
    rw [updZ_s]
    omega
theorem Wf.ram {v : Int → Int} (w : Wf v) (o : Int) (ho : o = -5 ∨ (0 ≤ o ∧ o < v 127)) : Wf (ramV v o) := by
  unfold ramV
  split
  · exact w
  · have hn := w.n
    obtain ⟨w1, w2, w3, w4, w5, w6, w7⟩ := w
    have e : ∀ j : Int, j ≠ 128 → j ≠ 74 + 5 * o → updZ (updZ v (74 + 5 * o) 2) 128 (1 + v 128) j = v j := fun j h1 h2 => by
      unfold updZ
      rw [if_neg h1, if_neg h2]
    refine ⟨fun c h1 h2 => ?_, fun c h1 h2 => ?_, ?_, fun b h1 h2 => ?_, fun b h1 h2 => ?_, ?_, ?_⟩
    · rw [e c (by omega) (by omega)]; exact w1 c h1 h2
    · rw [e _ (by omega) (by omega)]; exact w2 c h1 h2
    · rw [e _ (by omega) (by omega)]; exact w3
    · have := w4 b h1 h2
      rw [e _ (by omega) (by omega), e _ (by omega) (by omega), e (75 + 5 * b) (by omega) (by omega)]
      refine ⟨this.1, this.2.1, ?_, this.2.2.2⟩
      unfold updZ
      (repeat' split) <;> omega
    · rw [e _ (by omega) (by omega)] at h2
      have := w5 b h1 h2
      rw [e (73 + 5 * b) (by omega) (by omega), e (75 + 5 * b) (by omega) (by omega)]
      refine ⟨this.1, fun h => this.2 ?_⟩
      unfold updZ at h
      (repeat' split at h) <;> omega
    · rw [e _ (by omega) (by omega), e _ (by omega) (by omega), e _ (by omega) (by omega), e _ (by omega) (by omega)]; exact w6
    · rw [e _ (by omega) (by omega)]; exact w7
/-- a boat b put on a cell g, that is home or no harbour -/
theorem Wf.put {v : Int → Int} (w : Wf v) (b g s k : Int) (hb : 0 ≤ b ∧ b < v 127) (hg : 0 ≤ g ∧ g < 36) (hk : k = 0 ∨ k = 1) (hh : k = 0 → g ≠ 0 ∧ g ≠ 35) : Wf (updZ (updZ (updZ v (76 + 5 * b) s) (75 + 5 * b) g) (74 + 5 * b) k) := by
  have hn := w.n
  obtain ⟨w1, w2, w3, w4, w5, w6, w7⟩ := w
  have e : ∀ j : Int, j ≠ 76 + 5 * b → j ≠ 75 + 5 * b → j ≠ 74 + 5 * b → updZ (updZ (updZ v (76 + 5 * b) s) (75 + 5 * b) g) (74 + 5 * b) k j = v j := fun j h1 h2 h3 => by
    unfold updZ
    rw [if_neg h3, if_neg h2, if_neg h1]
  refine ⟨fun c h1 h2 => ?_, fun c h1 h2 => ?_, ?_, fun a h1 h2 => ?_, fun a h1 h2 => ?_, ?_, ?_⟩
  · rw [e c (by omega) (by omega) (by omega)]; exact w1 c h1 h2
  · rw [e _ (by omega) (by omega) (by omega)]; exact w2 c h1 h2
  · rw [e _ (by omega) (by omega) (by omega)]; exact w3
  · have := w4 a h1 h2
    rw [e (72 + 5 * a) (by omega) (by omega) (by omega), e (73 + 5 * a) (by omega) (by omega) (by omega)]
    refine ⟨this.1, this.2.1, ?_, ?_⟩
    · unfold updZ
      (repeat' split) <;> omega
    · unfold updZ
      (repeat' split) <;> omega
  · rw [e _ (by omega) (by omega) (by omega)] at h2
    have := w5 a h1 h2
    rw [e (73 + 5 * a) (by omega) (by omega) (by omega)]
    refine ⟨this.1, fun h => ?_⟩
    unfold updZ at h ⊢
    by_cases ha : a = b
    · subst ha
      rw [if_pos rfl] at h
      rw [if_neg (by omega), if_pos rfl]
      exact hh h
    · rw [if_neg (by omega), if_neg (by omega), if_neg (by omega)] at h
      rw [if_neg (by omega), if_neg (by omega), if_neg (by omega)]
      exact this.2 h
  · rw [e _ (by omega) (by omega) (by omega), e _ (by omega) (by omega) (by omega), e _ (by omega) (by omega) (by omega), e _ (by omega) (by omega) (by omega)]; exact w6
  · rw [e _ (by omega) (by omega) (by omega)]; exact w7
def errZ (v : Int → Int) (b d n : Int) : Int := if ¬ (0 ≤ b ∧ b < v 127) then -1 else if ¬ (0 ≤ d ∧ d < 4 ∧ 1 ≤ n ∧ n ≤ 3) then -2 else 0
theorem harZ_c {p : Int} (h : 0 ≤ p ∧ p ≤ 1) : (harZ p = 35 ∧ harZ (1 - p) = 0) ∨ (harZ p = 0 ∧ harZ (1 - p) = 35) := by
  have : p = 0 ∨ p = 1 := by omega
  rcases this with rfl | rfl <;> decide
/-- a way that can be gone: its first step -/
theorem wayN_s {v : Int → Int} {p dr t d c k : Int} (hk : 1 ≤ k) (h : wayN v p dr t d k.toNat c ≠ -5) : (c ≠ harZ p ∧ besZ c d ≠ -1 ∧ besZ c d ≠ harZ (1 - p) ∧ wetB v (besZ c d) dr t = true) ∧ wayN v p dr t d (k - 1).toNat (besZ c d) ≠ -5 := by
  rw [wayN_1 hk] at h
  split at h
  · exact absurd rfl h
  · rename_i hh
    refine ⟨⟨fun z => hh (Or.inl z), fun z => hh (Or.inr (Or.inl z)), fun z => hh (Or.inr (Or.inr (Or.inl z))), ?_⟩, h⟩
    cases hz : wetB v (besZ c d) dr t
    · exact absurd (Or.inr (Or.inr (Or.inr hz))) hh
    · rfl
theorem mvsZ_rng (v : Int → Int) (b : Int) : 0 ≤ mvsZ v b ∧ mvsZ v b ≤ 12 := by
  have := sumN_rng (f := fun k => if reaZ v b (k / 3) (k % 3 + 1) true = 0 then 1 else 0) (m := 1) (fun k => by split <;> omega) 12
  unfold mvsZ
  omega
theorem updZ_id {f : Int → Int} {k x : Int} (h : f k = x) : updZ f k x = f := by
  funext j
  unfold updZ
  split
  · rename_i e; rw [e, h]
  · rfl
theorem pasP_0 {v : Int → Int} : pasP v 0 = v := by
  funext k
  exact pasP_o (by omega)
theorem pasP_s {v : Int → Int} {i : Int} (hi : 0 ≤ i) (h : hitB v i = true) : pasP v (1 + i) = updZ (pasP v i) (74 + 5 * i) 2 := by
  funext k
  unfold updZ
  by_cases hk : k = 74 + 5 * i
  · subst hk
    rw [if_pos rfl, pasP_h _ hi, if_pos ⟨by omega, h⟩]
  · rw [if_neg hk]
    unfold pasP
    by_cases h2 : 74 ≤ k ∧ k < 74 + 5 * i ∧ (k - 74) % 5 = 0 ∧ hitB v ((k - 74) / 5) = true
    · rw [if_pos h2, if_pos ⟨h2.1, by omega, h2.2.2⟩]
    · rw [if_neg h2, if_neg]
      rintro ⟨h3, h4, h5, h6⟩
      exact h2 ⟨h3, by omega, h5, h6⟩
theorem pasP_f {v : Int → Int} {i : Int} (hi : 0 ≤ i) (h : hitB v i = false) : pasP v (1 + i) = pasP v i := by
  funext k
  unfold pasP
  by_cases h2 : 74 ≤ k ∧ k < 74 + 5 * i ∧ (k - 74) % 5 = 0 ∧ hitB v ((k - 74) / 5) = true
  · rw [if_pos h2, if_pos ⟨h2.1, by omega, h2.2.2⟩]
  · rw [if_neg h2, if_neg]
    rintro ⟨h3, h4, h5, h6⟩
    refine h2 ⟨h3, ?_, h5, h6⟩
    by_cases hk : (k - 74) / 5 = i
    · rw [hk, h] at h6; cases h6
    · omega
theorem tideZ_pasP {v : Int → Int} {i : Int} (hi : 0 ≤ i ∧ i ≤ 10) (t : Int) : tideZ (pasP v i) t = tideZ v t := by
  unfold tideZ stepZ
  rw [pasP_o (k := 122) (by omega), pasP_o (k := 123) (by omega), pasP_o (k := 124) (by omega)]
theorem wetB_pasP {v : Int → Int} {i : Int} (hi : 0 ≤ i ∧ i ≤ 10) (c d t : Int) (hc : c < 74) : wetB (pasP v i) c d t = wetB v c d t := by
  unfold wetB
  rw [tideZ_pasP hi, pasP_o (k := c) (by omega)]
theorem hitB_pasP {v : Int → Int} {i b : Int} (hi : 0 ≤ i ∧ i ≤ 10) (hb : i ≤ b) (hc : 0 ≤ v (75 + 5 * b) ∧ v (75 + 5 * b) < 36) : hitB (pasP v i) b = hitB v b := by
  unfold hitB onB wreckB
  rw [pasP_b _ 73 (by omega), pasP_b _ 75 (by omega), pasP_h _ (by omega), if_neg (by omega), pasP_o (k := 126) (by omega), wetB_pasP hi _ _ _ (by omega), wetB_pasP hi _ _ _ (by omega), pasP_o (k := 36 + v (75 + 5 * b)) (by omega)]
theorem ramV_o {v : Int → Int} {o k : Int} (h : k ≠ 128) (h2 : k ≠ 74 + 5 * o) : ramV v o k = v k := by
  unfold ramV
  split
  · rfl
  · unfold updZ; rw [if_neg h, if_neg h2]
theorem rea0 {v : Int → Int} {b d n : Int} {a : Bool} (h : reaZ v b d n a = 0) : overB v = false ∧ onB v b = true ∧ (a = false → v (72 + 5 * b) = v 126 % 2) ∧ floB v b = true ∧ wayZ v b d n ≠ -5 ∧ blkB v b d n = false := by
  unfold reaZ at h
  (repeat' split at h) <;> first | omega | skip
  rename_i h1 h2 h3 h4 h5 h6
  refine ⟨by simpa using h1, by simpa using h2, fun ha => ?_, by simpa using h4, h5, by simpa using h6⟩
  exact Classical.byContradiction fun hn => h3 ⟨ha, hn⟩
theorem gol_rng {v : Int → Int} {b d n : Int} {a : Bool} (w : Wf v) (hb : 0 ≤ b ∧ b < v 127) (h : reaZ v b d n a = 0) : (0 ≤ golZ v b d n ∧ golZ v b d n < 36) ∧ wayZ v b d n = golZ v b d n ∧ golZ v b d n ≠ harZ (1 - v (72 + 5 * b)) := by
  have hn := w.n
  have hw := w.b b (by omega)
  have hbb := w.bb b hb
  have hp := harZ_c (p := v (72 + 5 * b)) (by omega)
  obtain ⟨h1, h2, h3, h4, h5, h6⟩ := rea0 h
  have hon : v (74 + 5 * b) = 0 := of_decide_eq_true h2
  have hcc := hbb.2 hon
  have k1 := wayN_on (v := v) (p := v (72 + 5 * b)) (dr := v (73 + 5 * b)) (t := v 126) (d := d) n.toNat (v (75 + 5 * b)) (by omega) h5
  have k2 := wayN_not (v := v) (p := v (72 + 5 * b)) (dr := v (73 + 5 * b)) (t := v 126) (d := d) n.toNat (v (75 + 5 * b)) (by omega)
  have e : wayZ v b d n = golZ v b d n := k1.1
  refine ⟨k1.2, e, ?_⟩
  rw [← e]
  exact k2.resolve_right h5
theorem Wf.mv {v : Int → Int} {b d n : Int} {a : Bool} (w : Wf v) (hb : 0 ≤ b ∧ b < v 127) (h : reaZ v b d n a = 0) : Wf (mvV v b d n) := by
  have hn := w.n
  have hw := w.b b (by omega)
  have hp := harZ_c (p := v (72 + 5 * b)) (by omega)
  obtain ⟨g1, g2, g3⟩ := gol_rng w hb h
  have ho := batZ_rng w (golZ v b d n)
  have wu := w.ram (batZ v (golZ v b d n)) (by omega)
  have e127 : ramV v (batZ v (golZ v b d n)) 127 = v 127 := ramV_o (by omega) (by omega)
  unfold mvV
  refine wu.put b _ _ _ (by rw [e127]; exact hb) g1 (by split <;> omega) ?_
  split <;> omega
theorem mvV_126 {v : Int → Int} {b d n : Int} (hb : 0 ≤ b ∧ b < 10) (ho : batZ v (golZ v b d n) < 10) : mvV v b d n 126 = v 126 := by
  unfold mvV
  rw [updZ_n (by omega), updZ_n (by omega), updZ_n (by omega), ramV_o (by omega) (by omega)]
theorem err0 {v : Int → Int} {b d n : Int} (h : errZ v b d n = 0) : (0 ≤ b ∧ b < v 127) ∧ (0 ≤ d ∧ d < 4) ∧ (1 ≤ n ∧ n ≤ 3) := by
  unfold errZ at h
  (repeat' split at h) <;> omega
theorem saiR_e {v : Int → Int} {b d n : Int} (h : ¬ errZ v b d n = 0) : saiR v b d n = errZ v b d n ∧ errZ v b d n < 0 := by
  unfold saiR
  unfold errZ at h ⊢
  (repeat' split) <;> first | exact ⟨rfl, by decide⟩ | omega | (exfalso; omega) | (exfalso; simp_all)
theorem saiR_r {v : Int → Int} {b d n : Int} (h : errZ v b d n = 0) (h2 : ¬ reaZ v b d n false = 0) : saiR v b d n = -10 - reaZ v b d n false := by
  have := err0 h
  unfold saiR
  rw [if_neg (by omega), if_neg (by omega), if_pos h2]
theorem saiR_k {v : Int → Int} {b d n : Int} (h : errZ v b d n = 0) (h2 : reaZ v b d n false = 0) : saiR v b d n = ramR v (batZ v (golZ v b d n)) := by
  have := err0 h
  unfold saiR
  rw [if_neg (by omega), if_neg (by omega), if_neg (by omega)]
theorem ramR_rng {v : Int → Int} (w : Wf v) (o : Int) (ho : o = -5 ∨ (0 ≤ o ∧ o < v 127)) : 0 ≤ ramR v o ∧ ramR v o ≤ 3 := by
  unfold ramR
  split
  · omega
  · have := w.n
    have := w.b o (by omega)
    omega
theorem over0 {v : Int → Int} (h : overB v = false) : v 126 ≤ v 125 ∧ cntZ v 0 ≠ 0 := by
  unfold overB at h
  have := of_decide_eq_false h
  omega
theorem Wf.sai {v : Int → Int} (w : Wf v) (b d n : Int) : Wf (saiV v b d n) := by
  unfold saiV
  split
  · rename_i h
    by_cases he : errZ v b d n = 0
    · by_cases hr : reaZ v b d n false = 0
      · obtain ⟨hb, hd, hn⟩ := err0 he
        have h127 := w.n
        have hs := w.s
        have ho := over0 (rea0 hr).1
        have hbo := batZ_rng w (golZ v b d n)
        refine (w.mv hb hr).pas ?_
        rw [mvV_126 (by omega) (by omega)]
        omega
      · rw [saiR_r he hr] at h
        have := reaZ_rng v b d n false
        omega
    · have := saiR_e he
      omega
  · exact w
theorem Wf.wai {v : Int → Int} (w : Wf v) : Wf (waiV v) := by
  unfold waiV
  split
  · exact w
  · rename_i h
    have hs := w.s
    have ho := over0 (v := v) (by simpa using h)
    exact w.pas (by omega)
/-- addresses apart, of regions out of regions -/
theorem gD_rg {rs ss : List va_W} (h : gD rs.flatten) (is : List Nat) (hn : is.Nodup) (his : is.map (fun i => rs[i]?) = ss.map some) : gD ss.flatten := by
  induction is generalizing ss with
  | nil =>
    cases ss with
    | nil => exact List.nodup_nil
    | cons _ _ => cases his
  | cons i is ih =>
    cases ss with
    | nil => cases his
    | cons s ss =>
      simp only [List.map_cons, List.cons.injEq] at his
      obtain ⟨hn1, hn2⟩ := List.nodup_cons.mp hn
      have h2 := ih hn2 his.2
      unfold gD at h2 ⊢
      rw [List.flatten_cons, List.map_append, List.nodup_append]
      refine ⟨?_, h2, fun a ha b hb hab => ?_⟩
      · have hs : s ∈ rs := List.mem_of_getElem? his.1
        have hsub : (s.map Prod.fst).Sublist (rs.flatten.map Prod.fst) := (List.sublist_flatten_of_mem hs).map _
        exact List.Nodup.sublist hsub h
      · subst hab
        rw [List.map_flatten] at hb
        obtain ⟨l, hl, hal⟩ := List.mem_flatten.mp hb
        obtain ⟨s2, hs2, rfl⟩ := List.mem_map.mp hl
        obtain ⟨k, hk⟩ := List.getElem?_of_mem hs2
        have z : (is.map (fun i => rs[i]?))[k]? = some (some s2) := by rw [his.2, List.getElem?_map, hk]; rfl
        rw [List.getElem?_map] at z
        cases hj : is[k]? with
        | none => rw [hj] at z; cases z
        | some j =>
          rw [hj] at z
          have := rg_apart h i j s s2 a his.1 (Option.some.inj z) ha hal
          exact hn1 (this ▸ List.mem_of_getElem? hj)
def delZ (d : Int) : Int := if d = 0 then 1 else if d = 1 then 6 else if d = 2 then -1 else -6
theorem besZ_del {c d : Int} (hd : 0 ≤ d ∧ d < 4) (h : besZ c d ≠ -1) : besZ c d = c + delZ d := by
  unfold besZ at h ⊢
  unfold delZ
  (repeat' split at h) <;> (repeat' split) <;> omega
theorem fro_del {v : Int → Int} {p dr t d : Int} (hd : 0 ≤ d ∧ d < 4) : ∀ (n : Nat) (c : Int), wayN v p dr t d n c ≠ -5 → froZ d n c = c + n * delZ d := by
  intro n
  induction n with
  | zero => intro c _; show c = c + ((0 : Nat) : Int) * delZ d; simp
  | succ n ih =>
    intro c h
    unfold wayN at h
    split at h
    · exact absurd rfl h
    · rename_i hh
      have hb := besZ_del hd (fun z => hh (Or.inr (Or.inl z)))
      show froZ d n (besZ c d) = _
      rw [ih _ h, hb, Int.natCast_succ, Int.add_mul, Int.one_mul]
      omega
theorem gol_ne {v : Int → Int} {b d n : Int} {a : Bool} (hd : 0 ≤ d ∧ d < 4) (hn : 1 ≤ n ∧ n ≤ 3) (h : reaZ v b d n a = 0) : golZ v b d n ≠ v (75 + 5 * b) := by
  have hw := (rea0 h).2.2.2.2.1
  have := fro_del hd _ _ hw
  unfold golZ
  rw [this]
  have e : ((n.toNat : Nat) : Int) = n := Int.toNat_of_nonneg (by omega)
  rw [e]
  have h3 : n = 1 ∨ n = 2 ∨ n = 3 := by omega
  unfold delZ
  rcases h3 with rfl | rfl | rfl <;> (repeat' split) <;> omega
