/-! the best move: both sides choose the same -/
def agrP (u v : Int → Int) : Prop := (∀ c : Int, 0 ≤ c → c < 36 → u c = v c) ∧ (∀ c : Int, 0 ≤ c → c < 36 → u (36 + c) = v (36 + c)) ∧ u 122 = v 122 ∧ u 123 = v 123 ∧ u 124 = v 124 ∧ u 125 = v 125
theorem ag_tide {u v : Int → Int} (h : agrP u v) (t : Int) : tideZ u t = tideZ v t := by
  unfold tideZ stepZ
  rw [h.2.2.1, h.2.2.2.1, h.2.2.2.2.1]
theorem ag_wet {u v : Int → Int} (h : agrP u v) {c D t : Int} (hc : 0 ≤ c ∧ c < 36) : wetB u c D t = wetB v c D t := by
  unfold wetB
  rw [ag_tide h, h.1 c hc.1 hc.2]
theorem ag_wreck {u v : Int → Int} (h : agrP u v) {c D t : Int} (hc : 0 ≤ c ∧ c < 36) : wreckB u c D t = wreckB v c D t := by
  unfold wreckB
  rw [ag_wet h hc, ag_wet h hc, h.2.1 c hc.1 hc.2]
theorem ag_way {u v : Int → Int} (h : agrP u v) {P D t d : Int} : ∀ (n : Nat) (c : Int), (0 ≤ c ∧ c < 36) → wayN u P D t d n c = wayN v P D t d n c := by
  intro n
  induction n with
  | zero => intro c _; rfl
  | succ n ih =>
    intro c hc
    have hr := besZ_rng c d
    unfold wayN
    by_cases h1 : besZ c d = -1
    · rw [if_pos (Or.inr (Or.inl h1)), if_pos (Or.inr (Or.inl h1))]
    · rw [ag_wet h (c := besZ c d) (by omega), ih _ (by omega)]
theorem ag_mv {u v : Int → Int} (h : agrP u v) {P D t c e : Int} (hc : 0 ≤ c ∧ c < 36) : mvP u P D t c e ↔ mvP v P D t c e := by
  constructor
  · rintro ⟨d, n, h1, h2, h3⟩; exact ⟨d, n, h1, h2, by rw [← ag_way h _ _ hc]; exact h3⟩
  · rintro ⟨d, n, h1, h2, h3⟩; exact ⟨d, n, h1, h2, by rw [ag_way h _ _ hc]; exact h3⟩
theorem ag_gol {u v : Int → Int} (h : agrP u v) {P D t : Int} {S S' : Int → Bool} (hS : ∀ i : Int, 0 ≤ i → i < 36 → S i = S' i) {e : Int} (he : 0 ≤ e ∧ e < 36) : golS P (wtS u D t) S e = golS P (wtS v D t) S' e := by
  refine bool_ext ?_
  rw [gol_iff he, gol_iff he]
  constructor
  · rintro ⟨c, h1, h2, h3, h4⟩; exact ⟨c, h1, by rw [← hS c h1.1 h1.2]; exact h2, by rw [← ag_wet h h1]; exact h3, (ag_mv h h1).mp h4⟩
  · rintro ⟨c, h1, h2, h3, h4⟩; exact ⟨c, h1, by rw [hS c h1.1 h1.2]; exact h2, by rw [ag_wet h h1]; exact h3, (ag_mv h h1).mpr h4⟩
theorem ag_nx {u v : Int → Int} (h : agrP u v) {P D t : Int} {S S' : Int → Bool} (hS : ∀ i : Int, 0 ≤ i → i < 36 → S i = S' i) : ∀ i : Int, 0 ≤ i → i < 36 → nxS u P D t S i = nxS v P D t S' i := by
  intro i h1 h2
  unfold nxS difS
  rw [wr_wreck, wr_wreck, ag_wreck h ⟨h1, h2⟩]
  congr 1
  split
  · unfold orS; rw [hS i h1 h2, ag_gol h hS ⟨h1, h2⟩]
  · exact hS i h1 h2
theorem ag_fwN {u v : Int → Int} (h : agrP u v) {P D f : Int} : ∀ (n : Nat) (S S' : Int → Bool) (t : Int), (∀ i : Int, 0 ≤ i → i < 36 → S i = S' i) → fwN u P D f n S t = fwN v P D f n S' t := by
  intro n
  induction n with
  | zero => intro S S' t _; rfl
  | succ n ih =>
    intro S S' t hS
    unfold fwN
    rw [ag_gol h hS (harZ_in P), ih _ _ (1 + t) (ag_nx h hS)]
theorem ag_fwZ {u v : Int → Int} (h : agrP u v) (P D c f : Int) : fwZ u P D c f = fwZ v P D c f := by
  unfold fwZ
  rw [h.2.2.2.2.2]
  exact ag_fwN h _ _ _ _ (fun i _ _ => rfl)
/-- what a move leaves -/
theorem sai_facts {v : Int → Int} (w : Wf v) {b d n : Int} (hb : 0 ≤ b ∧ b < v 127) (hd : 0 ≤ d ∧ d < 4) (hn : 1 ≤ n ∧ n ≤ 3) (hr : reaZ v b d n false = 0) :
    agrP (saiV v b d n) v ∧ saiV v b d n (72 + 5 * b) = v (72 + 5 * b) ∧ saiV v b d n (73 + 5 * b) = v (73 + 5 * b) ∧ saiV v b d n (75 + 5 * b) = golZ v b d n ∧ saiV v b d n 126 = 1 + v 126 ∧
    saiV v b d n (74 + 5 * b) = (if golZ v b d n = harZ (v (72 + 5 * b)) then 1 else if wreckB v (golZ v b d n) (v (73 + 5 * b)) (v 126) = true then 2 else 0) ∧ saiR v b d n = ramR v (batZ v (golZ v b d n)) := by
  have herr : errZ v b d n = 0 := by unfold errZ; rw [if_neg (by omega), if_neg (by omega)]
  have hn127 := w.n
  have ho := batZ_rng w (golZ v b d n)
  have hg := (gol_rng w hb hr).1
  have hne := gol_ne hd hn hr
  have hob : batZ v (golZ v b d n) ≠ b := by
    intro e
    have h8 := ho.resolve_left (by omega)
    rw [e] at h8
    omega
  have wm := w.mv hb hr
  have em : ∀ k : Int, (k < 72 ∨ (122 ≤ k ∧ k ≠ 128)) → mvV v b d n k = v k := fun k hk => mv_n hk (by omega) (by omega)
  have e127 : mvV v b d n 127 = v 127 := em 127 (by omega)
  have er : ∀ k : Int, k ≠ 128 → k ≠ 74 + 5 * batZ v (golZ v b d n) → ramV v (batZ v (golZ v b d n)) k = v k := fun k h1 h2 => ramV_o h1 h2
  have e72 : mvV v b d n (72 + 5 * b) = v (72 + 5 * b) := by
    unfold mvV
    rw [updZ_n (by omega), updZ_n (by omega), updZ_n (by omega)]
    exact er _ (by omega) (by omega)
  have e73 : mvV v b d n (73 + 5 * b) = v (73 + 5 * b) := by
    unfold mvV
    rw [updZ_n (by omega), updZ_n (by omega), updZ_n (by omega)]
    exact er _ (by omega) (by omega)
  have e75 : mvV v b d n (75 + 5 * b) = golZ v b d n := by
    unfold mvV
    rw [updZ_n (by omega), updZ_s]
  have e74 : mvV v b d n (74 + 5 * b) = if golZ v b d n = harZ (v (72 + 5 * b)) then 1 else 0 := by
    unfold mvV
    rw [updZ_s]
  have e126 : mvV v b d n 126 = v 126 := em 126 (by omega)
  have ha : agrP (mvV v b d n) v := ⟨fun c h1 h2 => em c (by omega), fun c h1 h2 => em _ (by omega), em 122 (by omega), em 123 (by omega), em 124 (by omega), em 125 (by omega)⟩
  have hp : ∀ k : Int, (k < 72 ∨ 122 ≤ k) → k ≠ 126 → pasV (mvV v b d n) k = mvV v b d n k := fun k h1 h2 => pasV_n h1 h2 (by omega)
  have hpb : ∀ j : Int, (j = 72 ∨ j = 73 ∨ j = 75) → pasV (mvV v b d n) (j + 5 * b) = mvV v b d n (j + 5 * b) := by
    intro j hj
    unfold pasV
    rw [updZ_n (by omega)]
    exact pasP_b _ _ (by omega)
  have hhit : hitB (mvV v b d n) b = if golZ v b d n = harZ (v (72 + 5 * b)) then false else wreckB v (golZ v b d n) (v (73 + 5 * b)) (v 126) := by
    unfold hitB onB
    rw [e74, e75, e73, e126, ag_wreck ha hg]
    split
    · rfl
    · rfl
  rw [sai_127 herr hr w]
  refine ⟨⟨fun c h1 h2 => by rw [hp c (by omega) (by omega)]; exact ha.1 c h1 h2, fun c h1 h2 => by rw [hp _ (by omega) (by omega)]; exact ha.2.1 c h1 h2, by rw [hp _ (by omega) (by omega)]; exact ha.2.2.1, by rw [hp _ (by omega) (by omega)]; exact ha.2.2.2.1, by rw [hp _ (by omega) (by omega)]; exact ha.2.2.2.2.1, by rw [hp _ (by omega) (by omega)]; exact ha.2.2.2.2.2⟩, ?_, ?_, ?_, ?_, ?_, ?_⟩
  · rw [hpb 72 (by omega), e72]
  · rw [hpb 73 (by omega), e73]
  · rw [hpb 75 (by omega), e75]
  · unfold pasV; rw [updZ_s, e126]
  · have e : pasV (mvV v b d n) (74 + 5 * b) = pasP (mvV v b d n) (mvV v b d n 127) (74 + 5 * b) := by unfold pasV; exact updZ_n (by omega)
    rw [e, pasP_h _ (by omega), hhit, e74, e127]
    by_cases h1 : golZ v b d n = harZ (v (72 + 5 * b))
    · rw [if_pos h1, if_pos h1, if_pos h1, if_neg (fun z => by cases z.2)]
    · rw [if_neg h1, if_neg h1, if_neg h1]
      cases hw : wreckB v (golZ v b d n) (v (73 + 5 * b)) (v 126)
      · rw [if_neg (fun z => by cases z.2), if_neg (by decide)]
      · rw [if_pos ⟨by omega, rfl⟩, if_pos rfl]
  · exact saiR_k herr hr
/-- the class's worth as the reference's -/
def phiZ (x : Int) : Int := if 2000 ≤ x then x - 1000 else if x = 0 then 0 else x - 100
theorem wor_phi {v : Int → Int} (w : Wf v) {b d n : Int} (hb : 0 ≤ b ∧ b < v 127) (hd : 0 ≤ d ∧ d < 4) (hn : 1 ≤ n ∧ n ≤ 3) (hr : reaZ v b d n false = 0) : worM v b d n = phiZ (worZ v b d n) := by
  obtain ⟨f1, f2, f3, f4, f5, f6, f7⟩ := sai_facts w hb hd hn hr
  have hn127 := w.n
  have ht := w.t
  have hbw := w.b b (by omega)
  have ho := batZ_rng w (golZ v b d n)
  have hbe := behZ_rng w (v (72 + 5 * b)) (v (73 + 5 * b)) (golZ v b d n) (v 126) (by omega)
  have hnr : ¬ reaZ v b d n false ≠ 0 := fun z => z hr
  by_cases h1 : golZ v b d n = harZ (v (72 + 5 * b))
  · have eM : worM v b d n = 2000 + v (73 + 5 * b) := by unfold worM; rw [if_pos (by rw [f6, if_pos h1]), f3]
    have eZ : worZ v b d n = 3000 + v (73 + 5 * b) := by unfold worZ; rw [if_neg hnr, if_pos h1]
    rw [eM, eZ]
    unfold phiZ
    rw [if_pos (by omega)]; omega
  · by_cases h2 : batZ v (golZ v b d n) = -5
    · have hn2 : ¬ batZ v (golZ v b d n) ≠ -5 := fun z => z h2
      have er : saiR v b d n = 0 := by rw [f7]; exact if_pos h2
      cases hw : wreckB v (golZ v b d n) (v (73 + 5 * b)) (v 126)
      · have e6 : saiV v b d n (74 + 5 * b) = 0 := by rw [f6, if_neg h1, hw]; rfl
        have eB : behZ v (v (72 + 5 * b)) (v (73 + 5 * b)) (golZ v b d n) (v 126) = fwZ v (v (72 + 5 * b)) (v (73 + 5 * b)) (golZ v b d n) (1 + v 126) := by unfold behZ; rw [wr_wreck, hw, if_neg (by decide)]
        have eM : worM v b d n = if fwZ v (v (72 + 5 * b)) (v (73 + 5 * b)) (golZ v b d n) (1 + v 126) = -5 then 0 else 900 - fwZ v (v (72 + 5 * b)) (v (73 + 5 * b)) (golZ v b d n) (1 + v 126) := by
          unfold worM
          rw [if_neg (by rw [e6]; decide), if_neg (by rw [er]; decide), if_pos e6, ag_fwZ f1, f2, f3, f4, f5]
        have eZ : worZ v b d n = if fwZ v (v (72 + 5 * b)) (v (73 + 5 * b)) (golZ v b d n) (1 + v 126) = -5 then 0 else 1000 - fwZ v (v (72 + 5 * b)) (v (73 + 5 * b)) (golZ v b d n) (1 + v 126) := by
          unfold worZ
          rw [if_neg hnr, if_neg h1, if_neg hn2, eB]
        rw [eB] at hbe
        rw [eM, eZ]
        unfold phiZ
        rcases hbe with h3 | h3
        · rw [if_pos h3, if_pos h3]; rfl
        · rw [if_neg (by omega), if_neg (by omega), if_neg (by omega), if_neg (by omega)]; omega
      · have e6 : saiV v b d n (74 + 5 * b) = 2 := by rw [f6, if_neg h1, hw]; rfl
        have eB : behZ v (v (72 + 5 * b)) (v (73 + 5 * b)) (golZ v b d n) (v 126) = -5 := by unfold behZ; rw [wr_wreck, hw, if_pos rfl]
        have eM : worM v b d n = 0 := by
          unfold worM
          rw [if_neg (by rw [e6]; decide), if_neg (by rw [er]; decide), if_neg (by rw [e6]; decide)]
        have eZ : worZ v b d n = 0 := by
          unfold worZ
          rw [if_neg hnr, if_neg h1, if_neg hn2, if_pos eB]
        rw [eM, eZ]; rfl
    · have ho2 := ho.resolve_left h2
      have hob := w.b (batZ v (golZ v b d n)) (by omega)
      have hobb := w.bb (batZ v (golZ v b d n)) (by omega)
      have er : saiR v b d n = v (73 + 5 * batZ v (golZ v b d n)) := by rw [f7]; exact if_neg h2
      have eM : worM v b d n = 1000 + v (73 + 5 * batZ v (golZ v b d n)) := by
        unfold worM
        rw [if_neg (by rw [f6, if_neg h1]; split <;> decide), if_pos (by rw [er]; omega), er]
      have eZ : worZ v b d n = 2000 + v (73 + 5 * batZ v (golZ v b d n)) := by
        unfold worZ
        rw [if_neg hnr, if_neg h1, if_pos h2]
      rw [eM, eZ]
      unfold phiZ
      rw [if_pos (by omega)]; omega
theorem wm_phi {v : Int → Int} (w : Wf v) {k : Int} (hk : 0 ≤ k ∧ k < 12 * v 127) : wmZ v k = phiZ (worZ v (k / 12) (k / 3 % 4) (k % 3 + 1)) := by
  unfold wmZ
  split
  · rename_i h; exact wor_phi w (by omega) (by omega) (by omega) h
  · rename_i h
    have : worZ v (k / 12) (k / 3 % 4) (k % 3 + 1) = 0 := by unfold worZ; rw [if_pos h]
    rw [this]; rfl
def wokP (x : Int) : Prop := x = 0 ∨ (900 ≤ x ∧ x ≤ 999) ∨ (2000 ≤ x ∧ x ≤ 3003)
theorem wor_ok {v : Int → Int} (w : Wf v) {b : Int} (d n : Int) (hb : 0 ≤ b ∧ b < v 127) : wokP (worZ v b d n) := by
  have hn127 := w.n
  have ht := w.t
  have hbw := w.b b (by omega)
  have ho := batZ_rng w (golZ v b d n)
  have hbe := behZ_rng w (v (72 + 5 * b)) (v (73 + 5 * b)) (golZ v b d n) (v 126) (by omega)
  unfold worZ wokP
  split
  · exact Or.inl rfl
  · split
    · right; right; omega
    · split
      · rename_i h
        have := w.b (batZ v (golZ v b d n)) (by omega)
        right; right; omega
      · split
        · exact Or.inl rfl
        · right; left; omega
theorem phi_lt {x y : Int} (hx : wokP x) (hy : wokP y) : phiZ x < phiZ y ↔ x < y := by
  unfold wokP at hx hy
  unfold phiZ
  (repeat' split) <;> omega
theorem bst_bm {v : Int → Int} (w : Wf v) : ∀ j : Nat, (j : Int) ≤ 12 * v 127 → wokP (bstN v j).1 ∧ bmN v j = (phiZ (bstN v j).1, (bstN v j).2) := by
  intro j
  induction j with
  | zero => intro _; exact ⟨Or.inl rfl, rfl⟩
  | succ j ih =>
    intro hj
    obtain ⟨h1, h2⟩ := ih (by omega)
    have hw := wor_ok w ((j : Int) / 3 % 4) ((j : Int) % 3 + 1) (b := (j : Int) / 12) (by omega)
    have hp := wm_phi w (k := (j : Int)) (by omega)
    have e1 : bmN v (j + 1) = if (bmN v j).1 < wmZ v j then (wmZ v j, 1 + 10 * ((j : Int) / 3 % 4) + (j : Int) % 3 + 100 * ((j : Int) / 12)) else bmN v j := rfl
    have e2 : bstN v (j + 1) = if (bstN v j).1 < worZ v ((j : Int) / 12) ((j : Int) / 3 % 4) ((j : Int) % 3 + 1) then (worZ v ((j : Int) / 12) ((j : Int) / 3 % 4) ((j : Int) % 3 + 1), 1 + (100 * ((j : Int) / 12) + 10 * ((j : Int) / 3 % 4)) + (j : Int) % 3) else bstN v j := rfl
    rw [e1, e2, h2, hp]
    have hl := phi_lt h1 hw
    by_cases h3 : (bstN v j).1 < worZ v ((j : Int) / 12) ((j : Int) / 3 % 4) ((j : Int) % 3 + 1)
    · rw [if_pos h3, if_pos (hl.mpr h3)]
      refine ⟨hw, Prod.ext rfl ?_⟩
      show 1 + 10 * ((j : Int) / 3 % 4) + (j : Int) % 3 + 100 * ((j : Int) / 12) = 1 + (100 * ((j : Int) / 12) + 10 * ((j : Int) / 3 % 4)) + (j : Int) % 3
      omega
    · rw [if_neg h3, if_neg (fun z => h3 (hl.mp z))]
      exact ⟨h1, rfl⟩
theorem bes_eq {v : Int → Int} (w : Wf v) : besR v = besM v := by
  have hn := w.n
  unfold besR besM
  split
  · rfl
  · rw [(bst_bm w (12 * v 127).toNat (by omega)).2]
