/-! moves that are possible: with each a shorter one -/
theorem wayN_le {v : Int → Int} {p dr t d : Int} : ∀ (n : Nat) (c : Int), -1 ≤ c → wayN v p dr t d (n + 1) c ≠ -5 → wayN v p dr t d n c ≠ -5 := by
  intro n
  induction n with
  | zero => intro c hc _; show c ≠ -5; omega
  | succ n ih =>
    intro c hc h
    have e : wayN v p dr t d (n + 1 + 1) c = if c = harZ p ∨ besZ c d = -1 ∨ besZ c d = harZ (1 - p) ∨ wetB v (besZ c d) dr t = false then -5 else wayN v p dr t d (n + 1) (besZ c d) := rfl
    have e2 : wayN v p dr t d (n + 1) c = if c = harZ p ∨ besZ c d = -1 ∨ besZ c d = harZ (1 - p) ∨ wetB v (besZ c d) dr t = false then -5 else wayN v p dr t d n (besZ c d) := rfl
    rw [e] at h
    rw [e2]
    split at h
    · exact absurd rfl h
    · rename_i hh
      rw [if_neg hh]
      exact ih (besZ c d) (besZ_rng c d).1 h
theorem blkN_le {v : Int → Int} {b d : Int} : ∀ (n : Nat) (c : Int), blkN v b d (n + 1) c = false → blkN v b d n c = false := by
  intro n
  induction n with
  | zero => intro c _; rfl
  | succ n ih =>
    intro c h
    have e : blkN v b d (n + 1 + 1) c = ((decide (batZ v (besZ c d) ≠ -5) && !(decide (n + 1 = 0) && (decide (v (72 + 5 * batZ v (besZ c d)) ≠ v (72 + 5 * b)) && !wetB v (besZ c d) (v (73 + 5 * batZ v (besZ c d))) (v 126)))) || blkN v b d (n + 1) (besZ c d)) := rfl
    rw [e, Bool.or_eq_false_iff] at h
    have h1 : decide (batZ v (besZ c d) ≠ -5) = false := by
      have h1 := h.1
      rw [decide_eq_false (p := n + 1 = 0) (by omega), Bool.false_and, Bool.not_false, Bool.and_true] at h1
      exact h1
    have e2 : blkN v b d (n + 1) c = ((decide (batZ v (besZ c d) ≠ -5) && !(decide (n = 0) && (decide (v (72 + 5 * batZ v (besZ c d)) ≠ v (72 + 5 * b)) && !wetB v (besZ c d) (v (73 + 5 * batZ v (besZ c d))) (v 126)))) || blkN v b d n (besZ c d)) := rfl
    rw [e2, h1, ih _ h.2]
    rfl
theorem rea_le {v : Int → Int} (w : Wf v) {b d n : Int} {a : Bool} (hb : 0 ≤ b ∧ b < 10) (hn : 1 ≤ n) (h : reaZ v b d (n + 1) a = 0) : reaZ v b d n a = 0 := by
  have hw := w.b b hb
  obtain ⟨h1, h2, h3, h4, h5, h6⟩ := rea0 h
  have e : (n + 1).toNat = n.toNat + 1 := by omega
  unfold wayZ at h5
  unfold blkB at h6
  rw [e] at h5 h6
  have k5 : wayZ v b d n ≠ -5 := wayN_le n.toNat _ (by omega) h5
  have k6 : blkB v b d n = false := blkN_le n.toNat _ h6
  unfold reaZ
  rw [if_neg (by rw [h1]; decide), if_neg (by rw [h2]; decide), if_neg (fun z => z.2 (h3 z.1)), if_neg (by rw [h4]; decide), if_neg k5, if_neg (by rw [k6]; decide)]
theorem rea_any {v : Int → Int} {b d n : Int} (h : v (72 + 5 * b) = v 126 % 2) : reaZ v b d n true = reaZ v b d n false := by
  unfold reaZ
  rw [if_neg (c := false = false ∧ v (72 + 5 * b) ≠ v 126 % 2) (fun z => z.2 h), if_neg (c := true = false ∧ v (72 + 5 * b) ≠ v 126 % 2) (fun z => by cases z.1)]
/-! bits of an int -/
def btI (x : Int32) (j : Int) : Bool := x.toBitVec.getLsbD j.toNat
theorem c31 : ∀ n : Nat, n < 32 → ((iI n &&& 31).toBitVec.smod 32).toNat = n := by decide +kernel
theorem one_bit : ∀ i : Nat, i < 32 → (iI 1).toBitVec.getLsbD i = decide (i = 0) := by decide +kernel
theorem bZ_bit (b : Bool) : ∀ i : Nat, i < 32 → (iI (bZ b)).toBitVec.getLsbD i = (decide (i = 0) && b) := by cases b <;> decide +kernel
theorem bit_at (x : Int32) {k : Int} (hk : 0 ≤ k ∧ k < 32) : (x >>> (iI k &&& 31)) &&& iI 1 = iI (bZ (btI x k)) := by
  refine Int32.toBitVec_inj.mp (BitVec.eq_of_getLsbD_eq fun i hi => ?_)
  rw [Int32.toBitVec_and, BitVec.getLsbD_and, one_bit i hi, bZ_bit _ i hi, Int32.toBitVec_shiftRight]
  show ((x.toBitVec.sshiftRight ((iI k &&& 31).toBitVec.smod 32).toNat).getLsbD i && decide (i = 0)) = _
  have e : ((iI k &&& 31).toBitVec.smod 32).toNat = k.toNat := by
    have := c31 k.toNat (by omega)
    rwa [Int.toNat_of_nonneg hk.1] at this
  rw [e]
  by_cases h : i = 0
  · subst h
    rw [BitVec.getLsbD_sshiftRight]
    have h2 : k.toNat + 0 < 32 := by omega
    simp [h2, btI]
    intro z
    omega
  · rw [decide_eq_false h, Bool.and_false, Bool.false_and]
theorem shl_bit : ∀ k : Nat, k < 10 → ∀ i : Nat, i < 32 → (iI 1 <<< (iI k &&& 31)).toBitVec.getLsbD i = decide (i = k) := by decide +kernel
theorem btI_or (x y : Int32) (j : Int) : btI (x ||| y) j = (btI x j || btI y j) := by
  unfold btI
  rw [Int32.toBitVec_or, BitVec.getLsbD_or]
theorem btI_0 (j : Int) : btI (iI 0) j = false := by
  unfold btI
  show (0#32).getLsbD j.toNat = false
  simp
theorem btI_1 {k j : Int} (hk : 0 ≤ k ∧ k < 10) (hj : 0 ≤ j ∧ j < 32) : btI (iI 1 <<< (iI k &&& 31)) j = decide (j = k) := by
  have := shl_bit k.toNat (by omega) j.toNat (by omega)
  rw [Int.toNat_of_nonneg hk.1] at this
  unfold btI
  rw [this]
  exact decide_eq_decide.mpr (by omega)
theorem dan_bit {v : Int → Int} {p : Int} : ∀ n : Nat, n ≤ 10 → ∀ j : Int, 0 ≤ j ∧ j < 32 → btI (danN v p n) j = (decide (j < n) && (decide (v (72 + 5 * j) = p) && hitB v j)) := by
  intro n
  induction n with
  | zero =>
    intro _ j hj
    show btI (iI 0) j = _
    rw [btI_0, decide_eq_false (by omega)]
    rfl
  | succ n ih =>
    intro hn j hj
    have e : danN v p (n + 1) = if v (72 + 5 * (n : Int)) = p ∧ hitB v n = true then danN v p n ||| iI 1 <<< (iI n &&& 31) else danN v p n := rfl
    rw [e]
    by_cases h : v (72 + 5 * (n : Int)) = p ∧ hitB v n = true
    · rw [if_pos h, btI_or, ih (by omega) j hj, btI_1 (by omega) hj]
      by_cases e2 : j = n
      · subst e2
        rw [decide_eq_true (p := (n : Int) = n) rfl, decide_eq_true h.1, h.2, decide_eq_true (p := (n : Int) < ((n + 1 : Nat) : Int)) (by omega)]
        simp
      · rw [decide_eq_false e2, Bool.or_false]
        congr 1
        exact decide_eq_decide.mpr (by omega)
    · rw [if_neg h, ih (by omega) j hj]
      by_cases e2 : j = n
      · subst e2
        rw [decide_eq_false (p := (n : Int) < n) (by omega), Bool.false_and]
        by_cases h2 : v (72 + 5 * (n : Int)) = p
        · have h3 : hitB v n = false := by
            cases hh : hitB v n
            · rfl
            · exact absurd ⟨h2, hh⟩ h
          rw [h3, Bool.and_false, Bool.and_false]
        · rw [decide_eq_false h2, Bool.false_and, Bool.and_false]
      · congr 1
        exact decide_eq_decide.mpr (by omega)
/-- the boats in danger, of both players -/
theorem dan_all {v : Int → Int} (w : Wf v) (ho : overB v = false) {j : Int} (hj : 0 ≤ j ∧ j < 10) : btI (danR v 0 ||| danR v 1) j = (decide (j < v 127) && hitB v j) := by
  have hn := w.n
  have hw := w.b j hj
  have e : ∀ p : Int, 0 ≤ p ∧ p < 2 → danR v p = danN v p (v 127).toNat := fun p hp => by
    unfold danR
    rw [if_neg (by omega), if_neg (by rw [ho]; decide)]
  rw [e 0 (by omega), e 1 (by omega), btI_or, dan_bit _ (by omega) j (by omega), dan_bit _ (by omega) j (by omega), Int.toNat_of_nonneg hn.1]
  rcases (show v (72 + 5 * j) = 0 ∨ v (72 + 5 * j) = 1 by omega) with h | h <;> rw [h] <;> cases decide (j < v 127) <;> cases hitB v j <;> rfl
def onesZ (x : Int32) : Int := sumN (fun j => bZ (btI x j)) 10
/-! turns -/
theorem hit_on {v : Int → Int} {b : Int} (h : hitB v b = true) : v (74 + 5 * b) = 0 := by
  unfold hitB onB at h
  rw [Bool.and_eq_true] at h
  exact of_decide_eq_true h.1
theorem hit_mv {v : Int → Int} {b d n k : Int} (w : Wf v) (hb : 0 ≤ b ∧ b < v 127) (hk : 0 ≤ k ∧ k < 10) (hkb : k ≠ b) (hko : k ≠ batZ v (golZ v b d n)) : hitB (mvV v b d n) k = hitB v k := by
  have hn := w.n
  have ho := batZ_rng w (golZ v b d n)
  have hw := w.b k hk
  have ho2 : batZ v (golZ v b d n) = -5 ∨ (0 ≤ batZ v (golZ v b d n) ∧ batZ v (golZ v b d n) < 10) := by omega
  unfold hitB onB wreckB wetB tideZ stepZ
  rw [mvV_h (by omega) ho2 hk, if_neg hkb, if_neg hko, mvV_p (by omega) ho2 hk, if_neg hkb, mvV_o (j := 73 + 5 * k) (by omega) ho2 (by omega), mvV_o (j := 126) (by omega) ho2 (by omega), mvV_o (j := 122) (by omega) ho2 (by omega), mvV_o (j := 123) (by omega) ho2 (by omega), mvV_o (j := 124) (by omega) ho2 (by omega), mvV_o (j := v (75 + 5 * k)) (by omega) ho2 (by omega), mvV_o (j := 36 + v (75 + 5 * k)) (by omega) ho2 (by omega)]
/-- a boat in danger that isn't moved is wrecked when the turn is over -/
theorem sai_hit {v : Int → Int} (w : Wf v) {b d n k : Int} (he : errZ v b d n = 0) (hr : reaZ v b d n false = 0) (hk : 0 ≤ k ∧ k < v 127) (hkb : k ≠ b) (h : hitB v k = true) : saiV v b d n (74 + 5 * k) = 2 := by
  have hn := w.n
  obtain ⟨hb, hd, hnn⟩ := err0 he
  have ho := batZ_rng w (golZ v b d n)
  have ho2 : batZ v (golZ v b d n) = -5 ∨ (0 ≤ batZ v (golZ v b d n) ∧ batZ v (golZ v b d n) < 10) := by omega
  have h0 : 0 ≤ saiR v b d n := by rw [saiR_k he hr]; exact (ramR_rng w _ (by omega)).1
  have e : saiV v b d n = pasV (mvV v b d n) := by unfold saiV; rw [if_pos h0]
  have e127 : mvV v b d n 127 = v 127 := mvV_o (by omega) ho2 (by omega)
  rw [e, pasV_h (by omega), e127]
  by_cases hko : k = batZ v (golZ v b d n)
  · split
    · rfl
    · rw [mvV_h (by omega) ho2 (by omega), if_neg hkb, if_pos hko]
  · rw [hit_mv w hb (by omega) hkb hko, if_pos ⟨hk.2, h⟩]
theorem sai_cnt {v : Int → Int} (i : Ia v) {b d n : Int} (he : errZ v b d n = 0) (hr : reaZ v b d n false = 0) : cntZ v 2 + (if 0 < saiR v b d n then 1 else 0) ≤ cntZ (saiV v b d n) 2 := by
  have w := i.w
  have hn := w.n
  obtain ⟨hb, hd, hnn⟩ := err0 he
  have ho := batZ_rng w (golZ v b d n)
  have hgo := gol_ne hd hnn hr
  have hon : v (74 + 5 * b) = 0 := of_decide_eq_true (rea0 hr).2.1
  have hrr := ramR_rng w (batZ v (golZ v b d n)) (by omega)
  have h0 : 0 ≤ saiR v b d n := by rw [saiR_k he hr]; exact hrr.1
  have e : saiV v b d n = pasV (mvV v b d n) := by unfold saiV; rw [if_pos h0]
  have h1 := cnt_mv i hb hon hgo
  have e127 : mvV v b d n 127 = v 127 := mvV_o (by omega) (by omega) (by omega)
  have hw' := w.mv hb hr
  have h2 : cntZ (mvV v b d n) 2 ≤ cntZ (saiV v b d n) 2 := by
    rw [e]
    unfold cntZ
    rw [pasV_o (j := 127) (by omega) (by omega), e127]
    refine sumN_le fun k g1 g2 => ?_
    show (if mvV v b d n (74 + 5 * k) = 2 then (1 : Int) else 0) ≤ if pasV (mvV v b d n) (74 + 5 * k) = 2 then 1 else 0
    rw [pasV_h (by omega)]
    (repeat' split) <;> omega
  have h3 : (if 0 < saiR v b d n then (1 : Int) else 0) ≤ if batZ v (golZ v b d n) = -5 then 0 else 1 := by
    rw [saiR_k he hr]
    unfold ramR
    by_cases h5 : batZ v (golZ v b d n) = -5
    · rw [if_pos h5, if_pos h5, if_neg (by omega)]; omega
    · rw [if_neg h5]; split <;> omega
  omega
theorem sai_ram {v : Int → Int} (w : Wf v) {b d n : Int} (he : errZ v b d n = 0) (hr : reaZ v b d n false = 0) : saiV v b d n 128 = v 128 + (if 0 < saiR v b d n then 1 else 0) := by
  have hn := w.n
  obtain ⟨hb, hd, hnn⟩ := err0 he
  have ho := batZ_rng w (golZ v b d n)
  have hrr := ramR_rng w (batZ v (golZ v b d n)) (by omega)
  have h0 : 0 ≤ saiR v b d n := by rw [saiR_k he hr]; exact hrr.1
  have e : saiV v b d n = pasV (mvV v b d n) := by unfold saiV; rw [if_pos h0]
  have e127 : mvV v b d n 127 = v 127 := mvV_o (by omega) (by omega) (by omega)
  rw [e, pasV_o (by omega) (by omega), mvV_r (by omega), saiR_k he hr]
  unfold ramR
  by_cases h5 : batZ v (golZ v b d n) = -5
  · rw [if_pos h5, if_pos h5, if_neg (by omega)]; omega
  · rw [if_neg h5, if_neg h5]
    obtain ⟨o1, o2, o3, o4⟩ := ho.resolve_left h5
    have hbb := w.bb _ ⟨o1, o2⟩
    rw [if_pos (by omega)]; omega
theorem sai_stp {v : Int → Int} (w : Wf v) {b d n : Int} (he : errZ v b d n = 0) (hr : reaZ v b d n false = 0) : saiV v b d n 126 = 1 + v 126 ∧ saiV v b d n 127 = v 127 ∧ saiV v b d n (76 + 5 * b) = n + v (76 + 5 * b) := by
  have hn := w.n
  obtain ⟨hb, hd, hnn⟩ := err0 he
  have ho := batZ_rng w (golZ v b d n)
  have hrr := ramR_rng w (batZ v (golZ v b d n)) (by omega)
  have h0 : 0 ≤ saiR v b d n := by rw [saiR_k he hr]; exact hrr.1
  have e : saiV v b d n = pasV (mvV v b d n) := by unfold saiV; rw [if_pos h0]
  have e127 : mvV v b d n 127 = v 127 := mvV_o (by omega) (by omega) (by omega)
  have e126 : mvV v b d n 126 = v 126 := mvV_o (by omega) (by omega) (by omega)
  rw [e, pasV_t, e126, pasV_o (by omega) (by omega), e127, pasV_o (by omega) (by omega), mvV_s (by omega) (by omega) (by omega), if_pos rfl]
  exact ⟨rfl, rfl, rfl⟩
theorem pas_cnt {v : Int → Int} (w : Wf v) (ho : overB v = false) : cntZ (pasV v) 2 = cntZ v 2 + onesZ (danR v 0 ||| danR v 1) := by
  have hn := w.n
  unfold onesZ
  have e1 : sumN (fun j => bZ (btI (danR v 0 ||| danR v 1) j)) 10 = sumN (fun j => bZ (btI (danR v 0 ||| danR v 1) j)) (v 127).toNat := by
    refine sumN_ext 10 (by omega) fun k h1 h2 => ?_
    show bZ (btI _ k) = 0
    rw [dan_all w ho (by omega), decide_eq_false (by omega)]
    rfl
  rw [e1]
  unfold cntZ
  rw [pasV_o (j := 127) (by omega) (by omega)]
  refine sumN_add fun k h1 h2 => ?_
  show (if pasV v (74 + 5 * k) = 2 then (1 : Int) else 0) = (if v (74 + 5 * k) = 2 then 1 else 0) + bZ (btI _ k)
  have e2 : pasV v (74 + 5 * k) = if hitB v k = true then 2 else v (74 + 5 * k) := by
    rw [pasV_h (by omega)]
    by_cases h : hitB v k = true
    · rw [if_pos (show k < v 127 ∧ hitB v k = true from ⟨by omega, h⟩), if_pos h]
    · rw [if_neg (show ¬ (k < v 127 ∧ hitB v k = true) from fun z => h z.2), if_neg h]
  rw [dan_all w ho (by omega), decide_eq_true (p := k < v 127) (by omega)]
  by_cases hh : hitB v k = true
  · have h0 := hit_on hh
    rw [if_pos hh] at e2
    rw [if_pos e2, hh, if_neg (show ¬ v (74 + 5 * k) = 2 by omega)]
    rfl
  · rw [if_neg hh] at e2
    have hf : hitB v k = false := by simpa using hh
    rw [e2, hf]
    show _ = _ + (0 : Int)
    omega
theorem pas_hit {v : Int → Int} {k : Int} (hk : 0 ≤ k ∧ k < 10) (h2 : k < v 127) (h : hitB v k = true) : pasV v (74 + 5 * k) = 2 := by
  rw [pasV_h hk, if_pos ⟨h2, h⟩]
theorem ones_rng (x : Int32) : 0 ≤ onesZ x ∧ onesZ x ≤ 10 := by
  have := sumN_rng (f := fun j => bZ (btI x j)) (m := 1) (fun j => bZ_rng _) 10
  unfold onesZ
  omega
/-! the best move -/
theorem way_cong {v u : Int → Int} (h : ∀ j : Int, j < 72 ∨ (122 ≤ j ∧ j ≤ 125) → u j = v j) {p dr t d : Int} : ∀ (n : Nat) (c : Int), wayN u p dr t d n c = wayN v p dr t d n c := by
  intro n
  induction n with
  | zero => intro c; rfl
  | succ n ih =>
    intro c
    have hr := besZ_rng c d
    have e : wetB u (besZ c d) dr t = wetB v (besZ c d) dr t := by
      unfold wetB tideZ stepZ
      rw [h (besZ c d) (by omega), h 122 (by omega), h 123 (by omega), h 124 (by omega)]
    unfold wayN
    rw [e, ih]
theorem hm_cong {v u : Int → Int} (h : ∀ j : Int, j < 72 ∨ (122 ≤ j ∧ j ≤ 125) → u j = v j) {P D : Int} : ∀ (k : Nat) (c t : Int), c < 36 → (hmP u P D k c t ↔ hmP v P D k c t) := by
  have hwet : ∀ c t : Int, c < 36 → wetB u c D t = wetB v c D t := fun c t hc => by
    unfold wetB tideZ stepZ
    rw [h c (by omega), h 122 (by omega), h 123 (by omega), h 124 (by omega)]
  have hmv : ∀ t c c' : Int, c < 36 → (mvH u P D t c c' ↔ mvH v P D t c c') := fun t c c' hc => by
    unfold mvH mvP
    rw [hwet c t hc]
    simp only [way_cong h]
  intro k
  induction k with
  | zero => intro c t _; exact Iff.rfl
  | succ k ih =>
    intro c t hc
    cases k with
    | zero => exact hmv t c _ hc
    | succ k =>
      have hst : ∀ c' : Int, ((0 ≤ c' ∧ c' < 36) ∧ (c' = c ∨ mvH u P D t c c') ∧ wreckB u c' D t = false ∧ hmP u P D (k + 1) c' (1 + t)) ↔ ((0 ≤ c' ∧ c' < 36) ∧ (c' = c ∨ mvH v P D t c c') ∧ wreckB v c' D t = false ∧ hmP v P D (k + 1) c' (1 + t)) := by
        intro c'
        constructor
        · rintro ⟨h1, h2, h3, h4⟩
          refine ⟨h1, h2.imp id (hmv t c c' hc).mp, ?_, (ih c' (1 + t) h1.2).mp h4⟩
          unfold wreckB at h3 ⊢
          rwa [hwet c' t h1.2, hwet c' (1 + t) h1.2, h (36 + c') (by omega)] at h3
        · rintro ⟨h1, h2, h3, h4⟩
          refine ⟨h1, h2.imp id (hmv t c c' hc).mpr, ?_, (ih c' (1 + t) h1.2).mpr h4⟩
          unfold wreckB at h3 ⊢
          rwa [hwet c' t h1.2, hwet c' (1 + t) h1.2, h (36 + c') (by omega)]
      exact exists_congr hst
theorem fw_cong {v u : Int → Int} (h : ∀ j : Int, j < 72 ∨ (122 ≤ j ∧ j ≤ 125) → u j = v j) {P D c f : Int} (hc : 0 ≤ c ∧ c < 36) : fwZ u P D c f = fwZ v P D c f := by
  have h1 := fwZ_lst (v := u) (P := P) (D := D) (f := f) hc
  rw [show (fun k => hmP u P D k c f) = fun k => hmP v P D k c f from funext fun k => propext (hm_cong h k c f hc.2), h 125 (by omega)] at h1
  exact lst_uniq h1 (fwZ_lst hc)
/-- a move's worth, by what is told behind it -/
theorem wor_is {v : Int → Int} (i : Ia v) {b d n : Int} (he : errZ v b d n = 0) (hr : reaZ v b d n false = 0) :
    worZ v b d n = if saiV v b d n (74 + 5 * b) = 1 then 3000 + saiV v b d n (73 + 5 * b) else if 0 < saiR v b d n then 2000 + saiR v b d n else if saiV v b d n (74 + 5 * b) = 0 ∧ 0 < homR (saiV v b d n) b 0 then 1000 - homR (saiV v b d n) b 0 else 0 := by
  have w := i.w
  have hn := w.n
  have ht := w.t
  obtain ⟨hb, hd, hnn⟩ := err0 he
  have hw := w.b b (by omega)
  have ho := batZ_rng w (golZ v b d n)
  have ho2 : batZ v (golZ v b d n) = -5 ∨ (0 ≤ batZ v (golZ v b d n) ∧ batZ v (golZ v b d n) < 10) := by omega
  have hg := gol_rng w hb hr
  have hrr := ramR_rng w (batZ v (golZ v b d n)) (by omega)
  have h0 : 0 ≤ saiR v b d n := by rw [saiR_k he hr]; exact hrr.1
  have e : saiV v b d n = pasV (mvV v b d n) := by unfold saiV; rw [if_pos h0]
  have e127 : mvV v b d n 127 = v 127 := mvV_o (by omega) ho2 (by omega)
  have e126 : mvV v b d n 126 = v 126 := mvV_o (by omega) ho2 (by omega)
  have e73 : saiV v b d n (73 + 5 * b) = v (73 + 5 * b) := by rw [e, pasV_o (by omega) (by omega), mvV_o (by omega) ho2 (by omega)]
  have e72 : saiV v b d n (72 + 5 * b) = v (72 + 5 * b) := by rw [e, pasV_o (by omega) (by omega), mvV_o (by omega) ho2 (by omega)]
  have e75 : saiV v b d n (75 + 5 * b) = golZ v b d n := by rw [e, pasV_o (by omega) (by omega), mvV_p (by omega) ho2 (by omega), if_pos rfl]
  have e74 : saiV v b d n (74 + 5 * b) = if hitB (mvV v b d n) b = true then 2 else if golZ v b d n = harZ (v (72 + 5 * b)) then 1 else 0 := by
    rw [e, pasV_h (by omega), e127, mvV_h (by omega) ho2 (by omega), if_pos rfl]
    by_cases hx : hitB (mvV v b d n) b = true
    · rw [if_pos (show b < v 127 ∧ hitB (mvV v b d n) b = true from ⟨hb.2, hx⟩), if_pos hx]
    · rw [if_neg (show ¬ (b < v 127 ∧ hitB (mvV v b d n) b = true) from fun z => hx z.2), if_neg hx]
  unfold worZ
  rw [if_neg (by omega)]
  by_cases hh : golZ v b d n = harZ (v (72 + 5 * b))
  · have hhit : hitB (mvV v b d n) b = false := by
      cases hx : hitB (mvV v b d n) b
      · rfl
      · have := hit_on hx
        rw [mvV_h (by omega) ho2 (by omega), if_pos rfl, if_pos hh] at this
        omega
    rw [hhit, if_neg (show ¬ (false = true) by decide), if_pos hh] at e74
    rw [if_pos hh, if_pos e74, e73]
  · rw [if_neg hh] at e74
    have hn1 : ¬ saiV v b d n (74 + 5 * b) = 1 := by rw [e74]; split <;> omega
    rw [if_neg hh, if_neg hn1, saiR_k he hr]
    by_cases h5 : batZ v (golZ v b d n) = -5
    · have hram : ramR v (batZ v (golZ v b d n)) = 0 := by unfold ramR; rw [if_pos h5]
      rw [if_neg (show ¬ batZ v (golZ v b d n) ≠ -5 from fun z => z h5), hram, if_neg (show ¬ (0 : Int) < 0 by omega)]
      have hhit : hitB (mvV v b d n) b = wrS v (v (73 + 5 * b)) (v 126) (golZ v b d n) := by
        rw [wr_wreck]
        unfold hitB onB
        rw [mvV_h (by omega) ho2 (by omega), if_pos rfl, if_neg hh, mvV_p (by omega) ho2 (by omega), if_pos rfl, mvV_o (j := 73 + 5 * b) (by omega) ho2 (by omega), e126, decide_eq_true (p := (0 : Int) = 0) rfl, Bool.true_and]
        unfold wreckB wetB tideZ stepZ
        rw [mvV_o (j := 122) (by omega) ho2 (by omega), mvV_o (j := 123) (by omega) ho2 (by omega), mvV_o (j := 124) (by omega) ho2 (by omega), mvV_o (j := golZ v b d n) (by omega) ho2 (by omega), mvV_o (j := 36 + golZ v b d n) (by omega) ho2 (by omega)]
      rw [hhit] at e74
      unfold behZ
      cases hx : wrS v (v (73 + 5 * b)) (v 126) (golZ v b d n)
      · rw [hx, if_neg (show ¬ (false = true) by decide)] at e74
        have eh : homR (saiV v b d n) b 0 = fwZ v (v (72 + 5 * b)) (v (73 + 5 * b)) (golZ v b d n) (1 + v 126) := by
          unfold homR
          have hon : ¬ onB (saiV v b d n) b = false := by unfold onB; rw [decide_eq_true e74]; decide
          rw [(sai_stp w he hr).2.1, if_neg (by omega), if_neg (by omega), if_neg hon, if_pos rfl, e72, e73, e75, (sai_stp w he hr).1]
          refine fw_cong (fun j hj => ?_) hg.1
          rw [e, pasV_o (by omega) (by omega), mvV_o (by omega) ho2 (by omega)]
        have hf := fwZ_rng w (v (72 + 5 * b)) (v (73 + 5 * b)) (golZ v b d n) (1 + v 126) (by omega)
        rw [if_neg (show ¬ (false = true) by decide), eh]
        rcases hf with h6 | h6
        · rw [if_pos h6]
          exact (if_neg (fun z => by have h7 := z.2; omega)).symm
        · rw [if_neg (show ¬ fwZ v (v (72 + 5 * b)) (v (73 + 5 * b)) (golZ v b d n) (1 + v 126) = -5 by omega)]
          exact (if_pos ⟨e74, by omega⟩).symm
      · rw [hx, if_pos rfl] at e74
        rw [if_pos (show true = true from rfl), if_pos (show (-5 : Int) = -5 from rfl)]
        exact (if_neg (fun z => by have h7 := z.1; omega)).symm
    · obtain ⟨o1, o2, o3, o4⟩ := ho.resolve_left h5
      have hbb := w.bb _ ⟨o1, o2⟩
      have hram : ramR v (batZ v (golZ v b d n)) = v (73 + 5 * batZ v (golZ v b d n)) := by unfold ramR; rw [if_neg h5]
      rw [if_pos h5, hram]
      exact (if_pos (by omega)).symm
theorem wor_no {v : Int → Int} {b d n : Int} (hr : reaZ v b d n false ≠ 0) : worZ v b d n = 0 := by
  unfold worZ
  rw [if_pos hr]
theorem bst_nn {v : Int → Int} : ∀ j : Nat, 0 ≤ (bstN v j).1 := by
  intro j
  induction j with
  | zero => exact Int.le_refl _
  | succ j ih =>
    unfold bstN
    split
    · rename_i h
      show 0 ≤ worZ v _ _ _
      omega
    · exact ih
theorem bst_form {v : Int → Int} : ∀ j : Nat, (bstN v j).2 = -5 ∨ ∃ b d s : Int, (0 ≤ b ∧ 12 * b < j) ∧ (0 ≤ d ∧ d < 4) ∧ (1 ≤ s ∧ s ≤ 3) ∧ (bstN v j).2 = 100 * b + 10 * d + s := by
  intro j
  induction j with
  | zero => exact Or.inl rfl
  | succ j ih =>
    unfold bstN
    split
    · right
      refine ⟨(j : Int) / 12, (j : Int) / 3 % 4, (j : Int) % 3 + 1, by omega, by omega, by omega, ?_⟩
      show 1 + (100 * ((j : Int) / 12) + 10 * ((j : Int) / 3 % 4)) + (j : Int) % 3 = _
      omega
    · rcases ih with h | ⟨b, d, s, h1, h2, h3, h4⟩
      · exact Or.inl h
      · exact Or.inr ⟨b, d, s, by omega, h2, h3, h4⟩
theorem bst_s {v : Int → Int} {k : Int} (hk : 0 ≤ k) : bstN v (1 + k).toNat = if (bstN v k.toNat).1 < worZ v (k / 12) (k / 3 % 4) (k % 3 + 1) then (worZ v (k / 12) (k / 3 % 4) (k % 3 + 1), 1 + (100 * (k / 12) + 10 * (k / 3 % 4)) + k % 3) else bstN v k.toNat := by
  rw [show (1 + k).toNat = k.toNat + 1 by omega]
  conv => lhs; unfold bstN
  rw [Int.toNat_of_nonneg hk]
/-- what best tells: no move, or a boat, a direction and steps -/
theorem bes_form {v : Int → Int} (w : Wf v) : (besR v = -4 ∧ overB v = true) ∨ (overB v = false ∧ (besR v = -5 ∨ ∃ b d s : Int, (0 ≤ b ∧ b < v 127) ∧ (0 ≤ d ∧ d < 4) ∧ (1 ≤ s ∧ s ≤ 3) ∧ besR v = 100 * b + 10 * d + s)) := by
  have hn := w.n
  unfold besR
  cases ho : overB v
  · right
    refine ⟨rfl, ?_⟩
    rw [if_neg (by decide)]
    rcases bst_form (v := v) (12 * v 127).toNat with h | ⟨b, d, s, h1, h2, h3, h4⟩
    · exact Or.inl h
    · exact Or.inr ⟨b, d, s, by omega, h2, h3, h4⟩
  · exact Or.inl ⟨if_pos rfl, rfl⟩
