/-! what the game keeps, besides its row being well-formed -/
def Iv (v : Int → Int) : Prop :=
  Wf v ∧ (v 0 = 0 ∧ v 35 = 0 ∧ v 36 = 0 ∧ v 71 = 0) ∧
  (∀ a b : Int, (0 ≤ a ∧ a < v 127) → (0 ≤ b ∧ b < v 127) → v (74 + 5 * a) = 0 → v (74 + 5 * b) = 0 → v (75 + 5 * a) = v (75 + 5 * b) → a = b) ∧
  (0 ≤ v 128 ∧ v 128 ≤ cntZ v 2)
/-- steps gone: at most m -/
def St (v : Int → Int) (m : Int) : Prop := ∀ b : Int, 0 ≤ b ∧ b < 10 → 0 ≤ v (76 + 5 * b) ∧ v (76 + 5 * b) ≤ m
/-- all of it -/
def Ia (v : Int → Int) : Prop := Iv v ∧ St v (3 * v 126)
theorem Ia.w {v : Int → Int} (i : Ia v) : Wf v := i.1.1
theorem Ia.h {v : Int → Int} (i : Ia v) : v 0 = 0 ∧ v 35 = 0 ∧ v 36 = 0 ∧ v 71 = 0 := i.1.2.1
theorem Ia.d {v : Int → Int} (i : Ia v) (a b : Int) (ha : 0 ≤ a ∧ a < v 127) (hb : 0 ≤ b ∧ b < v 127) (h1 : v (74 + 5 * a) = 0) (h2 : v (74 + 5 * b) = 0) (h3 : v (75 + 5 * a) = v (75 + 5 * b)) : a = b := i.1.2.2.1 a b ha hb h1 h2 h3
theorem Ia.r {v : Int → Int} (i : Ia v) : 0 ≤ v 128 ∧ v 128 ≤ cntZ v 2 := i.1.2.2.2
theorem Ia.s {v : Int → Int} (i : Ia v) (b : Int) (hb : 0 ≤ b ∧ b < 10) : 0 ≤ v (76 + 5 * b) ∧ v (76 + 5 * b) ≤ 300 := by
  have h1 := i.2 b hb
  have h2 := i.w.t
  omega
theorem cnt_cong {v u : Int → Int} (h0 : u 127 = v 127) (h : ∀ k : Int, 0 ≤ k → k < v 127 → u (74 + 5 * k) = v (74 + 5 * k)) (x : Int) : cntZ u x = cntZ v x := by
  unfold cntZ
  rw [h0]
  refine sumN_cong fun k h1 h2 => ?_
  show (if u (74 + 5 * k) = x then (1 : Int) else 0) = if v (74 + 5 * k) = x then 1 else 0
  rw [h k h1 (by omega)]
theorem Iv.of {v u : Int → Int} (i : Iv v) (w : Wf u) (h0 : u 0 = 0 ∧ u 35 = 0 ∧ u 36 = 0 ∧ u 71 = 0) (h : ∀ j : Int, 72 ≤ j → ¬ (122 ≤ j ∧ j ≤ 125) → u j = v j) : Iv u := by
  have hn := i.1.n
  have e127 : u 127 = v 127 := h 127 (by omega) (by omega)
  refine ⟨w, h0, fun a b ha hb h1 h2 h3 => ?_, ?_⟩
  · rw [e127] at ha hb
    rw [h _ (by omega) (by omega)] at h1 h2
    rw [h _ (by omega) (by omega), h (75 + 5 * b) (by omega) (by omega)] at h3
    exact i.2.2.1 a b ha hb h1 h2 h3
  · rw [h 128 (by omega) (by omega), cnt_cong e127 (fun k h1 h2 => h _ (by omega) (by omega))]
    exact i.2.2.2
theorem Ia.of {v u : Int → Int} (i : Ia v) (w : Wf u) (h0 : u 0 = 0 ∧ u 35 = 0 ∧ u 36 = 0 ∧ u 71 = 0) (h : ∀ j : Int, 72 ≤ j → ¬ (122 ≤ j ∧ j ≤ 125) → u j = v j) : Ia u := by
  refine ⟨i.1.of w h0 h, fun b hb => ?_⟩
  rw [h (76 + 5 * b) (by omega) (by omega), h 126 (by omega) (by omega)]
  exact i.2 b hb
theorem Ia.v0 : Ia v0Z := by
  refine ⟨⟨Wf.v0, by decide, fun a b ha => ?_, by decide⟩, fun b hb => ?_⟩
  · rw [← v0_z (k := 127) (by omega) (by omega)] at ha; omega
  · rw [← v0_z (k := 76 + 5 * b) (by omega) (by omega), ← v0_z (k := 126) (by omega) (by omega)]; omega
theorem Ia.lay {v : Int → Int} (i : Ia v) (x h k : Int) (hk : 0 ≤ k ∧ k ≤ 1) : Ia (layV v x h k) := by
  have w := i.w.lay x h k hk
  unfold layV at w ⊢
  split
  · rename_i hr
    rw [if_pos hr] at w
    have hx : (0 ≤ x ∧ x < 36) ∧ x ≠ 0 ∧ x ≠ 35 := by
      unfold layR at hr
      (repeat' split at hr) <;> omega
    have h0 := i.h
    refine i.of w ?_ fun j hj _ => ?_
    · unfold updZ
      refine ⟨?_, ?_, ?_, ?_⟩ <;> (repeat' split) <;> omega
    · unfold updZ
      rw [if_neg (by omega), if_neg (by omega)]
  · exact i
theorem Ia.chs {v : Int → Int} (i : Ia v) (k x : Int) : Ia (chsV v k x) := by
  have w := i.w.chs k x
  unfold chsV at w ⊢
  split
  · rename_i hr
    rw [if_pos hr] at w
    have hx : 0 ≤ k ∧ k < 4 := by
      unfold chsR at hr
      (repeat' split at hr) <;> omega
    have h0 := i.h
    refine i.of w ?_ fun j hj hj2 => ?_
    · unfold updZ
      refine ⟨?_, ?_, ?_, ?_⟩ <;> (repeat' split) <;> omega
    · unfold updZ
      rw [if_neg (by omega)]
  · exact i
theorem batN_none {v : Int → Int} {x : Int} : ∀ (n : Nat) (k : Int), 0 ≤ k → batN v x n k = -5 → ∀ b : Int, k ≤ b → b < k + n → ¬ (v (74 + 5 * b) = 0 ∧ v (75 + 5 * b) = x) := by
  intro n
  induction n with
  | zero => intro k _ _ b h1 h2; omega
  | succ n ih =>
    intro k hk h b h1 h2
    unfold batN at h
    split at h
    · omega
    · rename_i hh
      by_cases e : b = k
      · rw [e]; exact hh
      · exact ih (1 + k) (by omega) h b (by omega) (by omega)
theorem bat_none {v : Int → Int} {x : Int} (h : batZ v x = -5) (b : Int) (hb : 0 ≤ b ∧ b < v 127) : ¬ (v (74 + 5 * b) = 0 ∧ v (75 + 5 * b) = x) :=
  batN_none (v 127).toNat 0 (by omega) h b (by omega) (by omega)
/-- the boat that is told at a boat's cell is that boat -/
theorem bat_own {v : Int → Int} (i : Ia v) {b : Int} (hb : 0 ≤ b ∧ b < v 127) (h : v (74 + 5 * b) = 0) : batZ v (v (75 + 5 * b)) = b := by
  rcases batZ_rng i.w (v (75 + 5 * b)) with h1 | ⟨h1, h2, h3, h4⟩
  · exact absurd ⟨h, rfl⟩ (bat_none h1 b hb)
  · exact i.d _ _ ⟨h1, h2⟩ hb h3 h h4
theorem Ia.add {v : Int → Int} (i : Ia v) (p dr x : Int) : Ia (addV v p dr x) := by
  have w := i.w.add p dr x
  unfold addV at w ⊢
  split
  · rename_i hr
    rw [if_pos hr] at w
    have hn := i.w.n
    have hx : (0 ≤ x ∧ x < 36) ∧ batZ v x = -5 ∧ v 127 < 10 ∧ v 126 = 0 := by
      unfold addR at hr
      (repeat' split at hr) <;> omega
    have h0 := i.h
    have hno := fun b hb => bat_none hx.2.1 b hb
    generalize hu : updZ (updZ (updZ (updZ (updZ (updZ v (72 + 5 * v 127) p) (73 + 5 * v 127) dr) (74 + 5 * v 127) 0) (75 + 5 * v 127) x) (76 + 5 * v 127) 0) 127 (1 + v 127) = u at w ⊢
    have e127 : u 127 = 1 + v 127 := by rw [← hu]; exact updZ_s
    have eo : ∀ j : Int, j < 72 + 5 * v 127 ∨ (122 ≤ j ∧ j ≠ 127) → u j = v j := fun j hj => by
      rw [← hu]; unfold updZ
      rw [if_neg (by omega), if_neg (by omega), if_neg (by omega), if_neg (by omega), if_neg (by omega), if_neg (by omega)]
    have e74 : u (74 + 5 * v 127) = 0 := by rw [← hu]; unfold updZ; (repeat' split) <;> omega
    have e75 : u (75 + 5 * v 127) = x := by rw [← hu]; unfold updZ; (repeat' split) <;> omega
    have e76 : ∀ b : Int, 0 ≤ b ∧ b < 10 → u (76 + 5 * b) = v (76 + 5 * b) ∨ u (76 + 5 * b) = 0 := fun b hb => by rw [← hu]; unfold updZ; (repeat' split) <;> omega
    refine ⟨⟨w, ⟨?_, ?_, ?_, ?_⟩, fun a b ha hb h1 h2 h3 => ?_, ?_⟩, fun b hb => ?_⟩
    · rw [eo 0 (by omega)]; omega
    · rw [eo 35 (by omega)]; omega
    · rw [eo 36 (by omega)]; omega
    · rw [eo 71 (by omega)]; omega
    · rw [e127] at ha hb
      by_cases ea : a = v 127
      · by_cases eb : b = v 127
        · omega
        · exfalso
          rw [ea, e75, eo (75 + 5 * b) (by omega)] at h3
          rw [eo (74 + 5 * b) (by omega)] at h2
          exact hno b (by omega) ⟨h2, h3.symm⟩
      · by_cases eb : b = v 127
        · exfalso
          rw [eb, e75, eo (75 + 5 * a) (by omega)] at h3
          rw [eo (74 + 5 * a) (by omega)] at h1
          exact hno a (by omega) ⟨h1, h3⟩
        · rw [eo (74 + 5 * a) (by omega)] at h1
          rw [eo (74 + 5 * b) (by omega)] at h2
          rw [eo (75 + 5 * a) (by omega), eo (75 + 5 * b) (by omega)] at h3
          exact i.d a b (by omega) (by omega) h1 h2 h3
    · have hr2 := i.r
      have ec : cntZ u 2 = cntZ v 2 := by
        unfold cntZ
        rw [e127, sumN_s hn.1]
        have e1 : sumN (fun k => if u (74 + 5 * k) = 2 then (1 : Int) else 0) (v 127).toNat = sumN (fun k => if v (74 + 5 * k) = 2 then 1 else 0) (v 127).toNat := by
          refine sumN_cong fun k h1 h2 => ?_
          show (if u (74 + 5 * k) = 2 then (1 : Int) else 0) = if v (74 + 5 * k) = 2 then 1 else 0
          rw [eo (74 + 5 * k) (by omega)]
        rw [e1]
        show _ + (if u (74 + 5 * v 127) = 2 then (1 : Int) else 0) = _
        rw [e74, if_neg (by omega)]
        omega
      rw [ec, eo 128 (by omega)]
      exact hr2
    · have h1 := i.2 b hb
      rw [eo 126 (by omega)]
      rcases e76 b hb with e | e <;> rw [e] <;> omega
  · exact i
/-! the end of a turn -/
theorem pasV_o {v : Int → Int} {j : Int} (h : j ≠ 126) (h2 : j < 74 ∨ 74 + 5 * v 127 ≤ j ∨ (j - 74) % 5 ≠ 0) : pasV v j = v j := by
  unfold pasV
  rw [updZ_n h, pasP_o h2]
theorem pasV_h {v : Int → Int} {b : Int} (h : 0 ≤ b ∧ b < 10) : pasV v (74 + 5 * b) = if b < v 127 ∧ hitB v b = true then 2 else v (74 + 5 * b) := by
  unfold pasV
  rw [updZ_n (by omega), pasP_h _ h.1]
theorem pasV_t {v : Int → Int} : pasV v 126 = 1 + v 126 := updZ_s
theorem Iv.pas {v : Int → Int} (i : Iv v) (ht : v 126 < 100) : Iv (pasV v) := by
  have w := i.1.pas ht
  have hn := i.1.n
  have h0 := i.2.1
  have e127 : pasV v 127 = v 127 := pasV_o (by omega) (by omega)
  refine ⟨w, ⟨?_, ?_, ?_, ?_⟩, fun a b ha hb h1 h2 h3 => ?_, ?_⟩
  · rw [pasV_o (by omega) (by omega)]; omega
  · rw [pasV_o (by omega) (by omega)]; omega
  · rw [pasV_o (by omega) (by omega)]; omega
  · rw [pasV_o (by omega) (by omega)]; omega
  · rw [e127] at ha hb
    rw [pasV_h (by omega)] at h1 h2
    rw [pasV_o (by omega) (by omega), pasV_o (j := 75 + 5 * b) (by omega) (by omega)] at h3
    split at h1
    · omega
    · split at h2
      · omega
      · exact i.2.2.1 a b ha hb h1 h2 h3
  · have hr := i.2.2.2
    have hc : cntZ v 2 ≤ cntZ (pasV v) 2 := by
      unfold cntZ
      rw [e127]
      refine sumN_le fun k h1 h2 => ?_
      show (if v (74 + 5 * k) = 2 then (1 : Int) else 0) ≤ if pasV v (74 + 5 * k) = 2 then 1 else 0
      rw [pasV_h (by omega)]
      (repeat' split) <;> omega
    rw [pasV_o (j := 128) (by omega) (by omega)]
    omega
/-! a boat moved -/
theorem mvV_h {v : Int → Int} {b d n : Int} (hb : 0 ≤ b ∧ b < 10) (ho : batZ v (golZ v b d n) = -5 ∨ (0 ≤ batZ v (golZ v b d n) ∧ batZ v (golZ v b d n) < 10)) {k : Int} (hk : 0 ≤ k ∧ k < 10) : mvV v b d n (74 + 5 * k) = if k = b then (if golZ v b d n = harZ (v (72 + 5 * b)) then 1 else 0) else if k = batZ v (golZ v b d n) then 2 else v (74 + 5 * k) := by
  unfold mvV
  by_cases e : k = b
  · subst e
    rw [updZ_s, if_pos rfl]
  · rw [updZ_n (by omega), updZ_n (by omega), updZ_n (by omega), if_neg e]
    by_cases e2 : k = batZ v (golZ v b d n)
    · rw [if_pos e2]
      unfold ramV
      rw [if_neg (by omega), updZ_n (by omega), e2]
      exact updZ_s
    · rw [if_neg e2, ramV_o (by omega) (by omega)]
theorem mvV_p {v : Int → Int} {b d n : Int} (hb : 0 ≤ b ∧ b < 10) (ho : batZ v (golZ v b d n) = -5 ∨ (0 ≤ batZ v (golZ v b d n) ∧ batZ v (golZ v b d n) < 10)) {k : Int} (hk : 0 ≤ k ∧ k < 10) : mvV v b d n (75 + 5 * k) = if k = b then golZ v b d n else v (75 + 5 * k) := by
  unfold mvV
  by_cases e : k = b
  · subst e
    rw [updZ_n (by omega), updZ_s, if_pos rfl]
  · rw [updZ_n (by omega), updZ_n (by omega), updZ_n (by omega), if_neg e, ramV_o (by omega) (by omega)]
theorem mvV_s {v : Int → Int} {b d n : Int} (hb : 0 ≤ b ∧ b < 10) (ho : batZ v (golZ v b d n) = -5 ∨ (0 ≤ batZ v (golZ v b d n) ∧ batZ v (golZ v b d n) < 10)) {k : Int} (hk : 0 ≤ k ∧ k < 10) : mvV v b d n (76 + 5 * k) = if k = b then n + v (76 + 5 * b) else v (76 + 5 * k) := by
  unfold mvV
  by_cases e : k = b
  · subst e
    rw [updZ_n (by omega), updZ_n (by omega), updZ_s, if_pos rfl]
  · rw [updZ_n (by omega), updZ_n (by omega), updZ_n (by omega), if_neg e, ramV_o (by omega) (by omega)]
theorem mvV_o {v : Int → Int} {b d n : Int} (hb : 0 ≤ b ∧ b < 10) (ho : batZ v (golZ v b d n) = -5 ∨ (0 ≤ batZ v (golZ v b d n) ∧ batZ v (golZ v b d n) < 10)) {j : Int} (hj : j < 74 ∨ (122 ≤ j ∧ j ≠ 128) ∨ (j < 122 ∧ ((j - 72) % 5 = 0 ∨ (j - 73) % 5 = 0))) : mvV v b d n j = v j := by
  unfold mvV
  rw [updZ_n (by omega), updZ_n (by omega), updZ_n (by omega)]
  unfold ramV
  split
  · rfl
  · rw [updZ_n (by omega), updZ_n (by omega)]
theorem mvV_r {v : Int → Int} {b d n : Int} (hb : 0 ≤ b ∧ b < 10) : mvV v b d n 128 = if batZ v (golZ v b d n) = -5 then v 128 else 1 + v 128 := by
  unfold mvV
  rw [updZ_n (by omega), updZ_n (by omega), updZ_n (by omega)]
  unfold ramV
  split
  · rfl
  · exact updZ_s
theorem cnt_mv {v : Int → Int} (i : Ia v) {b d n : Int} (hb : 0 ≤ b ∧ b < v 127) (hon : v (74 + 5 * b) = 0) (hgo : golZ v b d n ≠ v (75 + 5 * b)) : cntZ v 2 + (if batZ v (golZ v b d n) = -5 then 0 else 1) ≤ cntZ (mvV v b d n) 2 := by
  have hn := i.w.n
  have ho := batZ_rng i.w (golZ v b d n)
  have e127 : mvV v b d n 127 = v 127 := mvV_o (by omega) (by omega) (by omega)
  unfold cntZ
  rw [e127]
  have hle : ∀ k : Int, 0 ≤ k → k < (((v 127).toNat : Nat) : Int) → (fun k => if v (74 + 5 * k) = 2 then (1 : Int) else 0) k ≤ (fun k => if mvV v b d n (74 + 5 * k) = 2 then (1 : Int) else 0) k := by
    intro k h1 h2
    show (if v (74 + 5 * k) = 2 then (1 : Int) else 0) ≤ if mvV v b d n (74 + 5 * k) = 2 then 1 else 0
    rw [mvV_h (by omega) (by omega) (by omega)]
    by_cases e : k = b
    · subst e; rw [if_neg (by omega)]; split <;> omega
    · rw [if_neg e]
      by_cases e2 : k = batZ v (golZ v b d n)
      · rw [if_pos e2, if_pos rfl]; split <;> omega
      · rw [if_neg e2]; exact Int.le_refl _
  split
  · have := sumN_le hle
    omega
  · rename_i h5
    obtain ⟨o1, o2, o3, o4⟩ := ho.resolve_left h5
    refine sumN_lt (j := batZ v (golZ v b d n)) (by omega) hle ?_
    show (if v (74 + 5 * batZ v (golZ v b d n)) = 2 then (1 : Int) else 0) + 1 ≤ if mvV v b d n (74 + 5 * batZ v (golZ v b d n)) = 2 then 1 else 0
    have hne : ¬ batZ v (golZ v b d n) = b := fun e => hgo (by rw [← o4, e])
    have hm : mvV v b d n (74 + 5 * batZ v (golZ v b d n)) = 2 := by rw [mvV_h (by omega) (by omega) (by omega), if_neg hne, if_pos rfl]
    rw [if_neg (show ¬ v (74 + 5 * batZ v (golZ v b d n)) = 2 by omega), if_pos hm]
    omega
theorem Iv.mv {v : Int → Int} (i : Ia v) {b d n : Int} (he : errZ v b d n = 0) (hr : reaZ v b d n false = 0) : Iv (mvV v b d n) := by
  obtain ⟨hb, hd, hnn⟩ := err0 he
  have w := i.w.mv hb hr
  have hn := i.w.n
  have h0 := i.h
  have ho := batZ_rng i.w (golZ v b d n)
  have hgo := gol_ne hd hnn hr
  have hon : v (74 + 5 * b) = 0 := of_decide_eq_true (rea0 hr).2.1
  have e127 : mvV v b d n 127 = v 127 := mvV_o (by omega) (by omega) (by omega)
  have ho2 : batZ v (golZ v b d n) = -5 ∨ (0 ≤ batZ v (golZ v b d n) ∧ batZ v (golZ v b d n) < 10) := by omega
  refine ⟨w, ⟨?_, ?_, ?_, ?_⟩, fun a c ha hc h1 h2 h3 => ?_, ?_⟩
  · rw [mvV_o (by omega) ho2 (by omega)]; omega
  · rw [mvV_o (by omega) ho2 (by omega)]; omega
  · rw [mvV_o (by omega) ho2 (by omega)]; omega
  · rw [mvV_o (by omega) ho2 (by omega)]; omega
  · rw [e127] at ha hc
    rw [mvV_h (by omega) ho2 (by omega)] at h1 h2
    rw [mvV_p (by omega) ho2 (by omega), mvV_p (by omega) ho2 (by omega)] at h3
    have other : ∀ x : Int, 0 ≤ x ∧ x < v 127 → x ≠ b → x ≠ batZ v (golZ v b d n) → v (74 + 5 * x) = 0 → v (75 + 5 * x) ≠ golZ v b d n := by
      intro x hx e1 e2 h4 h5
      rcases ho with h6 | ⟨o1, o2, o3, o4⟩
      · exact bat_none h6 x hx ⟨h4, h5⟩
      · exact e2 (i.d x _ hx ⟨o1, o2⟩ h4 o3 (by rw [h5, o4]))
    by_cases ea : a = b
    · by_cases ec : c = b
      · omega
      · exfalso
        rw [if_neg ec] at h2
        rw [if_pos ea, if_neg ec] at h3
        by_cases e2 : c = batZ v (golZ v b d n)
        · rw [if_pos e2] at h2; omega
        · rw [if_neg e2] at h2; exact other c hc ec e2 h2 h3.symm
    · rw [if_neg ea] at h1
      have e1 : a ≠ batZ v (golZ v b d n) := fun e => by rw [if_pos e] at h1; omega
      rw [if_neg e1] at h1
      by_cases ec : c = b
      · exfalso
        rw [if_neg ea, if_pos ec] at h3
        exact other a ha ea e1 h1 h3
      · rw [if_neg ec] at h2
        have e2 : c ≠ batZ v (golZ v b d n) := fun e => by rw [if_pos e] at h2; omega
        rw [if_neg e2] at h2
        rw [if_neg ea, if_neg ec] at h3
        exact i.d a c ha hc h1 h2 h3
  · have h1 := cnt_mv i hb hon hgo
    have h2 := i.r
    rw [mvV_r (by omega)]
    split at h1
    · rename_i h5; rw [if_pos h5]; omega
    · rename_i h5; rw [if_neg h5]; omega
theorem St.pas {v : Int → Int} {m : Int} (hs : St v m) (hn : 0 ≤ v 127 ∧ v 127 ≤ 10) : St (pasV v) m := fun b hb => by
  rw [pasV_o (by omega) (by omega)]; exact hs b hb
theorem Ia.sai {v : Int → Int} (i : Ia v) (b d n : Int) : Ia (saiV v b d n) := by
  unfold saiV
  split
  · rename_i h
    by_cases he : errZ v b d n = 0
    · by_cases hr : reaZ v b d n false = 0
      · obtain ⟨hb, hd, hnn⟩ := err0 he
        have hn := i.w.n
        have hs := i.w.s
        have hov := over0 (rea0 hr).1
        have ho := batZ_rng i.w (golZ v b d n)
        have e127 : mvV v b d n 127 = v 127 := mvV_o (by omega) (by omega) (by omega)
        have e126 : mvV v b d n 126 = v 126 := mvV_o (by omega) (by omega) (by omega)
        refine ⟨(Iv.mv i he hr).pas (by omega), ?_⟩
        rw [pasV_t]
        refine St.pas (fun k hk => ?_) (by omega)
        have h1 := i.2 k hk
        have h2 := i.2 b (by omega)
        rw [mvV_s (by omega) (by omega) hk, e126]
        split <;> omega
      · rw [saiR_r he hr] at h
        have := reaZ_rng v b d n false
        omega
    · have := saiR_e he
      omega
  · exact i
theorem Ia.wai {v : Int → Int} (i : Ia v) : Ia (waiV v) := by
  unfold waiV
  split
  · exact i
  · rename_i h
    have hs := i.w.s
    have hn := i.w.n
    have ho := over0 (v := v) (by simpa using h)
    refine ⟨i.1.pas (by omega), ?_⟩
    rw [pasV_t]
    refine St.pas (fun k hk => ?_) hn
    have h1 := i.2 k hk
    omega
