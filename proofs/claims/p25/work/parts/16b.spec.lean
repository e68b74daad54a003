/-! what the law's own methods count, place by place -/
def cntK (v : Int → Int) (x k : Int) : Int := sumN (fun j => if v (74 + 5 * j) = x then 1 else 0) k.toNat
def agrK (v : Int → Int) (k : Int) : Int := sumN (fun j => if onB v j = true ∧ floB v j = false then 1 else 0) k.toNat
def scoK (v : Int → Int) (p k : Int) : Int := sumN (fun j => if v (72 + 5 * j) = p ∧ v (74 + 5 * j) = 1 then v (73 + 5 * j) else 0) k.toNat
def mmvK (v : Int → Int) (k : Int) : Int := sumN (fun j => if v (72 + 5 * j) = v 126 % 2 then mvsZ v j else 0) k.toNat
def nowK (v : Int → Int) (b w : Int) : Int := sumN (fun j => if reaZ v b (j / 3) (j % 3 + 1) false = 0 then 1 else 0) w.toNat
def afnK (v : Int → Int) (c d t : Int) : Int := sumN (fun j => bZ (wetB v c d j)) t.toNat
def onesK (x : Int32) (k : Int) : Int := sumN (fun j => bZ (btI x j)) k.toNat
theorem cntK_s {v : Int → Int} {x k : Int} (hk : 0 ≤ k) : cntK v x k + bZ (decide (v (74 + 5 * k) = x)) = cntK v x (1 + k) := by
  unfold cntK; rw [sumN_s hk, bZ_if]
theorem nowK_s {v : Int → Int} {b w : Int} (hk : 0 ≤ w) : nowK v b w + bZ (decide (reaZ v b (w / 3) (w % 3 + 1) false = 0)) = nowK v b (1 + w) := by
  unfold nowK; rw [sumN_s hk, bZ_if]
theorem afnK_s {v : Int → Int} {c d t : Int} (hk : 0 ≤ t) : afnK v c d t + bZ (decide (d ≤ tideZ v t - v c)) = afnK v c d (1 + t) := by
  unfold afnK; rw [sumN_s hk]; rfl
theorem onesK_s {x : Int32} {k : Int} (hk : 0 ≤ k) : onesK x k + bZ (btI x k) = onesK x (1 + k) := by
  unfold onesK; rw [sumN_s hk]
theorem agr_y {v : Int → Int} {k : Int} (hk : 0 ≤ k) (h1 : v (74 + 5 * k) = 0) (h2 : (onB v k && floB v k) = false) : 1 + agrK v k = agrK v (1 + k) := by
  have ho : onB v k = true := decide_eq_true h1
  rw [ho, Bool.true_and] at h2
  unfold agrK; rw [sumN_s hk, if_pos ⟨ho, h2⟩, Int.add_comm]
theorem agr_n1 {v : Int → Int} {k : Int} (hk : 0 ≤ k) (h1 : ¬ v (74 + 5 * k) = 0) : agrK v k = agrK v (1 + k) := by
  have ho : onB v k = false := decide_eq_false h1
  unfold agrK; rw [sumN_s hk, if_neg (fun z => by rw [ho] at z; cases z.1), Int.add_zero]
theorem agr_n2 {v : Int → Int} {k : Int} (hk : 0 ≤ k) (h2 : (onB v k && floB v k) = true) : agrK v k = agrK v (1 + k) := by
  rw [Bool.and_eq_true] at h2
  unfold agrK; rw [sumN_s hk, if_neg (fun z => by rw [h2.2] at z; cases z.2), Int.add_zero]
theorem sco_y {v : Int → Int} {p k : Int} (hk : 0 ≤ k) (h1 : v (74 + 5 * k) = 1) (h2 : v (72 + 5 * k) = p) : scoK v p k + v (73 + 5 * k) = scoK v p (1 + k) := by
  unfold scoK; rw [sumN_s hk, if_pos ⟨h2, h1⟩]
theorem sco_n {v : Int → Int} {p k : Int} (hk : 0 ≤ k) (h : ¬ (v (74 + 5 * k) = 1 ∧ v (72 + 5 * k) = p)) : scoK v p k = scoK v p (1 + k) := by
  unfold scoK; rw [sumN_s hk, if_neg (fun z => h ⟨z.2, z.1⟩), Int.add_zero]
theorem mvs_now {v : Int → Int} {b : Int} (h : v (72 + 5 * b) = v 126 % 2) : mvsZ v b = nowK v b 12 := by
  unfold mvsZ nowK
  simp only [rea_any h]
  rfl
theorem mmv_y {v : Int → Int} {k : Int} (hk : 0 ≤ k) (h : v (72 + 5 * k) = v 126 % 2) : mmvK v k + nowK v k 12 = mmvK v (1 + k) := by
  unfold mmvK; rw [sumN_s hk, if_pos h, mvs_now h]
theorem mmv_n {v : Int → Int} {k : Int} (hk : 0 ≤ k) (h : ¬ v (72 + 5 * k) = v 126 % 2) : mmvK v k = mmvK v (1 + k) := by
  unfold mmvK; rw [sumN_s hk, if_neg h, Int.add_zero]
theorem cntK_rng (v : Int → Int) (x : Int) {k : Int} (hk : 0 ≤ k ∧ k ≤ 10) : 0 ≤ cntK v x k ∧ cntK v x k ≤ 10 := by
  have := sumN_rng (f := fun j => if v (74 + 5 * j) = x then 1 else 0) (m := 1) (fun j => by split <;> omega) k.toNat
  unfold cntK; omega
theorem agrK_rng (v : Int → Int) {k : Int} (hk : 0 ≤ k ∧ k ≤ 10) : 0 ≤ agrK v k ∧ agrK v k ≤ 10 := by
  have := sumN_rng (f := fun j => if onB v j = true ∧ floB v j = false then 1 else 0) (m := 1) (fun j => by split <;> omega) k.toNat
  unfold agrK; omega
theorem nowK_rng (v : Int → Int) (b : Int) {k : Int} (hk : 0 ≤ k ∧ k ≤ 12) : 0 ≤ nowK v b k ∧ nowK v b k ≤ 12 := by
  have := sumN_rng (f := fun j => if reaZ v b (j / 3) (j % 3 + 1) false = 0 then 1 else 0) (m := 1) (fun j => by split <;> omega) k.toNat
  unfold nowK; omega
theorem afnK_rng (v : Int → Int) (c d : Int) {t : Int} (hk : 0 ≤ t ∧ t ≤ 24) : 0 ≤ afnK v c d t ∧ afnK v c d t ≤ t := by
  have := sumN_rng (f := fun j => bZ (wetB v c d j)) (m := 1) (fun j => bZ_rng _) t.toNat
  unfold afnK; omega
theorem onesK_rng (x : Int32) {k : Int} (hk : 0 ≤ k ∧ k ≤ 10) : 0 ≤ onesK x k ∧ onesK x k ≤ 10 := by
  have := sumN_rng (f := fun j => bZ (btI x j)) (m := 1) (fun j => bZ_rng _) k.toNat
  unfold onesK; omega
theorem sum_up {f : Int → Int} {m : Int} (h : ∀ n : Nat, (n : Int) ≤ 10 → 0 ≤ sumN f n ∧ sumN f n ≤ m * n) {k : Int} (hk : 0 ≤ k ∧ k ≤ 10) : 0 ≤ sumN f k.toNat ∧ sumN f k.toNat ≤ m * k := by
  have := h k.toNat (by omega)
  rwa [Int.toNat_of_nonneg hk.1] at this
theorem sum_10 {f : Int → Int} {m : Int} (hm : 0 ≤ m) (hf : ∀ j : Int, 0 ≤ j → j < 10 → 0 ≤ f j ∧ f j ≤ m) : ∀ n : Nat, n ≤ 10 → 0 ≤ sumN f n ∧ sumN f n ≤ m * n := by
  intro n
  induction n with
  | zero => intro _; exact ⟨Int.le_refl _, by show (0 : Int) ≤ _; simp⟩
  | succ n ih =>
    intro hn
    have h1 := ih (by omega)
    have h2 := hf n (by omega) (by omega)
    show 0 ≤ sumN f n + f n ∧ sumN f n + f n ≤ m * ((n + 1 : Nat) : Int)
    rw [show m * ((n + 1 : Nat) : Int) = m * n + m by rw [Int.natCast_succ, Int.mul_add, Int.mul_one]]
    omega
theorem scoK_rng {v : Int → Int} (w : Wf v) (p : Int) {k : Int} (hk : 0 ≤ k ∧ k ≤ 10) : 0 ≤ scoK v p k ∧ scoK v p k ≤ 30 := by
  have h := sum_10 (f := fun j => if v (72 + 5 * j) = p ∧ v (74 + 5 * j) = 1 then v (73 + 5 * j) else 0) (m := 3) (by omega) (fun j h1 h2 => by
    have := w.b j ⟨h1, h2⟩
    show 0 ≤ (if v (72 + 5 * j) = p ∧ v (74 + 5 * j) = 1 then v (73 + 5 * j) else 0) ∧ (if v (72 + 5 * j) = p ∧ v (74 + 5 * j) = 1 then v (73 + 5 * j) else 0) ≤ 3
    split <;> omega) k.toNat (by omega)
  unfold scoK; omega
theorem mmvK_rng {v : Int → Int} {k : Int} (hk : 0 ≤ k ∧ k ≤ 10) : 0 ≤ mmvK v k ∧ mmvK v k ≤ 120 := by
  have h := sum_10 (f := fun j => if v (72 + 5 * j) = v 126 % 2 then mvsZ v j else 0) (m := 12) (by omega) (fun j h1 h2 => by
    have := mvsZ_rng v j
    show 0 ≤ (if v (72 + 5 * j) = v 126 % 2 then mvsZ v j else 0) ∧ (if v (72 + 5 * j) = v 126 % 2 then mvsZ v j else 0) ≤ 12
    split <;> omega) k.toNat (by omega)
  unfold mmvK; omega
theorem sco_rng {v : Int → Int} (w : Wf v) (p : Int) : 0 ≤ scoZ v p ∧ scoZ v p ≤ 30 := scoK_rng w p w.n
theorem agr_rng {v : Int → Int} (w : Wf v) : 0 ≤ agrZ v ∧ agrZ v ≤ 10 := agrK_rng v w.n
theorem mmv_rng {v : Int → Int} (w : Wf v) : 0 ≤ mmvZ v ∧ mmvZ v ≤ 120 := mmvK_rng w.n
theorem wat_is (v : Int → Int) (c : Int) : (watZ v c = tideZ v (v 126) - v c ∧ 0 ≤ tideZ v (v 126) - v c) ∨ (watZ v c = 0 ∧ tideZ v (v 126) - v c ≤ 0) := by
  unfold watZ maxZ; split <;> omega
theorem set_rng {v : Int → Int} (w : Wf v) {k : Int} : 0 ≤ setZ v k ∧ setZ v k ≤ 99 := by
  have := w.s
  unfold setZ; (repeat' split) <;> omega
theorem floR_rng {v : Int → Int} (w : Wf v) (b : Int) : -5 ≤ floR v b ∧ floR v b ≤ 24 := by
  have hp := perZ_rng w
  unfold floR
  split
  · omega
  · split
    · omega
    · rcases fir_lst (v := v) (c := v (75 + 5 * b)) (d := v (73 + 5 * b)) (t := v 126) (perZ v).toNat 0 (by omega) with ⟨h, -⟩ | ⟨h, -, -⟩ <;> omega
theorem homR_rng {v : Int → Int} (w : Wf v) (b y : Int) : -5 ≤ homR v b y ∧ homR v b y ≤ 100 := by
  have ht := w.t
  have hs := w.s
  unfold homR
  split
  · omega
  · split
    · omega
    · split
      · omega
      · split
        · have := fwZ_rng w (v (72 + 5 * b)) (v (73 + 5 * b)) (v (75 + 5 * b)) (v 126) (by omega); omega
        · rcases bwN_rng (v := v) (P := v (72 + 5 * b)) (D := v (73 + 5 * b)) (c := v (75 + 5 * b)) (f := v 126) (v 125 + 1 - v 126).toNat (v 126) with h | h
          · have : bwZ v (v (72 + 5 * b)) (v (73 + 5 * b)) (v (75 + 5 * b)) (v 126) = -5 := h
            omega
          · have h2 : 1 + v 126 - v 126 ≤ bwZ v (v (72 + 5 * b)) (v (73 + 5 * b)) (v (75 + 5 * b)) (v 126) ∧ bwZ v (v (72 + 5 * b)) (v (73 + 5 * b)) (v (75 + 5 * b)) (v 126) ≤ v 126 + (v 125 + 1 - v 126).toNat - v 126 := h
            omega
theorem besR_rng {v : Int → Int} (w : Wf v) : -5 ≤ besR v ∧ besR v ≤ 1000 := by
  have hn := w.n
  rcases bes_form w with ⟨h, -⟩ | ⟨-, h | ⟨b, d, s, h1, h2, h3, h4⟩⟩ <;> omega
theorem bst_rng {v : Int → Int} (w : Wf v) : ∀ j : Nat, j ≤ 12 * (v 127).toNat → (0 ≤ (bstN v j).1 ∧ (bstN v j).1 ≤ 3003) ∧ (-5 ≤ (bstN v j).2 ∧ (bstN v j).2 ≤ 1000) := by
  intro j hj
  have hn := w.n
  constructor
  · induction j with
    | zero => exact ⟨Int.le_refl _, by show (0 : Int) ≤ 3003; omega⟩
    | succ j ih =>
      have h1 := ih (by omega)
      have h2 := worZ_rng w ((j : Int) / 3 % 4) ((j : Int) % 3 + 1) (b := (j : Int) / 12) (by omega)
      unfold bstN
      split
      · exact h2
      · exact h1
  · rcases bst_form (v := v) j with h | ⟨b, d, s, h1, h2, h3, h4⟩ <;> omega
theorem afl_is {v : Int → Int} {c d : Int} (hc : 0 ≤ c ∧ c < 36) (hd : 1 ≤ d ∧ d < 4) : aflF v c d = FP.fdiv (FP.i2f (iI (afnZ v c d))) (FP.i2f (iI (perZ v))) := by
  unfold aflF
  rw [if_pos ⟨hc, hd⟩]
theorem rea_1 {v : Int → Int} {b d n : Int} (h : overB v = true) : reaZ v b d n false = 1 := by unfold reaZ; rw [if_pos h]
theorem rea_2 {v : Int → Int} {b d n : Int} (h : overB v = false) (h2 : ¬ v (74 + 5 * b) = 0) : reaZ v b d n false = 2 := by
  have ho : onB v b = false := decide_eq_false h2
  unfold reaZ; rw [if_neg (by rw [h]; decide), if_pos ho]
theorem rea_3 {v : Int → Int} {b d n : Int} (h : overB v = false) (h2 : v (74 + 5 * b) = 0) (h3 : ¬ v (72 + 5 * b) = v 126 % 2) : reaZ v b d n false = 3 := by
  have ho : ¬ onB v b = false := by unfold onB; rw [decide_eq_true h2]; decide
  unfold reaZ; rw [if_neg (by rw [h]; decide), if_neg ho, if_pos ⟨rfl, h3⟩]
theorem rea_4 {v : Int → Int} {b d n : Int} (h : overB v = false) (h2 : v (74 + 5 * b) = 0) (h3 : v (72 + 5 * b) = v 126 % 2) (h4 : (onB v b && floB v b) = false) : reaZ v b d n false = 4 := by
  have ho : onB v b = true := decide_eq_true h2
  rw [ho, Bool.true_and] at h4
  unfold reaZ; rw [if_neg (by rw [h]; decide), if_neg (by rw [ho]; decide), if_neg (fun z => z.2 h3), if_pos h4]
theorem rea_5 {v : Int → Int} {b d n : Int} (h : overB v = false) (h2 : v (74 + 5 * b) = 0) (h3 : v (72 + 5 * b) = v 126 % 2) (h4 : (onB v b && floB v b) = true) : reaZ v b d n false = 0 ∨ 4 < reaZ v b d n false := by
  have ho : onB v b = true := decide_eq_true h2
  rw [ho, Bool.true_and] at h4
  unfold reaZ; rw [if_neg (by rw [h]; decide), if_neg (by rw [ho]; decide), if_neg (fun z => z.2 h3), if_neg (by rw [h4]; decide)]
  (repeat' split) <;> omega
theorem atZ_on {v : Int → Int} {b : Int} (h : v (74 + 5 * b) = 0) : atZ v b = v (75 + 5 * b) := by unfold atZ; rw [if_pos h]
theorem atZ_off {v : Int → Int} {b : Int} (h : ¬ v (74 + 5 * b) = 0) : atZ v b = -5 := by unfold atZ; rw [if_neg h]
theorem atZ_rng {v : Int → Int} (w : Wf v) {b : Int} (hb : 0 ≤ b ∧ b < 10) : (v (74 + 5 * b) = 0 ∧ atZ v b = v (75 + 5 * b) ∧ 0 ≤ atZ v b ∧ atZ v b < 36) ∨ (¬ v (74 + 5 * b) = 0 ∧ atZ v b = -5) := by
  have hw := w.b b hb
  by_cases h : v (74 + 5 * b) = 0
  · have := atZ_on h; left; omega
  · exact Or.inr ⟨h, atZ_off h⟩
/-- whether a boat floats, by the water over its cell -/
theorem flo_wat {v : Int → Int} {b : Int} (hd : 1 ≤ v (73 + 5 * b)) (h : v (74 + 5 * b) = 0) : (onB v b && floB v b) = true ↔ v (73 + 5 * b) ≤ watZ v (v (75 + 5 * b)) := by
  have ho : onB v b = true := decide_eq_true h
  rw [ho, Bool.true_and]
  unfold floB wetB
  rw [decide_eq_true_eq]
  have := wat_is v (v (75 + 5 * b))
  omega
theorem flo_off {v : Int → Int} {b : Int} (h : ¬ v (74 + 5 * b) = 0) : (onB v b && floB v b) = false := by
  have ho : onB v b = false := decide_eq_false h
  rw [ho, Bool.false_and]
theorem hom_off {v : Int → Int} {b : Int} (hb : 0 ≤ b ∧ b < v 127) (h : ¬ v (74 + 5 * b) = 0) : homR v b 0 = -4 ∧ floR v b = -4 := by
  have ho : onB v b = false := decide_eq_false h
  unfold homR floR
  rw [if_neg (by omega), if_neg (by omega), if_pos ho, if_neg (by omega), if_pos ho]
  exact ⟨rfl, rfl⟩
theorem wai_over {v : Int → Int} (h : overB v = true) : waiR v = -4 ∧ waiV v = v := by
  unfold waiR waiV
  rw [if_pos h, if_pos h]; exact ⟨rfl, rfl⟩
theorem wai_on {v : Int → Int} (w : Wf v) (h : overB v = false) : waiR v = tideZ (waiV v) (waiV v 126) ∧ waiV v = pasV v ∧ waiV v 126 = 1 + v 126 ∧ waiV v 127 = v 127 ∧ waiV v 128 = v 128 ∧ cntZ (waiV v) 2 = cntZ v 2 + onesZ (danR v 0 ||| danR v 1) := by
  have hn := w.n
  have e : waiV v = pasV v := by unfold waiV; rw [if_neg (by rw [h]; decide)]
  have e2 : waiR v = tideZ (pasV v) (pasV v 126) := by unfold waiR; rw [if_neg (by rw [h]; decide)]
  rw [e, e2, pas_cnt w h]
  exact ⟨rfl, rfl, pasV_t, pasV_o (by omega) (by omega), pasV_o (by omega) (by omega), rfl⟩
theorem wai_hit {v : Int → Int} (w : Wf v) (h : overB v = false) {j : Int} (hj : 0 ≤ j ∧ j < 10) (hb : bZ (btI (danR v 0 ||| danR v 1) j) = 1) : waiV v (74 + 5 * j) = 2 := by
  have e : waiV v = pasV v := by unfold waiV; rw [if_neg (by rw [h]; decide)]
  rw [bZ_eq1, dan_all w h hj, Bool.and_eq_true, decide_eq_true_eq] at hb
  rw [e]
  exact pas_hit hj hb.1 hb.2
theorem mov_hit {v : Int → Int} (w : Wf v) {b d n j : Int} (he : errZ v b d n = 0) (hr : reaZ v b d n false = 0) (hj : 0 ≤ j ∧ j < 10) (hjb : ¬ j = b) (hb : bZ (btI (danR v 0 ||| danR v 1) j) = 1) : saiV v b d n (74 + 5 * j) = 2 := by
  rw [bZ_eq1, dan_all w (rea0 hr).1 hj, Bool.and_eq_true, decide_eq_true_eq] at hb
  exact sai_hit w he hr ⟨hj.1, hb.1⟩ hjb hb.2
theorem sai_no {v : Int → Int} {b d n : Int} (he : errZ v b d n = 0) (hr : ¬ reaZ v b d n false = 0) : saiR v b d n = -10 - reaZ v b d n false ∧ saiV v b d n = v := by
  have e := saiR_r he hr
  have hz := reaZ_rng v b d n false
  refine ⟨e, ?_⟩
  unfold saiV
  rw [if_neg (by omega)]
/-- a record made by an act and taken again -/
theorem und_act {r n : Int} {g : Nat → Int → Int} {v u : Int → Int} (hr : 0 ≤ r) (hn : 0 ≤ n ∧ n ≤ 4) : undV (actN r n) (actG r n g v) u = v ∧ 0 ≤ undR (actN r n) ∧ (0 ≤ undN (actN r n) ∧ undN (actN r n) ≤ 4) := by
  have e1 : actN r n = recN n := by unfold actN; rw [if_pos hr]
  have e2 : actG r n g v = recG n g v := by unfold actG; rw [if_pos hr]
  rw [e1, e2]
  unfold undV undR undN recN recG
  by_cases h : n = 4
  · rw [if_pos h, if_pos h]
    refine ⟨?_, by decide, by decide⟩
    rw [if_neg (by omega)]
    rfl
  · rw [if_neg h, if_neg h]
    refine ⟨?_, ?_, ?_⟩
    · rw [if_neg (by omega)]
      show (if (((n + 1 - 1).toNat : Nat) : Int) = n then v else g (n + 1 - 1).toNat) = v
      rw [if_pos (by omega)]
    · rw [if_neg (by omega)]; omega
    · rw [if_neg (by omega)]; omega
theorem act_rng {r n : Int} (hn : 0 ≤ n ∧ n ≤ 4) : 0 ≤ actN r n ∧ actN r n ≤ 4 := by
  unfold actN recN; (repeat' split) <;> omega
theorem bes_is {v : Int → Int} (h : overB v = false) : besR v = (bstN v (12 * v 127).toNat).2 := by
  unfold besR; rw [if_neg (by rw [h]; decide)]
theorem bes_ov {v : Int → Int} (h : overB v = true) : besR v = -4 := by
  unfold besR; rw [if_pos h]
theorem bst_y {v : Int → Int} {k : Int} (hk : 0 ≤ k) (h : (bstN v k.toNat).1 < worZ v (k / 12) (k / 3 % 4) (k % 3 + 1)) : (bstN v (1 + k).toNat).1 = worZ v (k / 12) (k / 3 % 4) (k % 3 + 1) ∧ (bstN v (1 + k).toNat).2 = 1 + (100 * (k / 12) + 10 * (k / 3 % 4)) + k % 3 := by
  rw [bst_s hk, if_pos h]; exact ⟨rfl, rfl⟩
theorem bst_n {v : Int → Int} {k : Int} (hk : 0 ≤ k) (h : ¬ (bstN v k.toNat).1 < worZ v (k / 12) (k / 3 % 4) (k % 3 + 1)) : bstN v (1 + k).toNat = bstN v k.toNat := by
  rw [bst_s hk, if_neg h]
theorem und_rng {n : Int} (hn : 0 ≤ n ∧ n ≤ 4) : -5 ≤ undR n ∧ undR n ≤ 4 := by
  unfold undR; split <;> omega
theorem sai_pos {v : Int → Int} {b d n : Int} (he : errZ v b d n = 0) (h : 0 ≤ saiR v b d n) : reaZ v b d n false = 0 := by
  by_cases hr : reaZ v b d n false = 0
  · exact hr
  · have e := saiR_r he hr
    have hz := reaZ_rng v b d n false
    omega
theorem sai_neg {v : Int → Int} (w : Wf v) {b d n : Int} (he : errZ v b d n = 0) (h : saiR v b d n < 0) : worZ v b d n = 0 ∧ saiV v b d n = v := by
  constructor
  · refine wor_no fun hr => ?_
    rw [saiR_k he hr] at h
    have := ramR_rng w (batZ v (golZ v b d n)) (by have := batZ_rng w (golZ v b d n); omega)
    omega
  · unfold saiV
    rw [if_neg (by omega)]
/-! what lays reads of an int -/
def lwK (w : Int32) : Int := (((w >>> (iI 9 &&& 31)).toBitVec.toNat % 2 ^ 2 : Nat) : Int)
def lwP (w : Int32) : Int := (((w >>> (iI 12 &&& 31)).toBitVec.toNat % 2 ^ 1 : Nat) : Int)
theorem lwK_rng (w : Int32) : 0 ≤ lwK w ∧ lwK w < 4 := by unfold lwK; omega
theorem lwP_rng (w : Int32) : 0 ≤ lwP w ∧ lwP w < 2 := by unfold lwP; omega
def valW (w : Int32) : Int := if lowZ w 4 = 0 then 1 + lowZ (w >>> (iI 2 &&& 31)) 3 else if lowZ w 4 = 1 then 1 + lowZ (w >>> (iI 2 &&& 31)) 4 else if lowZ w 4 = 2 then 1 + lowZ (w >>> (iI 2 &&& 31)) 3 else 20 + lowZ (w >>> (iI 2 &&& 31)) 40
theorem val_rng (w : Int32) : (lstZ (lowZ w 4) ≤ valW w ∧ valW w ≤ mstZ (lowZ w 4)) ∧ (1 ≤ valW w ∧ valW w ≤ 59) := by
  have h0 := lowZ_rng w (n := 4) (by omega)
  have h1 := lowZ_rng (w >>> (iI 2 &&& 31)) (n := 3) (by omega)
  have h2 := lowZ_rng (w >>> (iI 2 &&& 31)) (n := 4) (by omega)
  have h3 := lowZ_rng (w >>> (iI 2 &&& 31)) (n := 40) (by omega)
  unfold valW lstZ mstZ
  (repeat' split) <;> omega
theorem lay_h {v : Int → Int} {a h k : Int} (ha : (0 ≤ a ∧ a < 36) ∧ a ≠ 0 ∧ a ≠ 35) (hh : 0 ≤ h ∧ h ≤ 4) (ht : v 126 = 0) (w : Wf v) : layV v a h k a = h := by
  have hv := w.h a ha.1
  unfold layV layR
  rw [if_neg (show ¬ ¬ (0 ≤ a ∧ a < 36) by omega), if_neg (show ¬ ¬ (0 ≤ h ∧ h ≤ 4) by omega), if_neg (show ¬ (a = 0 ∨ a = 35 ∨ v 126 ≠ 0) by omega)]
  by_cases e : v a = h ∧ v (36 + a) = k
  · rw [if_pos e, if_neg (by omega)]; exact e.1
  · rw [if_neg e]
    rw [if_pos hv.1, updZ_n (by omega)]; exact updZ_s
/-! what turns and settings leave -/
theorem lay_126 {v : Int → Int} {x h k : Int} (hx : x < 36) {j : Int} (hj : 72 ≤ j) : layV v x h k j = v j := by
  unfold layV
  split
  · rw [updZ_n (by omega), updZ_n (by omega)]
  · rfl
theorem add_126 {v : Int → Int} (w : Wf v) {p d x : Int} : addV v p d x 126 = v 126 := by
  have hn := w.n
  unfold addV
  split
  · rename_i h
    have h10 : v 127 < 10 := by
      unfold addR at h
      (repeat' split at h) <;> omega
    rw [updZ_n (by omega), updZ_n (by omega), updZ_n (by omega), updZ_n (by omega), updZ_n (by omega), updZ_n (by omega)]
  · rfl
theorem chs_126 {v : Int → Int} {k x : Int} (hk : k < 4) {j : Int} (hj : 126 ≤ j) : chsV v k x j = v j := by
  unfold chsV
  split
  · rw [updZ_n (by omega)]
  · rfl
theorem wai_127 {v : Int → Int} (w : Wf v) : waiV v 127 = v 127 := by
  have hn := w.n
  unfold waiV
  split
  · rfl
  · exact pasV_o (by omega) (by omega)
theorem sai_127 {v : Int → Int} (w : Wf v) {b d n : Int} (he : errZ v b d n = 0) : saiV v b d n 127 = v 127 := by
  by_cases hr : reaZ v b d n false = 0
  · exact (sai_stp w he hr).2.1
  · rw [(sai_no he hr).2]
theorem bes_get {v : Int → Int} (w : Wf v) (h : 0 ≤ besR v) : ∃ b d s : Int, (0 ≤ b ∧ b < v 127) ∧ (0 ≤ d ∧ d < 4) ∧ (1 ≤ s ∧ s ≤ 3) ∧ besR v = 100 * b + 10 * d + s := by
  rcases bes_form w with ⟨h1, -⟩ | ⟨-, h1 | h1⟩
  · omega
  · omega
  · exact h1
