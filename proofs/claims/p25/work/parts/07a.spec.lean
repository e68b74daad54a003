/-! a well-formed row: what every state of the game keeps -/
def Wf (v : Int → Int) : Prop :=
  (∀ c : Int, 0 ≤ c → c < 36 → 0 ≤ v c ∧ v c ≤ 4) ∧
  (∀ c : Int, 0 ≤ c → c < 36 → 0 ≤ v (36 + c) ∧ v (36 + c) ≤ 1) ∧
  (0 ≤ v 127 ∧ v 127 ≤ 10) ∧
  (∀ b : Int, 0 ≤ b → b < 10 → (0 ≤ v (72 + 5 * b) ∧ v (72 + 5 * b) ≤ 1) ∧ (0 ≤ v (73 + 5 * b) ∧ v (73 + 5 * b) ≤ 3) ∧ (0 ≤ v (74 + 5 * b) ∧ v (74 + 5 * b) ≤ 2) ∧ (0 ≤ v (75 + 5 * b) ∧ v (75 + 5 * b) ≤ 35)) ∧
  (∀ b : Int, 0 ≤ b → b < v 127 → 1 ≤ v (73 + 5 * b) ∧ (v (74 + 5 * b) = 0 → v (75 + 5 * b) ≠ 0 ∧ v (75 + 5 * b) ≠ 35)) ∧
  ((0 ≤ v 122 ∧ v 122 ≤ 3) ∧ (1 ≤ v 123 ∧ v 123 ≤ 4) ∧ (1 ≤ v 124 ∧ v 124 ≤ 3) ∧ (10 ≤ v 125 ∧ v 125 ≤ 99)) ∧
  (0 ≤ v 126 ∧ v 126 ≤ 100)
theorem Wf.h {v : Int → Int} (w : Wf v) (c : Int) (h : 0 ≤ c ∧ c < 36) : 0 ≤ v c ∧ v c ≤ 4 := w.1 c h.1 h.2
theorem Wf.r {v : Int → Int} (w : Wf v) (c : Int) (h : 0 ≤ c ∧ c < 36) : 0 ≤ v (36 + c) ∧ v (36 + c) ≤ 1 := w.2.1 c h.1 h.2
theorem Wf.n {v : Int → Int} (w : Wf v) : 0 ≤ v 127 ∧ v 127 ≤ 10 := w.2.2.1
theorem Wf.b {v : Int → Int} (w : Wf v) (b : Int) (h : 0 ≤ b ∧ b < 10) : (0 ≤ v (72 + 5 * b) ∧ v (72 + 5 * b) ≤ 1) ∧ (0 ≤ v (73 + 5 * b) ∧ v (73 + 5 * b) ≤ 3) ∧ (0 ≤ v (74 + 5 * b) ∧ v (74 + 5 * b) ≤ 2) ∧ (0 ≤ v (75 + 5 * b) ∧ v (75 + 5 * b) ≤ 35):= w.2.2.2.1 b h.1 h.2
theorem Wf.bb {v : Int → Int} (w : Wf v) (b : Int) (h : 0 ≤ b ∧ b < v 127) : 1 ≤ v (73 + 5 * b) ∧ (v (74 + 5 * b) = 0 → v (75 + 5 * b) ≠ 0 ∧ v (75 + 5 * b) ≠ 35) := w.2.2.2.2.1 b h.1 h.2
theorem Wf.s {v : Int → Int} (w : Wf v) : (0 ≤ v 122 ∧ v 122 ≤ 3) ∧ (1 ≤ v 123 ∧ v 123 ≤ 4) ∧ (1 ≤ v 124 ∧ v 124 ≤ 3) ∧ (10 ≤ v 125 ∧ v 125 ≤ 99) := w.2.2.2.2.2.1
theorem Wf.t {v : Int → Int} (w : Wf v) : 0 ≤ v 126 ∧ v 126 ≤ 100 := w.2.2.2.2.2.2
/-! the tide -/
def stepZ (v : Int → Int) (t : Int) : Int := t / v 124 % (2 * v 123)
def tideZ (v : Int → Int) (t : Int) : Int := v 122 + (if stepZ v t ≤ v 123 then stepZ v t else 2 * v 123 - stepZ v t)
theorem stepZ_rng {v : Int → Int} (w : Wf v) (t : Int) : 0 ≤ stepZ v t ∧ stepZ v t < 2 * v 123 := by
  have := w.s
  unfold stepZ
  exact ⟨Int.emod_nonneg _ (by omega), Int.emod_lt_of_pos _ (by omega)⟩
theorem tideZ_rng {v : Int → Int} (w : Wf v) (t : Int) : 0 ≤ tideZ v t ∧ tideZ v t ≤ 7 := by
  have h1 := w.s
  have h2 := stepZ_rng w t
  unfold tideZ
  split <;> omega
def wetB (v : Int → Int) (c d t : Int) : Bool := decide (d ≤ tideZ v t - v c)
def wreckB (v : Int → Int) (c d t : Int) : Bool := decide (v (36 + c) = 1) && (wetB v c d t && !wetB v c d (1 + t))
/-! sums over the first n -/
def sumN (f : Int → Int) : Nat → Int
  | 0 => 0
  | n + 1 => sumN f n + f n
theorem sumN_s {f : Int → Int} {k : Int} (h : 0 ≤ k) : sumN f (1 + k).toNat = sumN f k.toNat + f k := by
  rw [show (1 + k).toNat = k.toNat + 1 by omega]
  show sumN f k.toNat + f (k.toNat : Int) = _
  rw [Int.toNat_of_nonneg h]
theorem sumN_rng {f : Int → Int} {m : Int} (hf : ∀ k : Int, 0 ≤ f k ∧ f k ≤ m) : ∀ n : Nat, 0 ≤ sumN f n ∧ sumN f n ≤ m * n := by
  intro n
  induction n with
  | zero => simp [sumN]
  | succ n ih =>
    have h := hf n
    show 0 ≤ sumN f n + f n ∧ sumN f n + f n ≤ m * ((n + 1 : Nat) : Int)
    rw [show m * ((n + 1 : Nat) : Int) = m * n + m by rw [Int.natCast_succ, Int.mul_add, Int.mul_one]]
    omega
theorem sumN_cong {f g : Int → Int} {n : Nat} (h : ∀ k : Int, 0 ≤ k → k < n → f k = g k) : sumN f n = sumN g n := by
  induction n with
  | zero => rfl
  | succ n ih =>
    show sumN f n + f n = sumN g n + g n
    rw [ih (fun k h1 h2 => h k h1 (by omega)), h n (by omega) (by omega)]
/-! boats -/
def onB (v : Int → Int) (b : Int) : Bool := decide (v (74 + 5 * b) = 0)
def floB (v : Int → Int) (b : Int) : Bool := wetB v (v (75 + 5 * b)) (v (73 + 5 * b)) (v 126)
def hitB (v : Int → Int) (b : Int) : Bool := onB v b && wreckB v (v (75 + 5 * b)) (v (73 + 5 * b)) (v 126)
def batN (v : Int → Int) (cell : Int) : Nat → Int → Int
  | 0, _ => -5
  | n + 1, k => if v (74 + 5 * k) = 0 ∧ v (75 + 5 * k) = cell then k else batN v cell n (1 + k)
def batZ (v : Int → Int) (cell : Int) : Int := batN v cell (v 127).toNat 0
theorem batN_rng (v : Int → Int) (cell : Int) : ∀ (n : Nat) (k : Int), 0 ≤ k → batN v cell n k = -5 ∨ (k ≤ batN v cell n k ∧ batN v cell n k < k + n ∧ v (74 + 5 * batN v cell n k) = 0 ∧ v (75 + 5 * batN v cell n k) = cell) := by
  intro n
  induction n with
  | zero => intro k _; exact Or.inl rfl
  | succ n ih =>
    intro k hk
    unfold batN
    split
    · rename_i h
      exact Or.inr ⟨by omega, by omega, h.1, h.2⟩
    · rcases ih (1 + k) (by omega) with h | ⟨h1, h2, h3, h4⟩
      · exact Or.inl h
      · exact Or.inr ⟨by omega, by omega, h3, h4⟩
theorem batZ_rng {v : Int → Int} (w : Wf v) (cell : Int) : batZ v cell = -5 ∨ (0 ≤ batZ v cell ∧ batZ v cell < v 127 ∧ v (74 + 5 * batZ v cell) = 0 ∧ v (75 + 5 * batZ v cell) = cell) := by
  have h0 := w.n
  rcases batN_rng v cell (v 127).toNat 0 (by omega) with h | ⟨h1, h2, h3, h4⟩
  · exact Or.inl h
  · refine Or.inr ⟨h1, ?_, h3, h4⟩
    unfold batZ
    omega
def cntZ (v : Int → Int) (h : Int) : Int := sumN (fun k => if v (74 + 5 * k) = h then 1 else 0) (v 127).toNat
def agrZ (v : Int → Int) : Int := sumN (fun k => if onB v k = true ∧ floB v k = false then 1 else 0) (v 127).toNat
def scoZ (v : Int → Int) (p : Int) : Int := sumN (fun k => if v (72 + 5 * k) = p ∧ v (74 + 5 * k) = 1 then v (73 + 5 * k) else 0) (v 127).toNat
theorem cntZ_rng {v : Int → Int} (w : Wf v) (h : Int) : 0 ≤ cntZ v h ∧ cntZ v h ≤ 10 := by
  have h0 := w.n
  have := sumN_rng (f := fun k => if v (74 + 5 * k) = h then 1 else 0) (m := 1) (fun k => by split <;> omega) (v 127).toNat
  unfold cntZ
  omega
def overB (v : Int → Int) : Bool := decide (v 125 < v 126 ∨ cntZ v 0 = 0)
def setZ (v : Int → Int) (k : Int) : Int := if k = 0 then v 122 else if k = 1 then v 123 else if k = 2 then v 124 else v 125
def maxZ (a b : Int) : Int := if a < b then b else a
def minZ (a b : Int) : Int := if b < a then b else a
theorem ediv_rng {a b : Int} (h : 0 ≤ a) (hb : 0 < b) : 0 ≤ a / b ∧ a / b ≤ a := ⟨Int.ediv_nonneg h (by omega), Int.ediv_le_self _ h⟩
def perZ (v : Int → Int) : Int := 2 * v 123 * v 124
theorem perZ_rng {v : Int → Int} (w : Wf v) : 2 ≤ perZ v ∧ perZ v ≤ 24 := by
  have h := w.s
  unfold perZ
  have h1 : v 124 = 1 ∨ v 124 = 2 ∨ v 124 = 3 := by omega
  rcases h1 with e | e | e <;> rw [e] <;> omega
def watZ (v : Int → Int) (c : Int) : Int := maxZ 0 (tideZ v (v 126) - v c)
theorem batN_hit {v : Int → Int} {x k m : Int} (hk : k < m) (h : v (74 + 5 * k) = 0 ∧ v (75 + 5 * k) = x) : batN v x (m - k).toNat k = k := by
  rw [show (m - k).toNat = (m - k - 1).toNat + 1 by omega]
  unfold batN
  rw [if_pos h]
theorem batN_miss {v : Int → Int} {x k m : Int} (h0 : 0 ≤ k) (hk : k < m) (h : ¬ (v (74 + 5 * k) = 0 ∧ v (75 + 5 * k) = x)) : batN v x (m - k).toNat k = batN v x (m - (1 + k)).toNat (1 + k) := by
  rw [show (m - k).toNat = (m - (1 + k)).toNat + 1 by omega]
  conv => lhs; unfold batN
  rw [if_neg h]
theorem batN_end {v : Int → Int} {x k m : Int} (hk : m ≤ k) : batN v x (m - k).toNat k = -5 := by
  rw [show (m - k).toNat = 0 by omega]
  rfl
