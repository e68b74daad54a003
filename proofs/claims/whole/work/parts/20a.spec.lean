/-! the reference's calls that search -/
def hoxR (v : Int → Int) (b y : Int) : Int :=
  if ¬ (0 ≤ b ∧ b < v 127) then -1 else if y ≠ 0 ∧ y ≠ 1 then -2 else if onB v b = false then -4
  else if y = 0 then fwZ v (v (72 + 5 * b)) (v (73 + 5 * b)) (v (75 + 5 * b)) (v 126) else baZ v (v (72 + 5 * b)) (v (73 + 5 * b)) (v (75 + 5 * b))
abbrev hoxB (v : Int → Int) (b y : Int) : Prop := (0 ≤ b ∧ b < v 127) ∧ (y = 0 ∨ y = 1) ∧ onB v b = true
def hoxS (v : Int → Int) (b y : Int) (x : (Int → Bool) × (Int → Bool)) : (Int → Bool) × (Int → Bool) := if hoxB v b y ∧ y = 0 then fwAZ v (v (72 + 5 * b)) (v (73 + 5 * b)) (v (75 + 5 * b)) (v 126) x.2 else x
def hoxL (v : Int → Int) (b y : Int) (x : (Int → Int) × (Int → Int)) : (Int → Int) × (Int → Int) := if hoxB v b y ∧ y ≠ 0 then (lsA v (v (72 + 5 * b)) (v (73 + 5 * b)) x.1, dpN v (v (72 + 5 * b)) (v (73 + 5 * b)) (v 125 + 1 - v 126).toNat) else x
def worM (v : Int → Int) (b d n : Int) : Int :=
  if saiV v b d n (74 + 5 * b) = 1 then 2000 + saiV v b d n (73 + 5 * b)
  else if 0 < saiR v b d n then 1000 + saiR v b d n
  else if saiV v b d n (74 + 5 * b) = 0 then (if fwZ (saiV v b d n) (saiV v b d n (72 + 5 * b)) (saiV v b d n (73 + 5 * b)) (saiV v b d n (75 + 5 * b)) (saiV v b d n 126) = -5 then 0 else 900 - fwZ (saiV v b d n) (saiV v b d n (72 + 5 * b)) (saiV v b d n (73 + 5 * b)) (saiV v b d n (75 + 5 * b)) (saiV v b d n 126))
  else 0
def worA (v : Int → Int) (b d n : Int) (x : (Int → Bool) × (Int → Bool)) : (Int → Bool) × (Int → Bool) :=
  if saiV v b d n (74 + 5 * b) = 1 ∨ 0 < saiR v b d n ∨ saiV v b d n (74 + 5 * b) ≠ 0 then x else fwAZ (saiV v b d n) (saiV v b d n (72 + 5 * b)) (saiV v b d n (73 + 5 * b)) (saiV v b d n (75 + 5 * b)) (saiV v b d n 126) x.2
theorem sai_127 {v : Int → Int} {b d n : Int} (h : errZ v b d n = 0) (h2 : reaZ v b d n false = 0) (w : Wf v) : saiV v b d n = pasV (mvV v b d n) := by
  unfold saiV
  rw [if_pos]
  rw [saiR_k h h2]
  have hb := batZ_rng w (golZ v b d n)
  exact (ramR_rng w _ (by omega)).1
theorem mv_n {v : Int → Int} {b d n k : Int} (h : k < 72 ∨ (122 ≤ k ∧ k ≠ 128)) (hb : 0 ≤ b ∧ b < 10) (ho : batZ v (golZ v b d n) = -5 ∨ (0 ≤ batZ v (golZ v b d n) ∧ batZ v (golZ v b d n) < 10)) : mvV v b d n k = v k := by
  unfold mvV
  rw [updZ_n (by omega), updZ_n (by omega), updZ_n (by omega)]
  unfold ramV
  split
  · rfl
  · rw [updZ_n (by omega), updZ_n (by omega)]
theorem pasV_n {v : Int → Int} {k : Int} (h : k < 72 ∨ 122 ≤ k) (h6 : k ≠ 126) (hn : 0 ≤ v 127 ∧ v 127 ≤ 10) : pasV v k = v k := by
  unfold pasV
  rw [updZ_n h6]
  exact pasP_o (by omega)
theorem worM_rng {v : Int → Int} (w : Wf v) {b : Int} (d n : Int) (hb : 0 ≤ b ∧ b < v 127) : 0 ≤ worM v b d n ∧ worM v b d n ≤ 2003 := by
  have wu := w.sai b d n
  have hn := w.n
  have h1 := wu.b b (by omega)
  have h2 := saiR_rng w b d n
  have h3 := wu.t
  have h4 := fwZ_rng wu (saiV v b d n (72 + 5 * b)) (saiV v b d n (73 + 5 * b)) (saiV v b d n (75 + 5 * b)) (saiV v b d n 126) (by omega)
  unfold worM
  (repeat' split) <;> omega
def wmZ (v : Int → Int) (k : Int) : Int := if reaZ v (k / 12) (k / 3 % 4) (k % 3 + 1) false = 0 then worM v (k / 12) (k / 3 % 4) (k % 3 + 1) else 0
def bmN (v : Int → Int) : Nat → Int × Int
  | 0 => (0, -5)
  | j + 1 => if (bmN v j).1 < wmZ v j then (wmZ v j, 1 + 10 * ((j : Int) / 3 % 4) + (j : Int) % 3 + 100 * ((j : Int) / 12)) else bmN v j
def bmY (v y : Int → Int) : Nat → Int → Int
  | 0 => y
  | j + 1 => if reaZ v ((j : Int) / 12) ((j : Int) / 3 % 4) ((j : Int) % 3 + 1) false = 0 then saiV v ((j : Int) / 12) ((j : Int) / 3 % 4) ((j : Int) % 3 + 1) else bmY v y j
def bmA (v : Int → Int) (x : (Int → Bool) × (Int → Bool)) : Nat → (Int → Bool) × (Int → Bool)
  | 0 => x
  | j + 1 => if reaZ v ((j : Int) / 12) ((j : Int) / 3 % 4) ((j : Int) % 3 + 1) false = 0 then worA v ((j : Int) / 12) ((j : Int) / 3 % 4) ((j : Int) % 3 + 1) (bmA v x j) else bmA v x j
theorem bmN_s {v : Int → Int} {k : Int} (h : 0 ≤ k) : bmN v (1 + k).toNat = if (bmN v k.toNat).1 < wmZ v k then (wmZ v k, 1 + 10 * (k / 3 % 4) + k % 3 + 100 * (k / 12)) else bmN v k.toNat := by
  rw [show (1 + k).toNat = k.toNat + 1 by omega]
  conv => lhs; unfold bmN
  rw [Int.toNat_of_nonneg h]
theorem bmY_s {v y : Int → Int} {k : Int} (h : 0 ≤ k) : bmY v y (1 + k).toNat = if reaZ v (k / 12) (k / 3 % 4) (k % 3 + 1) false = 0 then saiV v (k / 12) (k / 3 % 4) (k % 3 + 1) else bmY v y k.toNat := by
  rw [show (1 + k).toNat = k.toNat + 1 by omega]
  conv => lhs; unfold bmY
  rw [Int.toNat_of_nonneg h]
theorem bmA_s {v : Int → Int} {x : (Int → Bool) × (Int → Bool)} {k : Int} (h : 0 ≤ k) : bmA v x (1 + k).toNat = if reaZ v (k / 12) (k / 3 % 4) (k % 3 + 1) false = 0 then worA v (k / 12) (k / 3 % 4) (k % 3 + 1) (bmA v x k.toNat) else bmA v x k.toNat := by
  rw [show (1 + k).toNat = k.toNat + 1 by omega]
  conv => lhs; unfold bmA
  rw [Int.toNat_of_nonneg h]
def besM (v : Int → Int) : Int := if overB v = true then -4 else (bmN v (12 * v 127).toNat).2
def beY (v y : Int → Int) : Int → Int := if overB v = true then y else bmY v y (12 * v 127).toNat
def beA (v : Int → Int) (x : (Int → Bool) × (Int → Bool)) : (Int → Bool) × (Int → Bool) := if overB v = true then x else bmA v x (12 * v 127).toNat
