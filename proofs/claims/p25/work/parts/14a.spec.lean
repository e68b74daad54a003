/-! the calls of the class, in integers -/
theorem layR_rng {v : Int → Int} (w : Wf v) (x h k : Int) : -5 ≤ layR v x h k ∧ layR v x h k ≤ 4 := by
  unfold layR
  split
  · omega
  · rename_i h1
    have := w.h x (by omega)
    (repeat' split) <;> omega
theorem addR_rng {v : Int → Int} (w : Wf v) (p dr x : Int) : -5 ≤ addR v p dr x ∧ addR v p dr x ≤ 10 := by
  have := w.n
  unfold addR
  (repeat' split) <;> omega
theorem chsR_rng {v : Int → Int} (w : Wf v) (k x : Int) : -5 ≤ chsR v k x ∧ chsR v k x ≤ 99 := by
  have := w.s
  unfold chsR setZ
  (repeat' split) <;> omega
theorem saiR_rng {v : Int → Int} (w : Wf v) (b d n : Int) : -16 ≤ saiR v b d n ∧ saiR v b d n ≤ 3 := by
  have hr := reaZ_rng v b d n false
  by_cases h1 : errZ v b d n = 0
  · by_cases h2 : reaZ v b d n false = 0
    · rw [saiR_k h1 h2]
      have hb := (err0 h1).1
      have ho := batZ_rng w (golZ v b d n)
      have := ramR_rng w (batZ v (golZ v b d n)) (by omega)
      omega
    · rw [saiR_r h1 h2]; omega
  · rw [(saiR_e h1).1]
    unfold errZ
    (repeat' split) <;> omega
theorem waiR_rng {v : Int → Int} (w : Wf v) : -4 ≤ waiR v ∧ waiR v ≤ 7 := by
  unfold waiR
  split
  · omega
  · rename_i h
    have ho := over0 (v := v) (by cases hb : overB v <;> first | rfl | exact absurd hb h)
    have wp := w.pas (by have := w.s; omega)
    have := tideZ_rng wp (pasV v 126)
    omega
theorem ordR_rng {v : Int → Int} (w : Wf v) (g : Int → Int) (p : Int) : -16 ≤ ordR v g p ∧ ordR v g p ≤ 10 := by
  unfold ordR
  split
  · have := layR_rng w (celZ g p) (ranZ 48 52 (g (3 + p))) (bZ (decide (g (4 + p) = 42))); omega
  · split
    · have := addR_rng w (ranZ 48 49 (g (1 + p))) (1 + ranZ 49 51 (g (2 + p))) (celZ g (3 + p)); omega
    · split
      · have := waiR_rng w; omega
      · have := saiR_rng w (ranZ 48 57 (g p)) (dirZ (g (1 + p))) (1 + ranZ 49 51 (g (2 + p))); omega
theorem Wf.ord {v : Int → Int} (w : Wf v) (g : Int → Int) (p : Int) : Wf (ordV v g p) := by
  unfold ordV
  split
  · exact w.lay _ _ _ (bZ_rng _)
  · split
    · exact w.add _ _ _
    · split
      · exact w.wai
      · exact w.sai _ _ _
/-- orders from a place on, some done already: how many, or an error; and the row then -/
def runN (v0 : Int → Int) (n : Int) (g : Int → Int) : Nat → Int → (Int → Int) → Int → Int × (Int → Int)
  | 0, c, v, _ => (c, v)
  | k + 1, c, v, p => if n ≤ p then (c, v) else if ordR v g p < 0 ∧ ordR v g p ≠ -5 then (ordR v g p, v0) else runN v0 n g k (1 + c) (ordV v g p) (1 + endZ g p)
def doaR (v : Int → Int) (n : Int) (g : Int → Int) : Int := if fltZ n g = -5 then (runN v n g 60 0 v 0).1 else -100 - fltZ n g
def doaV (v : Int → Int) (n : Int) (g : Int → Int) : Int → Int := if fltZ n g = -5 then (runN v n g 60 0 v 0).2 else v
def doaU (u v : Int → Int) (n : Int) (g : Int → Int) : Int → Int := if fltZ n g = -5 then v else u
theorem runN_0 {v0 v : Int → Int} {n : Int} {g : Int → Int} {k : Nat} {c p : Int} (h : n ≤ p) : runN v0 n g k c v p = (c, v) := by
  cases k with
  | zero => rfl
  | succ k => unfold runN; rw [if_pos h]
theorem runN_1 {v0 v : Int → Int} {n : Int} {g : Int → Int} {k c p : Int} (hk : 0 < k) (h : ¬ n ≤ p) : runN v0 n g k.toNat c v p = if ordR v g p < 0 ∧ ordR v g p ≠ -5 then (ordR v g p, v0) else runN v0 n g (k - 1).toNat (1 + c) (ordV v g p) (1 + endZ g p) := by
  rw [show k.toNat = (k - 1).toNat + 1 by omega]
  conv => lhs; unfold runN
  rw [if_neg h]
/-- behind an order of a text without a fault comes another, or the end -/
theorem flt_next {n : Int} {g : Int → Int} {k p : Int} (h0 : 0 ≤ p) (hk : 0 < k) (h : fltN n g k.toNat p = -5) : 0 ≤ endZ g p ∧ (n ≤ endZ g p ∨ fltN n g (k - 1).toNat (1 + endZ g p) = -5) := by
  have hr := endZ_rng g p h0
  rw [fltN_1 hk] at h
  split at h
  · omega
  · split at h
    · exact ⟨by omega, Or.inl (by omega)⟩
    · split at h
      · omega
      · exact ⟨by omega, Or.inr h⟩
theorem Wf.run {v0 : Int → Int} {n : Int} {g : Int → Int} (w0 : Wf v0) : ∀ (k : Nat) (c : Int) (v : Int → Int) (p : Int), Wf v → Wf (runN v0 n g k c v p).2 := by
  intro k
  induction k with
  | zero => intro c v p w; exact w
  | succ k ih =>
    intro c v p w
    unfold runN
    split
    · exact w
    · split
      · exact w0
      · exact ih _ _ _ (w.ord g p)
theorem Wf.doa {v : Int → Int} (w : Wf v) (n : Int) (g : Int → Int) : Wf (doaV v n g) := by
  unfold doaV
  split
  · exact w.run _ _ _ _ w
  · exact w
/-! what is told -/
def celR (v : Int → Int) (c k : Int) : Int := if ¬ (0 ≤ c ∧ c < 36) then -1 else if k = 0 then v c else if k = 1 then v (36 + c) else if k = 2 then watZ v c else if k = 3 then batZ v c else -2
def boaR (v : Int → Int) (b k : Int) : Int :=
  if ¬ (0 ≤ b ∧ b < v 127) then -1 else if k = 0 then v (72 + 5 * b) else if k = 1 then v (73 + 5 * b) else if k = 2 then v (74 + 5 * b) else if k = 3 then (if onB v b = true then v (75 + 5 * b) else -5)
  else if k = 4 then bZ (onB v b && floB v b) else if k = 5 then v (76 + 5 * b) else if k = 6 then mvsZ v b else -2
def tidR (v : Int → Int) (t : Int) : Int := if t < 0 ∨ 1000 < t then -1 else tideZ v t
def whyR (v : Int → Int) (b d n : Int) : Int := if errZ v b d n = 0 then reaZ v b d n false else errZ v b d n
def mmvZ (v : Int → Int) : Int := sumN (fun k => if v (72 + 5 * k) = v 126 % 2 then mvsZ v k else 0) (v 127).toNat
def cntR (v : Int → Int) (hn ln k : Int) : Int :=
  if k = 0 then v 126 else if k = 1 then v 126 % 2 else if k = 2 then tideZ v (v 126) else if k = 3 then scoZ v 0 else if k = 4 then scoZ v 1 else if k = 5 then v 127 else if k = 6 then cntZ v 0 else if k = 7 then cntZ v 1 else if k = 8 then cntZ v 2 else if k = 9 then agrZ v
  else if k = 10 then v 128 else if k = 11 then bZ (overB v) else if k = 12 then mmvZ v else if k = 13 then hn else if k = 14 then ln else if k = 15 then v 122 else if k = 16 then v 123 else if k = 17 then v 124 else if k = 18 then v 125 else -2
def afnZ (v : Int → Int) (c d : Int) : Int := sumN (fun t => bZ (wetB v c d t)) (perZ v).toNat
def aflF (v : Int → Int) (c d : Int) : UInt32 := if (0 ≤ c ∧ c < 36) ∧ (1 ≤ d ∧ d < 4) then FP.fdiv (FP.i2f (iI (afnZ v c d))) (FP.i2f (iI (perZ v))) else 3212836864
def firN (v : Int → Int) (c d t : Int) : Nat → Int → Int
  | 0, _ => -5
  | n + 1, k => if wetB v c d (k + t) = true then k else firN v c d t n (1 + k)
def floR (v : Int → Int) (b : Int) : Int := if ¬ (0 ≤ b ∧ b < v 127) then -1 else if onB v b = false then -4 else firN v (v (75 + 5 * b)) (v (73 + 5 * b)) (v 126) (perZ v).toNat 0
theorem firN_1 {v : Int → Int} {c d t n k : Int} (hn : 0 < n) : firN v c d t n.toNat k = if wetB v c d (k + t) = true then k else firN v c d t (n - 1).toNat (1 + k) := by
  rw [show n.toNat = (n - 1).toNat + 1 by omega]
  rfl
theorem firN_0 {v : Int → Int} {c d t n k : Int} (hn : n ≤ 0) : firN v c d t n.toNat k = -5 := by
  rw [show n.toNat = 0 by omega]
  rfl
abbrev sK : Type := (Int64 × Int64 × Int64 × Int × Int) × (Int → Int64)
def preK (v : Int → Int) (b : Int) : sK := ((bL (rkS v), bL (oneS (harZ (v (72 + 5 * b)))), bL (oneS (harZ (1 - v (72 + 5 * b)))), v (72 + 5 * b), v (73 + 5 * b)), fun k => bL (upS v k))
def homR (v : Int → Int) (b y : Int) : Int :=
  if ¬ (0 ≤ b ∧ b < v 127) then -1 else if y ≠ 0 ∧ y ≠ 1 then -2 else if onB v b = false then -4
  else if y = 0 then fwZ v (v (72 + 5 * b)) (v (73 + 5 * b)) (v (75 + 5 * b)) (v 126) else bwZ v (v (72 + 5 * b)) (v (73 + 5 * b)) (v (75 + 5 * b)) (v 126)
def homK (v : Int → Int) (b y : Int) (k : sK) : sK := if ¬ (0 ≤ b ∧ b < v 127) ∨ (y ≠ 0 ∧ y ≠ 1) ∨ onB v b = false then k else preK v b
def danN (v : Int → Int) (p : Int) : Nat → Int32
  | 0 => iI 0
  | k + 1 => if v (72 + 5 * k) = p ∧ hitB v k = true then danN v p k ||| iI 1 <<< (iI k &&& 31) else danN v p k
def danR (v : Int → Int) (p : Int) : Int32 := if ¬ (0 ≤ p ∧ p < 2) then iI (-1) else if overB v = true then iI 0 else danN v p (v 127).toNat
theorem danN_s {v : Int → Int} {p k : Int} (h : 0 ≤ k) : danN v p (1 + k).toNat = if v (72 + 5 * k) = p ∧ hitB v k = true then danN v p k.toNat ||| iI 1 <<< (iI k &&& 31) else danN v p k.toNat := by
  rw [show (1 + k).toNat = k.toNat + 1 by omega]
  show (if v (72 + 5 * ((k.toNat : Nat) : Int)) = p ∧ hitB v ((k.toNat : Nat) : Int) = true then danN v p k.toNat ||| iI 1 <<< (iI ((k.toNat : Nat) : Int) &&& 31) else danN v p k.toNat) = _
  rw [Int.toNat_of_nonneg h]
/-- what a move is worth -/
def worZ (v : Int → Int) (b d n : Int) : Int :=
  if reaZ v b d n false ≠ 0 then 0
  else if golZ v b d n = harZ (v (72 + 5 * b)) then 3000 + v (73 + 5 * b)
  else if batZ v (golZ v b d n) ≠ -5 then 2000 + v (73 + 5 * batZ v (golZ v b d n))
  else if behZ v (v (72 + 5 * b)) (v (73 + 5 * b)) (golZ v b d n) (v 126) = -5 then 0 else 1000 - behZ v (v (72 + 5 * b)) (v (73 + 5 * b)) (golZ v b d n) (v 126)
def worK (v : Int → Int) (b d n : Int) (k : sK) : sK := if reaZ v b d n false ≠ 0 ∨ golZ v b d n = harZ (v (72 + 5 * b)) ∨ batZ v (golZ v b d n) ≠ -5 then k else preK v b
/-- the best of the first moves: what it is worth, and its number -/
def bstN (v : Int → Int) : Nat → Int × Int
  | 0 => (0, -5)
  | j + 1 => if (bstN v j).1 < worZ v ((j : Int) / 12) ((j : Int) / 3 % 4) ((j : Int) % 3 + 1) then (worZ v ((j : Int) / 12) ((j : Int) / 3 % 4) ((j : Int) % 3 + 1), 1 + (100 * ((j : Int) / 12) + 10 * ((j : Int) / 3 % 4)) + (j : Int) % 3) else bstN v j
def bstK (v : Int → Int) (k : sK) : Nat → sK
  | 0 => k
  | j + 1 => worK v ((j : Int) / 12) ((j : Int) / 3 % 4) ((j : Int) % 3 + 1) (bstK v k j)
def besR (v : Int → Int) : Int := if overB v = true then -4 else (bstN v (12 * v 127).toNat).2
def besK (v : Int → Int) (k : sK) : sK := if overB v = true then k else bstK v k (12 * v 127).toNat
theorem bstN_s {v : Int → Int} {b d s : Int} (hb : 0 ≤ b) (hd : 0 ≤ d ∧ d < 4) (hs : 1 ≤ s ∧ s ≤ 3) : bstN v (12 * b + 3 * d + s).toNat = if (bstN v (12 * b + 3 * d + s - 1).toNat).1 < worZ v b d s then (worZ v b d s, 100 * b + 10 * d + s) else bstN v (12 * b + 3 * d + s - 1).toNat := by
  have e : (12 * b + 3 * d + s).toNat = (12 * b + 3 * d + s - 1).toNat + 1 := by omega
  have e1 : (((12 * b + 3 * d + s - 1).toNat : Nat) : Int) = 12 * b + 3 * d + s - 1 := Int.toNat_of_nonneg (by omega)
  rw [e]
  conv => lhs; unfold bstN
  rw [e1, show (12 * b + 3 * d + s - 1) / 12 = b by omega, show (12 * b + 3 * d + s - 1) / 3 % 4 = d by omega, show (12 * b + 3 * d + s - 1) % 3 = s - 1 by omega, show s - 1 + 1 = s by omega, show 1 + (100 * b + 10 * d) + (s - 1) = 100 * b + 10 * d + s by omega]
theorem bstK_s {v : Int → Int} {k : sK} {b d s : Int} (hb : 0 ≤ b) (hd : 0 ≤ d ∧ d < 4) (hs : 1 ≤ s ∧ s ≤ 3) : bstK v k (12 * b + 3 * d + s).toNat = worK v b d s (bstK v k (12 * b + 3 * d + s - 1).toNat) := by
  have e : (12 * b + 3 * d + s).toNat = (12 * b + 3 * d + s - 1).toNat + 1 := by omega
  have e1 : (((12 * b + 3 * d + s - 1).toNat : Nat) : Int) = 12 * b + 3 * d + s - 1 := Int.toNat_of_nonneg (by omega)
  rw [e]
  conv => lhs; unfold bstK
  rw [e1, show (12 * b + 3 * d + s - 1) / 12 = b by omega, show (12 * b + 3 * d + s - 1) / 3 % 4 = d by omega, show (12 * b + 3 * d + s - 1) % 3 = s - 1 by omega, show s - 1 + 1 = s by omega]
theorem fwN_rng {v : Int → Int} {P D f : Int} : ∀ (n : Nat) (S : Int → Bool) (t : Int), fwN v P D f n S t = -5 ∨ (1 + t - f ≤ fwN v P D f n S t ∧ fwN v P D f n S t ≤ t + n - f) := by
  intro n
  induction n with
  | zero => intro S t; exact Or.inl rfl
  | succ n ih =>
    intro S t
    unfold fwN
    split
    · right; omega
    · rcases ih (nxS v P D t S) (1 + t) with h | h
      · exact Or.inl h
      · right; omega
theorem fwZ_rng {v : Int → Int} (w : Wf v) (P D c f : Int) (hf : 0 ≤ f ∧ f ≤ 200) : fwZ v P D c f = -5 ∨ (1 ≤ fwZ v P D c f ∧ fwZ v P D c f ≤ 100) := by
  have hs := w.s
  rcases fwN_rng (v := v) (P := P) (D := D) (f := f) (v 125 + 1 - f).toNat (oneS c) f with h | h
  · exact Or.inl h
  · right
    unfold fwZ
    constructor
    · omega
    · have h2 := h.2
      by_cases hp : 0 ≤ v 125 + 1 - f
      · omega
      · rw [show (v 125 + 1 - f).toNat = 0 by omega] at h2 ⊢
        omega
theorem bwN_rng {v : Int → Int} {P D c f : Int} : ∀ (n : Nat) (t : Int), bwN v P D c f n t = -5 ∨ (1 + t - f ≤ bwN v P D c f n t ∧ bwN v P D c f n t ≤ t + n - f) := by
  intro n
  induction n with
  | zero => intro t; exact Or.inl rfl
  | succ n ih =>
    intro t
    unfold bwN
    split
    · right; omega
    · rcases ih (1 + t) with h | h
      · exact Or.inl h
      · right; omega
theorem behZ_rng {v : Int → Int} (w : Wf v) (P D c t : Int) (ht : 0 ≤ t ∧ t ≤ 150) : behZ v P D c t = -5 ∨ (1 ≤ behZ v P D c t ∧ behZ v P D c t ≤ 100) := by
  unfold behZ
  split
  · exact Or.inl rfl
  · exact fwZ_rng w _ _ _ _ (by omega)
theorem bZ_b01 : ∀ b : Bool, 0 ≤ bZ b ∧ bZ b ≤ 1 := bZ_rng
theorem afn_rng {v : Int → Int} (w : Wf v) (c d : Int) : 0 ≤ afnZ v c d ∧ afnZ v c d ≤ perZ v := by
  have hp := perZ_rng w
  have := sumN_rng (f := fun t => bZ (wetB v c d t)) (m := 1) (fun t => bZ_rng _) (perZ v).toNat
  unfold afnZ
  omega
theorem fdN : ∀ a : Nat, a < 25 → ∀ b : Nat, b < 25 → 0 < b → vf_n32 (FP.fdiv (FP.i2f (iI a)) (FP.i2f (iI b))) := by unfold vf_n32; decide +kernel
theorem fdZ {a b : Int} (ha : 0 ≤ a ∧ a ≤ b) (hb : 1 ≤ b ∧ b ≤ 24) : vf_n32 (FP.fdiv (FP.i2f (iI a)) (FP.i2f (iI b))) := by
  have := fdN a.toNat (by omega) b.toNat (by omega) (by omega)
  rwa [Int.toNat_of_nonneg ha.1, Int.toNat_of_nonneg (by omega)] at this
abbrev tbO (tb : Nat) (qn qb : Nat → Nat) (r x h o : Nat) : Nat × va_E := (tb, .inr (5, [.ref (qn 0), .ref (qb 0), .ref r, .ref x, .ref h, .ref o]))
theorem worZ_rng {v : Int → Int} (w : Wf v) {b : Int} (d n : Int) (hb : 0 ≤ b ∧ b < v 127) : 0 ≤ worZ v b d n ∧ worZ v b d n ≤ 3003 := by
  have hn := w.n
  have hw := w.b b (by omega)
  have ht := w.t
  unfold worZ
  split
  · omega
  · split
    · omega
    · split
      · rename_i h1 h2 h3
        have ho := batZ_rng w (golZ v b d n)
        have := w.b (batZ v (golZ v b d n)) (by omega)
        omega
      · have hh := behZ_rng w (v (72 + 5 * b)) (v (73 + 5 * b)) (golZ v b d n) (v 126) (by omega)
        split <;> omega
