/-! sets of cells in a long -/
def bvN (S : Int → Bool) : Nat → BitVec 64
  | 0 => 0#64
  | n + 1 => bvN S n ||| (if S n = true then BitVec.ofNat 64 (2 ^ n) else 0#64)
def bL (S : Int → Bool) : Int64 := Int64.ofBitVec (bvN S 36)
def btL (x : Int64) (i : Nat) : Bool := x.toBitVec.getLsbD i
theorem btL_ext {x y : Int64} (h : ∀ i, i < 64 → btL x i = btL y i) : x = y := Int64.toBitVec_inj.mp (BitVec.eq_of_getLsbD_eq (fun i hi => h i hi))
theorem pw_bit : ∀ n, n < 36 → ∀ i, i < 64 → (BitVec.ofNat 64 (2 ^ n)).getLsbD i = decide (i = n) := by decide +kernel
theorem bvN_bit (S : Int → Bool) : ∀ n, n ≤ 36 → ∀ i, i < 64 → (bvN S n).getLsbD i = (decide (i < n) && S i) := by
  intro n
  induction n with
  | zero => intro _ i _; simp [bvN]
  | succ n ih =>
    intro hn i hi
    unfold bvN
    rw [BitVec.getLsbD_or, ih (by omega) i hi]
    by_cases h : i = n
    · subst h
      cases hS : S i
      · rw [if_neg (by decide)]; simp
      · rw [if_pos rfl, pw_bit i (by omega) i hi]; simp
    · have e : (if S n = true then BitVec.ofNat 64 (2 ^ n) else 0#64).getLsbD i = false := by
        split
        · rw [pw_bit n (by omega) i hi, decide_eq_false h]
        · simp
      rw [e, Bool.or_false]
      congr 1
      by_cases h2 : i < n
      · rw [decide_eq_true h2, decide_eq_true (by omega)]
      · rw [decide_eq_false h2, decide_eq_false (by omega)]
theorem btL_bL (S : Int → Bool) {i : Nat} (hi : i < 64) : btL (bL S) i = (decide (i < 36) && S i) := bvN_bit S 36 (Nat.le_refl _) i hi
theorem bL_ext {S T : Int → Bool} (h : ∀ i : Int, 0 ≤ i → i < 36 → S i = T i) : bL S = bL T := by
  refine btL_ext fun i hi => ?_
  rw [btL_bL S hi, btL_bL T hi]
  by_cases h2 : i < 36
  · rw [h i (by omega) (by omega)]
  · rw [decide_eq_false h2]; rfl
theorem bL_inj {S T : Int → Bool} (h : bL S = bL T) : ∀ i : Int, 0 ≤ i → i < 36 → S i = T i := by
  intro i h1 h2
  have e := congrArg (fun x => btL x i.toNat) h
  simp only [btL_bL S (i := i.toNat) (by omega), btL_bL T (i := i.toNat) (by omega), Int.toNat_of_nonneg h1] at e
  rw [decide_eq_true (by omega)] at e
  simpa using e
def botS : Int → Bool := fun _ => false
def andS (S T : Int → Bool) : Int → Bool := fun i => S i && T i
def orS (S T : Int → Bool) : Int → Bool := fun i => S i || T i
def difS (S T : Int → Bool) : Int → Bool := fun i => S i && !T i
def oneS (x : Int) : Int → Bool := fun i => decide (i = x)
theorem btL_and (x y : Int64) (i : Nat) : btL (x &&& y) i = (btL x i && btL y i) := by unfold btL; rw [Int64.toBitVec_and, BitVec.getLsbD_and]
theorem btL_or (x y : Int64) (i : Nat) : btL (x ||| y) i = (btL x i || btL y i) := by unfold btL; rw [Int64.toBitVec_or, BitVec.getLsbD_or]
theorem btL_xor (x y : Int64) (i : Nat) : btL (x ^^^ y) i = (btL x i ^^ btL y i) := by unfold btL; rw [Int64.toBitVec_xor, BitVec.getLsbD_xor]
theorem btL_m1 : ∀ i, i < 64 → btL (-1) i = true := by decide +kernel
theorem bL_bot : (0 : Int64) = bL botS := by decide +kernel
theorem bL_and (S T : Int → Bool) : bL S &&& bL T = bL (andS S T) := by
  refine btL_ext fun i hi => ?_
  rw [btL_and, btL_bL S hi, btL_bL T hi, btL_bL _ hi]
  unfold andS
  cases decide (i < 36) <;> rfl
theorem bL_or (S T : Int → Bool) : bL S ||| bL T = bL (orS S T) := by
  refine btL_ext fun i hi => ?_
  rw [btL_or, btL_bL S hi, btL_bL T hi, btL_bL _ hi]
  unfold orS
  cases decide (i < 36) <;> rfl
theorem bL_dif (S T : Int → Bool) : bL S &&& (bL T ^^^ (-1)) = bL (difS S T) := by
  refine btL_ext fun i hi => ?_
  rw [btL_and, btL_xor, btL_m1 i hi, btL_bL S hi, btL_bL T hi, btL_bL _ hi]
  unfold difS
  cases decide (i < 36) <;> cases S i <;> cases T i <;> rfl
theorem bL_0 {S : Int → Bool} : bL S = 0 ↔ ∀ i : Int, 0 ≤ i → i < 36 → S i = false := by
  rw [bL_bot]
  exact ⟨fun h i h1 h2 => bL_inj h i h1 h2, fun h => bL_ext h⟩
theorem bL_sing : ∀ n : Nat, n < 36 → (1 : Int64) <<< ((iI n).toInt64 &&& 63) = bL (oneS n) := by decide +kernel
theorem bL_one {x : Int} (h : 0 ≤ x ∧ x < 36) : (1 : Int64) <<< ((iI x).toInt64 &&& 63) = bL (oneS x) := by
  have := bL_sing x.toNat (by omega)
  rwa [Int.toNat_of_nonneg h.1] at this
theorem bL_out {x : Int} (h : ¬ (0 ≤ x ∧ x < 36)) : (0 : Int64) = bL (oneS x) := by
  rw [bL_bot]
  refine bL_ext fun i h1 h2 => ?_
  unfold botS oneS
  rw [decide_eq_false (by omega)]
/-! one step beside -/
def oppZ (d : Int) : Int := if d = 0 then 2 else if d = 1 then 3 else if d = 2 then 0 else 1
def imgS (d : Int) (S : Int → Bool) : Int → Bool := fun i => decide (besZ i (oppZ d) ≠ -1) && S (besZ i (oppZ d))
theorem c63 : ∀ n : Nat, n < 64 → (((iI n).toInt64 &&& 63).toBitVec.smod 64).toNat = n := by decide +kernel
theorem cu63 : ∀ n : Nat, n < 64 → (((iI n).toInt64.toUInt64 &&& Int64.toUInt64 63).toBitVec % 64).toNat = n := by decide +kernel
theorem btL_shl (n : Nat) (hn : n < 64) (x : Int64) {i : Nat} (hi : i < 64) : btL (x <<< ((iI n).toInt64 &&& 63)) i = (decide (n ≤ i) && btL x (i - n)) := by
  unfold btL
  rw [Int64.toBitVec_shiftLeft]
  show (x.toBitVec <<< (((iI n).toInt64 &&& 63).toBitVec.smod 64).toNat).getLsbD i = _
  rw [c63 n hn, BitVec.getLsbD_shiftLeft]
  rcases Nat.lt_or_ge i n with h | h
  · simp [h, Nat.not_le.mpr h]
  · simp [hi, h, Nat.not_lt.mpr h]
theorem btL_ushr (n : Nat) (hn : n < 64) (x : Int64) (i : Nat) : btL ((x.toUInt64 >>> ((iI n).toInt64.toUInt64 &&& Int64.toUInt64 63)).toInt64) i = btL x (n + i) := by
  show (x.toUInt64 >>> ((iI n).toInt64.toUInt64 &&& Int64.toUInt64 63)).toBitVec.getLsbD i = x.toUInt64.toBitVec.getLsbD (n + i)
  rw [UInt64.toBitVec_shiftRight]
  show (x.toUInt64.toBitVec >>> (((iI n).toInt64.toUInt64 &&& Int64.toUInt64 63).toBitVec % 64).toNat).getLsbD i = _
  rw [cu63 n hn, BitVec.getLsbD_ushiftRight]
theorem btL_big {x : Int64} {i : Nat} (h : 64 ≤ i) : btL x i = false := BitVec.getLsbD_of_ge _ _ h
theorem bes_n0 : ∀ i : Nat, i < 64 → (decide (1 ≤ i) && (decide (i - 1 < 36) && btL (-34905131041) (i - 1))) = (decide (i < 36) && decide (besZ i 2 ≠ -1)) := by decide +kernel
theorem bes_s0 : ∀ i : Nat, i < 36 → besZ i 2 ≠ -1 → besZ i 2 = ((i - 1 : Nat) : Int) := by decide +kernel
theorem bes_n1 : ∀ i : Nat, i < 64 → (decide (6 ≤ i) && (decide (i - 6 < 36) && btL 68719476735 i)) = (decide (i < 36) && decide (besZ i 3 ≠ -1)) := by decide +kernel
theorem bes_s1 : ∀ i : Nat, i < 36 → besZ i 3 ≠ -1 → besZ i 3 = ((i - 6 : Nat) : Int) := by decide +kernel
theorem bes_n2 : ∀ i : Nat, i < 64 → (decide (1 + i < 64) && (decide (1 + i < 36) && btL (-1090785346) (1 + i))) = (decide (i < 36) && decide (besZ i 0 ≠ -1)) := by decide +kernel
theorem bes_s2 : ∀ i : Nat, i < 36 → besZ i 0 ≠ -1 → besZ i 0 = ((1 + i : Nat) : Int) := by decide +kernel
theorem bes_n3 : ∀ i : Nat, i < 64 → decide (6 + i < 36) = (decide (i < 36) && decide (besZ i 1 ≠ -1)) := by decide +kernel
theorem bes_s3 : ∀ i : Nat, i < 36 → besZ i 1 ≠ -1 → besZ i 1 = ((6 + i : Nat) : Int) := by decide +kernel
theorem bsd_fin {S : Int → Bool} {i j : Nat} {o : Int} {A : Bool} (hA : A = (decide (i < 36) && decide (besZ i o ≠ -1))) (hs : i < 36 → besZ i o ≠ -1 → besZ i o = (j : Int)) : (A && S (j : Int)) = (decide (i < 36) && (decide (besZ i o ≠ -1) && S (besZ i o))) := by
  subst hA
  by_cases h1 : i < 36
  · by_cases h2 : besZ i o = -1
    · rw [decide_eq_false (p := besZ i o ≠ -1) (by simpa using h2)]; cases decide (i < 36) <;> rfl
    · rw [hs h1 h2]; cases decide (i < 36) <;> rfl
  · rw [decide_eq_false h1]; rfl
theorem bsd0 (S : Int → Bool) : (bL S &&& -34905131041) <<< ((iI 1).toInt64 &&& 63) = bL (imgS 0 S) := by
  refine btL_ext fun i hi => ?_
  rw [show (iI 1) = iI ((1 : Nat) : Int) from rfl, btL_shl 1 (by decide) _ hi, btL_and, btL_bL S (by omega), btL_bL (imgS 0 S) hi]
  show _ = (decide (i < 36) && (decide (besZ i 2 ≠ -1) && S (besZ i 2)))
  rw [← bsd_fin (bes_n0 i hi) (bes_s0 i)]
  cases decide (1 ≤ i) <;> cases decide (i - 1 < 36) <;> cases btL (-34905131041) (i - 1) <;> cases S ((i - 1 : Nat) : Int) <;> rfl
theorem bsd1 (S : Int → Bool) : bL S <<< ((iI 6).toInt64 &&& 63) &&& 68719476735 = bL (imgS 1 S) := by
  refine btL_ext fun i hi => ?_
  rw [btL_and, show (iI 6) = iI ((6 : Nat) : Int) from rfl, btL_shl 6 (by decide) _ hi, btL_bL S (by omega), btL_bL (imgS 1 S) hi]
  show _ = (decide (i < 36) && (decide (besZ i 3 ≠ -1) && S (besZ i 3)))
  rw [← bsd_fin (bes_n1 i hi) (bes_s1 i)]
  cases decide (6 ≤ i) <;> cases decide (i - 6 < 36) <;> cases btL 68719476735 i <;> cases S ((i - 6 : Nat) : Int) <;> rfl
theorem bsd2 (S : Int → Bool) : ((bL S &&& -1090785346).toUInt64 >>> ((iI 1).toInt64.toUInt64 &&& Int64.toUInt64 63)).toInt64 = bL (imgS 2 S) := by
  refine btL_ext fun i hi => ?_
  rw [show (iI 1) = iI ((1 : Nat) : Int) from rfl, btL_ushr 1 (by decide), btL_and, btL_bL (imgS 2 S) hi]
  show _ = (decide (i < 36) && (decide (besZ i 0 ≠ -1) && S (besZ i 0)))
  rw [← bsd_fin (bes_n2 i hi) (bes_s2 i)]
  by_cases h : 1 + i < 64
  · rw [btL_bL S h, decide_eq_true h]
    cases decide (1 + i < 36) <;> cases btL (-1090785346) (1 + i) <;> cases S ((1 + i : Nat) : Int) <;> rfl
  · rw [btL_big (by omega), decide_eq_false h]; rfl
theorem bsd3 (S : Int → Bool) : ((bL S).toUInt64 >>> ((iI 6).toInt64.toUInt64 &&& Int64.toUInt64 63)).toInt64 = bL (imgS 3 S) := by
  refine btL_ext fun i hi => ?_
  rw [show (iI 6) = iI ((6 : Nat) : Int) from rfl, btL_ushr 6 (by decide), btL_bL (imgS 3 S) hi]
  show _ = (decide (i < 36) && (decide (besZ i 1 ≠ -1) && S (besZ i 1)))
  rw [← bsd_fin (bes_n3 i hi) (bes_s3 i)]
  by_cases h : 6 + i < 64
  · rw [btL_bL S h]
  · rw [btL_big (by omega), decide_eq_false (by omega)]; rfl
