theorem agr_n {v : Int → Int} : ∀ n : Nat, sumN (fun k => if v (74 + 5 * k) = 0 then 1 else 0) n - sumN (fun k => if (onB v k && floB v k) = true then 1 else 0) n = sumN (fun k => if onB v k = true ∧ floB v k = false then 1 else 0) n := by
  intro n
  induction n with
  | zero => rfl
  | succ n ih =>
    unfold sumN
    rw [← ih]
    have e : (if v (74 + 5 * (n : Int)) = 0 then (1 : Int) else 0) - (if (onB v n && floB v n) = true then 1 else 0) = if onB v n = true ∧ floB v n = false then 1 else 0 := by
      unfold onB
      by_cases h : v (74 + 5 * (n : Int)) = 0
      · rw [if_pos h, decide_eq_true h]
        cases floB v n <;> rfl
      · rw [if_neg h, decide_eq_false h]; rfl
    omega
theorem agr_e (v : Int → Int) : cntZ v 0 - sumN (fun k => if (onB v k && floB v k) = true then 1 else 0) (v 127).toNat = agrZ v := agr_n _
theorem or0 (x : Int32) : x ||| iI 0 = x := by
  refine Int32.toBitVec_inj.mp ?_
  rw [Int32.toBitVec_or]
  show x.toBitVec ||| 0#32 = _
  simp
theorem dan_end {v : Int → Int} {q k : Int} (h2 : k = 0 ∨ overB v = false) (hk : k = v 127) : danN v q k.toNat = if overB v = true then iI 0 else danN v q (v 127).toNat := by
  rw [hk] at h2 ⊢
  cases ho : overB v
  · rw [if_neg (by decide)]
  · rw [if_pos rfl]
    have : v 127 = 0 := h2.resolve_right (by rw [ho]; decide)
    rw [this]; rfl
