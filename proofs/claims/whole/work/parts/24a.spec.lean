/-! the law's walk: what its two sides hold alike -/
def agP (n : Int) (g g' : Nat → Int → Int) : Prop := ∀ i : Nat, (i : Int) < n → g i = g' i ∧ Wf (g i)
def lwI (v sv sv' : Int → Int) (g g' : Nat → Int → Int) (n ln : Int) (has : Bool) (tx : Int → Int) : Prop :=
  (0 ≤ n ∧ n ≤ 4) ∧ Wf v ∧ Ot ln tx ∧ agP n g g' ∧ Wf sv ∧ (has = true → sv = sv')
theorem agP.rec {n : Int} {g g' : Nat → Int → Int} {v : Int → Int} (hn : 0 ≤ n ∧ n ≤ 4) (w : Wf v) (h : agP n g g') : agP (recN n) (recG n g v) (recG n g' v) := by
  intro i hi
  unfold recN at hi
  unfold recG
  by_cases e : n = 4
  · rw [if_pos e] at hi
    rw [if_pos e, if_pos e]
    show (if i = 3 then v else g (i + 1)) = (if i = 3 then v else g' (i + 1)) ∧ Wf (if i = 3 then v else g (i + 1))
    by_cases e3 : i = 3
    · rw [if_pos e3, if_pos e3]; exact ⟨rfl, w⟩
    · rw [if_neg e3, if_neg e3]
      exact h (i + 1) (by omega)
  · rw [if_neg e] at hi
    rw [if_neg e, if_neg e]
    show (if (i : Int) = n then v else g i) = (if (i : Int) = n then v else g' i) ∧ Wf (if (i : Int) = n then v else g i)
    by_cases e3 : (i : Int) = n
    · rw [if_pos e3, if_pos e3]; exact ⟨rfl, w⟩
    · rw [if_neg e3, if_neg e3]
      exact h i (by omega)
theorem recN_rng {n : Int} (hn : 0 ≤ n ∧ n ≤ 4) : 0 ≤ recN n ∧ recN n ≤ 4 := by unfold recN; split <;> omega
theorem lwI.act {v sv sv' v' : Int → Int} {g g' : Nat → Int → Int} {n ln : Int} {has : Bool} {tx : Int → Int} (r : Int) (h : lwI v sv sv' g g' n ln has tx) (w' : Wf v') : lwI v' sv sv' (actG r n g v) (actG r n g' v) (actN r n) ln has tx := by
  obtain ⟨hn, w, wt, ha, ws, hs⟩ := h
  unfold actN actG
  by_cases e : 0 ≤ r
  · rw [if_pos e, if_pos e, if_pos e]
    exact ⟨recN_rng hn, w', wt, ha.rec hn w, ws, hs⟩
  · rw [if_neg e, if_neg e, if_neg e]
    exact ⟨hn, w', wt, ha, ws, hs⟩
theorem und_eq {v sv sv' : Int → Int} {g g' : Nat → Int → Int} {n ln : Int} {has : Bool} {tx : Int → Int} (h : lwI v sv sv' g g' n ln has tx) : undV n g' v = undV n g v ∧ Wf (undV n g v) := by
  obtain ⟨hn, w, wt, ha, ws, hs⟩ := h
  unfold undV
  by_cases e : n = 0
  · rw [if_pos e, if_pos e]; exact ⟨rfl, w⟩
  · rw [if_neg e, if_neg e]
    have h1 := ha (n - 1).toNat (by omega)
    exact ⟨h1.1.symm, h1.2⟩
theorem lwI.und {v sv sv' : Int → Int} {g g' : Nat → Int → Int} {n ln : Int} {has : Bool} {tx : Int → Int} (h : lwI v sv sv' g g' n ln has tx) : lwI (undV n g v) sv sv' g g' (undN n) ln has tx := by
  have w2 := (und_eq h).2
  obtain ⟨hn, w, wt, ha, ws, hs⟩ := h
  refine ⟨?_, w2, wt, fun i hi => ha i ?_, ws, hs⟩
  · unfold undN; split <;> omega
  · unfold undN at hi; split at hi <;> omega
theorem lwI.keep {v sv sv' : Int → Int} {g g' : Nat → Int → Int} {n ln : Int} {has : Bool} {tx : Int → Int} (h : lwI v sv sv' g g' n ln has tx) : lwI v v v g g' n ln true tx :=
  ⟨h.1, h.2.1, h.2.2.1, h.2.2.2.1, h.2.1, fun _ => rfl⟩
theorem rst_eq {v sv sv' : Int → Int} {g g' : Nat → Int → Int} {n ln : Int} {has : Bool} {tx : Int → Int} (h : lwI v sv sv' g g' n ln has tx) : rstR has sv' = rstR has sv ∧ rstV has sv' v = rstV has sv v ∧ Wf (rstV has sv v) ∧ (has = true → Wf sv') := by
  obtain ⟨hn, w, wt, ha, ws, hs⟩ := h
  unfold rstR rstV
  cases has
  · exact ⟨rfl, rfl, w, fun z => by cases z⟩
  · have e := hs rfl
    subst e
    exact ⟨rfl, rfl, ws, fun _ => ws⟩
theorem lwI.typ {v sv sv' : Int → Int} {g g' : Nat → Int → Int} {n ln : Int} {has : Bool} {tx : Int → Int} (h : lwI v sv sv' g g' n ln has tx) {x : Int} (hx : 0 ≤ x ∧ x < 65536) : lwI v sv sv' g g' n (apN ln) has (apT ln tx x) :=
  ⟨h.1, h.2.1, h.2.2.1.ap hx, h.2.2.2⟩
theorem lwI.clr {v sv sv' : Int → Int} {g g' : Nat → Int → Int} {n ln : Int} {has : Bool} {tx : Int → Int} (h : lwI v sv sv' g g' n ln has tx) : lwI v sv sv' g g' n 0 has tx :=
  ⟨h.1, h.2.1, ⟨by omega, h.2.2.1.2⟩, h.2.2.2⟩
/-- all regions of the law's world: the class's and the reference's -/
abbrev lwRs (G : gT) (tb r x cu h pa o sg : Nat) (qn qb sn X : Nat → Nat) (S : Nat → Nat → Nat) (v u y sv sv' : Int → Int) (g g' : Nat → Int → Int) (n ln : Int) (has : Bool) (tx : Int → Int) (k : sK) (S1 T1 : Int → Bool) (L1 A1 : Int → Int) : List va_W :=
  [[tbO tb qn qb r x h o], stW G qn v, stW G qb u, [(r, .inr (3, [.ref (qn 0)]))], [sxA x cu qn k.1], [arL G cu 5 k.2], hiW G h pa sn n S g has, stW G sn sv, [orO G o sg ln], [arC G sg 60 tx], [moO X n has ln], [arI G (X 1) 258 (s2Z v y)], [arI G (X 2) 516 (paF g')], [arI G (X 3) 129 sv'], [arI G (X 4) 60 tx], [arB G (X 5) 36 S1], [arB G (X 6) 36 T1], [arI G (X 7) 36 L1], [arI G (X 8) 36 A1]]
/-- from a place of the law's loop, in any world of the two sides -/
def LK (p : Program) (l : Launch) (e : Env) (s : State) (m : MethodId) (below : List Frame) (meth : Method) (c : Code) (Q : State → Prop) (G : gT) (b tb r x cu h pa o sg : Nat) (qn qb sn X : Nat → Nat) (i : Int) (pc : Nat) : Prop :=
  ∀ (S : Nat → Nat → Nat) (v u y sv sv' : Int → Int) (g g' : Nat → Int → Int) (n ln : Int) (has : Bool) (tx : Int → Int) (k : sK) (S1 T1 : Int → Bool) (L1 A1 : Int → Int) (H : Heap) (locs : List Loc) (ls : Array Slot),
    lwI v sv sv' g g' n ln has tx → Wd G (fun q => s.heap.size ≤ q) (lwRs G tb r x cu h pa o sg qn qb sn X S v u y sv sv' g g' n ln has tx k S1 T1 L1 A1) s.heap H locs → lv_has ls 8 [(3, .int (iI i)), (2, .ref (X 0)), (1, .ref tb), (0, .ref b)] →
    W p l e room_1 s m #[Value.ref b] below meth c H locs 73 2159 Q (F0 m pc ls [])
theorem and31_ex (x : Int32) : ∃ t : Int, (0 ≤ t ∧ t ≤ 31) ∧ x &&& iI 31 = iI t :=
  ⟨((x.toBitVec.toNat % 2 ^ 5 : Nat) : Int), by omega, by rw [pk_and x 5 (m := iI 31) (by decide), iI_nI]⟩
theorem i2c_ex (x : Int32) : ∃ t : Int, (0 ≤ t ∧ t < 65536) ∧ (x.toUInt32 % 65536).toInt32 = iI t :=
  ⟨((x.toBitVec.toNat % 65536 : Nat) : Int), by omega, by rw [pk_char, iI_nI]⟩
theorem fdW : ∀ a : Nat, a < 25 → ∀ b : Nat, b < 25 → 0 < b → vf_n64 (FP.f2d (FP.fdiv (FP.i2f (iI a)) (FP.i2f (iI b)))) ∧ Op.cmpValue (FP.dcmp (FP.f2d (FP.fdiv (FP.i2f (iI a)) (FP.i2f (iI b)))) (FP.f2d (FP.fdiv (FP.i2f (iI a)) (FP.i2f (iI b))))) .l = iI 0 := by unfold vf_n64; decide +kernel
theorem fdW1 : vf_n64 (FP.f2d 3212836864) ∧ Op.cmpValue (FP.dcmp (FP.f2d 3212836864) (FP.f2d 3212836864)) .l = iI 0 := by unfold vf_n64; decide +kernel
theorem afl_ok {v : Int → Int} (w : Wf v) (c d : Int) : vf_n64 (FP.f2d (aflF v c d)) ∧ Op.cmpValue (FP.dcmp (FP.f2d (aflF v c d)) (FP.f2d (aflF v c d))) .l = iI 0 := by
  unfold aflF
  split
  · have h1 := afn_rng w c d
    have h2 := perZ_rng w
    have h3 := fdW (afnZ v c d).toNat (by omega) (perZ v).toNat (by omega) (by omega)
    rwa [Int.toNat_of_nonneg h1.1, Int.toNat_of_nonneg (by omega)] at h3
  · exact fdW1
section S
variable {p : Program} {l : Launch} {e : Env} {R : Room} {s : State} {m : MethodId} {args : Array Value} {below : List Frame} {meth : Method} {c : Code} {H : Heap} {locs : List Loc} {cells slots : Nat} {Q : State → Prop}
variable {own : String} {cc : ByteArray} {nL : Nat} {ret : Option FieldType} {pc : Nat} {ls : Array Slot} {rest : List Value} {G : gT} {rs : List va_W}
theorem z_sld {b L : Nat} {xs : Nat → Int32} (C : CX p s m args meth c own cc nL ret) (hX : va_X b L xs s s.heap) (hbl : b < s.heap.size) (hW : Wd G (fun q => s.heap.size ≤ q) rs s.heap H locs) {x z : Int} (hx : 0 ≤ x ∧ x < L) (hL : L ≤ 2048) (hv : xs x.toNat = iI z) (d : decode cc pc = .ok (.iaload, 1)) (q : Nat) (hq : pc + 1 = q) (k : W p l e R s m args below meth c H locs cells slots Q (F0 m q ls (.int (iI z) :: rest))) : W p l e R s m args below meth c H locs cells slots Q (F0 m pc ls (.int (iI x) :: .ref b :: rest)) := by
  subst hq
  refine va_sld C.1.1 C.1.2.1 hX hbl (by show ¬ s.heap.size ≤ b; omega) hW.2.2.2 (iI_in hx.1 hx.2 (by omega)) d ?_
  rw [iI_clamp (by omega), hv]
  exact k
theorem z_slenL {b L : Nat} {xs : Nat → Int32} (C : CX p s m args meth c own cc nL ret) (hX : va_X b L xs s s.heap) (hbl : b < s.heap.size) (hW : Wd G (fun q => s.heap.size ≤ q) rs s.heap H locs) (d : decode cc pc = .ok (.arraylength, 1)) (q : Nat) (hq : pc + 1 = q) (k : W p l e R s m args below meth c H locs cells slots Q (F0 m q ls (.int (iI L) :: rest))) : W p l e R s m args below meth c H locs cells slots Q (F0 m pc ls (.ref b :: rest)) := by
  subst hq
  refine va_slen C.1.1 C.1.2.1 hX hbl (by show ¬ s.heap.size ≤ b; omega) hW.2.2.2 d ?_
  rw [show Int32.ofNat L = iI L from iI_nI L]
  exact k
theorem z_f2dL {x : UInt32} (C : CX p s m args meth c own cc nL ret) (hne : vf_n64 (FP.f2d x)) (d : decode cc pc = .ok (.f2d, 1)) (q : Nat) (hq : pc + 1 = q) (k : W p l e R s m args below meth c H locs cells slots Q (F0 m q ls (.double (FP.f2d x) :: rest))) : W p l e R s m args below meth c H locs cells slots Q (F0 m pc ls (.float x :: rest)) := by
  subst hq
  exact lv_f2d C.1.1 C.1.2.1 d hne k
theorem z_dsto {i : Nat} {x : UInt64} {lv lv' : List (Nat × Value)} (C : CX p s m args meth c own cc nL ret) (hl : lv_has ls nL lv) (d : decode cc pc = .ok (.dstore i, 2)) (q : Nat) (hq : pc + 2 = q) (hn : i + 1 < nL) (he : (i, Value.double x) :: lv.filter (fun q => !(q.1 == i) && (!(q.1 == i + 1) && !(q.1 + 1 == i && q.2.category == 2))) = lv') (k : ∀ ls' : Array Slot, lv_has ls' nL lv' → W p l e R s m args below meth c H locs cells slots Q (F0 m q ls' rest)) : W p l e R s m args below meth c H locs cells slots Q (F0 m pc ls (.double x :: rest)) := by
  subst hq
  exact lv_dstore C.1.1 C.1.2.1 d hl hn he k
theorem z_dlo {i : Nat} {x : UInt64} {lv : List (Nat × Value)} (C : CX p s m args meth c own cc nL ret) (hl : lv_has ls nL lv) (d : decode cc pc = .ok (.dload i, 2)) (j : Nat) (hi : lv[j]? = some (i, .double x)) (q : Nat) (hq : pc + 2 = q) (k : W p l e R s m args below meth c H locs cells slots Q (F0 m q ls (.double x :: rest))) : W p l e R s m args below meth c H locs cells slots Q (F0 m pc ls rest) := by
  subst hq
  exact lv_dload C.1.1 C.1.2.1 d (lv_at hl j hi) k
theorem z_dcm {x y : UInt64} {op : CmpOp} (C : CX p s m args meth c own cc nL ret) (d : decode cc pc = .ok (.dcmp op, 1)) (q : Nat) (hq : pc + 1 = q) (k : W p l e R s m args below meth c H locs cells slots Q (F0 m q ls (.int (Op.cmpValue (FP.dcmp x y) op) :: rest))) : W p l e R s m args below meth c H locs cells slots Q (F0 m pc ls (.double y :: .double x :: rest)) := by
  subst hq
  exact lv_dcmp C.1.1 C.1.2.1 d k
/-- both answers are one: on -/
theorem z_same {x : Int32} {off : Int} (C : CX p s m args meth c own cc nL ret) (d : decode cc pc = .ok (.if_icmp .eq off, 3)) (tgt : Nat) (ht : (pc : Int) + off = (tgt : Int)) (k : W p l e R s m args below meth c H locs cells slots Q (F0 m tgt ls rest)) : W p l e R s m args below meth c H locs cells slots Q (F0 m pc ls (.int x :: .int x :: rest)) :=
  lv_icmp_eq C.1.1 C.1.2.1 d ht (fun _ => k) (fun hne => absurd rfl hne)
end S
