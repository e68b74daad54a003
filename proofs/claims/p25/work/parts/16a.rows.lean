section M
variable {p : Program} {l : Launch} {e : Env} {R : Room} {s : State} {m : MethodId} {args : Array Value} {below : List Frame} {meth : Method} {c : Code} {H : Heap} {locs : List Loc} {cells slots : Nat} {Q : State → Prop}
variable {own : String} {cc : ByteArray} {nL : Nat} {ret : Option FieldType} {pc : Nat} {ls : Array Slot} {rest : List Value}

theorem z_micmp_ne (C : CX p s m args meth c own cc nL ret) {x y : Int} {p1 p2 p3 : Nat} (d : decode cc pc = .ok (.if_icmp .ne 7, 3)) (d1 : decode cc p1 = .ok (.iconst 1, 1)) (d2 : decode cc p2 = .ok (.goto 4, 3)) (d3 : decode cc p3 = .ok (.iconst 0, 1)) (hr : (-2147483648 ≤ x ∧ x < 2147483648) ∧ (-2147483648 ≤ y ∧ y < 2147483648)) (h1 : pc + 3 = p1) (h2 : p1 + 1 = p2) (h3 : pc + 7 = p3) (q : Nat) (hq : pc + 8 = q) (k : W p l e R s m args below meth c H locs cells slots Q (F0 m q ls (.int (iI (bZ (decide (x = y)))) :: rest))) : W p l e R s m args below meth c H locs cells slots Q (F0 m pc ls (.int (iI y) :: .int (iI x) :: rest)) := by
  subst h1 h2 h3 hq
  refine z_icmp_ne C d (pc + 7) (pc + 3) (by omega) rfl hr (fun h => ?_) (fun h => ?_)
  · rw [decide_eq_false h, show bZ false = 0 from rfl] at k
    exact z_iconst C d3 _ (by omega) k
  · rw [decide_eq_true h, show bZ true = 1 from rfl] at k
    exact z_iconst C d1 _ (by omega) (z_goto C d2 (pc + 8) (by omega) k)
theorem z_mif_ne (C : CX p s m args meth c own cc nL ret) {x : Int} {p1 p2 p3 : Nat} (d : decode cc pc = .ok (.ifCond .ne 7, 3)) (d1 : decode cc p1 = .ok (.iconst 1, 1)) (d2 : decode cc p2 = .ok (.goto 4, 3)) (d3 : decode cc p3 = .ok (.iconst 0, 1)) (hr : -2147483648 ≤ x ∧ x < 2147483648) (h1 : pc + 3 = p1) (h2 : p1 + 1 = p2) (h3 : pc + 7 = p3) (q : Nat) (hq : pc + 8 = q) (k : W p l e R s m args below meth c H locs cells slots Q (F0 m q ls (.int (iI (bZ (decide (x = 0)))) :: rest))) : W p l e R s m args below meth c H locs cells slots Q (F0 m pc ls (.int (iI x) :: rest)) := by
  subst h1 h2 h3 hq
  refine z_if_ne C d (pc + 7) (pc + 3) (by omega) rfl hr (fun h => ?_) (fun h => ?_)
  · rw [decide_eq_false h, show bZ false = 0 from rfl] at k
    exact z_iconst C d3 _ (by omega) k
  · rw [decide_eq_true h, show bZ true = 1 from rfl] at k
    exact z_iconst C d1 _ (by omega) (z_goto C d2 (pc + 8) (by omega) k)
theorem z_micmp_eq (C : CX p s m args meth c own cc nL ret) {x y : Int} {p1 p2 p3 : Nat} (d : decode cc pc = .ok (.if_icmp .eq 7, 3)) (d1 : decode cc p1 = .ok (.iconst 1, 1)) (d2 : decode cc p2 = .ok (.goto 4, 3)) (d3 : decode cc p3 = .ok (.iconst 0, 1)) (hr : (-2147483648 ≤ x ∧ x < 2147483648) ∧ (-2147483648 ≤ y ∧ y < 2147483648)) (h1 : pc + 3 = p1) (h2 : p1 + 1 = p2) (h3 : pc + 7 = p3) (q : Nat) (hq : pc + 8 = q) (k : W p l e R s m args below meth c H locs cells slots Q (F0 m q ls (.int (iI (bZ (decide (x ≠ y)))) :: rest))) : W p l e R s m args below meth c H locs cells slots Q (F0 m pc ls (.int (iI y) :: .int (iI x) :: rest)) := by
  subst h1 h2 h3 hq
  refine z_icmp_eq C d (pc + 7) (pc + 3) (by omega) rfl hr (fun h => ?_) (fun h => ?_)
  · rw [decide_eq_false (fun z => z h), show bZ false = 0 from rfl] at k
    exact z_iconst C d3 _ (by omega) k
  · rw [decide_eq_true h, show bZ true = 1 from rfl] at k
    exact z_iconst C d1 _ (by omega) (z_goto C d2 (pc + 8) (by omega) k)
theorem z_mif_eq (C : CX p s m args meth c own cc nL ret) {x : Int} {p1 p2 p3 : Nat} (d : decode cc pc = .ok (.ifCond .eq 7, 3)) (d1 : decode cc p1 = .ok (.iconst 1, 1)) (d2 : decode cc p2 = .ok (.goto 4, 3)) (d3 : decode cc p3 = .ok (.iconst 0, 1)) (hr : -2147483648 ≤ x ∧ x < 2147483648) (h1 : pc + 3 = p1) (h2 : p1 + 1 = p2) (h3 : pc + 7 = p3) (q : Nat) (hq : pc + 8 = q) (k : W p l e R s m args below meth c H locs cells slots Q (F0 m q ls (.int (iI (bZ (decide (x ≠ 0)))) :: rest))) : W p l e R s m args below meth c H locs cells slots Q (F0 m pc ls (.int (iI x) :: rest)) := by
  subst h1 h2 h3 hq
  refine z_if_eq C d (pc + 7) (pc + 3) (by omega) rfl hr (fun h => ?_) (fun h => ?_)
  · rw [decide_eq_false (fun z => z h), show bZ false = 0 from rfl] at k
    exact z_iconst C d3 _ (by omega) k
  · rw [decide_eq_true h, show bZ true = 1 from rfl] at k
    exact z_iconst C d1 _ (by omega) (z_goto C d2 (pc + 8) (by omega) k)
theorem z_micmp_lt (C : CX p s m args meth c own cc nL ret) {x y : Int} {p1 p2 p3 : Nat} (d : decode cc pc = .ok (.if_icmp .lt 7, 3)) (d1 : decode cc p1 = .ok (.iconst 1, 1)) (d2 : decode cc p2 = .ok (.goto 4, 3)) (d3 : decode cc p3 = .ok (.iconst 0, 1)) (hr : (-2147483648 ≤ x ∧ x < 2147483648) ∧ (-2147483648 ≤ y ∧ y < 2147483648)) (h1 : pc + 3 = p1) (h2 : p1 + 1 = p2) (h3 : pc + 7 = p3) (q : Nat) (hq : pc + 8 = q) (k : W p l e R s m args below meth c H locs cells slots Q (F0 m q ls (.int (iI (bZ (decide (y ≤ x)))) :: rest))) : W p l e R s m args below meth c H locs cells slots Q (F0 m pc ls (.int (iI y) :: .int (iI x) :: rest)) := by
  subst h1 h2 h3 hq
  refine z_icmp_lt C d (pc + 7) (pc + 3) (by omega) rfl hr (fun h => ?_) (fun h => ?_)
  · rw [decide_eq_false (by omega), show bZ false = 0 from rfl] at k
    exact z_iconst C d3 _ (by omega) k
  · rw [decide_eq_true h, show bZ true = 1 from rfl] at k
    exact z_iconst C d1 _ (by omega) (z_goto C d2 (pc + 8) (by omega) k)
theorem z_mif_lt (C : CX p s m args meth c own cc nL ret) {x : Int} {p1 p2 p3 : Nat} (d : decode cc pc = .ok (.ifCond .lt 7, 3)) (d1 : decode cc p1 = .ok (.iconst 1, 1)) (d2 : decode cc p2 = .ok (.goto 4, 3)) (d3 : decode cc p3 = .ok (.iconst 0, 1)) (hr : -2147483648 ≤ x ∧ x < 2147483648) (h1 : pc + 3 = p1) (h2 : p1 + 1 = p2) (h3 : pc + 7 = p3) (q : Nat) (hq : pc + 8 = q) (k : W p l e R s m args below meth c H locs cells slots Q (F0 m q ls (.int (iI (bZ (decide (0 ≤ x)))) :: rest))) : W p l e R s m args below meth c H locs cells slots Q (F0 m pc ls (.int (iI x) :: rest)) := by
  subst h1 h2 h3 hq
  refine z_if_lt C d (pc + 7) (pc + 3) (by omega) rfl hr (fun h => ?_) (fun h => ?_)
  · rw [decide_eq_false (by omega), show bZ false = 0 from rfl] at k
    exact z_iconst C d3 _ (by omega) k
  · rw [decide_eq_true h, show bZ true = 1 from rfl] at k
    exact z_iconst C d1 _ (by omega) (z_goto C d2 (pc + 8) (by omega) k)
theorem z_micmp_ge (C : CX p s m args meth c own cc nL ret) {x y : Int} {p1 p2 p3 : Nat} (d : decode cc pc = .ok (.if_icmp .ge 7, 3)) (d1 : decode cc p1 = .ok (.iconst 1, 1)) (d2 : decode cc p2 = .ok (.goto 4, 3)) (d3 : decode cc p3 = .ok (.iconst 0, 1)) (hr : (-2147483648 ≤ x ∧ x < 2147483648) ∧ (-2147483648 ≤ y ∧ y < 2147483648)) (h1 : pc + 3 = p1) (h2 : p1 + 1 = p2) (h3 : pc + 7 = p3) (q : Nat) (hq : pc + 8 = q) (k : W p l e R s m args below meth c H locs cells slots Q (F0 m q ls (.int (iI (bZ (decide (x < y)))) :: rest))) : W p l e R s m args below meth c H locs cells slots Q (F0 m pc ls (.int (iI y) :: .int (iI x) :: rest)) := by
  subst h1 h2 h3 hq
  refine z_icmp_ge C d (pc + 7) (pc + 3) (by omega) rfl hr (fun h => ?_) (fun h => ?_)
  · rw [decide_eq_false (by omega), show bZ false = 0 from rfl] at k
    exact z_iconst C d3 _ (by omega) k
  · rw [decide_eq_true h, show bZ true = 1 from rfl] at k
    exact z_iconst C d1 _ (by omega) (z_goto C d2 (pc + 8) (by omega) k)
theorem z_mif_ge (C : CX p s m args meth c own cc nL ret) {x : Int} {p1 p2 p3 : Nat} (d : decode cc pc = .ok (.ifCond .ge 7, 3)) (d1 : decode cc p1 = .ok (.iconst 1, 1)) (d2 : decode cc p2 = .ok (.goto 4, 3)) (d3 : decode cc p3 = .ok (.iconst 0, 1)) (hr : -2147483648 ≤ x ∧ x < 2147483648) (h1 : pc + 3 = p1) (h2 : p1 + 1 = p2) (h3 : pc + 7 = p3) (q : Nat) (hq : pc + 8 = q) (k : W p l e R s m args below meth c H locs cells slots Q (F0 m q ls (.int (iI (bZ (decide (x < 0)))) :: rest))) : W p l e R s m args below meth c H locs cells slots Q (F0 m pc ls (.int (iI x) :: rest)) := by
  subst h1 h2 h3 hq
  refine z_if_ge C d (pc + 7) (pc + 3) (by omega) rfl hr (fun h => ?_) (fun h => ?_)
  · rw [decide_eq_false (by omega), show bZ false = 0 from rfl] at k
    exact z_iconst C d3 _ (by omega) k
  · rw [decide_eq_true h, show bZ true = 1 from rfl] at k
    exact z_iconst C d1 _ (by omega) (z_goto C d2 (pc + 8) (by omega) k)
theorem z_micmp_gt (C : CX p s m args meth c own cc nL ret) {x y : Int} {p1 p2 p3 : Nat} (d : decode cc pc = .ok (.if_icmp .gt 7, 3)) (d1 : decode cc p1 = .ok (.iconst 1, 1)) (d2 : decode cc p2 = .ok (.goto 4, 3)) (d3 : decode cc p3 = .ok (.iconst 0, 1)) (hr : (-2147483648 ≤ x ∧ x < 2147483648) ∧ (-2147483648 ≤ y ∧ y < 2147483648)) (h1 : pc + 3 = p1) (h2 : p1 + 1 = p2) (h3 : pc + 7 = p3) (q : Nat) (hq : pc + 8 = q) (k : W p l e R s m args below meth c H locs cells slots Q (F0 m q ls (.int (iI (bZ (decide (x ≤ y)))) :: rest))) : W p l e R s m args below meth c H locs cells slots Q (F0 m pc ls (.int (iI y) :: .int (iI x) :: rest)) := by
  subst h1 h2 h3 hq
  refine z_icmp_gt C d (pc + 7) (pc + 3) (by omega) rfl hr (fun h => ?_) (fun h => ?_)
  · rw [decide_eq_false (by omega), show bZ false = 0 from rfl] at k
    exact z_iconst C d3 _ (by omega) k
  · rw [decide_eq_true h, show bZ true = 1 from rfl] at k
    exact z_iconst C d1 _ (by omega) (z_goto C d2 (pc + 8) (by omega) k)
theorem z_mif_gt (C : CX p s m args meth c own cc nL ret) {x : Int} {p1 p2 p3 : Nat} (d : decode cc pc = .ok (.ifCond .gt 7, 3)) (d1 : decode cc p1 = .ok (.iconst 1, 1)) (d2 : decode cc p2 = .ok (.goto 4, 3)) (d3 : decode cc p3 = .ok (.iconst 0, 1)) (hr : -2147483648 ≤ x ∧ x < 2147483648) (h1 : pc + 3 = p1) (h2 : p1 + 1 = p2) (h3 : pc + 7 = p3) (q : Nat) (hq : pc + 8 = q) (k : W p l e R s m args below meth c H locs cells slots Q (F0 m q ls (.int (iI (bZ (decide (x ≤ 0)))) :: rest))) : W p l e R s m args below meth c H locs cells slots Q (F0 m pc ls (.int (iI x) :: rest)) := by
  subst h1 h2 h3 hq
  refine z_if_gt C d (pc + 7) (pc + 3) (by omega) rfl hr (fun h => ?_) (fun h => ?_)
  · rw [decide_eq_false (by omega), show bZ false = 0 from rfl] at k
    exact z_iconst C d3 _ (by omega) k
  · rw [decide_eq_true h, show bZ true = 1 from rfl] at k
    exact z_iconst C d1 _ (by omega) (z_goto C d2 (pc + 8) (by omega) k)
theorem z_micmp_le (C : CX p s m args meth c own cc nL ret) {x y : Int} {p1 p2 p3 : Nat} (d : decode cc pc = .ok (.if_icmp .le 7, 3)) (d1 : decode cc p1 = .ok (.iconst 1, 1)) (d2 : decode cc p2 = .ok (.goto 4, 3)) (d3 : decode cc p3 = .ok (.iconst 0, 1)) (hr : (-2147483648 ≤ x ∧ x < 2147483648) ∧ (-2147483648 ≤ y ∧ y < 2147483648)) (h1 : pc + 3 = p1) (h2 : p1 + 1 = p2) (h3 : pc + 7 = p3) (q : Nat) (hq : pc + 8 = q) (k : W p l e R s m args below meth c H locs cells slots Q (F0 m q ls (.int (iI (bZ (decide (y < x)))) :: rest))) : W p l e R s m args below meth c H locs cells slots Q (F0 m pc ls (.int (iI y) :: .int (iI x) :: rest)) := by
  subst h1 h2 h3 hq
  refine z_icmp_le C d (pc + 7) (pc + 3) (by omega) rfl hr (fun h => ?_) (fun h => ?_)
  · rw [decide_eq_false (by omega), show bZ false = 0 from rfl] at k
    exact z_iconst C d3 _ (by omega) k
  · rw [decide_eq_true h, show bZ true = 1 from rfl] at k
    exact z_iconst C d1 _ (by omega) (z_goto C d2 (pc + 8) (by omega) k)
theorem z_mif_le (C : CX p s m args meth c own cc nL ret) {x : Int} {p1 p2 p3 : Nat} (d : decode cc pc = .ok (.ifCond .le 7, 3)) (d1 : decode cc p1 = .ok (.iconst 1, 1)) (d2 : decode cc p2 = .ok (.goto 4, 3)) (d3 : decode cc p3 = .ok (.iconst 0, 1)) (hr : -2147483648 ≤ x ∧ x < 2147483648) (h1 : pc + 3 = p1) (h2 : p1 + 1 = p2) (h3 : pc + 7 = p3) (q : Nat) (hq : pc + 8 = q) (k : W p l e R s m args below meth c H locs cells slots Q (F0 m q ls (.int (iI (bZ (decide (0 < x)))) :: rest))) : W p l e R s m args below meth c H locs cells slots Q (F0 m pc ls (.int (iI x) :: rest)) := by
  subst h1 h2 h3 hq
  refine z_if_le C d (pc + 7) (pc + 3) (by omega) rfl hr (fun h => ?_) (fun h => ?_)
  · rw [decide_eq_false (by omega), show bZ false = 0 from rfl] at k
    exact z_iconst C d3 _ (by omega) k
  · rw [decide_eq_true h, show bZ true = 1 from rfl] at k
    exact z_iconst C d1 _ (by omega) (z_goto C d2 (pc + 8) (by omega) k)
theorem z_mb_eq (C : CX p s m args meth c own cc nL ret) {b : Bool} {p1 p2 p3 : Nat} (d : decode cc pc = .ok (.ifCond .eq 7, 3)) (d1 : decode cc p1 = .ok (.iconst 1, 1)) (d2 : decode cc p2 = .ok (.goto 4, 3)) (d3 : decode cc p3 = .ok (.iconst 0, 1)) (h1 : pc + 3 = p1) (h2 : p1 + 1 = p2) (h3 : pc + 7 = p3) (q : Nat) (hq : pc + 8 = q) (k : W p l e R s m args below meth c H locs cells slots Q (F0 m q ls (.int (iI (bZ b)) :: rest))) : W p l e R s m args below meth c H locs cells slots Q (F0 m pc ls (.int (iI (bZ b)) :: rest)) := by
  subst h1 h2 h3 hq
  refine z_ifb_eq C d (pc + 7) (pc + 3) (by omega) rfl (fun h => ?_) (fun h => ?_)
  · rw [h, show bZ false = 0 from rfl] at k
    exact z_iconst C d3 _ (by omega) k
  · rw [h, show bZ true = 1 from rfl] at k
    exact z_iconst C d1 _ (by omega) (z_goto C d2 (pc + 8) (by omega) k)
theorem z_fcm {x y : UInt32} {op : CmpOp} (C : CX p s m args meth c own cc nL ret) (d : decode cc pc = .ok (.fcmp op, 1)) (q : Nat) (hq : pc + 1 = q) (k : W p l e R s m args below meth c H locs cells slots Q (F0 m q ls (.int (Op.cmpValue (FP.fcmp x y) op) :: rest))) : W p l e R s m args below meth c H locs cells slots Q (F0 m pc ls (.float y :: .float x :: rest)) := by
  subst hq
  exact lv_fcmp C.1.1 C.1.2.1 d k
variable {G : gT} {rs : List va_W}
theorem z_sld {b L : Nat} {xs : Nat → Int32} (C : CX p s m args meth c own cc nL ret) (hX : va_X b L xs s s.heap) (hbl : b < s.heap.size) (hW : Wd G (fun q => s.heap.size ≤ q) rs s.heap H locs) {x z : Int} (hx : 0 ≤ x ∧ x < L) (hL : L ≤ 2048) (hv : xs x.toNat = iI z) (d : decode cc pc = .ok (.iaload, 1)) (q : Nat) (hq : pc + 1 = q) (k : W p l e R s m args below meth c H locs cells slots Q (F0 m q ls (.int (iI z) :: rest))) : W p l e R s m args below meth c H locs cells slots Q (F0 m pc ls (.int (iI x) :: .ref b :: rest)) := by
  subst hq
  refine va_sld C.1.1 C.1.2.1 hX hbl (by show ¬ s.heap.size ≤ b; omega) hW.2.2.2 (iI_in hx.1 hx.2 (by omega)) d ?_
  rw [iI_clamp (by omega), hv]
  exact k
theorem z_slenL {b L : Nat} {xs : Nat → Int32} (C : CX p s m args meth c own cc nL ret) (hX : va_X b L xs s s.heap) (hbl : b < s.heap.size) (hW : Wd G (fun q => s.heap.size ≤ q) rs s.heap H locs) (d : decode cc pc = .ok (.arraylength, 1)) (q : Nat) (hq : pc + 1 = q) (k : W p l e R s m args below meth c H locs cells slots Q (F0 m q ls (.int (iI L) :: rest))) : W p l e R s m args below meth c H locs cells slots Q (F0 m pc ls (.ref b :: rest)) := by
  subst hq
  refine va_slen C.1.1 C.1.2.1 hX hbl (by show ¬ s.heap.size ≤ b; omega) hW.2.2.2 d ?_
  rw [show Int32.ofNat L = iI L from iI_nI L]
  exact k

end M

/-! the script -/
def ZX (b L : Nat) (xs : Nat → Int32) : State → Prop := fun U => va_X b L xs U U.heap ∧ b < U.heap.size
theorem zx_blind {b L : Nat} {xs : Nat → Int32} (U : State) (g : JFrame) (mk : MethodId) (a : Array Value) (h : ZX b L xs U) : ZX b L xs (U.calling g mk a) :=
  ⟨va_X.moved (u := U) (U := U.calling g mk a) (Vm.Alike.refl U.vm) h.1, h.2⟩
theorem zx_of {b L : Nat} {xs : Nat → Int32} {s : State} {H : Heap} {locs : List Loc} (hX : va_X b L xs s s.heap) (hb : b < s.heap.size) (hS : va_S (fun q => s.heap.size ≤ q) s.heap H locs) : ∀ U : State, U.heap = H → s.WarmedH U.vm → ZX b L xs U := fun U hU hW => by
  have h1 := (hX.kept (hS.2.1 b hb (by show ¬ s.heap.size ≤ b; omega))).moved hW.alike
  refine ⟨by rw [hU]; exact h1, ?_⟩
  rw [hU]
  exact Nat.lt_of_lt_of_le hb hS.1
/-- what cell tells: the script's int, or one made of the place -/
def celX (xs : Nat → Int32) (L : Nat) (k : Int) : Int32 := if k < L then xs k.toNat else iI (7919 * (k + 3) * (k + 11))
def lowZ (x : Int32) (n : Int) : Int := ((x.toBitVec.toNat % 2 ^ 31 : Nat) : Int) % n
theorem lowZ_rng (x : Int32) {n : Int} (h : 0 < n) : 0 ≤ lowZ x n ∧ lowZ x n < n := ⟨Int.emod_nonneg _ (by omega), Int.emod_lt_of_pos _ h⟩
theorem low_and (x : Int32) : x &&& iI 2147483647 = iI ((x.toBitVec.toNat % 2 ^ 31 : Nat) : Int) := by rw [pk_and x 31 (m := iI 2147483647) (by decide), iI_nI]
theorem low_rng (x : Int32) : 0 ≤ ((x.toBitVec.toNat % 2 ^ 31 : Nat) : Int) ∧ ((x.toBitVec.toNat % 2 ^ 31 : Nat) : Int) < 2147483648 := by omega
theorem and_ex (x : Int32) (k : Nat) (m : Int) (hm : (iI m).toBitVec.toNat = 2 ^ k - 1) : x &&& iI m = iI ((x.toBitVec.toNat % 2 ^ k : Nat) : Int) := by rw [pk_and x k (m := iI m) hm, iI_nI]
theorem fq1 : ∀ a : Nat, a < 25 → ∀ b : Nat, b < 25 → 0 < b → Op.cmpValue (FP.fcmp (FP.fdiv (FP.i2f (iI a)) (FP.i2f (iI b))) (FP.fdiv (FP.i2f (iI a)) (FP.i2f (iI b)))) .l = iI 0 := by decide +kernel
theorem fqZ {a b : Int} (ha : 0 ≤ a ∧ a ≤ b) (hb : 1 ≤ b ∧ b ≤ 24) : Op.cmpValue (FP.fcmp (FP.fdiv (FP.i2f (iI a)) (FP.i2f (iI b))) (FP.fdiv (FP.i2f (iI a)) (FP.i2f (iI b)))) .l = iI 0 := by
  have := fq1 a.toNat (by omega) b.toNat (by omega) (by omega)
  rwa [Int.toNat_of_nonneg ha.1, Int.toNat_of_nonneg (by omega)] at this
/-! what is told, question by question -/
def atZ (v : Int → Int) (b : Int) : Int := if v (74 + 5 * b) = 0 then v (75 + 5 * b) else -5
theorem boa_0 {v : Int → Int} {b : Int} (h : 0 ≤ b ∧ b < v 127) : boaR v b 0 = v (72 + 5 * b) := by unfold boaR; rw [if_neg (by omega)]; rfl
theorem boa_1 {v : Int → Int} {b : Int} (h : 0 ≤ b ∧ b < v 127) : boaR v b 1 = v (73 + 5 * b) := by unfold boaR; rw [if_neg (by omega)]; rfl
theorem boa_2 {v : Int → Int} {b : Int} (h : 0 ≤ b ∧ b < v 127) : boaR v b 2 = v (74 + 5 * b) := by unfold boaR; rw [if_neg (by omega)]; rfl
theorem boa_3 {v : Int → Int} {b : Int} (h : 0 ≤ b ∧ b < v 127) : boaR v b 3 = atZ v b := by
  unfold boaR atZ onB
  rw [if_neg (by omega)]
  by_cases e : v (74 + 5 * b) = 0
  · rw [decide_eq_true e, if_pos e]; rfl
  · rw [decide_eq_false e, if_neg e]; rfl
theorem boa_4 {v : Int → Int} {b : Int} (h : 0 ≤ b ∧ b < v 127) : boaR v b 4 = bZ (onB v b && floB v b) := by unfold boaR; rw [if_neg (by omega)]; rfl
theorem boa_5 {v : Int → Int} {b : Int} (h : 0 ≤ b ∧ b < v 127) : boaR v b 5 = v (76 + 5 * b) := by unfold boaR; rw [if_neg (by omega)]; rfl
theorem boa_6 {v : Int → Int} {b : Int} (h : 0 ≤ b ∧ b < v 127) : boaR v b 6 = mvsZ v b := by unfold boaR; rw [if_neg (by omega)]; rfl
theorem cel_0 {v : Int → Int} {c : Int} (h : 0 ≤ c ∧ c < 36) : celR v c 0 = v c := by unfold celR; rw [if_neg (by omega)]; rfl
theorem cel_1 {v : Int → Int} {c : Int} (h : 0 ≤ c ∧ c < 36) : celR v c 1 = v (36 + c) := by unfold celR; rw [if_neg (by omega)]; rfl
theorem cel_2 {v : Int → Int} {c : Int} (h : 0 ≤ c ∧ c < 36) : celR v c 2 = watZ v c := by unfold celR; rw [if_neg (by omega)]; rfl
theorem cel_3 {v : Int → Int} {c : Int} (h : 0 ≤ c ∧ c < 36) : celR v c 3 = batZ v c := by unfold celR; rw [if_neg (by omega)]; rfl
theorem tid_is {v : Int → Int} {t : Int} (h : 0 ≤ t ∧ t ≤ 1000) : tidR v t = tideZ v t := by unfold tidR; rw [if_neg (by omega)]
theorem err_is {v : Int → Int} {b d n : Int} (h : 0 ≤ b ∧ b < v 127) (hd : 0 ≤ d ∧ d < 4) (hn : 1 ≤ n ∧ n ≤ 3) : errZ v b d n = 0 := by
  unfold errZ
  rw [if_neg (by omega), if_neg (by omega)]
theorem why_is {v : Int → Int} {b d n : Int} (h : 0 ≤ b ∧ b < v 127) (hd : 0 ≤ d ∧ d < 4) (hn : 1 ≤ n ∧ n ≤ 3) : whyR v b d n = reaZ v b d n false := by
  unfold whyR
  rw [if_pos (err_is h hd hn)]
theorem cnt_set {v : Int → Int} {hn ln w : Int} (h : 0 ≤ w ∧ w < 4) : cntR v hn ln (15 + w) = setZ v w := by
  rcases (show w = 0 ∨ w = 1 ∨ w = 2 ∨ w = 3 by omega) with e | e | e | e <;> subst e <;> rfl
theorem chs_set {v : Int → Int} (wf : Wf v) {k x : Int} (hk : 0 ≤ k ∧ k < 4) (hx : lstZ k ≤ x ∧ x ≤ mstZ k) (ht : v 126 = 0) : setZ (chsV v k x) k = x := by
  have hs := wf.s
  have h0 : 0 ≤ setZ v k := by unfold setZ; (repeat' split) <;> omega
  have e1 : chsR v k x = if setZ v k = x then -5 else setZ v k := by
    unfold chsR
    rw [if_neg (by omega), if_neg (by omega), if_neg (by omega)]
  unfold chsV
  rw [e1]
  by_cases e : setZ v k = x
  · rw [if_pos e, if_neg (by omega)]; exact e
  · rw [if_neg e, if_pos h0]
    rcases (show k = 0 ∨ k = 1 ∨ k = 2 ∨ k = 3 by omega) with e | e | e | e <;> subst e <;> rfl
/-! a world of the law; a contract that leaves one of many -/
abbrev lwR (G : gT) (tb r x cu h pa o sg : Nat) (qn qb sn : Nat → Nat) (S : Nat → Nat → Nat) (v u : Int → Int) (g : Nat → Int → Int) (n : Int) (k : sK) : List va_W :=
  [[tbO tb qn qb r x h o], stW G qn v, stW G qb u, [(r, .inr (3, [.ref (qn 0)]))], [sxA x cu qn k.1], [arL G cu 5 k.2], hiW G h pa sn n S g false, stW G sn v0Z, [orO G o sg 0], [arC G sg 60 (fun _ => 0)]]
abbrev wT : Type := (Nat → Nat → Nat) × (Int → Int) × (Nat → Int → Int) × Int × sK
def QE {α : Type} (G : gT) (ss : List va_W) (wr : α → List va_W) (φ : α → Prop) (r : Value) : Array Value → State → Outcome → State → Prop := fun _ st o t => o = .returned (some r) ∧ (∃ x : α, φ x ∧ gP G (wr x).flatten t.heap ∧ gD (wr x).flatten ∧ ∀ q, adr (wr x).flatten q → adr ss.flatten q) ∧ va_F (adr ss.flatten) st t
def ME {α : Type} (l : Launch) (G : gT) (y : MethodName) (cc : ByteArray) (n : Nat) (ret : Option FieldType) (d : Nat) (As : List Value) (ss : List va_W) (wr : α → List va_W) (φ : α → Prop) (Z : State → Prop) (r : Value) : Prop :=
  Met l y (ws_ y cc n ret) (rmN d) (va_Pc As (BZ G ss Z)) (QE G ss wr φ r) 0 0 (adr ss.flatten)
theorem enterE {α : Type} {l : Launch} {G : gT} {y : MethodName} {cc : ByteArray} {n d : Nat} {ret : Option FieldType} {As : List Value} {ss : List va_W} {wr : α → List va_W} {φ : α → Prop} {Z : State → Prop} {r : Value} {own : String} (hy : plainName y.cls = true) (ho : y.cls = own) (hfit : (lg_sl As).length ≤ n) (hD : gD ss.flatten)
    (body : ∀ p e s m below meth c, CX p s m As.toArray meth c own cc n ret → Wd G (adr ss.flatten) ss s.heap s.heap [] → gK G s → Z s → ∀ ls, lv_has ls n (lv_args 0 As) → W p l e (rmN d) s m As.toArray below meth c s.heap [] 0 0 (MQ below (QE G ss wr φ r) As.toArray s 0 0 (adr ss.flatten)) (F0 m 0 ls [])) : ME l G y cc n ret d As ss wr φ Z r :=
  enter hy ho hfit fun p e s m below meth c C hP hK hZ ls hl => body p e s m below meth c C ⟨hP, hD, fun _ h => h, va_S.rf⟩ hK hZ ls hl
section E
variable {p : Program} {l : Launch} {e : Env} {R : Room} {s : State} {m : MethodId} {args : Array Value} {below : List Frame} {meth : Method} {c : Code} {H : Heap} {locs : List Loc} {cells slots : Nat} {Q : State → Prop}
variable {own : String} {cc : ByteArray} {nL : Nat} {ret : Option FieldType} {pc : Nat} {ls : Array Slot} {rest : List Value}
theorem z_ez {α : Type} {G : gT} {ss rs : List va_W} {wr : α → List va_W} {φ : α → Prop} (C : CX p s m args meth c own cc nL (some .boolean)) (hW : Wd G (adr ss.flatten) rs s.heap H locs) (d : decode cc pc = .ok (.ireturn, 1)) (x : α) (hx : φ x) (hrs : rs.flatten = (wr x).flatten) : W p l e R s m args below meth c H locs cells slots (MQ below (QE G ss wr φ (.int (iI 1))) args s cells slots (adr ss.flatten)) (F0 m pc ls [.int (iI 1)]) :=
  W.zret C.1.1 C.1.2.1 C.2.1 (nar_bZ true) (fun t ht _ => ⟨rfl, ⟨x, hx, by rw [ht, ← hrs]; exact hW.1, by rw [← hrs]; exact hW.2.1, fun q hq => hW.2.2.1 q (by rw [hrs]; exact hq)⟩, hW.2.2.2.F ht⟩) hW.2.2.2.2.2 d C.2.2
theorem z_SE {α : Type} {G : gT} {A : Nat → Prop} {H0 : Heap} {rs : List va_W} {wr : α → List va_W} {φ : α → Prop} {r : Value} {y : MethodName} {bytes : ByteArray} {maxL nA dep idx : Nat} {yret : Option FieldType} {As st : List Value} (C : CX p s m args meth c own cc nL ret) (hM : ME l G y bytes maxL yret dep As rs wr φ ZT r) (kw : CWS own idx y bytes maxL yret nA) (hR : okR R maxL dep) (hW : Wd G A rs H0 H locs) (hK : gK G s) (hn : As.length = nA) (hls : ls.size = nL) (hst : st = As.reverse ++ rest) (hro : (rest.map fun v => v.category).sum ≤ 8) (d : decode cc pc = .ok (.invokestatic idx, 3)) (hf : cells ≤ R.cells ∧ slots ≤ R.slots) (q : Nat) (hq : pc + 3 = q) (k : ∀ (x : α) (H1 : Heap) (locs1 : List Loc), φ x → Wd G A (wr x) H0 H1 locs1 → W p l e R s m args below meth c H1 locs1 cells slots Q (F0 m q ls (r :: rest))) : W p l e R s m args below meth c H locs cells slots Q (F0 m pc ls st) := by
  subst hq
  intro T hT X
  have hS := hW.2.2.2
  obtain ⟨v, st₀, t, T', L, h0, X', hL, e1, e2, ⟨hv, ⟨x, hx, hp, hd, ha⟩, hz, hk⟩, hs⟩ := (run_S C hM kw hR hW.1 hK (fun _ _ _ _ h => h) (fun _ _ _ => trivial) hn hls hst hro d hf) T hT X
  cases hv
  rw [h0] at hz hk
  obtain ⟨t2, a1, b1⟩ := k x T'.heap (locs ++ L) hx ⟨by rw [e1]; exact hp, hd, fun q hq => hW.2.2.1 q (ha q hq),
    ⟨Nat.le_trans hS.1 (by rw [e1]; exact hz), fun q h1 h2 => by rw [e1, hk q (Nat.lt_of_lt_of_le h1 hS.1) (fun z => h2 (hW.2.2.1 q z))]; exact hS.2.1 q h1 h2, fun q hq => by
      rcases List.mem_append.mp hq with h | h
      · exact hS.2.2 q h
      · exact hW.2.2.1 _ (hL q h)⟩⟩ T' rfl X'
  exact ⟨t2, hs t2 a1, b1⟩
end E
