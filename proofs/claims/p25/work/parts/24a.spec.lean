/-! the law's walk -/
/-- from a place of the law, in any world of it -/
def LQ (p : Program) (l : Launch) (e : Env) (s : State) (m : MethodId) (below : List Frame) (meth : Method) (c : Code) (G : gT) (b tb r x cu h pa o sg : Nat) (qn qb sn : Nat → Nat) (P : (Int → Int) → Prop) (ee : Int) (pc : Nat) : Prop :=
  ∀ (S : Nat → Nat → Nat) (v u : Int → Int) (g : Nat → Int → Int) (n : Int) (k : sK) (H : Heap) (locs : List Loc) (ls : Array Slot),
    Ia v → (0 ≤ n ∧ n ≤ 4) → P v → Wd G (fun q => s.heap.size ≤ q) (lwR G tb r x cu h pa o sg qn qb sn S v u g n k) s.heap H locs → lv_has ls 10 [(2, .int (iI ee)), (1, .ref tb), (0, .ref b)] →
    W p l e room_1 s m #[Value.ref b] below meth c H locs 64 1041 (lw_Z below #[Value.ref b] s) (F0 m pc ls [])
abbrev lw0k : sK := ((0, 0, 0, 0, 0), fun _ => 0)
theorem and3_ex (x : Int32) : ∃ t : Int, (0 ≤ t ∧ t < 4) ∧ x &&& iI 3 = iI t := ⟨((x.toBitVec.toNat % 2 ^ 2 : Nat) : Int), by omega, and_ex x 2 3 (by decide)⟩
