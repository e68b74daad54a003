/-- what a walk knows of its method -/
def CX (p : Program) (s : State) (m : MethodId) (args : Array Value) (meth : Method) (c : Code) (own : String) (cc : ByteArray) (nL : Nat) (ret : Option FieldType) : Prop :=
  CallFix p m c cc nL s args lw_all own ∧ meth.sig.returnType = ret ∧ meth.locks = false

section Z
variable {p : Program} {l : Launch} {e : Env} {R : Room} {s : State} {m : MethodId} {args : Array Value} {below : List Frame} {meth : Method} {c : Code} {H : Heap} {locs : List Loc} {cells slots : Nat} {Q : State → Prop}
variable {own : String} {cc : ByteArray} {nL : Nat} {ret : Option FieldType} {pc : Nat} {ls : Array Slot} {rest : List Value} {lv lv' : List (Nat × Value)}

theorem adr_D {A : Nat → Prop} {w : va_W} (h : va_D A w) {q : Nat} (hq : adr w q) : A q := by
  obtain ⟨e, he⟩ := adr_iff.mp hq
  obtain ⟨i, hi⟩ := List.getElem?_of_mem he
  exact h.2 i _ hi
theorem lcmp0 {x y : Int64} : lg_cmp x y = 0 ↔ x = y := by
  unfold lg_cmp
  by_cases h1 : x > y
  · rw [if_pos h1]
    constructor
    · intro h; exact absurd h (by decide)
    · intro h; subst h; exact absurd h1 (by simp)
  · rw [if_neg h1]
    by_cases h2 : x = y
    · simp [h2]
    · rw [if_neg h2]
      constructor
      · intro h; exact absurd h (by decide)
      · intro h; exact absurd h h2
theorem z_iconst (C : CX p s m args meth c own cc nL ret) {n : Int} (d : decode cc pc = .ok (.iconst n, 1)) (q : Nat) (hq : pc + 1 = q) (k : W p l e R s m args below meth c H locs cells slots Q (F0 m q ls (.int (iI n) :: rest))) : W p l e R s m args below meth c H locs cells slots Q (F0 m pc ls (rest)) := by
  subst hq
  exact lv_iconst C.1.1 C.1.2.1 d rfl k
theorem z_bipush (C : CX p s m args meth c own cc nL ret) {n : Int} (d : decode cc pc = .ok (.bipush n, 2)) (h : (Int8.ofInt n).toInt32 = iI n) (q : Nat) (hq : pc + 2 = q) (k : W p l e R s m args below meth c H locs cells slots Q (F0 m q ls (.int (iI n) :: rest))) : W p l e R s m args below meth c H locs cells slots Q (F0 m pc ls (rest)) := by
  subst hq
  exact lv_bipush C.1.1 C.1.2.1 d h k
theorem z_sipush (C : CX p s m args meth c own cc nL ret) {n : Int} (d : decode cc pc = .ok (.sipush n, 3)) (h : (Int16.ofInt n).toInt32 = iI n) (q : Nat) (hq : pc + 3 = q) (k : W p l e R s m args below meth c H locs cells slots Q (F0 m q ls (.int (iI n) :: rest))) : W p l e R s m args below meth c H locs cells slots Q (F0 m pc ls (rest)) := by
  subst hq
  exact lv_sipush C.1.1 C.1.2.1 d h k
theorem z_ldc (C : CX p s m args meth c own cc nL ret) {idx : Nat} {v : Int32} {z : Int} (hw : Cond.constant own idx v ∈ lw_all) (hv : v = iI z) (d : decode cc pc = .ok (.ldc idx, 2)) (q : Nat) (hq : pc + 2 = q) (k : W p l e R s m args below meth c H locs cells slots Q (F0 m q ls (.int (iI z) :: rest))) : W p l e R s m args below meth c H locs cells slots Q (F0 m pc ls (rest)) := by
  subst hq
  subst hv
  exact lv_ldc C.1.1 C.1.2.1 C.1.2.2.2.1 (C.1.2.2.2.2 _ hw) d k
theorem z_ldcf (C : CX p s m args meth c own cc nL ret) {idx : Nat} {v : UInt32} (hw : Cond.constantFloat own idx v ∈ lw_all) (d : decode cc pc = .ok (.ldc idx, 2)) (q : Nat) (hq : pc + 2 = q) (k : W p l e R s m args below meth c H locs cells slots Q (F0 m q ls (.float v :: rest))) : W p l e R s m args below meth c H locs cells slots Q (F0 m pc ls (rest)) := by
  subst hq
  exact lv_ldcf C.1.1 C.1.2.1 C.1.2.2.2.1 (C.1.2.2.2.2 _ hw) d k
theorem z_ldc2 (C : CX p s m args meth c own cc nL ret) {idx : Nat} {v : Int64} (hw : Cond.constantLong own idx v ∈ lw_all) (d : decode cc pc = .ok (.ldc2_w idx, 3)) (q : Nat) (hq : pc + 3 = q) (k : W p l e R s m args below meth c H locs cells slots Q (F0 m q ls (.long v :: rest))) : W p l e R s m args below meth c H locs cells slots Q (F0 m pc ls (rest)) := by
  subst hq
  exact lv_ldc2 C.1.1 C.1.2.1 C.1.2.2.2.1 (C.1.2.2.2.2 _ hw) d k
theorem z_lconst0 (C : CX p s m args meth c own cc nL ret) (d : decode cc pc = .ok (.lconst 0, 1)) (q : Nat) (hq : pc + 1 = q) (k : W p l e R s m args below meth c H locs cells slots Q (F0 m q ls (.long 0 :: rest))) : W p l e R s m args below meth c H locs cells slots Q (F0 m pc ls (rest)) := by
  subst hq
  exact lv_lconst C.1.1 C.1.2.1 d rfl k
theorem z_lconst1 (C : CX p s m args meth c own cc nL ret) (d : decode cc pc = .ok (.lconst 1, 1)) (q : Nat) (hq : pc + 1 = q) (k : W p l e R s m args below meth c H locs cells slots Q (F0 m q ls (.long 1 :: rest))) : W p l e R s m args below meth c H locs cells slots Q (F0 m pc ls (rest)) := by
  subst hq
  exact lv_lconst C.1.1 C.1.2.1 d rfl k
theorem z_null (C : CX p s m args meth c own cc nL ret) (d : decode cc pc = .ok (.aconst_null, 1)) (q : Nat) (hq : pc + 1 = q) (k : W p l e R s m args below meth c H locs cells slots Q (F0 m q ls (.null :: rest))) : W p l e R s m args below meth c H locs cells slots Q (F0 m pc ls (rest)) := by
  subst hq
  exact lv_null C.1.1 C.1.2.1 d k
theorem z_il_n (C : CX p s m args meth c own cc nL ret) {j : Fin 4} {x : Int32} (hl : lv_has ls nL lv) (d : decode cc pc = .ok (.iload_n j, 1)) (i : Nat) (hi : lv[i]? = some ((j : Nat), .int x)) (q : Nat) (hq : pc + 1 = q) (k : W p l e R s m args below meth c H locs cells slots Q (F0 m q ls (.int x :: rest))) : W p l e R s m args below meth c H locs cells slots Q (F0 m pc ls (rest)) := by
  subst hq
  exact lv_iload_n C.1.1 C.1.2.1 d rfl (lv_at hl i hi) k
theorem z_il (C : CX p s m args meth c own cc nL ret) {j : Nat} {x : Int32} (hl : lv_has ls nL lv) (d : decode cc pc = .ok (.iload j, 2)) (i : Nat) (hi : lv[i]? = some (j, .int x)) (q : Nat) (hq : pc + 2 = q) (k : W p l e R s m args below meth c H locs cells slots Q (F0 m q ls (.int x :: rest))) : W p l e R s m args below meth c H locs cells slots Q (F0 m pc ls (rest)) := by
  subst hq
  exact lv_iload C.1.1 C.1.2.1 d (lv_at hl i hi) k
theorem z_ll_n (C : CX p s m args meth c own cc nL ret) {j : Fin 4} {x : Int64} (hl : lv_has ls nL lv) (d : decode cc pc = .ok (.lload_n j, 1)) (i : Nat) (hi : lv[i]? = some ((j : Nat), .long x)) (q : Nat) (hq : pc + 1 = q) (k : W p l e R s m args below meth c H locs cells slots Q (F0 m q ls (.long x :: rest))) : W p l e R s m args below meth c H locs cells slots Q (F0 m pc ls (rest)) := by
  subst hq
  exact lv_lload_n C.1.1 C.1.2.1 d rfl (lv_at hl i hi) k
theorem z_ll (C : CX p s m args meth c own cc nL ret) {j : Nat} {x : Int64} (hl : lv_has ls nL lv) (d : decode cc pc = .ok (.lload j, 2)) (i : Nat) (hi : lv[i]? = some (j, .long x)) (q : Nat) (hq : pc + 2 = q) (k : W p l e R s m args below meth c H locs cells slots Q (F0 m q ls (.long x :: rest))) : W p l e R s m args below meth c H locs cells slots Q (F0 m pc ls (rest)) := by
  subst hq
  exact lv_lload C.1.1 C.1.2.1 d (lv_at hl i hi) k
theorem z_al_n (C : CX p s m args meth c own cc nL ret) {j : Fin 4} {x : Nat} (hl : lv_has ls nL lv) (d : decode cc pc = .ok (.aload_n j, 1)) (i : Nat) (hi : lv[i]? = some ((j : Nat), .ref x)) (q : Nat) (hq : pc + 1 = q) (k : W p l e R s m args below meth c H locs cells slots Q (F0 m q ls (.ref x :: rest))) : W p l e R s m args below meth c H locs cells slots Q (F0 m pc ls (rest)) := by
  subst hq
  exact lv_aload_n C.1.1 C.1.2.1 d rfl (lv_at hl i hi) k
theorem z_al (C : CX p s m args meth c own cc nL ret) {j : Nat} {x : Nat} (hl : lv_has ls nL lv) (d : decode cc pc = .ok (.aload j, 2)) (i : Nat) (hi : lv[i]? = some (j, .ref x)) (q : Nat) (hq : pc + 2 = q) (k : W p l e R s m args below meth c H locs cells slots Q (F0 m q ls (.ref x :: rest))) : W p l e R s m args below meth c H locs cells slots Q (F0 m pc ls (rest)) := by
  subst hq
  exact lv_aload C.1.1 C.1.2.1 d (lv_at hl i hi) k
theorem z_dl_n (C : CX p s m args meth c own cc nL ret) {j : Fin 4} {x : UInt64} (hl : lv_has ls nL lv) (d : decode cc pc = .ok (.dload_n j, 1)) (i : Nat) (hi : lv[i]? = some ((j : Nat), .double x)) (q : Nat) (hq : pc + 1 = q) (k : W p l e R s m args below meth c H locs cells slots Q (F0 m q ls (.double x :: rest))) : W p l e R s m args below meth c H locs cells slots Q (F0 m pc ls (rest)) := by
  subst hq
  exact lv_dload_n C.1.1 C.1.2.1 d rfl (lv_at hl i hi) k
theorem z_dl (C : CX p s m args meth c own cc nL ret) {j : Nat} {x : UInt64} (hl : lv_has ls nL lv) (d : decode cc pc = .ok (.dload j, 2)) (i : Nat) (hi : lv[i]? = some (j, .double x)) (q : Nat) (hq : pc + 2 = q) (k : W p l e R s m args below meth c H locs cells slots Q (F0 m q ls (.double x :: rest))) : W p l e R s m args below meth c H locs cells slots Q (F0 m pc ls (rest)) := by
  subst hq
  exact lv_dload C.1.1 C.1.2.1 d (lv_at hl i hi) k
theorem z_al_nN (C : CX p s m args meth c own cc nL ret) {j : Fin 4} (hl : lv_has ls nL lv) (d : decode cc pc = .ok (.aload_n j, 1)) (i : Nat) (hi : lv[i]? = some ((j : Nat), .null)) (q : Nat) (hq : pc + 1 = q) (k : W p l e R s m args below meth c H locs cells slots Q (F0 m q ls (.null :: rest))) : W p l e R s m args below meth c H locs cells slots Q (F0 m pc ls (rest)) := by
  subst hq
  exact lv_aload_nN C.1.1 C.1.2.1 d rfl (lv_at hl i hi) k
theorem z_is_n (C : CX p s m args meth c own cc nL ret) {j : Fin 4} {x : Int32} (hl : lv_has ls nL lv) (d : decode cc pc = .ok (.istore_n j, 1)) (q : Nat) (hq : pc + 1 = q) (hn : (j : Nat) < nL) (he : ((j : Nat), Value.int x) :: lv.filter (fun q => !(q.1 == (j : Nat)) && !(q.1 + 1 == (j : Nat) && q.2.category == 2)) = lv') (k : ∀ ls' : Array Slot, lv_has ls' nL lv' → W p l e R s m args below meth c H locs cells slots Q (F0 m q ls' (rest))) : W p l e R s m args below meth c H locs cells slots Q (F0 m pc ls (.int x :: rest)) := by
  subst hq
  exact lv_istore_n C.1.1 C.1.2.1 d rfl hl hn he k
theorem z_is (C : CX p s m args meth c own cc nL ret) {j : Nat} {x : Int32} (hl : lv_has ls nL lv) (d : decode cc pc = .ok (.istore j, 2)) (q : Nat) (hq : pc + 2 = q) (hn : j < nL) (he : (j, Value.int x) :: lv.filter (fun q => !(q.1 == j) && !(q.1 + 1 == j && q.2.category == 2)) = lv') (k : ∀ ls' : Array Slot, lv_has ls' nL lv' → W p l e R s m args below meth c H locs cells slots Q (F0 m q ls' (rest))) : W p l e R s m args below meth c H locs cells slots Q (F0 m pc ls (.int x :: rest)) := by
  subst hq
  exact lv_istore C.1.1 C.1.2.1 d hl hn he k
theorem z_ls_n (C : CX p s m args meth c own cc nL ret) {j : Fin 4} {x : Int64} (hl : lv_has ls nL lv) (d : decode cc pc = .ok (.lstore_n j, 1)) (q : Nat) (hq : pc + 1 = q) (hn : (j : Nat) + 1 < nL) (he : ((j : Nat), Value.long x) :: lv.filter (fun q => !(q.1 == (j : Nat)) && (!(q.1 == (j : Nat) + 1) && !(q.1 + 1 == (j : Nat) && q.2.category == 2))) = lv') (k : ∀ ls' : Array Slot, lv_has ls' nL lv' → W p l e R s m args below meth c H locs cells slots Q (F0 m q ls' (rest))) : W p l e R s m args below meth c H locs cells slots Q (F0 m pc ls (.long x :: rest)) := by
  subst hq
  exact lv_lstore_n C.1.1 C.1.2.1 d rfl hl hn he k
theorem z_ls (C : CX p s m args meth c own cc nL ret) {j : Nat} {x : Int64} (hl : lv_has ls nL lv) (d : decode cc pc = .ok (.lstore j, 2)) (q : Nat) (hq : pc + 2 = q) (hn : j + 1 < nL) (he : (j, Value.long x) :: lv.filter (fun q => !(q.1 == j) && (!(q.1 == j + 1) && !(q.1 + 1 == j && q.2.category == 2))) = lv') (k : ∀ ls' : Array Slot, lv_has ls' nL lv' → W p l e R s m args below meth c H locs cells slots Q (F0 m q ls' (rest))) : W p l e R s m args below meth c H locs cells slots Q (F0 m pc ls (.long x :: rest)) := by
  subst hq
  exact lv_lstore C.1.1 C.1.2.1 d hl hn he k
theorem z_as_n (C : CX p s m args meth c own cc nL ret) {j : Fin 4} {x : Nat} (hl : lv_has ls nL lv) (d : decode cc pc = .ok (.astore_n j, 1)) (q : Nat) (hq : pc + 1 = q) (hn : (j : Nat) < nL) (he : ((j : Nat), Value.ref x) :: lv.filter (fun q => !(q.1 == (j : Nat)) && !(q.1 + 1 == (j : Nat) && q.2.category == 2)) = lv') (k : ∀ ls' : Array Slot, lv_has ls' nL lv' → W p l e R s m args below meth c H locs cells slots Q (F0 m q ls' (rest))) : W p l e R s m args below meth c H locs cells slots Q (F0 m pc ls (.ref x :: rest)) := by
  subst hq
  exact lv_astore_n C.1.1 C.1.2.1 d rfl hl hn he k
theorem z_as (C : CX p s m args meth c own cc nL ret) {j : Nat} {x : Nat} (hl : lv_has ls nL lv) (d : decode cc pc = .ok (.astore j, 2)) (q : Nat) (hq : pc + 2 = q) (hn : j < nL) (he : (j, Value.ref x) :: lv.filter (fun q => !(q.1 == j) && !(q.1 + 1 == j && q.2.category == 2)) = lv') (k : ∀ ls' : Array Slot, lv_has ls' nL lv' → W p l e R s m args below meth c H locs cells slots Q (F0 m q ls' (rest))) : W p l e R s m args below meth c H locs cells slots Q (F0 m pc ls (.ref x :: rest)) := by
  subst hq
  exact lv_astore C.1.1 C.1.2.1 d hl hn he k
theorem z_ds_n (C : CX p s m args meth c own cc nL ret) {j : Fin 4} {x : UInt64} (hl : lv_has ls nL lv) (d : decode cc pc = .ok (.dstore_n j, 1)) (q : Nat) (hq : pc + 1 = q) (hn : (j : Nat) + 1 < nL) (he : ((j : Nat), Value.double x) :: lv.filter (fun q => !(q.1 == (j : Nat)) && (!(q.1 == (j : Nat) + 1) && !(q.1 + 1 == (j : Nat) && q.2.category == 2))) = lv') (k : ∀ ls' : Array Slot, lv_has ls' nL lv' → W p l e R s m args below meth c H locs cells slots Q (F0 m q ls' (rest))) : W p l e R s m args below meth c H locs cells slots Q (F0 m pc ls (.double x :: rest)) := by
  subst hq
  exact lv_dstore_n C.1.1 C.1.2.1 d rfl hl hn he k
theorem z_ds (C : CX p s m args meth c own cc nL ret) {j : Nat} {x : UInt64} (hl : lv_has ls nL lv) (d : decode cc pc = .ok (.dstore j, 2)) (q : Nat) (hq : pc + 2 = q) (hn : j + 1 < nL) (he : (j, Value.double x) :: lv.filter (fun q => !(q.1 == j) && (!(q.1 == j + 1) && !(q.1 + 1 == j && q.2.category == 2))) = lv') (k : ∀ ls' : Array Slot, lv_has ls' nL lv' → W p l e R s m args below meth c H locs cells slots Q (F0 m q ls' (rest))) : W p l e R s m args below meth c H locs cells slots Q (F0 m pc ls (.double x :: rest)) := by
  subst hq
  exact lv_dstore C.1.1 C.1.2.1 d hl hn he k
theorem z_iinc (C : CX p s m args meth c own cc nL ret) {j : Nat} {n x z : Int} (hl : lv_has ls nL lv) (d : decode cc pc = .ok (.iinc j n, 3)) (q : Nat) (hq : pc + 3 = q) (i : Nat) (hi : lv[i]? = some (j, .int (iI x))) (hz : x + n = z) (hn : j < nL) (he : (j, Value.int (iI z)) :: lv.filter (fun q => !(q.1 == j) && !(q.1 + 1 == j && q.2.category == 2)) = lv') (k : ∀ ls' : Array Slot, lv_has ls' nL lv' → W p l e R s m args below meth c H locs cells slots Q (F0 m q ls' (rest))) : W p l e R s m args below meth c H locs cells slots Q (F0 m pc ls (rest)) := by
  subst hq
  exact lv_iinc (v := iI z) C.1.1 C.1.2.1 d hl hi (by rw [← hz]; exact iI_add x n) hn he k
theorem z_iadd (C : CX p s m args meth c own cc nL ret) {x y : Int} (d : decode cc pc = .ok (.iadd, 1)) (q : Nat) (hq : pc + 1 = q) (z : Int) (hz : x + y = z) (k : W p l e R s m args below meth c H locs cells slots Q (F0 m q ls (.int (iI z) :: rest))) : W p l e R s m args below meth c H locs cells slots Q (F0 m pc ls (.int (iI y) :: .int (iI x) :: rest)) := by
  subst hq hz
  refine lv_iadd C.1.1 C.1.2.1 d ?_
  rw [iI_add]
  exact k
theorem z_isub (C : CX p s m args meth c own cc nL ret) {x y : Int} (d : decode cc pc = .ok (.isub, 1)) (q : Nat) (hq : pc + 1 = q) (z : Int) (hz : x - y = z) (k : W p l e R s m args below meth c H locs cells slots Q (F0 m q ls (.int (iI z) :: rest))) : W p l e R s m args below meth c H locs cells slots Q (F0 m pc ls (.int (iI y) :: .int (iI x) :: rest)) := by
  subst hq hz
  refine lv_isub C.1.1 C.1.2.1 d ?_
  rw [iI_sub]
  exact k
theorem z_imul (C : CX p s m args meth c own cc nL ret) {x y : Int} (d : decode cc pc = .ok (.imul, 1)) (q : Nat) (hq : pc + 1 = q) (z : Int) (hz : x * y = z) (k : W p l e R s m args below meth c H locs cells slots Q (F0 m q ls (.int (iI z) :: rest))) : W p l e R s m args below meth c H locs cells slots Q (F0 m pc ls (.int (iI y) :: .int (iI x) :: rest)) := by
  subst hq hz
  refine lv_imul C.1.1 C.1.2.1 d ?_
  rw [iI_mul]
  exact k
theorem z_idiv (C : CX p s m args meth c own cc nL ret) {x y : Int} (d : decode cc pc = .ok (.idiv, 1)) (q : Nat) (hq : pc + 1 = q) (hr : (0 ≤ x ∧ x < 2147483648) ∧ (0 < y ∧ y < 2147483648)) (z : Int) (hz : x / y = z) (k : W p l e R s m args below meth c H locs cells slots Q (F0 m q ls (.int (iI z) :: rest))) : W p l e R s m args below meth c H locs cells slots Q (F0 m pc ls (.int (iI y) :: .int (iI x) :: rest)) := by
  subst hq hz
  refine lv_idiv C.1.1 C.1.2.1 d (iI_ne0 hr.2) ?_
  rw [iI_div hr.1 hr.2]
  exact k
theorem z_irem (C : CX p s m args meth c own cc nL ret) {x y : Int} (d : decode cc pc = .ok (.irem, 1)) (q : Nat) (hq : pc + 1 = q) (hr : (0 ≤ x ∧ x < 2147483648) ∧ (0 < y ∧ y < 2147483648)) (z : Int) (hz : x % y = z) (k : W p l e R s m args below meth c H locs cells slots Q (F0 m q ls (.int (iI z) :: rest))) : W p l e R s m args below meth c H locs cells slots Q (F0 m pc ls (.int (iI y) :: .int (iI x) :: rest)) := by
  subst hq hz
  refine lv_irem C.1.1 C.1.2.1 d (iI_ne0 hr.2) ?_
  rw [iI_rem hr.1 hr.2]
  exact k
theorem z_iand (C : CX p s m args meth c own cc nL ret) {x y : Int32} (d : decode cc pc = .ok (.iand, 1)) (q : Nat) (hq : pc + 1 = q) (k : W p l e R s m args below meth c H locs cells slots Q (F0 m q ls (.int (x &&& y) :: rest))) : W p l e R s m args below meth c H locs cells slots Q (F0 m pc ls (.int y :: .int x :: rest)) := by
  subst hq
  exact lv_iand C.1.1 C.1.2.1 d k
theorem z_ior (C : CX p s m args meth c own cc nL ret) {x y : Int32} (d : decode cc pc = .ok (.ior, 1)) (q : Nat) (hq : pc + 1 = q) (k : W p l e R s m args below meth c H locs cells slots Q (F0 m q ls (.int (x ||| y) :: rest))) : W p l e R s m args below meth c H locs cells slots Q (F0 m pc ls (.int y :: .int x :: rest)) := by
  subst hq
  exact lv_ior C.1.1 C.1.2.1 d k
theorem z_ixor (C : CX p s m args meth c own cc nL ret) {x y : Int32} (d : decode cc pc = .ok (.ixor, 1)) (q : Nat) (hq : pc + 1 = q) (k : W p l e R s m args below meth c H locs cells slots Q (F0 m q ls (.int (x ^^^ y) :: rest))) : W p l e R s m args below meth c H locs cells slots Q (F0 m pc ls (.int y :: .int x :: rest)) := by
  subst hq
  exact lv_ixor C.1.1 C.1.2.1 d k
theorem z_ishl (C : CX p s m args meth c own cc nL ret) {x y : Int32} (d : decode cc pc = .ok (.ishl, 1)) (q : Nat) (hq : pc + 1 = q) (k : W p l e R s m args below meth c H locs cells slots Q (F0 m q ls (.int (x <<< (y &&& 31)) :: rest))) : W p l e R s m args below meth c H locs cells slots Q (F0 m pc ls (.int y :: .int x :: rest)) := by
  subst hq
  exact lv_ishl C.1.1 C.1.2.1 d k
theorem z_ishr (C : CX p s m args meth c own cc nL ret) {x y : Int32} (d : decode cc pc = .ok (.ishr, 1)) (q : Nat) (hq : pc + 1 = q) (k : W p l e R s m args below meth c H locs cells slots Q (F0 m q ls (.int (x >>> (y &&& 31)) :: rest))) : W p l e R s m args below meth c H locs cells slots Q (F0 m pc ls (.int y :: .int x :: rest)) := by
  subst hq
  exact lv_ishr C.1.1 C.1.2.1 d k
theorem z_iushr (C : CX p s m args meth c own cc nL ret) {x y v : Int32} (d : decode cc pc = .ok (.iushr, 1)) (hv : (x.toUInt32 >>> (y.toUInt32 &&& Int32.toUInt32 31)).toInt32 = v) (q : Nat) (hq : pc + 1 = q) (k : W p l e R s m args below meth c H locs cells slots Q (F0 m q ls (.int v :: rest))) : W p l e R s m args below meth c H locs cells slots Q (F0 m pc ls (.int y :: .int x :: rest)) := by
  subst hq
  exact lv_iushr C.1.1 C.1.2.1 d hv k
theorem z_land (C : CX p s m args meth c own cc nL ret) {x y : Int64} (d : decode cc pc = .ok (.land, 1)) (q : Nat) (hq : pc + 1 = q) (k : W p l e R s m args below meth c H locs cells slots Q (F0 m q ls (.long (x &&& y) :: rest))) : W p l e R s m args below meth c H locs cells slots Q (F0 m pc ls (.long y :: .long x :: rest)) := by
  subst hq
  exact lv_land C.1.1 C.1.2.1 d k
theorem z_lor (C : CX p s m args meth c own cc nL ret) {x y : Int64} (d : decode cc pc = .ok (.lor, 1)) (q : Nat) (hq : pc + 1 = q) (k : W p l e R s m args below meth c H locs cells slots Q (F0 m q ls (.long (x ||| y) :: rest))) : W p l e R s m args below meth c H locs cells slots Q (F0 m pc ls (.long y :: .long x :: rest)) := by
  subst hq
  exact lv_lor C.1.1 C.1.2.1 d k
theorem z_lxor (C : CX p s m args meth c own cc nL ret) {x y : Int64} (d : decode cc pc = .ok (.lxor, 1)) (q : Nat) (hq : pc + 1 = q) (k : W p l e R s m args below meth c H locs cells slots Q (F0 m q ls (.long (x ^^^ y) :: rest))) : W p l e R s m args below meth c H locs cells slots Q (F0 m pc ls (.long y :: .long x :: rest)) := by
  subst hq
  exact lv_lxor C.1.1 C.1.2.1 d k
theorem z_lshl (C : CX p s m args meth c own cc nL ret) {x v : Int64} {y : Int32} (d : decode cc pc = .ok (.lshl, 1)) (hv : x <<< (y.toInt64 &&& 63) = v) (q : Nat) (hq : pc + 1 = q) (k : W p l e R s m args below meth c H locs cells slots Q (F0 m q ls (.long v :: rest))) : W p l e R s m args below meth c H locs cells slots Q (F0 m pc ls (.int y :: .long x :: rest)) := by
  subst hq
  exact lv_lshl C.1.1 C.1.2.1 d hv k
theorem z_lushr (C : CX p s m args meth c own cc nL ret) {x v : Int64} {y : Int32} (d : decode cc pc = .ok (.lushr, 1)) (hv : (x.toUInt64 >>> (y.toInt64.toUInt64 &&& Int64.toUInt64 63)).toInt64 = v) (q : Nat) (hq : pc + 1 = q) (k : W p l e R s m args below meth c H locs cells slots Q (F0 m q ls (.long v :: rest))) : W p l e R s m args below meth c H locs cells slots Q (F0 m pc ls (.int y :: .long x :: rest)) := by
  subst hq
  exact lv_lushr C.1.1 C.1.2.1 d hv k
theorem z_lcmp (C : CX p s m args meth c own cc nL ret) {x y : Int64} (d : decode cc pc = .ok (.lcmp, 1)) (q : Nat) (hq : pc + 1 = q) (k : W p l e R s m args below meth c H locs cells slots Q (F0 m q ls (.int (lg_cmp x y) :: rest))) : W p l e R s m args below meth c H locs cells slots Q (F0 m pc ls (.long y :: .long x :: rest)) := by
  subst hq
  exact W.lcmp C.1.1 C.1.2.1 d k
theorem z_i2c (C : CX p s m args meth c own cc nL ret) {x v : Int32} (d : decode cc pc = .ok (.i2c, 1)) (hv : (x.toUInt32 % 65536).toInt32 = v) (q : Nat) (hq : pc + 1 = q) (k : W p l e R s m args below meth c H locs cells slots Q (F0 m q ls (.int v :: rest))) : W p l e R s m args below meth c H locs cells slots Q (F0 m pc ls (.int x :: rest)) := by
  subst hq
  exact lv_i2c C.1.1 C.1.2.1 d hv k
theorem z_i2b (C : CX p s m args meth c own cc nL ret) {x v : Int32} (d : decode cc pc = .ok (.i2b, 1)) (hv : x.toInt8.toInt32 = v) (q : Nat) (hq : pc + 1 = q) (k : W p l e R s m args below meth c H locs cells slots Q (F0 m q ls (.int v :: rest))) : W p l e R s m args below meth c H locs cells slots Q (F0 m pc ls (.int x :: rest)) := by
  subst hq
  exact lv_i2b C.1.1 C.1.2.1 d hv k
theorem z_dup (C : CX p s m args meth c own cc nL ret) {v : Value} (d : decode cc pc = .ok (.dup, 1)) (hv : v.category = 1) (q : Nat) (hq : pc + 1 = q) (k : W p l e R s m args below meth c H locs cells slots Q (F0 m q ls (v :: v :: rest))) : W p l e R s m args below meth c H locs cells slots Q (F0 m pc ls (v :: rest)) := by
  subst hq
  exact lv_dup C.1.1 C.1.2.1 d hv k
theorem z_pop (C : CX p s m args meth c own cc nL ret) {v : Value} (d : decode cc pc = .ok (.pop, 1)) (hv : v.category = 1) (q : Nat) (hq : pc + 1 = q) (k : W p l e R s m args below meth c H locs cells slots Q (F0 m q ls (rest))) : W p l e R s m args below meth c H locs cells slots Q (F0 m pc ls (v :: rest)) := by
  subst hq
  exact lv_pop C.1.1 C.1.2.1 d hv k
theorem z_dup2 (C : CX p s m args meth c own cc nL ret) {v w : Value} (d : decode cc pc = .ok (.dup2, 1)) (hv : v.category = 1) (hw : w.category = 1) (q : Nat) (hq : pc + 1 = q) (k : W p l e R s m args below meth c H locs cells slots Q (F0 m q ls (v :: w :: v :: w :: rest))) : W p l e R s m args below meth c H locs cells slots Q (F0 m pc ls (v :: w :: rest)) := by
  subst hq
  exact lv_dup2_11 C.1.1 C.1.2.1 d hv hw k
theorem z_i2f (C : CX p s m args meth c own cc nL ret) {x : Int32} (d : decode cc pc = .ok (.i2f, 1)) (q : Nat) (hq : pc + 1 = q) (k : W p l e R s m args below meth c H locs cells slots Q (F0 m q ls (.float (FP.i2f x) :: rest))) : W p l e R s m args below meth c H locs cells slots Q (F0 m pc ls (.int x :: rest)) := by
  subst hq
  exact lv_i2f C.1.1 C.1.2.1 d k
theorem z_fdiv (C : CX p s m args meth c own cc nL ret) {x y : UInt32} (d : decode cc pc = .ok (.fdiv, 1)) (hn : vf_n32 (FP.fdiv x y)) (q : Nat) (hq : pc + 1 = q) (k : W p l e R s m args below meth c H locs cells slots Q (F0 m q ls (.float (FP.fdiv x y) :: rest))) : W p l e R s m args below meth c H locs cells slots Q (F0 m pc ls (.float y :: .float x :: rest)) := by
  subst hq
  exact lv_fdiv C.1.1 C.1.2.1 d hn k
theorem z_f2d (C : CX p s m args meth c own cc nL ret) {x : UInt32} (d : decode cc pc = .ok (.f2d, 1)) (hn : vf_n64 (FP.f2d x)) (q : Nat) (hq : pc + 1 = q) (k : W p l e R s m args below meth c H locs cells slots Q (F0 m q ls (.double (FP.f2d x) :: rest))) : W p l e R s m args below meth c H locs cells slots Q (F0 m pc ls (.float x :: rest)) := by
  subst hq
  exact lv_f2d C.1.1 C.1.2.1 d hn k
theorem z_icmp_eq (C : CX p s m args meth c own cc nL ret) {x y : Int} {off : Int} (d : decode cc pc = .ok (.if_icmp .eq off, 3)) (tgt q : Nat) (ht : (pc : Int) + off = (tgt : Int)) (hq : pc + 3 = q) (hr : (-2147483648 ≤ x ∧ x < 2147483648) ∧ (-2147483648 ≤ y ∧ y < 2147483648)) (kt : x = y → W p l e R s m args below meth c H locs cells slots Q (F0 m tgt ls (rest))) (kf : ¬ x = y → W p l e R s m args below meth c H locs cells slots Q (F0 m q ls (rest))) : W p l e R s m args below meth c H locs cells slots Q (F0 m pc ls (.int (iI y) :: .int (iI x) :: rest)) := by
  subst hq
  exact lv_icmp_eq C.1.1 C.1.2.1 d ht (fun h => kt ((iI_inj hr.1 hr.2).mp h)) (fun h => kf (fun z => h ((iI_inj hr.1 hr.2).mpr z)))
theorem z_if_eq (C : CX p s m args meth c own cc nL ret) {x : Int} {off : Int} (d : decode cc pc = .ok (.ifCond .eq off, 3)) (tgt q : Nat) (ht : (pc : Int) + off = (tgt : Int)) (hq : pc + 3 = q) (hr : -2147483648 ≤ x ∧ x < 2147483648) (kt : x = 0 → W p l e R s m args below meth c H locs cells slots Q (F0 m tgt ls (rest))) (kf : ¬ x = 0 → W p l e R s m args below meth c H locs cells slots Q (F0 m q ls (rest))) : W p l e R s m args below meth c H locs cells slots Q (F0 m pc ls (.int (iI x) :: rest)) := by
  subst hq
  have e0 : (0 : Int32) = iI 0 := rfl
  refine lv_if_eq C.1.1 C.1.2.1 d ht ?_ ?_ <;> rw [e0]
  · exact (fun h => kt ((iI_inj hr (by decide)).mp h))
  · exact (fun h => kf (fun z => h ((iI_inj hr (by decide)).mpr z)))
theorem z_icmp_ne (C : CX p s m args meth c own cc nL ret) {x y : Int} {off : Int} (d : decode cc pc = .ok (.if_icmp .ne off, 3)) (tgt q : Nat) (ht : (pc : Int) + off = (tgt : Int)) (hq : pc + 3 = q) (hr : (-2147483648 ≤ x ∧ x < 2147483648) ∧ (-2147483648 ≤ y ∧ y < 2147483648)) (kt : ¬ x = y → W p l e R s m args below meth c H locs cells slots Q (F0 m tgt ls (rest))) (kf : x = y → W p l e R s m args below meth c H locs cells slots Q (F0 m q ls (rest))) : W p l e R s m args below meth c H locs cells slots Q (F0 m pc ls (.int (iI y) :: .int (iI x) :: rest)) := by
  subst hq
  exact lv_icmp_ne C.1.1 C.1.2.1 d ht (fun h => kt (fun z => h ((iI_inj hr.1 hr.2).mpr z))) (fun h => kf ((iI_inj hr.1 hr.2).mp h))
theorem z_if_ne (C : CX p s m args meth c own cc nL ret) {x : Int} {off : Int} (d : decode cc pc = .ok (.ifCond .ne off, 3)) (tgt q : Nat) (ht : (pc : Int) + off = (tgt : Int)) (hq : pc + 3 = q) (hr : -2147483648 ≤ x ∧ x < 2147483648) (kt : ¬ x = 0 → W p l e R s m args below meth c H locs cells slots Q (F0 m tgt ls (rest))) (kf : x = 0 → W p l e R s m args below meth c H locs cells slots Q (F0 m q ls (rest))) : W p l e R s m args below meth c H locs cells slots Q (F0 m pc ls (.int (iI x) :: rest)) := by
  subst hq
  have e0 : (0 : Int32) = iI 0 := rfl
  refine lv_if_ne C.1.1 C.1.2.1 d ht ?_ ?_ <;> rw [e0]
  · exact (fun h => kt (fun z => h ((iI_inj hr (by decide)).mpr z)))
  · exact (fun h => kf ((iI_inj hr (by decide)).mp h))
theorem z_icmp_lt (C : CX p s m args meth c own cc nL ret) {x y : Int} {off : Int} (d : decode cc pc = .ok (.if_icmp .lt off, 3)) (tgt q : Nat) (ht : (pc : Int) + off = (tgt : Int)) (hq : pc + 3 = q) (hr : (-2147483648 ≤ x ∧ x < 2147483648) ∧ (-2147483648 ≤ y ∧ y < 2147483648)) (kt : x < y → W p l e R s m args below meth c H locs cells slots Q (F0 m tgt ls (rest))) (kf : y ≤ x → W p l e R s m args below meth c H locs cells slots Q (F0 m q ls (rest))) : W p l e R s m args below meth c H locs cells slots Q (F0 m pc ls (.int (iI y) :: .int (iI x) :: rest)) := by
  subst hq
  exact lv_icmp_lt C.1.1 C.1.2.1 d ht (fun h => kt ((iI_lt hr.1 hr.2).mp h)) (fun h => kf (by have z : ¬ (x < y) := fun z => h ((iI_lt hr.1 hr.2).mpr z); omega))
theorem z_if_lt (C : CX p s m args meth c own cc nL ret) {x : Int} {off : Int} (d : decode cc pc = .ok (.ifCond .lt off, 3)) (tgt q : Nat) (ht : (pc : Int) + off = (tgt : Int)) (hq : pc + 3 = q) (hr : -2147483648 ≤ x ∧ x < 2147483648) (kt : x < 0 → W p l e R s m args below meth c H locs cells slots Q (F0 m tgt ls (rest))) (kf : 0 ≤ x → W p l e R s m args below meth c H locs cells slots Q (F0 m q ls (rest))) : W p l e R s m args below meth c H locs cells slots Q (F0 m pc ls (.int (iI x) :: rest)) := by
  subst hq
  have e0 : (0 : Int32) = iI 0 := rfl
  refine lv_if_lt C.1.1 C.1.2.1 d ht ?_ ?_ <;> rw [e0]
  · exact (fun h => kt ((iI_lt hr (by decide)).mp h))
  · exact (fun h => kf (by have z : ¬ (x < 0) := fun z => h ((iI_lt hr (by decide)).mpr z); omega))
theorem z_icmp_ge (C : CX p s m args meth c own cc nL ret) {x y : Int} {off : Int} (d : decode cc pc = .ok (.if_icmp .ge off, 3)) (tgt q : Nat) (ht : (pc : Int) + off = (tgt : Int)) (hq : pc + 3 = q) (hr : (-2147483648 ≤ x ∧ x < 2147483648) ∧ (-2147483648 ≤ y ∧ y < 2147483648)) (kt : y ≤ x → W p l e R s m args below meth c H locs cells slots Q (F0 m tgt ls (rest))) (kf : x < y → W p l e R s m args below meth c H locs cells slots Q (F0 m q ls (rest))) : W p l e R s m args below meth c H locs cells slots Q (F0 m pc ls (.int (iI y) :: .int (iI x) :: rest)) := by
  subst hq
  exact lv_icmp_ge C.1.1 C.1.2.1 d ht (fun h => kt ((iI_le hr.2 hr.1).mp h)) (fun h => kf (by have z : ¬ (y ≤ x) := fun z => h ((iI_le hr.2 hr.1).mpr z); omega))
theorem z_if_ge (C : CX p s m args meth c own cc nL ret) {x : Int} {off : Int} (d : decode cc pc = .ok (.ifCond .ge off, 3)) (tgt q : Nat) (ht : (pc : Int) + off = (tgt : Int)) (hq : pc + 3 = q) (hr : -2147483648 ≤ x ∧ x < 2147483648) (kt : 0 ≤ x → W p l e R s m args below meth c H locs cells slots Q (F0 m tgt ls (rest))) (kf : x < 0 → W p l e R s m args below meth c H locs cells slots Q (F0 m q ls (rest))) : W p l e R s m args below meth c H locs cells slots Q (F0 m pc ls (.int (iI x) :: rest)) := by
  subst hq
  have e0 : (0 : Int32) = iI 0 := rfl
  refine lv_if_ge C.1.1 C.1.2.1 d ht ?_ ?_ <;> rw [e0]
  · exact (fun h => kt ((iI_le (by decide) hr).mp h))
  · exact (fun h => kf (by have z : ¬ (0 ≤ x) := fun z => h ((iI_le (by decide) hr).mpr z); omega))
theorem z_icmp_gt (C : CX p s m args meth c own cc nL ret) {x y : Int} {off : Int} (d : decode cc pc = .ok (.if_icmp .gt off, 3)) (tgt q : Nat) (ht : (pc : Int) + off = (tgt : Int)) (hq : pc + 3 = q) (hr : (-2147483648 ≤ x ∧ x < 2147483648) ∧ (-2147483648 ≤ y ∧ y < 2147483648)) (kt : y < x → W p l e R s m args below meth c H locs cells slots Q (F0 m tgt ls (rest))) (kf : x ≤ y → W p l e R s m args below meth c H locs cells slots Q (F0 m q ls (rest))) : W p l e R s m args below meth c H locs cells slots Q (F0 m pc ls (.int (iI y) :: .int (iI x) :: rest)) := by
  subst hq
  exact lv_icmp_gt C.1.1 C.1.2.1 d ht (fun h => kt ((iI_lt hr.2 hr.1).mp h)) (fun h => kf (by have z : ¬ (y < x) := fun z => h ((iI_lt hr.2 hr.1).mpr z); omega))
theorem z_if_gt (C : CX p s m args meth c own cc nL ret) {x : Int} {off : Int} (d : decode cc pc = .ok (.ifCond .gt off, 3)) (tgt q : Nat) (ht : (pc : Int) + off = (tgt : Int)) (hq : pc + 3 = q) (hr : -2147483648 ≤ x ∧ x < 2147483648) (kt : 0 < x → W p l e R s m args below meth c H locs cells slots Q (F0 m tgt ls (rest))) (kf : x ≤ 0 → W p l e R s m args below meth c H locs cells slots Q (F0 m q ls (rest))) : W p l e R s m args below meth c H locs cells slots Q (F0 m pc ls (.int (iI x) :: rest)) := by
  subst hq
  have e0 : (0 : Int32) = iI 0 := rfl
  refine lv_if_gt C.1.1 C.1.2.1 d ht ?_ ?_ <;> rw [e0]
  · exact (fun h => kt ((iI_lt (by decide) hr).mp h))
  · exact (fun h => kf (by have z : ¬ (0 < x) := fun z => h ((iI_lt (by decide) hr).mpr z); omega))
theorem z_icmp_le (C : CX p s m args meth c own cc nL ret) {x y : Int} {off : Int} (d : decode cc pc = .ok (.if_icmp .le off, 3)) (tgt q : Nat) (ht : (pc : Int) + off = (tgt : Int)) (hq : pc + 3 = q) (hr : (-2147483648 ≤ x ∧ x < 2147483648) ∧ (-2147483648 ≤ y ∧ y < 2147483648)) (kt : x ≤ y → W p l e R s m args below meth c H locs cells slots Q (F0 m tgt ls (rest))) (kf : y < x → W p l e R s m args below meth c H locs cells slots Q (F0 m q ls (rest))) : W p l e R s m args below meth c H locs cells slots Q (F0 m pc ls (.int (iI y) :: .int (iI x) :: rest)) := by
  subst hq
  exact lv_icmp_le C.1.1 C.1.2.1 d ht (fun h => kt ((iI_le hr.1 hr.2).mp h)) (fun h => kf (by have z : ¬ (x ≤ y) := fun z => h ((iI_le hr.1 hr.2).mpr z); omega))
theorem z_if_le (C : CX p s m args meth c own cc nL ret) {x : Int} {off : Int} (d : decode cc pc = .ok (.ifCond .le off, 3)) (tgt q : Nat) (ht : (pc : Int) + off = (tgt : Int)) (hq : pc + 3 = q) (hr : -2147483648 ≤ x ∧ x < 2147483648) (kt : x ≤ 0 → W p l e R s m args below meth c H locs cells slots Q (F0 m tgt ls (rest))) (kf : 0 < x → W p l e R s m args below meth c H locs cells slots Q (F0 m q ls (rest))) : W p l e R s m args below meth c H locs cells slots Q (F0 m pc ls (.int (iI x) :: rest)) := by
  subst hq
  have e0 : (0 : Int32) = iI 0 := rfl
  refine lv_if_le C.1.1 C.1.2.1 d ht ?_ ?_ <;> rw [e0]
  · exact (fun h => kt ((iI_le hr (by decide)).mp h))
  · exact (fun h => kf (by have z : ¬ (x ≤ 0) := fun z => h ((iI_le hr (by decide)).mpr z); omega))
theorem z_ifb_eq (C : CX p s m args meth c own cc nL ret) {b : Bool} {off : Int} (d : decode cc pc = .ok (.ifCond .eq off, 3)) (tgt q : Nat) (ht : (pc : Int) + off = (tgt : Int)) (hq : pc + 3 = q) (kt : b = false → W p l e R s m args below meth c H locs cells slots Q (F0 m tgt ls (rest))) (kf : b = true → W p l e R s m args below meth c H locs cells slots Q (F0 m q ls (rest))) : W p l e R s m args below meth c H locs cells slots Q (F0 m pc ls (.int (iI (bZ b)) :: rest)) := by
  subst hq
  refine lv_if_eq C.1.1 C.1.2.1 d ht (fun h => kt ?_) (fun h => kf ?_)
  · cases b
    · rfl
    · exact absurd h (by decide)
  · cases b
    · exact absurd rfl h
    · rfl
theorem z_ifb_ne (C : CX p s m args meth c own cc nL ret) {b : Bool} {off : Int} (d : decode cc pc = .ok (.ifCond .ne off, 3)) (tgt q : Nat) (ht : (pc : Int) + off = (tgt : Int)) (hq : pc + 3 = q) (kt : b = true → W p l e R s m args below meth c H locs cells slots Q (F0 m tgt ls (rest))) (kf : b = false → W p l e R s m args below meth c H locs cells slots Q (F0 m q ls (rest))) : W p l e R s m args below meth c H locs cells slots Q (F0 m pc ls (.int (iI (bZ b)) :: rest)) := by
  subst hq
  refine lv_if_ne C.1.1 C.1.2.1 d ht (fun h => kt ?_) (fun h => kf ?_)
  · cases b
    · exact absurd rfl h
    · rfl
  · cases b
    · rfl
    · exact absurd h (by decide)
theorem z_goto (C : CX p s m args meth c own cc nL ret) {off : Int} (d : decode cc pc = .ok (.goto off, 3)) (tgt : Nat) (ht : (pc : Int) + off = (tgt : Int)) (k : W p l e R s m args below meth c H locs cells slots Q (F0 m tgt ls (rest))) : W p l e R s m args below meth c H locs cells slots Q (F0 m pc ls (rest)) := lv_goto C.1.1 C.1.2.1 d ht k
theorem z_ifnull (C : CX p s m args meth c own cc nL ret) {x : Nat} {off : Int} (d : decode cc pc = .ok (.ifnull off, 3)) (q : Nat) (hq : pc + 3 = q) (k : W p l e R s m args below meth c H locs cells slots Q (F0 m q ls (rest))) : W p l e R s m args below meth c H locs cells slots Q (F0 m pc ls (.ref x :: rest)) := by
  subst hq
  exact lv_ifnull C.1.1 C.1.2.1 d k
theorem z_ifnullN (C : CX p s m args meth c own cc nL ret) {off : Int} (d : decode cc pc = .ok (.ifnull off, 3)) (tgt : Nat) (ht : (pc : Int) + off = (tgt : Int)) (k : W p l e R s m args below meth c H locs cells slots Q (F0 m tgt ls (rest))) : W p l e R s m args below meth c H locs cells slots Q (F0 m pc ls (.null :: rest)) := lv_ifnullN C.1.1 C.1.2.1 d ht k
theorem z_ifnonnull (C : CX p s m args meth c own cc nL ret) {x : Nat} {off : Int} (d : decode cc pc = .ok (.ifnonnull off, 3)) (tgt : Nat) (ht : (pc : Int) + off = (tgt : Int)) (k : W p l e R s m args below meth c H locs cells slots Q (F0 m tgt ls (rest))) : W p l e R s m args below meth c H locs cells slots Q (F0 m pc ls (.ref x :: rest)) := lv_ifnonnull C.1.1 C.1.2.1 d ht k
theorem z_ifnonnullN (C : CX p s m args meth c own cc nL ret) {off : Int} (d : decode cc pc = .ok (.ifnonnull off, 3)) (q : Nat) (hq : pc + 3 = q) (k : W p l e R s m args below meth c H locs cells slots Q (F0 m q ls (rest))) : W p l e R s m args below meth c H locs cells slots Q (F0 m pc ls (.null :: rest)) := by
  subst hq
  exact lv_ifnonnullN C.1.1 C.1.2.1 d k
theorem z_swIn (C : CX p s m args meth c own cc nL ret) {dflt lo hi : Int} {offs : Array Int} {len : Nat} {x : Int} (d : decode cc pc = .ok (.tableswitch dflt lo hi offs, len)) (hx : -2147483648 ≤ x ∧ x < 2147483648) (h1 : lo ≤ x ∧ x ≤ hi) (off : Int) (tgt : Nat) (ho : offs[(x - lo).toNat]? = some off) (ht : (pc : Int) + off = (tgt : Int)) (k : W p l e R s m args below meth c H locs cells slots Q (F0 m tgt ls (rest))) : W p l e R s m args below meth c H locs cells slots Q (F0 m pc ls (.int (iI x) :: rest)) := lv_tableIn (off := off) C.1.1 C.1.2.1 d (by rw [iI_toInt hx]; omega) (by rw [iI_toInt hx]; omega) (by rw [iI_toInt hx]; exact ho) ht k
theorem z_swOut (C : CX p s m args meth c own cc nL ret) {dflt lo hi : Int} {offs : Array Int} {len : Nat} {x : Int} (d : decode cc pc = .ok (.tableswitch dflt lo hi offs, len)) (hx : -2147483648 ≤ x ∧ x < 2147483648) (h1 : x < lo ∨ hi < x) (tgt : Nat) (ht : (pc : Int) + dflt = (tgt : Int)) (k : W p l e R s m args below meth c H locs cells slots Q (F0 m tgt ls (rest))) : W p l e R s m args below meth c H locs cells slots Q (F0 m pc ls (.int (iI x) :: rest)) := lv_tableOut C.1.1 C.1.2.1 d (by rw [iI_toInt hx]; exact h1) ht k
theorem z_top {a b : Value} (h : a = b) (k : W p l e R s m args below meth c H locs cells slots Q (F0 m pc ls (b :: rest))) : W p l e R s m args below meth c H locs cells slots Q (F0 m pc ls (a :: rest)) := by
  subst h
  exact k
theorem z_get (C : CX p s m args meth c own cc nL ret) {G : gT} {w : va_W} {a : Nat} {idx ci kf : Nat} {fs : List Value} {v : Value} (hP : gP G w H) (hK : gK G s) (F : FLD own idx ci kf) (q0 : Nat) (he : w[q0]? = some (a, .inr (ci, fs))) (hv : fs[kf]? = some v) (d : decode cc pc = .ok (.getfield idx, 3)) (q : Nat) (hq : pc + 3 = q) (k : W p l e R s m args below meth c H locs cells slots Q (F0 m q ls (v :: rest))) : W p l e R s m args below meth c H locs cells slots Q (F0 m pc ls (.ref a :: rest)) := by
  subst hq
  obtain ⟨CC, T, N, hcl, hk, hin, hlk⟩ := F
  exact va_get C.1.1 C.1.2.1 C.1.2.2.2.2 hin C.1.2.2.2.1 hK.1 hP q0 he hcl kf hk (C.1.2.2.2.2 _ hlk) (fun _ h9 => h9) hv d k
theorem z_put (C : CX p s m args meth c own cc nL ret) {G : gT} {A : Nat → Prop} {rs rs' : List va_W} {H0 : Heap} {a idx ci kf : Nat} {fs : List Value} {ty : FieldType} {v : Value} (hW : Wd G A rs H0 H locs) (hK : gK G s) (F : FLD own idx ci kf) (FC : FCL ci kf false ty) (q0 : Nat) (he : rs.flatten[q0]? = some (a, .inr (ci, fs))) (hn : narrow ty v = v) (hfit : fits ty v = true) (hl : kf < fs.length) (d : decode cc pc = .ok (.putfield idx, 3)) (q : Nat) (hq : pc + 3 = q) (hrs : rs.flatten.set q0 (a, .inr (ci, fs.set kf v)) = rs'.flatten) (k : ∀ (H1 : Heap) (locs1 : List Loc), Wd G A rs' H0 H1 locs1 → W p l e R s m args below meth c H1 locs1 cells slots Q (F0 m q ls (rest))) : W p l e R s m args below meth c H locs cells slots Q (F0 m pc ls (v :: .ref a :: rest)) := by
  subst hq
  obtain ⟨CC, T, N, hcl, hk, hin, hlk⟩ := F
  obtain ⟨C2, T2, N2, ty0, hcl2, hty, hnm, hfin, hd, -⟩ := FC
  cases hcl.symm.trans hcl2
  obtain ⟨hP, hD, hA, hS⟩ := hW
  refine va_put C.1.1 C.1.2.1 C.1.2.2.2.2 hin ty0 hty hnm C.1.2.2.2.1 hK.1 hP (gD_va hD hA) hS q0 he hcl kf hk (C.1.2.2.2.2 _ hlk) (fun _ h9 => h9) hfin hd hn hfit hl d (fun H1 locs1 h1 h2 h3 => k H1 locs1 ?_)
  rw [hrs] at h1 h2
  exact ⟨h1, gD_of_va h2, fun q hq => adr_D h2 hq, h3⟩
theorem z_getN (C : CX p s m args meth c own cc nL ret) {G : gT} {w : va_W} {a : Nat} {idx ci kf : Nat} {fs : List Value} {v : Value} (hP : gP G w H) (hK : gK G s) (F : FLN own idx ci kf) (q0 : Nat) (he : w[q0]? = some (a, .inr (ci, fs))) (hv : fs[kf]? = some v) (d : decode cc pc = .ok (.getfield idx, 3)) (q : Nat) (hq : pc + 3 = q) (k : W p l e R s m args below meth c H locs cells slots Q (F0 m q ls (v :: rest))) : W p l e R s m args below meth c H locs cells slots Q (F0 m pc ls (.ref a :: rest)) := by
  subst hq
  obtain ⟨CC, T, N, hcl, hk, hin, host, hlk⟩ := F
  exact va_getN C.1.1 C.1.2.1 C.1.2.2.2.2 hin C.1.2.2.2.1 hK.1 hP q0 he hcl kf hk (va_Nw.use rfl (hK.2 _ hlk)) (fun _ h9 => h9) hv d k
theorem z_putN (C : CX p s m args meth c own cc nL ret) {G : gT} {A : Nat → Prop} {rs rs' : List va_W} {H0 : Heap} {a idx ci kf : Nat} {fs : List Value} {ty : FieldType} {v : Value} (hW : Wd G A rs H0 H locs) (hK : gK G s) (F : FLN own idx ci kf) (FC : FCL ci kf false ty) (q0 : Nat) (he : rs.flatten[q0]? = some (a, .inr (ci, fs))) (hn : narrow ty v = v) (hfit : fits ty v = true) (hl : kf < fs.length) (d : decode cc pc = .ok (.putfield idx, 3)) (q : Nat) (hq : pc + 3 = q) (hrs : rs.flatten.set q0 (a, .inr (ci, fs.set kf v)) = rs'.flatten) (k : ∀ (H1 : Heap) (locs1 : List Loc), Wd G A rs' H0 H1 locs1 → W p l e R s m args below meth c H1 locs1 cells slots Q (F0 m q ls (rest))) : W p l e R s m args below meth c H locs cells slots Q (F0 m pc ls (v :: .ref a :: rest)) := by
  subst hq
  obtain ⟨CC, T, N, hcl, hk, hin, host, hlk⟩ := F
  obtain ⟨C2, T2, N2, ty0, hcl2, hty, hnm, hfin, hd, -⟩ := FC
  cases hcl.symm.trans hcl2
  obtain ⟨hP, hD, hA, hS⟩ := hW
  refine va_putN C.1.1 C.1.2.1 C.1.2.2.2.2 hin ty0 hty hnm C.1.2.2.2.1 hK.1 hP (gD_va hD hA) hS q0 he hcl kf hk (va_Nw.use rfl (hK.2 _ hlk)) (fun _ h9 => h9) hfin hd hn hfit hl d (fun H1 locs1 h1 h2 h3 => k H1 locs1 ?_)
  rw [hrs] at h1 h2
  exact ⟨h1, gD_of_va h2, fun q hq => adr_D h2 hq, h3⟩
theorem z_putF (C : CX p s m args meth c own cc nL ret) {G : gT} {A : Nat → Prop} {rs rs' : List va_W} {H0 : Heap} {a idx ci kf : Nat} {fs : List Value} {ty : FieldType} {v : Value} (hW : Wd G A rs H0 H locs) (hK : gK G s) (F : FLD own idx ci kf) (FC : FCL ci kf true ty) (hini : meth.name = "<init>") (hown : (vwCl[ci]?).map Prod.fst = some own) (q0 : Nat) (he : rs.flatten[q0]? = some (a, .inr (ci, fs))) (hn : narrow ty v = v) (hfit : fits ty v = true) (hl : kf < fs.length) (d : decode cc pc = .ok (.putfield idx, 3)) (q : Nat) (hq : pc + 3 = q) (hrs : rs.flatten.set q0 (a, .inr (ci, fs.set kf v)) = rs'.flatten) (k : ∀ (H1 : Heap) (locs1 : List Loc), Wd G A rs' H0 H1 locs1 → W p l e R s m args below meth c H1 locs1 cells slots Q (F0 m q ls (rest))) : W p l e R s m args below meth c H locs cells slots Q (F0 m pc ls (v :: .ref a :: rest)) := by
  subst hq
  obtain ⟨CC, T, N, hcl, hk, hin, hlk⟩ := F
  obtain ⟨C2, T2, N2, ty0, hcl2, hty, hnm, hfin, hd, hC2⟩ := FC
  cases hcl.symm.trans hcl2
  obtain ⟨hP, hD, hA, hS⟩ := hW
  have hC : CC = own := by rw [hcl] at hown; exact Option.some.inj hown
  refine va_putF C.1.1 C.1.2.1 C.1.2.2.2.2 hin ty0 hty hnm C.1.2.2.2.1 hK.1 hP (gD_va hD hA) hS q0 he hcl kf hk (C.1.2.2.2.2 _ hlk) (fun _ h9 => h9) hfin hini (hC2.trans hC) hd hn hfit hl d (fun H1 locs1 h1 h2 h3 => k H1 locs1 ?_)
  rw [hrs] at h1 h2
  exact ⟨h1, gD_of_va h2, fun q hq => adr_D h2 hq, h3⟩
theorem z_iald (C : CX p s m args meth c own cc nL ret) {G : gT} {w : va_W} {a : Nat} {n : Nat} {f : Nat → Int32} {i : Int} (hP : gP G w H) (hK : gK G s) (q0 : Nat) (he : w[q0]? = some (a, .inl (G.2 0, n, .inl f))) (hi : 0 ≤ i ∧ i < n) (hn : (n : Int) ≤ 2147483647) (x : Int32) (hx : f i.toNat = x) (d : decode cc pc = .ok (.iaload, 1)) (q : Nat) (hq : pc + 1 = q) (k : W p l e R s m args below meth c H locs cells slots Q (F0 m q ls (.int x :: rest))) : W p l e R s m args below meth c H locs cells slots Q (F0 m pc ls (.int (iI i) :: .ref a :: rest)) := by
  subst hq hx
  refine va_iald (i := iI i) C.1.1 C.1.2.1 hK.1 hP q0 0 he rfl (iI_in hi.1 hi.2 hn) d ?_
  rw [iI_clamp (by omega)]
  exact k
theorem z_cald (C : CX p s m args meth c own cc nL ret) {G : gT} {w : va_W} {a : Nat} {n : Nat} {f : Nat → Int32} {i : Int} (hP : gP G w H) (hK : gK G s) (q0 : Nat) (he : w[q0]? = some (a, .inl (G.2 2, n, .inl f))) (hi : 0 ≤ i ∧ i < n) (hn : (n : Int) ≤ 2147483647) (x : Int32) (hx : f i.toNat = x) (d : decode cc pc = .ok (.caload, 1)) (q : Nat) (hq : pc + 1 = q) (k : W p l e R s m args below meth c H locs cells slots Q (F0 m q ls (.int x :: rest))) : W p l e R s m args below meth c H locs cells slots Q (F0 m pc ls (.int (iI i) :: .ref a :: rest)) := by
  subst hq hx
  refine va_cald (i := iI i) C.1.1 C.1.2.1 hK.1 hP q0 2 he rfl (iI_in hi.1 hi.2 hn) d ?_
  rw [iI_clamp (by omega)]
  exact k
theorem z_lald (C : CX p s m args meth c own cc nL ret) {G : gT} {w : va_W} {a : Nat} {n : Nat} {f : Nat → Int64} {i : Int} (hP : gP G w H) (hK : gK G s) (q0 : Nat) (he : w[q0]? = some (a, .inl (G.2 1, n, .inr (.inl f)))) (hi : 0 ≤ i ∧ i < n) (hn : (n : Int) ≤ 2147483647) (x : Int64) (hx : f i.toNat = x) (d : decode cc pc = .ok (.laload, 1)) (q : Nat) (hq : pc + 1 = q) (k : W p l e R s m args below meth c H locs cells slots Q (F0 m q ls (.long x :: rest))) : W p l e R s m args below meth c H locs cells slots Q (F0 m pc ls (.int (iI i) :: .ref a :: rest)) := by
  subst hq hx
  refine va_lald (i := iI i) C.1.1 C.1.2.1 hK.1 hP q0 1 he rfl (iI_in hi.1 hi.2 hn) d ?_
  rw [iI_clamp (by omega)]
  exact k
theorem z_qald (C : CX p s m args meth c own cc nL ret) {G : gT} {w : va_W} {a : Nat} {n : Nat} {f : Nat → Option Nat} {i : Int} (hP : gP G w H) (hK : gK G s) (q0 : Nat) (he : w[q0]? = some (a, .inl (G.2 4, n, .inr (.inr (.inr (.inr f)))))) (hi : 0 ≤ i ∧ i < n) (hn : (n : Int) ≤ 2147483647) (x : Nat) (hx : f i.toNat = some x) (d : decode cc pc = .ok (.aaload, 1)) (q : Nat) (hq : pc + 1 = q) (k : W p l e R s m args below meth c H locs cells slots Q (F0 m q ls (.ref x :: rest))) : W p l e R s m args below meth c H locs cells slots Q (F0 m pc ls (.int (iI i) :: .ref a :: rest)) := by
  subst hq
  refine va_aldq (i := iI i) C.1.1 C.1.2.1 hK.1 hP q0 4 he rfl (iI_in hi.1 hi.2 hn) d ?_
  rw [iI_clamp (by omega), hx]
  exact k
theorem z_alen (C : CX p s m args meth c own cc nL ret) {G : gT} {w : va_W} {a : Nat} {cA : ClassId} {x : vp_A} {ty : FieldType} (hP : gP G w H) (hK : gK G s) (q0 t0 : Nat) (he : w[q0]? = some (a, .inl (cA, x))) (ht : (tysG G)[t0]? = some (cA, ty)) (z : Int) (hz : (x.1 : Int) = z) (d : decode cc pc = .ok (.arraylength, 1)) (q : Nat) (hq : pc + 1 = q) (k : W p l e R s m args below meth c H locs cells slots Q (F0 m q ls (.int (iI z) :: rest))) : W p l e R s m args below meth c H locs cells slots Q (F0 m pc ls (.ref a :: rest)) := by
  subst hq hz
  exact va_alen C.1.1 C.1.2.1 hK.1 hP q0 t0 he ht (v := iI x.1) (iI_nI x.1) d k
theorem z_iast (C : CX p s m args meth c own cc nL ret) {G : gT} {A : Nat → Prop} {rs rs' : List va_W} {H0 : Heap} {a : Nat} {n : Nat} {f : Nat → Int32} {i : Int} {x : Int32} (hW : Wd G A rs H0 H locs) (hK : gK G s) (q0 : Nat) (he : rs.flatten[q0]? = some (a, .inl (G.2 0, n, .inl f))) (hi : 0 ≤ i ∧ i < n) (hn : (n : Int) ≤ 2147483647) (f' : Nat → Int32) (hf : upd f i.toNat x = f') (d : decode cc pc = .ok (.iastore, 1)) (q : Nat) (hq : pc + 1 = q) (hrs : rs.flatten.set q0 (a, .inl (G.2 0, n, .inl f')) = rs'.flatten) (k : ∀ (H1 : Heap) (locs1 : List Loc), Wd G A rs' H0 H1 locs1 → W p l e R s m args below meth c H1 locs1 cells slots Q (F0 m q ls (rest))) : W p l e R s m args below meth c H locs cells slots Q (F0 m pc ls (.int x :: .int (iI i) :: .ref a :: rest)) := by
  subst hq hf
  obtain ⟨hP, hD, hA, hS⟩ := hW
  refine va_iast (i := iI i) C.1.1 C.1.2.1 hK.1 hP (gD_va hD hA) hS q0 0 he rfl (iI_in hi.1 hi.2 hn) d (fun H1 locs1 h1 h2 h3 => k H1 locs1 ?_)
  rw [iI_clamp (by omega), hrs] at h1 h2
  exact ⟨h1, gD_of_va h2, fun q hq => adr_D h2 hq, h3⟩
theorem z_ifl_eq (C : CX p s m args meth c own cc nL ret) {x y : Int64} {off : Int} (d : decode cc pc = .ok (.ifCond .eq off, 3)) (tgt q : Nat) (ht : (pc : Int) + off = (tgt : Int)) (hq : pc + 3 = q) (kt : x = y → W p l e R s m args below meth c H locs cells slots Q (F0 m tgt ls (rest))) (kf : ¬ x = y → W p l e R s m args below meth c H locs cells slots Q (F0 m q ls (rest))) : W p l e R s m args below meth c H locs cells slots Q (F0 m pc ls (.int (lg_cmp x y) :: rest)) := by
  subst hq
  exact lv_if_eq C.1.1 C.1.2.1 d ht (fun h => kt (lcmp0.mp h)) (fun h => kf (fun z => h (lcmp0.mpr z)))
theorem z_ifl_ne (C : CX p s m args meth c own cc nL ret) {x y : Int64} {off : Int} (d : decode cc pc = .ok (.ifCond .ne off, 3)) (tgt q : Nat) (ht : (pc : Int) + off = (tgt : Int)) (hq : pc + 3 = q) (kt : ¬ x = y → W p l e R s m args below meth c H locs cells slots Q (F0 m tgt ls (rest))) (kf : x = y → W p l e R s m args below meth c H locs cells slots Q (F0 m q ls (rest))) : W p l e R s m args below meth c H locs cells slots Q (F0 m pc ls (.int (lg_cmp x y) :: rest)) := by
  subst hq
  exact lv_if_ne C.1.1 C.1.2.1 d ht (fun h => kt (fun z => h (lcmp0.mpr z))) (fun h => kf (lcmp0.mp h))
theorem z_cast (C : CX p s m args meth c own cc nL ret) {G : gT} {A : Nat → Prop} {rs rs' : List va_W} {H0 : Heap} {a : Nat} {n : Nat} {f : Nat → Int32} {i : Int} {x : Int32} (hW : Wd G A rs H0 H locs) (hK : gK G s) (q0 : Nat) (he : rs.flatten[q0]? = some (a, .inl (G.2 2, n, .inl f))) (hi : 0 ≤ i ∧ i < n) (hn : (n : Int) ≤ 2147483647) (hx : vp_nar .char x = x) (f' : Nat → Int32) (hf : upd f i.toNat x = f') (d : decode cc pc = .ok (.castore, 1)) (q : Nat) (hq : pc + 1 = q) (hrs : rs.flatten.set q0 (a, .inl (G.2 2, n, .inl f')) = rs'.flatten) (k : ∀ (H1 : Heap) (locs1 : List Loc), Wd G A rs' H0 H1 locs1 → W p l e R s m args below meth c H1 locs1 cells slots Q (F0 m q ls (rest))) : W p l e R s m args below meth c H locs cells slots Q (F0 m pc ls (.int x :: .int (iI i) :: .ref a :: rest)) := by
  subst hq hf
  obtain ⟨hP, hD, hA, hS⟩ := hW
  refine va_cast (i := iI i) C.1.1 C.1.2.1 hK.1 hP (gD_va hD hA) hS q0 2 he rfl (iI_in hi.1 hi.2 hn) d (fun H1 locs1 h1 h2 h3 => k H1 locs1 ?_)
  rw [iI_clamp (by omega), hx, hrs] at h1 h2
  exact ⟨h1, gD_of_va h2, fun q hq => adr_D h2 hq, h3⟩
theorem z_last (C : CX p s m args meth c own cc nL ret) {G : gT} {A : Nat → Prop} {rs rs' : List va_W} {H0 : Heap} {a : Nat} {n : Nat} {f : Nat → Int64} {i : Int} {x : Int64} (hW : Wd G A rs H0 H locs) (hK : gK G s) (q0 : Nat) (he : rs.flatten[q0]? = some (a, .inl (G.2 1, n, .inr (.inl f)))) (hi : 0 ≤ i ∧ i < n) (hn : (n : Int) ≤ 2147483647) (f' : Nat → Int64) (hf : vp_updL f i.toNat x = f') (d : decode cc pc = .ok (.lastore, 1)) (q : Nat) (hq : pc + 1 = q) (hrs : rs.flatten.set q0 (a, .inl (G.2 1, n, .inr (.inl f'))) = rs'.flatten) (k : ∀ (H1 : Heap) (locs1 : List Loc), Wd G A rs' H0 H1 locs1 → W p l e R s m args below meth c H1 locs1 cells slots Q (F0 m q ls (rest))) : W p l e R s m args below meth c H locs cells slots Q (F0 m pc ls (.long x :: .int (iI i) :: .ref a :: rest)) := by
  subst hq hf
  obtain ⟨hP, hD, hA, hS⟩ := hW
  refine va_last (i := iI i) C.1.1 C.1.2.1 hK.1 hP (gD_va hD hA) hS q0 1 he rfl (iI_in hi.1 hi.2 hn) d (fun H1 locs1 h1 h2 h3 => k H1 locs1 ?_)
  rw [iI_clamp (by omega), hrs] at h1 h2
  exact ⟨h1, gD_of_va h2, fun q hq => adr_D h2 hq, h3⟩
theorem z_qast (C : CX p s m args meth c own cc nL ret) {G : gT} {A : Nat → Prop} {rs rs' : List va_W} {H0 : Heap} {a v : Nat} {vs : List Value} {n : Nat} {f : Nat → Option Nat} {i : Int} (hW : Wd G A rs H0 H locs) (hK : gK G s) (q0 qk : Nat) (he : rs.flatten[q0]? = some (a, .inl (G.2 4, n, .inr (.inr (.inr (.inr f)))))) (hv : rs.flatten[qk]? = some (v, .inr (4, vs))) (hi : 0 ≤ i ∧ i < n) (hn : (n : Int) ≤ 2147483647) (f' : Nat → Option Nat) (hf : va_up f i.toNat (some v) = f') (d : decode cc pc = .ok (.aastore, 1)) (q : Nat) (hq : pc + 1 = q) (hrs : rs.flatten.set q0 (a, .inl (G.2 4, n, .inr (.inr (.inr (.inr f'))))) = rs'.flatten) (k : ∀ (H1 : Heap) (locs1 : List Loc), Wd G A rs' H0 H1 locs1 → W p l e R s m args below meth c H1 locs1 cells slots Q (F0 m q ls (rest))) : W p l e R s m args below meth c H locs cells slots Q (F0 m pc ls (.ref v :: .int (iI i) :: .ref a :: rest)) := by
  subst hq hf
  obtain ⟨hP, hD, hA, hS⟩ := hW
  refine va_astq (i := iI i) C.1.1 C.1.2.1 hK.1 hP (gD_va hD hA) hS q0 4 qk 4 he rfl hv rfl (iI_in hi.1 hi.2 hn) d (fun H1 locs1 h1 h2 h3 => k H1 locs1 ?_)
  rw [iI_clamp (by omega), hrs] at h1 h2
  exact ⟨h1, gD_of_va h2, fun q hq => adr_D h2 hq, h3⟩
end Z
