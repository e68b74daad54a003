section S
variable {p : Program} {l : Launch} {e : Env} {R : Room} {s : State} {m : MethodId} {args : Array Value} {below : List Frame} {meth : Method} {c : Code} {H : Heap} {locs : List Loc} {cells slots : Nat} {Q : State → Prop}
variable {own : String} {cc : ByteArray} {nL : Nat} {ret : Option FieldType} {pc : Nat} {ls : Array Slot} {rest : List Value} {idx : Nat} {E : eT} {A : Nat → Prop}
theorem z_gsL {G : gT} (C : CX p s m args meth c own cc nL ret) (hK : gK G s) (hE : EV E A s s.heap) (hS : va_S A s.heap H locs) {host : String} (hl : Cond.fieldLinkNest own idx "TideBoats" "LEAST_SETTING" "[I" host ∈ lw_nst) (d : decode cc pc = .ok (.getstatic idx, 3)) (q : Nat) (hq : pc + 3 = q) (k : W p l e R s m args below meth c H locs cells slots Q (F0 m q ls (.ref E.2.2.1 :: rest))) : W p l e R s m args below meth c H locs cells slots Q (F0 m pc ls rest) := by
  subst hq
  exact va_getsN C.1.1 C.1.2.1 hE.2.2.2.2.1.1 hS C.1.2.2.2.1 (va_Nw.use rfl (hK.2 _ hl)) (fun _ h => h) d k
theorem z_gsM {G : gT} (C : CX p s m args meth c own cc nL ret) (hK : gK G s) (hE : EV E A s s.heap) (hS : va_S A s.heap H locs) {host : String} (hl : Cond.fieldLinkNest own idx "TideBoats" "MOST_SETTING" "[I" host ∈ lw_nst) (d : decode cc pc = .ok (.getstatic idx, 3)) (q : Nat) (hq : pc + 3 = q) (k : W p l e R s m args below meth c H locs cells slots Q (F0 m q ls (.ref E.2.2.2 :: rest))) : W p l e R s m args below meth c H locs cells slots Q (F0 m pc ls rest) := by
  subst hq
  exact va_getsN C.1.1 C.1.2.1 hE.2.2.2.2.2.1 hS C.1.2.2.2.1 (va_Nw.use rfl (hK.2 _ hl)) (fun _ h => h) d k
theorem z_tlen {t : Nat} {f : Nat → Value} (C : CX p s m args meth c own cc nL ret) (hT : va_T .int t 4 f A s s.heap) (hS : va_S A s.heap H locs) (d : decode cc pc = .ok (.arraylength, 1)) (q : Nat) (hq : pc + 1 = q) (k : W p l e R s m args below meth c H locs cells slots Q (F0 m q ls (.int (iI 4) :: rest))) : W p l e R s m args below meth c H locs cells slots Q (F0 m pc ls (.ref t :: rest)) := by
  subst hq
  exact va_tlen C.1.1 C.1.2.1 hT hS (v := iI 4) rfl d k
theorem z_tint {t : Nat} {f : Int → Int} (C : CX p s m args meth c own cc nL ret) (hT : va_T .int t 4 (fun j => .int (iI (f j))) A s s.heap) (hS : va_S A s.heap H locs) {x : Int} (hx : 0 ≤ x ∧ x < 4) (d : decode cc pc = .ok (.iaload, 1)) (q : Nat) (hq : pc + 1 = q) (k : W p l e R s m args below meth c H locs cells slots Q (F0 m q ls (.int (iI (f x)) :: rest))) : W p l e R s m args below meth c H locs cells slots Q (F0 m pc ls (.int (iI x) :: .ref t :: rest)) := by
  subst hq
  refine va_ti (v := .int (iI (f x))) C.1.1 C.1.2.1 hT hS (iI_in hx.1 hx.2 (by decide)) ?_ d k
  show Value.int (iI (f ((iI x).toNatClampNeg : Nat))) = _
  rw [iI_clamp (by omega), Int.toNat_of_nonneg hx.1]
end S
theorem qn271 : (Jvm.Cond.fieldLinkNest "TideBoats$Rules" (71 : Nat) "TideBoats" "LEAST_SETTING" "[I" "TideBoats") ∈ lw_nst := nst_mem 264 (by decide +kernel) (by decide +kernel)
theorem qn273 : (Jvm.Cond.fieldLinkNest "TideBoats$Rules" (74 : Nat) "TideBoats" "MOST_SETTING" "[I" "TideBoats") ∈ lw_nst := nst_mem 266 (by decide +kernel) (by decide +kernel)
theorem lst_rng (k : Int) : 0 ≤ lstZ k ∧ lstZ k ≤ 10 := by unfold lstZ; (repeat' split) <;> omega
theorem mst_rng (k : Int) : 3 ≤ mstZ k ∧ mstZ k ≤ 99 := by unfold mstZ; (repeat' split) <;> omega
