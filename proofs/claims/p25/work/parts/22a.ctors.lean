theorem q_oi1 : (Jvm.Cond.instanceMethod ({ cls := "java/lang/Object", name := "<init>", desc := "()V" } : Jvm.MethodName)) ∈ lw_all := all_mem 14 (by decide +kernel) (by decide +kernel)
theorem q_oi2 : (Cond.code Lib.objectInit ⟨#[0xb1]⟩ 1 none) ∈ lw_all := all_mem 15 (by decide +kernel) (by decide +kernel)
theorem qo_X4 : (Jvm.Cond.methodLink "TideBoats$State" (3 : Nat) ({ cls := "java/lang/Object", name := "<init>", desc := "()V" } : Jvm.MethodName)) ∈ lw_all := all_mem 21 (by decide +kernel) (by decide +kernel)
theorem qo_X3 : (Jvm.Cond.methodLink "TideBoats$Rules" (3 : Nat) ({ cls := "java/lang/Object", name := "<init>", desc := "()V" } : Jvm.MethodName)) ∈ lw_all := all_mem 107 (by decide +kernel) (by decide +kernel)
theorem qo_X1 : (Jvm.Cond.methodLink "TideBoats$HomeSearch" (3 : Nat) ({ cls := "java/lang/Object", name := "<init>", desc := "()V" } : Jvm.MethodName)) ∈ lw_all := all_mem 117 (by decide +kernel) (by decide +kernel)
theorem qo_X0 : (Jvm.Cond.methodLink "TideBoats$History" (3 : Nat) ({ cls := "java/lang/Object", name := "<init>", desc := "()V" } : Jvm.MethodName)) ∈ lw_all := all_mem 146 (by decide +kernel) (by decide +kernel)
theorem qo_X2 : (Jvm.Cond.methodLink "TideBoats$Orders" (3 : Nat) ({ cls := "java/lang/Object", name := "<init>", desc := "()V" } : Jvm.MethodName)) ∈ lw_all := all_mem 169 (by decide +kernel) (by decide +kernel)
theorem qo_X5 : (Jvm.Cond.methodLink "TideBoats" (1 : Nat) ({ cls := "java/lang/Object", name := "<init>", desc := "()V" } : Jvm.MethodName)) ∈ lw_all := all_mem 13 (by decide +kernel) (by decide +kernel)
theorem qa_int : (Jvm.Cond.arrayClass Jvm.ClassFile.FieldType.int) ∈ lw_all := all_mem 101 (by decide +kernel) (by decide +kernel)
theorem qa_long : (Jvm.Cond.arrayClass Jvm.ClassFile.FieldType.long) ∈ lw_all := all_mem 140 (by decide +kernel) (by decide +kernel)
theorem qa_char : (Jvm.Cond.arrayClass Jvm.ClassFile.FieldType.char) ∈ lw_all := all_mem 177 (by decide +kernel) (by decide +kernel)
theorem ql_state : (Jvm.Cond.classLink "TideBoats$History" (9 : Nat) "TideBoats$State") ∈ lw_all := all_mem 147 (by decide +kernel) (by decide +kernel)
/-! CONSTRUCTORS: they make cells, and answer nothing -/
abbrev rmI (d mc ms : Nat) : Room := { frames := d, cells := mc, slots := ms, locals := 38 * d }
def Afr (a sz : Nat) : Nat → Prop := fun q => q = a ∨ sz ≤ q
def QN {α : Type} (G : gT) (a sz : Nat) (ssf : α → List va_W) (φ : α → Prop) : Array Value → State → Outcome → State → Prop := fun _ st o t => o = .returned none ∧ (∃ x, φ x ∧ gP G (ssf x).flatten t.heap ∧ gD (ssf x).flatten ∧ ∀ q, adr (ssf x).flatten q → Afr a sz q) ∧ va_F (Afr a sz) st t
def MN {α : Type} (l : Launch) (G : gT) (y : MethodName) (cc : ByteArray) (n d mc ms : Nat) (As : List Value) (a sz : Nat) (e : va_E) (Z : State → Prop) (ssf : α → List va_W) (φ : α → Prop) : Prop :=
  Met l y (ws_ y cc n none) (rmI d mc ms) (va_Pc As (fun U => U.heap.size = sz ∧ BZ G [[(a, e)]] Z U)) (QN G a sz ssf φ) mc ms (Afr a sz)
theorem enterN {α : Type} {l : Launch} {G : gT} {y : MethodName} {cc : ByteArray} {n d mc ms : Nat} {As : List Value} {a sz : Nat} {e0 : va_E} {Z : State → Prop} {ssf : α → List va_W} {φ : α → Prop} {own : String} (hy : plainName y.cls = true) (ho : y.cls = own) (hi : y.name = "<init>") (hfit : (lg_sl As).length ≤ n)
    (body : ∀ p e s m below meth c, CX p s m As.toArray meth c own cc n none → meth.name = "<init>" → s.heap.size = sz → Wd G (Afr a sz) [[(a, e0)]] s.heap s.heap [] → gK G s → Z s → ∀ ls, lv_has ls n (lv_args 0 As) → W p l e (rmI d mc ms) s m As.toArray below meth c s.heap [] 0 0 (MQ below (QN G a sz ssf φ) As.toArray s mc ms (Afr a sz)) (F0 m 0 ls [])) : MN l G y cc n d mc ms As a sz e0 Z ssf φ := by
  refine Met.ofW (cc := cc) (maxL := n) (ret := none) hy rfl ?_
  intro p e s m args below meth c s₁ B hml hv
  obtain ⟨rfl, hsz, hP, hK, hZ⟩ := hv
  have hts := atoms_spec (ws := ws_ y cc n none) B.pre
  have hts : ∀ w ∈ lw_all, w.before _ s = true := fun w h => hts w (List.mem_cons_of_mem _ h)
  have hown : s.vm.findClass own = some m.cls := ho ▸ findClass_of_methodNamed B.named
  have hin : meth.name = "<init>" := hi ▸ (name_of_methodNamed B.named B.method).1
  have hl := lv_entry As (n := n) hfit
  rw [lg_entry_eq]
  refine body p e s m below meth c ⟨⟨B.exec, B.bytes, hml, hown, hts⟩, B.returns, B.notSynchronized⟩ hin hsz ⟨hP, ?_, ?_, va_S.rf⟩ hK hZ _ hl
  · unfold gD; simp
  · intro q hq
    left
    obtain ⟨e9, h9⟩ := adr_iff.mp hq
    simp only [List.flatten_cons, List.flatten_nil, List.append_nil, List.mem_singleton, Prod.mk.injEq] at h9
    exact h9.1
theorem flat_snoc {rs : List va_W} {w : va_W} : (rs ++ [w]).flatten = rs.flatten ++ w := by simp
/-- what is made: a class's words -/
def NEWC (own : String) (idx ci N : Nat) (fs : List Value) : Prop := ∃ (C : String) (T : u_T) (ty : Nat → FieldType), vwCl[ci]? = some (C, T, N) ∧ (∀ w ∈ u_ws C T N, w ∈ lw_all) ∧ (∀ k, k < N → parseFieldDescriptor (T k).2.2.1 = some (ty k)) ∧ Cond.classLink own idx C ∈ lw_all ∧ Cond.instantiable C N ∈ lw_all ∧ Cond.initialized C ∈ lw_all ∧ ∀ j, j < N → defaultValue (ty j) = vp_V fs j
section N
variable {p : Program} {l : Launch} {e : Env} {R : Room} {s : State} {m : MethodId} {args : Array Value} {below : List Frame} {meth : Method} {c : Code} {H : Heap} {locs : List Loc} {cells slots : Nat} {Q : State → Prop}
variable {own : String} {cc : ByteArray} {nL : Nat} {ret : Option FieldType} {pc : Nat} {ls : Array Slot} {rest : List Value} {idx : Nat} {G : gT} {A : Nat → Prop} {rs : List va_W} {H0 : Heap}
theorem z_obj {a : Nat} (C : CX p s m args meth c own cc nL ret) (hl : Cond.methodLink own idx Lib.objectInit ∈ lw_all) (hls : ls.size = nL) (hR : 1 ≤ R.frames ∧ (rest.map fun v => v.category).sum + 12 ≤ R.locals) (d : decode cc pc = .ok (.invokespecial idx, 3)) (q : Nat) (hq : pc + 3 = q) (k : W p l e R s m args below meth c H locs cells slots Q (F0 m q ls rest)) : W p l e R s m args below meth c H locs cells slots Q (F0 m pc ls (.ref a :: rest)) := by
  subst hq
  refine W.objInit C.1.1 C.1.2.1 C.1.2.2.2.1 (C.1.2.2.2.2 _ hl) (C.1.2.2.2.2 _ q_oi1) (C.1.2.2.2.2 _ q_oi2) (g := F0 m pc ls (.ref a :: rest)) rfl (by rw [C.1.2.2.1]; exact hls) rfl d hR.1 (by show 2 * 0 + _ + 12 ≤ _; omega) ?_
  exact k
theorem z_new {N ci : Nat} {fs : List Value} (C : CX p s m args meth c own cc nL ret) (hK : gK G s) (hW : Wd G A rs H0 H locs) (hA : ∀ q, H0.size ≤ q → A q) (w : NEWC own idx ci N fs) (hc : cells + 1 ≤ R.cells) (hs : slots + N ≤ R.slots) (d : decode cc pc = .ok (.new idx, 3)) (q : Nat) (hq : pc + 3 = q) (k : ∀ (a : Nat) (H1 : Heap), Wd G A (rs ++ [[(a, .inr (ci, fs))]]) H0 H1 locs → W p l e R s m args below meth c H1 locs (cells + 1) (slots + N) Q (F0 m q ls (.ref a :: rest))) : W p l e R s m args below meth c H locs cells slots Q (F0 m pc ls rest) := by
  subst hq
  obtain ⟨CC, T, ty, h1, h2, h3, h4, h5, h6, h7⟩ := w
  obtain ⟨hP, hD, hAd, hS⟩ := hW
  refine va_new C.1.1 C.1.2.1 C.1.2.2.2.2 h2 ty h3 C.1.2.2.2.1 (C.1.2.2.2.2 _ h4) (C.1.2.2.2.2 _ h5) (C.1.2.2.2.2 _ h6) hK.1 hP (gD_va hD hAd) hS hA h1 h7 hc hs d (fun a H1 g1 g2 g3 => k a H1 ?_)
  rw [← flat_snoc] at g1 g2
  exact ⟨g1, gD_of_va g2, fun q hq => adr_D g2 hq, g3⟩
theorem z_newa {at_ : ArrayType} {ty : FieldType} (i : Nat) {n : Int} {N : Nat} {a0 : vp_A} (C : CX p s m args meth c own cc nL ret) (hK : gK G s) (hW : Wd G A rs H0 H locs) (hA : ∀ q, H0.size ≤ q → A q) (hw : Cond.arrayClass (newarray.typeOf at_) ∈ lw_all) (hty : newarray.typeOf at_ = ty) (hi : (tysG G)[i]? = some (G.2 i, ty)) (hra : ∀ (U : State) (x y : ClassId), va_RA U x ty → va_RA U y ty → x = y) (ha : ∀ cA : ClassId, vp_cell cA a0 = arrV cA N (fun _ => defaultValue ty)) (hn : 0 ≤ n ∧ n < 100000) (hN : n.toNat = N) (hby : N * componentBytes ty ≤ 536870912) (hc : cells + 1 ≤ R.cells) (hs : slots + N ≤ R.slots) (d : decode cc pc = .ok (.newarray at_, 2)) (q : Nat) (hq : pc + 2 = q) (k : ∀ (a : Nat) (H1 : Heap), Wd G A (rs ++ [[(a, .inl (G.2 i, a0))]]) H0 H1 locs → W p l e R s m args below meth c H1 locs (cells + 1) (slots + N) Q (F0 m q ls (.ref a :: rest))) : W p l e R s m args below meth c H locs cells slots Q (F0 m pc ls (.int (iI n) :: rest)) := by
  subst hq
  obtain ⟨hP, hD, hAd, hS⟩ := hW
  refine va_newa C.1.1 C.1.2.1 (C.1.2.2.2.2 _ hw) hty hK.1 hP (gD_va hD hAd) hS hA ha (by show ¬ iI n < iI 0; rw [iI_lt (by omega) (by omega)]; omega) (by rw [iI_clamp (by omega), hN]) hby hc hs d (fun a cA H1 g0 g1 g2 g3 => k a H1 ?_)
  have e1 := (g0.2 5 (cA, ty) rfl).2
  have e2 := (hK.1.2 i (G.2 i, ty) hi).2
  have e3 := hra s cA (G.2 i) e1 e2
  subst e3
  rw [← flat_snoc] at g1 g2
  exact ⟨g1, gD_of_va g2, fun q hq => adr_D g2 hq, g3⟩
theorem z_newq {n : Int} {N : Nat} (C : CX p s m args meth c own cc nL ret) (hK : gK G s) (hW : Wd G A rs H0 H locs) (hA : ∀ q, H0.size ≤ q → A q) (hl : Cond.classLink own idx "TideBoats$State" ∈ lw_all) (ho : va_AO "TideBoats$State" s) (hn : 0 ≤ n ∧ n < 100000) (hN : n.toNat = N) (hby : N * 4 ≤ 536870912) (hc : cells + 1 ≤ R.cells) (hs : slots + N ≤ R.slots) (d : decode cc pc = .ok (.anewarray idx, 3)) (q : Nat) (hq : pc + 3 = q) (k : ∀ (a : Nat) (H1 : Heap), Wd G A (rs ++ [[arQ G a N (fun _ => none)]]) H0 H1 locs → W p l e R s m args below meth c H1 locs (cells + 1) (slots + N) Q (F0 m q ls (.ref a :: rest))) : W p l e R s m args below meth c H locs cells slots Q (F0 m pc ls (.int (iI n) :: rest)) := by
  subst hq
  obtain ⟨hP, hD, hAd, hS⟩ := hW
  refine va_newq C.1.1 C.1.2.1 C.1.2.2.2.1 (C.1.2.2.2.2 _ hl) ho hK.1 hP (gD_va hD hAd) hS hA (by show ¬ iI n < iI 0; rw [iI_lt (by omega) (by omega)]; omega) (by rw [iI_clamp (by omega), hN]) hby hc hs d (fun a cA H1 g0 g1 g2 g3 => k a H1 ?_)
  have e1 := (g0.2 5 (cA, .object "TideBoats$State") rfl).2
  have e2 := (hK.1.2 4 (G.2 4, .object "TideBoats$State") rfl).2
  obtain ⟨kA, comp, -, -, -, e1⟩ := e1
  obtain ⟨kB, comp2, -, -, -, e2⟩ := e2
  have e3 := Option.some.inj (e1.symm.trans e2)
  subst e3
  rw [← flat_snoc] at g1 g2
  exact ⟨g1, gD_of_va g2, fun q hq => adr_D g2 hq, g3⟩
theorem ra_int (U : State) (x y : ClassId) (h : va_RA U x .int) (h2 : va_RA U y .int) : x = y := Option.some.inj ((show U.vm.findClass _ = some x from h).symm.trans h2)
theorem ra_long (U : State) (x y : ClassId) (h : va_RA U x .long) (h2 : va_RA U y .long) : x = y := Option.some.inj ((show U.vm.findClass _ = some x from h).symm.trans h2)
theorem ra_char (U : State) (x y : ClassId) (h : va_RA U x .char) (h2 : va_RA U y .char) : x = y := Option.some.inj ((show U.vm.findClass _ = some x from h).symm.trans h2)
theorem ra_bool (U : State) (x y : ClassId) (h : va_RA U x .boolean) (h2 : va_RA U y .boolean) : x = y := Option.some.inj ((show U.vm.findClass _ = some x from h).symm.trans h2)
theorem z_vn {α : Type} {a sz mc ms : Nat} {ssf : α → List va_W} {φ : α → Prop} (C : CX p s m args meth c own cc nL none) (hW : Wd G (Afr a sz) rs s.heap H locs) (d : decode cc pc = .ok (.return_, 1)) (x : α) (hx : φ x) (hrs : rs.flatten = (ssf x).flatten) (hc : cells ≤ mc) (hs : slots ≤ ms) : W p l e R s m args below meth c H locs cells slots (MQ below (QN G a sz ssf φ) args s mc ms (Afr a sz)) (F0 m pc ls []) := by
  refine W.widen hc hs ?_
  exact W.vret C.1.1 C.1.2.1 C.2.1 (fun t ht _ => ⟨rfl, ⟨x, hx, by rw [ht, ← hrs]; exact hW.1, by rw [← hrs]; exact hW.2.1, fun q hq => hW.2.2.1 q (by rw [hrs]; exact hq)⟩, hW.2.2.2.F ht⟩) hW.2.2.2.2.2 d C.2.2
/-- behind a constructor's call -/
theorem z_backN {α : Type} {a mc ms : Nat} {e0 : va_E} {ssf : α → List va_W} {φ : α → Prop} {ar : Array Value} {q : Nat} {st : List Value} (hq : pc + 3 = q) (hr : va_Run p l e R s m args below meth c H locs cells slots mc ms (F0 m pc ls st) rest (QN G a H.size ssf φ ar) (Afr a H.size)) (hW : Wd G A (rs ++ [[(a, e0)]]) H0 H locs) (hA : ∀ q, H0.size ≤ q → A q)
    (k : ∀ (x : α) (H1 : Heap) (locs1 : List Loc), φ x → Wd G A (rs ++ ssf x) H0 H1 locs1 → W p l e R s m args below meth c H1 locs1 (cells + mc) (slots + ms) Q (F0 m q ls rest)) : W p l e R s m args below meth c H locs cells slots Q (F0 m pc ls st) := by
  subst hq
  intro T hT X
  obtain ⟨v, st₀, t, T', L, h0, X', hL, e1, e2, ⟨hv, ⟨x, hx, gp, gd, ga⟩, hz, hk⟩, hs⟩ := hr T hT X
  cases hv
  rw [h0] at hz hk
  obtain ⟨hP, hD, hAd, hS⟩ := hW
  rw [flat_snoc] at hP hD hAd
  have haA : A a := hAd a (adr_iff.mpr ⟨e0, List.mem_append_right _ List.mem_cons_self⟩)
  have hfA : ∀ q, Afr a H.size q → A q := fun q h => h.elim (fun z => z ▸ haA) (fun z => hA q (Nat.le_trans hS.1 z))
  have hold : ∀ q ∈ rs.flatten, q.1 < H.size ∧ q.1 ≠ a := fun q hq => by
    refine ⟨(gP_iff.mp hP q (List.mem_append_left _ hq)).lt, fun z => ?_⟩
    unfold gD at hD
    rw [List.map_append, List.nodup_append] at hD
    exact hD.2.2 q.1 (List.mem_map_of_mem hq) a (by simp) z
  have hWn : Wd G A (rs ++ ssf x) H0 T'.heap (locs ++ L) := by
    rw [e1]
    refine ⟨gP_iff.mpr fun q hq => ?_, ?_, fun q hq => ?_, ⟨Nat.le_trans hS.1 hz, fun q h1 h2 => by rw [hk q (Nat.lt_of_lt_of_le h1 hS.1) (fun z => h2 (hfA q z))]; exact hS.2.1 q h1 h2, fun q hq => ?_⟩⟩
    · rw [List.flatten_append] at hq
      rcases List.mem_append.mp hq with h | h
      · have ho := hold q h
        exact (gP_iff.mp hP q (List.mem_append_left _ h)).kept (hk q.1 ho.1 (fun z => z.elim ho.2 (fun z => by omega)))
      · exact gP_iff.mp gp q h
    · unfold gD
      rw [List.flatten_append, List.map_append, List.nodup_append]
      refine ⟨?_, gd, fun x1 h1 y1 h2 e => ?_⟩
      · unfold gD at hD
        rw [List.map_append, List.nodup_append] at hD
        exact hD.1
      · subst e
        obtain ⟨q1, hq1, rfl⟩ := List.mem_map.mp h1
        have ho := hold q1 hq1
        rcases ga q1.1 h2 with z | z
        · exact ho.2 z
        · omega
    · obtain ⟨e9, h9⟩ := adr_iff.mp hq
      rw [List.flatten_append] at h9
      rcases List.mem_append.mp h9 with h | h
      · exact hAd q (adr_iff.mpr ⟨e9, List.mem_append_left _ h⟩)
      · exact hfA q (ga q (adr_iff.mpr ⟨e9, h⟩))
    · rcases List.mem_append.mp hq with h | h
      · exact hS.2.2 q h
      · exact hfA _ (hL q h)
  obtain ⟨t2, a1, b1⟩ := k x T'.heap (locs ++ L) hx hWn T' rfl X'
  exact ⟨t2, hs t2 a1, b1⟩
variable {y : MethodName} {bytes : ByteArray} {maxL nA dep mc ms : Nat} {As : List Value} {st : List Value}
abbrev okI (R : Room) (maxL dep : Nat) : Prop := dep + 1 ≤ R.frames ∧ 8 + (maxL + 11) + 38 * dep ≤ R.locals
theorem bzn_blind {a sz : Nat} {e0 : va_E} {As : List Value} {Z : State → Prop} (hZb : ∀ (U : State) (g : JFrame) (mk : MethodId) (a : Array Value), Z U → Z (U.calling g mk a)) : FrameBlind (va_Pc As (fun U => U.heap.size = sz ∧ BZ G [[(a, e0)]] Z U)) := fun ar U g mk h => by
  obtain ⟨h1, h2, h3, h4, h5⟩ := h
  exact ⟨h1, h2, h3, h4.calling, hZb U g mk ar h5⟩
def ZO : State → Prop := fun U => va_AO "TideBoats$State" U
theorem zo_blind (U : State) (g : JFrame) (mk : MethodId) (a : Array Value) (h : ZO U) : ZO (U.calling g mk a) := va_AO.moved (u := U) (U := U.calling g mk a) (Vm.Alike.refl U.vm) h
theorem zo_of {s : State} {H : Heap} (h : ZO s) : ∀ U : State, U.heap = H → s.WarmedH U.vm → ZO U := fun U _ hW => va_AO.moved hW.alike h
theorem zt_blind (U : State) (g : JFrame) (mk : MethodId) (a : Array Value) (h : ZT U) : ZT (U.calling g mk a) := h
theorem zt_of {s : State} {H : Heap} : ∀ U : State, U.heap = H → s.WarmedH U.vm → ZT U := fun _ _ _ => trivial
theorem gP_last {a : Nat} {e0 : va_E} (h : gP G (rs ++ [[(a, e0)]]).flatten H) : gP G [[(a, e0)]].flatten H := gP_sub h fun q hq => by
  rw [flat_snoc]; exact List.mem_append_right _ hq
theorem z_I {α : Type} {a : Nat} {e0 : va_E} {ssf : α → List va_W} {φ : α → Prop} {Z : State → Prop} (C : CX p s m args meth c own cc nL ret) (hW : Wd G A (rs ++ [[(a, e0)]]) H0 H locs) (hA : ∀ q, H0.size ≤ q → A q) (hK : gK G s) (hM : MN l G y bytes maxL dep mc ms (.ref a :: As) a H.size e0 Z ssf φ) (hZb : ∀ (U : State) (g : JFrame) (mk : MethodId) (a : Array Value), Z U → Z (U.calling g mk a)) (hZ : ∀ U : State, U.heap = H → s.WarmedH U.vm → Z U) (kw : CWI own idx y bytes maxL nA) (hR : okI R maxL dep) (hn : As.length = nA) (hls : ls.size = nL) (hst : st = As.reverse ++ .ref a :: rest) (hro : (rest.map fun v => v.category).sum ≤ 8) (d : decode cc pc = .ok (.invokespecial idx, 3)) (hf : cells + mc ≤ R.cells ∧ slots + ms ≤ R.slots) (q : Nat) (hq : pc + 3 = q) (k : ∀ (x : α) (H1 : Heap) (locs1 : List Loc), φ x → Wd G A (rs ++ ssf x) H0 H1 locs1 → W p l e R s m args below meth c H1 locs1 (cells + mc) (slots + ms) Q (F0 m q ls rest)) : W p l e R s m args below meth c H locs cells slots Q (F0 m pc ls st) := by
  obtain ⟨k1, k2, k3, k4, k5, k6⟩ := kw
  exact z_backN hq (va_runI C.1 hM (cwI nA C.1.2.2.2.2 (good_ws k4) rfl rfl rfl (C.1.2.2.2.2 _ k3) (C.1.2.2.2.2 _ k1) (C.1.2.2.2.2 _ k2) k5 k6 hR) ⟨bzn_blind hZb, fun U hU hW1 => ⟨rfl, by rw [hU], by rw [hU]; exact gP_last hW.1, hK.warm hW1, hZ U hU hW1⟩⟩ rfl hn hls hst (lv_room hro) d hf) hW hA k
theorem z_IN {α : Type} {a : Nat} {e0 : va_E} {ssf : α → List va_W} {φ : α → Prop} {Z : State → Prop} (C : CX p s m args meth c own cc nL ret) (hW : Wd G A (rs ++ [[(a, e0)]]) H0 H locs) (hA : ∀ q, H0.size ≤ q → A q) (hK : gK G s) (hM : MN l G y bytes maxL dep mc ms (.ref a :: As) a H.size e0 Z ssf φ) (hZb : ∀ (U : State) (g : JFrame) (mk : MethodId) (a : Array Value), Z U → Z (U.calling g mk a)) (hZ : ∀ U : State, U.heap = H → s.WarmedH U.vm → Z U) (kw : CWIN own idx y bytes maxL nA) (hR : okI R maxL dep) (hn : As.length = nA) (hls : ls.size = nL) (hst : st = As.reverse ++ .ref a :: rest) (hro : (rest.map fun v => v.category).sum ≤ 8) (d : decode cc pc = .ok (.invokespecial idx, 3)) (hf : cells + mc ≤ R.cells ∧ slots + ms ≤ R.slots) (q : Nat) (hq : pc + 3 = q) (k : ∀ (x : α) (H1 : Heap) (locs1 : List Loc), φ x → Wd G A (rs ++ ssf x) H0 H1 locs1 → W p l e R s m args below meth c H1 locs1 (cells + mc) (slots + ms) Q (F0 m q ls rest)) : W p l e R s m args below meth c H locs cells slots Q (F0 m pc ls st) := by
  obtain ⟨⟨host, k1⟩, k2, k3, k4, k5, k6⟩ := kw
  exact z_backN hq (va_runIN C.1 hM ⟨va_cnB nA C.1.2.2.2.2 (good_ws k4) rfl rfl rfl (hK.2 _ k1) (C.1.2.2.2.2 _ k3) k6 hR, k5, C.1.2.2.2.2 _ k2⟩ ⟨bzn_blind hZb, fun U hU hW1 => ⟨rfl, by rw [hU], by rw [hU]; exact gP_last hW.1, hK.warm hW1, hZ U hU hW1⟩⟩ rfl hn hls hst (lv_room hro) d hf) hW hA k
end N
theorem nw_L_9 : NEWC RL 9 5 6 [.null, .null, .null, .null, .null, .null] := ⟨_, TX5, tyX5, rfl, in_X5, tyX5_ok, all_mem 8 (by decide +kernel) (by decide +kernel), all_mem 9 (by decide +kernel) (by decide +kernel), all_mem 1 (by decide +kernel) (by decide +kernel), fun j hj => by rcases (show j = 0 ∨ j = 1 ∨ j = 2 ∨ j = 3 ∨ j = 4 ∨ j = 5 by omega) with rfl | rfl | rfl | rfl | rfl | rfl <;> rfl⟩
theorem nw_X5_7 : NEWC RX5 7 4 14 [.null, .null, .null, .null, .null, .null, .null, .int (iI 0), .int (iI 0), .int (iI 0), .int (iI 0), .int (iI 0), .int (iI 0), .int (iI 0)] := ⟨_, TX4, tyX4, rfl, in_X4, tyX4_ok, all_mem 16 (by decide +kernel) (by decide +kernel), all_mem 17 (by decide +kernel) (by decide +kernel), all_mem 2 (by decide +kernel) (by decide +kernel), fun j hj => by rcases (show j = 0 ∨ j = 1 ∨ j = 2 ∨ j = 3 ∨ j = 4 ∨ j = 5 ∨ j = 6 ∨ j = 7 ∨ j = 8 ∨ j = 9 ∨ j = 10 ∨ j = 11 ∨ j = 12 ∨ j = 13 by omega) with rfl | rfl | rfl | rfl | rfl | rfl | rfl | rfl | rfl | rfl | rfl | rfl | rfl | rfl <;> rfl⟩
theorem nw_X5_19 : NEWC RX5 19 3 1 [.null] := ⟨_, TX3, tyX3, rfl, in_X3, tyX3_ok, all_mem 102 (by decide +kernel) (by decide +kernel), all_mem 103 (by decide +kernel) (by decide +kernel), all_mem 3 (by decide +kernel) (by decide +kernel), fun j hj => by rcases (show j = 0 by omega) with rfl <;> rfl⟩
theorem nw_X5_28 : NEWC RX5 28 1 7 [.null, .null, .long 0, .long 0, .long 0, .int (iI 0), .int (iI 0)] := ⟨_, TX1, tyX1, rfl, in_X1, tyX1_ok, all_mem 112 (by decide +kernel) (by decide +kernel), all_mem 113 (by decide +kernel) (by decide +kernel), all_mem 4 (by decide +kernel) (by decide +kernel), fun j hj => by rcases (show j = 0 ∨ j = 1 ∨ j = 2 ∨ j = 3 ∨ j = 4 ∨ j = 5 ∨ j = 6 by omega) with rfl | rfl | rfl | rfl | rfl | rfl | rfl <;> rfl⟩
theorem nw_X5_35 : NEWC RX5 35 0 4 [.null, .null, .int (iI 0), .int (iI 0)] := ⟨_, TX0, tyX0, rfl, in_X0, tyX0_ok, all_mem 141 (by decide +kernel) (by decide +kernel), all_mem 142 (by decide +kernel) (by decide +kernel), all_mem 5 (by decide +kernel) (by decide +kernel), fun j hj => by rcases (show j = 0 ∨ j = 1 ∨ j = 2 ∨ j = 3 by omega) with rfl | rfl | rfl | rfl <;> rfl⟩
theorem nw_X5_42 : NEWC RX5 42 2 2 [.null, .int (iI 0)] := ⟨_, TX2, tyX2, rfl, in_X2, tyX2_ok, all_mem 164 (by decide +kernel) (by decide +kernel), all_mem 165 (by decide +kernel) (by decide +kernel), all_mem 6 (by decide +kernel) (by decide +kernel), fun j hj => by rcases (show j = 0 ∨ j = 1 by omega) with rfl | rfl <;> rfl⟩
theorem nw_X0_9 : NEWC RX0 9 4 14 [.null, .null, .null, .null, .null, .null, .null, .int (iI 0), .int (iI 0), .int (iI 0), .int (iI 0), .int (iI 0), .int (iI 0), .int (iI 0)] := ⟨_, TX4, tyX4, rfl, in_X4, tyX4_ok, all_mem 147 (by decide +kernel) (by decide +kernel), all_mem 17 (by decide +kernel) (by decide +kernel), all_mem 2 (by decide +kernel) (by decide +kernel), fun j hj => by rcases (show j = 0 ∨ j = 1 ∨ j = 2 ∨ j = 3 ∨ j = 4 ∨ j = 5 ∨ j = 6 ∨ j = 7 ∨ j = 8 ∨ j = 9 ∨ j = 10 ∨ j = 11 ∨ j = 12 ∨ j = 13 by omega) with rfl | rfl | rfl | rfl | rfl | rfl | rfl | rfl | rfl | rfl | rfl | rfl | rfl | rfl <;> rfl⟩
