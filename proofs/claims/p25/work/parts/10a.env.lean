/-! what nobody writes: the String constants of the text's class, two tables, the JDK's statics -/
abbrev eT : Type := (Nat → Nat) × (Nat → Nat) × Nat × Nat
def poJ : Nat → Nat := fun i => [56, 68, 70, 64, 72, 74, 51, 58, 60, 62, 66, 83].getD i 0
def txJ : Nat → String := fun i => ["abcdef", "CR=H", "+PDCR", "0123456789", "BWS", "w", "123456", "01234", "01", "123", "rdlu", ""].getD i ""
def lenJ : List Nat := [6, 4, 5, 10, 3, 1, 6, 5, 2, 3, 4, 0]
def bytJ : List (List Int32) := [[97, 98, 99, 100, 101, 102], [67, 82, 61, 72], [43, 80, 68, 67, 82], [48, 49, 50, 51, 52, 53, 54, 55, 56, 57], [66, 87, 83], [119], [49, 50, 51, 52, 53, 54], [48, 49, 50, 51, 52], [48, 49], [49, 50, 51], [114, 100, 108, 117], []]
def sT : List (List Int) := [[97, 98, 99, 100, 101, 102], [67, 82, 61, 72], [43, 80, 68, 67, 82], [48, 49, 50, 51, 52, 53, 54, 55, 56, 57], [66, 87, 83], [119], [49, 50, 51, 52, 53, 54], [48, 49, 50, 51, 52], [48, 49], [49, 50, 51], [114, 100, 108, 117], []]
def sLen (i : Nat) : Int := (lenJ.getD i 0 : Nat)
def sCh (i : Nat) (k : Int) : Int := (sT.getD i []).getD k.toNat 0
theorem sCh_byt : ∀ i, i < 12 → ∀ j, j < lenJ.getD i 0 → (bytJ.getD i []).getD j 0 = iI (sCh i j) ∧ 0 ≤ sCh i j ∧ sCh i j < 128 := by decide +kernel
theorem sLen_rng : ∀ i, i < 12 → 0 ≤ sLen i ∧ sLen i ≤ 10 := by decide +kernel
theorem sCh_rng {i : Nat} (hi : i < 12) {k : Int} (hk : 0 ≤ k ∧ k < sLen i) : 0 ≤ sCh i k ∧ sCh i k < 128 := by
  have h := (sCh_byt i hi k.toNat (by unfold sLen at hk; omega)).2
  rwa [Int.toNat_of_nonneg hk.1] at h
def idxN (f : Int → Int) (c : Int) : Nat → Int → Int
  | 0, _ => -1
  | n + 1, k => if f k = c then k else idxN f c n (1 + k)
def idxZ (i : Nat) (c : Int) : Int := idxN (sCh i) c (lenJ.getD i 0) 0
theorem idxN_hit {f : Int → Int} {c k m : Int} (hk : k < m) (h : f k = c) : idxN f c (m - k).toNat k = k := by
  rw [show (m - k).toNat = (m - k - 1).toNat + 1 by omega]
  unfold idxN
  rw [if_pos h]
theorem idxN_miss {f : Int → Int} {c k m : Int} (h0 : 0 ≤ k) (hk : k < m) (h : ¬ f k = c) : idxN f c (m - k).toNat k = idxN f c (m - (1 + k)).toNat (1 + k) := by
  rw [show (m - k).toNat = (m - (1 + k)).toNat + 1 by omega]
  conv => lhs; unfold idxN
  rw [if_neg h]
theorem idxN_end {f : Int → Int} {c k m : Int} (hk : m ≤ k) : idxN f c (m - k).toNat k = -1 := by
  rw [show (m - k).toNat = 0 by omega]
  rfl
theorem idxN_out {f : Int → Int} {c : Int} : ∀ (n : Nat) (k : Int), (∀ j : Int, k ≤ j → j < k + n → f j ≠ c) → idxN f c n k = -1 := by
  intro n
  induction n with
  | zero => intro k _; rfl
  | succ n ih =>
    intro k h
    unfold idxN
    rw [if_neg (h k (by omega) (by omega))]
    exact ih _ (fun j h1 h2 => h j (by omega) (by omega))
theorem idxZ_out {i : Nat} (hi : i < 12) {c : Int} (hc : ¬ (0 ≤ c ∧ c ≤ 255)) : idxZ i c = -1 := by
  refine idxN_out _ _ fun j h1 h2 => ?_
  have := sCh_rng hi (k := j) (by unfold sLen; omega)
  omega
theorem idxZ_rng {i : Nat} (hi : i < 12) (c : Int) : -1 ≤ idxZ i c ∧ idxZ i c < 10 := by
  have h : ∀ (n : Nat) (k : Int), 0 ≤ k → -1 ≤ idxN (sCh i) c n k ∧ (idxN (sCh i) c n k < k + n ∨ idxN (sCh i) c n k = -1) := by
    intro n
    induction n with
    | zero => intro k _; exact ⟨by show (-1 : Int) ≤ -1; omega, Or.inr rfl⟩
    | succ n ih =>
      intro k hk
      unfold idxN
      split
      · omega
      · have := ih (1 + k) (by omega)
        omega
  have h1 := h (lenJ.getD i 0) 0 (by omega)
  have h2 := sLen_rng i hi
  unfold sLen at h2
  unfold idxZ
  omega
def EV (E : eT) (A : Nat → Prop) (U : State) (H : Heap) : Prop :=
  True ∧ True ∧ True ∧ True ∧
  (va_Z "TideBoats" "LEAST_SETTING" "[I" (.ref E.2.2.1) A U H ∧ va_T .int E.2.2.1 4 (fun j => .int (iI (lstZ j))) A U H) ∧ (va_Z "TideBoats" "MOST_SETTING" "[I" (.ref E.2.2.2) A U H ∧ va_T .int E.2.2.2 4 (fun j => .int (iI (mstZ j))) A U H)
theorem EV.warm {E : eT} {A : Nat → Prop} {s U : State} {H : Heap} (hW : s.WarmedH U.vm) (h : EV E A s H) : EV E A U H :=
  ⟨trivial, trivial, trivial, trivial, ⟨h.2.2.2.2.1.1.moved hW.alike, h.2.2.2.2.1.2.moved hW.alike⟩, h.2.2.2.2.2.1.moved hW.alike, h.2.2.2.2.2.2.moved hW.alike⟩
theorem EV.kept {E : eT} {A : Nat → Prop} {U : State} {H H1 : Heap} (h : EV E A U H) (hq : ∀ a : Nat, a < H.size → ¬ A a → H1[a]? = H[a]?) : EV E A U H1 :=
  ⟨trivial, trivial, trivial, trivial, ⟨h.2.2.2.2.1.1.kept hq, h.2.2.2.2.1.2.kept hq⟩, h.2.2.2.2.2.1.kept hq, h.2.2.2.2.2.2.kept hq⟩
theorem EV.narrow {E : eT} {A B : Nat → Prop} {U : State} {H : Heap} (h : EV E A U H) (hAB : ∀ q, B q → A q) : EV E B U H :=
  ⟨trivial, trivial, trivial, trivial, ⟨h.2.2.2.2.1.1.narrow hAB, h.2.2.2.2.1.2.narrow hAB⟩, h.2.2.2.2.2.1.narrow hAB, h.2.2.2.2.2.2.narrow hAB⟩
theorem EV.calling {E : eT} {A : Nat → Prop} {U : State} {H : Heap} {g : JFrame} {mk : MethodId} {a : Array Value} (h : EV E A U H) : EV E A (U.calling g mk a) H := by
  have ha : U.vm.Alike (U.calling g mk a).vm := Vm.Alike.refl U.vm
  exact ⟨trivial, trivial, trivial, trivial, ⟨h.2.2.2.2.1.1.moved ha, h.2.2.2.2.1.2.moved ha⟩, h.2.2.2.2.2.1.moved ha, h.2.2.2.2.2.2.moved ha⟩
def ZR (E : eT) : State → Prop := fun U => EV E (fun _ => False) U U.heap
def ZW (E : eT) (ss : List va_W) : State → Prop := fun U => EV E (adr ss.flatten) U U.heap
theorem zr_blind {E : eT} (U : State) (g : JFrame) (mk : MethodId) (a : Array Value) (h : ZR E U) : ZR E (U.calling g mk a) := EV.calling h
theorem zw_blind {E : eT} {ss : List va_W} (U : State) (g : JFrame) (mk : MethodId) (a : Array Value) (h : ZW E ss U) : ZW E ss (U.calling g mk a) := EV.calling h
theorem zr_of {E : eT} {A : Nat → Prop} {s : State} {H : Heap} {locs : List Loc} (h : EV E A s s.heap) (hS : va_S A s.heap H locs) : ∀ U : State, U.heap = H → s.WarmedH U.vm → ZR E U := fun U hU hW => by
  have h1 := ((h.kept hS.2.1).narrow (B := fun _ => False) (fun _ z => z.elim)).warm hW
  show EV E (fun _ => False) U U.heap
  rw [hU]; exact h1
theorem zw_of {E : eT} {A : Nat → Prop} {ss : List va_W} {s : State} {H : Heap} {locs : List Loc} (h : EV E A s s.heap) (hS : va_S A s.heap H locs) (hA : ∀ q, adr ss.flatten q → A q) : ∀ U : State, U.heap = H → s.WarmedH U.vm → ZW E ss U := fun U hU hW => by
  have h1 := ((h.kept hS.2.1).narrow hA).warm hW
  show EV E (adr ss.flatten) U U.heap
  rw [hU]; exact h1
/-- a reader that answers nothing -/
def QV : Array Value → State → Outcome → State → Prop := fun _ st o t => o = .returned none ∧ t.heap = st.heap
def MV (l : Launch) (G : gT) (y : MethodName) (cc : ByteArray) (n : Nat) (ret : Option FieldType) (d : Nat) (As : List Value) (ss : List va_W) (Z : State → Prop) : Prop :=
  Met l y (ws_ y cc n ret) (rmN d) (va_Pc As (BZ G ss Z)) QV 0 0 (fun _ => False)
section S
variable {p : Program} {l : Launch} {e : Env} {R : Room} {s : State} {m : MethodId} {args : Array Value} {below : List Frame} {meth : Method} {c : Code} {H : Heap} {locs : List Loc} {cells slots : Nat} {Q : State → Prop}
variable {own : String} {cc : ByteArray} {nL : Nat} {ret : Option FieldType} {pc : Nat} {ls : Array Slot} {rest : List Value} {st : List Value} {y : MethodName} {bytes : ByteArray} {maxL nA dep idx : Nat} {yret : Option FieldType} {As : List Value} {E : eT} {A : Nat → Prop}
theorem z_rv (C : CX p s m args meth c own cc nL none) (d : decode cc pc = .ok (.return_, 1)) : W p l e R s m args below meth c s.heap [] cells slots (MQ below QV args s cells slots (fun _ => False)) (F0 m pc ls []) :=
  W.vret C.1.1 C.1.2.1 C.2.1 (fun t ht _ => ⟨rfl, ht⟩) (fun _ h => absurd h List.not_mem_nil) d C.2.2
theorem z_backV {a : Array Value} {q : Nat} (hq : pc + 3 = q) (hr : va_Run p l e R s m args below meth c H locs cells slots 0 0 (F0 m pc ls st) rest (QV a) (fun _ => False)) (k : W p l e R s m args below meth c H locs cells slots Q (F0 m q ls rest)) : W p l e R s m args below meth c H locs cells slots Q (F0 m pc ls st) := by
  subst hq
  intro T hT X
  obtain ⟨v, st₀, t, T', L, h0, X', hL, e1, e2, ⟨hv, hh⟩, hs⟩ := hr T hT X
  cases hv
  obtain ⟨t2, a1, b1⟩ := k T' (by rw [e1, hh, h0]) (Stand.forget X' (fun q h => (hL q h).elim))
  exact ⟨t2, hs t2 a1, b1⟩
theorem z_SVz {G : gT} {ss : List va_W} {Z : State → Prop} (C : CX p s m args meth c own cc nL ret) (hM : MV l G y bytes maxL yret dep As ss Z) (kw : CWS own idx y bytes maxL yret nA) (hR : okR R maxL dep) (hP : gP G ss.flatten H) (hK : gK G s) (hZb : ∀ (U : State) (g : JFrame) (mk : MethodId) (a : Array Value), Z U → Z (U.calling g mk a)) (hZ : ∀ U : State, U.heap = H → s.WarmedH U.vm → Z U) (hn : As.length = nA) (hls : ls.size = nL) (hst : st = As.reverse ++ rest) (hro : (rest.map fun v => v.category).sum ≤ 8) (d : decode cc pc = .ok (.invokestatic idx, 3)) (hf : cells ≤ R.cells ∧ slots ≤ R.slots) (q : Nat) (hq : pc + 3 = q) (k : W p l e R s m args below meth c H locs cells slots Q (F0 m q ls rest)) : W p l e R s m args below meth c H locs cells slots Q (F0 m pc ls st) :=
  z_backV hq (run_S C hM kw hR hP hK hZb hZ hn hls hst hro d hf) k
end S
theorem and255 : ∀ n : Nat, n < 128 → iI n &&& iI 255 = iI n := by decide +kernel
theorem and255Z {x : Int} (h : 0 ≤ x ∧ x < 128) : iI x &&& iI 255 = iI x := by
  have := and255 x.toNat (by omega)
  rwa [Int.toNat_of_nonneg h.1] at this
theorem i2cZ {x : Int} (h : 0 ≤ x ∧ x < 65536) : ((iI x).toUInt32 % 65536).toInt32 = iI x := by
  rw [← Int.toNat_of_nonneg h.1, ← iI_nI, pk_char, pk_tn (by omega), Nat.mod_eq_of_lt (by omega)]
theorem i2bN : ∀ n : Nat, n < 256 → (iI n).toInt8.toInt32 = iI (if (n : Int) < 128 then (n : Int) else (n : Int) - 256) := by decide +kernel
theorem i2bZ {x : Int} (h : 0 ≤ x ∧ x ≤ 255) : (iI x).toInt8.toInt32 = iI (if x < 128 then x else x - 256) := by
  have := i2bN x.toNat (by omega)
  rwa [Int.toNat_of_nonneg h.1] at this
theorem shr0Z (x : Int) : iI x >>> (iI 0 &&& 31) = iI x := sb_shr0 (iI x)
theorem nar_char {x : Int} (h : 0 ≤ x ∧ x < 65536) : narrow .char (.int (iI x)) = .int (iI x) := by
  rw [← Int.toNat_of_nonneg h.1, ← iI_nI]
  exact (pk_charN (by omega)).1
