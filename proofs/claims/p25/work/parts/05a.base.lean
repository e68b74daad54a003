/-! Numbers: an int is the image of an integer -/
def iI (z : Int) : Int32 := Int32.ofInt z
def bZ (b : Bool) : Int := if b = true then 1 else 0
theorem iI_toInt {z : Int} (h : -2147483648 ≤ z ∧ z < 2147483648) : (iI z).toInt = z := Int32.toInt_ofInt_of_le (by omega) (by omega)
theorem iI_of (x : Int32) : iI x.toInt = x := Int32.ofInt_toInt x
theorem iI_rng (x : Int32) : -2147483648 ≤ x.toInt ∧ x.toInt < 2147483648 := ⟨by have := x.le_toInt; omega, by have := x.toInt_lt; omega⟩
theorem iI_ex (x : Int32) : ∃ z : Int, (-2147483648 ≤ z ∧ z < 2147483648) ∧ x = iI z := ⟨x.toInt, iI_rng x, (iI_of x).symm⟩
theorem iI_add (a b : Int) : iI a + iI b = iI (a + b) := (Int32.ofInt_add a b).symm
theorem iI_sub (a b : Int) : iI a - iI b = iI (a - b) := (Int32.ofInt_sub a b).symm
theorem iI_mul (a b : Int) : iI a * iI b = iI (a * b) := (Int32.ofInt_mul a b).symm
theorem iI_inj {a b : Int} (ha : -2147483648 ≤ a ∧ a < 2147483648) (hb : -2147483648 ≤ b ∧ b < 2147483648) : iI a = iI b ↔ a = b := by
  rw [← Int32.toInt_inj, iI_toInt ha, iI_toInt hb]
theorem iI_lt {a b : Int} (ha : -2147483648 ≤ a ∧ a < 2147483648) (hb : -2147483648 ≤ b ∧ b < 2147483648) : iI a < iI b ↔ a < b := by
  rw [Int32.lt_iff_toInt_lt, iI_toInt ha, iI_toInt hb]
theorem iI_le {a b : Int} (ha : -2147483648 ≤ a ∧ a < 2147483648) (hb : -2147483648 ≤ b ∧ b < 2147483648) : iI a ≤ iI b ↔ a ≤ b := by
  rw [Int32.le_iff_toInt_le, iI_toInt ha, iI_toInt hb]
theorem iI_div {a b : Int} (ha : 0 ≤ a ∧ a < 2147483648) (hb : 0 < b ∧ b < 2147483648) : iI a / iI b = iI (a / b) := by
  have e1 := iI_toInt (z := a) (by omega)
  have e2 := iI_toInt (z := b) (by omega)
  have h1 : 0 ≤ a / b := Int.ediv_nonneg ha.1 (by omega)
  have h2 : a / b ≤ a := Int.ediv_le_self _ ha.1
  rw [← Int32.toInt_inj, Int32.toInt_div, e1, e2, Int.tdiv_eq_ediv_of_nonneg ha.1, iI_toInt (by omega)]
  exact Int.bmod_eq_of_le_mul_two (by omega) (by omega)
theorem iI_rem {a b : Int} (ha : 0 ≤ a ∧ a < 2147483648) (hb : 0 < b ∧ b < 2147483648) : iI a - iI a / iI b * iI b = iI (a % b) := by
  rw [iI_div ha hb, iI_mul, iI_sub]
  congr 1
  have := Int.emod_add_mul_ediv a b
  rw [Int.mul_comm b] at this
  omega
theorem iI_clamp {z : Int} (h : 0 ≤ z ∧ z < 2147483648) : (iI z).toNatClampNeg = z.toNat := by
  show (iI z).toInt.toNat = _
  rw [iI_toInt (by omega)]
theorem iI_in {z : Int} {n : Nat} (h : 0 ≤ z) (h2 : z < n) (hn : (n : Int) ≤ 2147483647) : vp_in (iI z) n := by
  rw [vp_in_iff, iI_toInt (by omega)]
  exact ⟨h, h2⟩
theorem iI_nI (n : Nat) : nI n = iI n := (Int32.ofInt_eq_ofNat).symm
theorem iI_ne0 {a : Int} (h : 0 < a ∧ a < 2147483648) : ¬ iI a = 0 := by
  show ¬ iI a = iI 0
  rw [iI_inj (by omega) (by omega)]; omega
theorem bZ_rng (b : Bool) : 0 ≤ bZ b ∧ bZ b ≤ 1 := by cases b <;> decide
theorem bZ_t {b : Bool} (h : b = true) : bZ b = 1 := by rw [h]; rfl
theorem bZ_f {b : Bool} (h : b = false) : bZ b = 0 := by rw [h]; rfl
theorem bZ_eq1 {b : Bool} : bZ b = 1 ↔ b = true := by cases b <;> decide
theorem bZ_eq0 {b : Bool} : bZ b = 0 ↔ b = false := by cases b <;> decide
theorem bZ_inj {a b : Bool} : bZ a = bZ b ↔ a = b := by cases a <;> cases b <;> decide
/-- contents of an int array that hold f, written at a place -/
def updZ (f : Int → Int) (k x : Int) : Int → Int := fun j => if j = k then x else f j
theorem updZ_s {f : Int → Int} {k x : Int} : updZ f k x k = x := if_pos rfl
theorem updZ_n {f : Int → Int} {k x j : Int} (h : j ≠ k) : updZ f k x j = f j := if_neg h
/-! The runtime's numbers of classes; regions of cells -/
abbrev gT : Type := va_G × (Nat → ClassId)
def gP (G : gT) (w : va_W) (H : Heap) : Prop := va_P G.1 vwCl w H
abbrev tysG (G : gT) : List (ClassId × FieldType) := [(G.2 0, .int), (G.2 1, .long), (G.2 2, .char), (G.2 3, .int), (G.2 4, .object "TideBoats$State")]
def gK (G : gT) (U : State) : Prop := va_K G.1 vwCl (tysG G) U ∧ ∀ w ∈ lw_nst, va_Nw w U
theorem nst_is {w : Cond} (h : w ∈ lw_nst) : isNest w = true := (List.mem_filter.mp h).2
theorem nst_on {w : Cond} (h : isNest w = true) : w.onTables = true := by cases w <;> first | rfl | cases h
theorem nst_warm {w : Cond} (h : isNest w = true) {s U : State} (hW : s.WarmedH U.vm) (hZ : va_Nw w s) : va_Nw w U := by
  cases w <;> first | exact va_Nw.warmF hW hZ | exact va_Nw.warmM hW hZ | cases h
theorem gK.warm {G : gT} {s U : State} (hW : s.WarmedH U.vm) (h : gK G s) : gK G U := ⟨va_K.moved hW.alike h.1, fun w hw => nst_warm (nst_is hw) hW (h.2 w hw)⟩
theorem gK.calling {G : gT} {U : State} {g : JFrame} {mk : MethodId} {a : Array Value} (h : gK G U) : gK G (U.calling g mk a) := ⟨va_K.moved (u := U) (U := U.calling g mk a) (Vm.Alike.refl U.vm) h.1, fun w hw => va_Nw.same (u := U) (U := U.calling g mk a) (nst_on (nst_is hw)) rfl (h.2 w hw)⟩
def adr (w : va_W) : Nat → Prop := fun q => q ∈ w.map Prod.fst
theorem adr_iff {w : va_W} {q : Nat} : adr w q ↔ ∃ e, (q, e) ∈ w := by
  unfold adr
  rw [List.mem_map]
  constructor
  · rintro ⟨⟨a, e⟩, h, rfl⟩
    exact ⟨e, h⟩
  · rintro ⟨e, h⟩
    exact ⟨(q, e), h, rfl⟩
theorem gP_iff {G : gT} {w : va_W} {H : Heap} : gP G w H ↔ ∀ q ∈ w, va_at G.1 vwCl q H := by
  constructor
  · intro h q hq
    obtain ⟨i, hi⟩ := List.getElem?_of_mem hq
    exact h i q hi
  · intro h k q hk
    exact h q (List.mem_of_getElem? hk)
theorem gP_sub {G : gT} {w w' : va_W} {H : Heap} (h : gP G w H) (hs : ∀ q ∈ w', q ∈ w) : gP G w' H := gP_iff.mpr fun q hq => gP_iff.mp h q (hs q hq)
/-- regions out of regions, by their places -/
def rgS (rs : List va_W) (is : List Nat) : List va_W := is.filterMap fun i => rs[i]?
theorem gP_rg {G : gT} {rs ss : List va_W} {H : Heap} (h : gP G rs.flatten H) (is : List Nat) (hs : rgS rs is = ss) : gP G ss.flatten H := by
  refine gP_sub h fun q hq => ?_
  subst hs
  obtain ⟨l, hl, hq⟩ := List.mem_flatten.mp hq
  obtain ⟨i, -, hi⟩ := List.mem_filterMap.mp hl
  exact List.mem_flatten.mpr ⟨l, List.mem_of_getElem? hi, hq⟩
/-- addresses apart -/
def gD (w : va_W) : Prop := (w.map Prod.fst).Nodup
theorem gD_va {A : Nat → Prop} {w : va_W} (h : gD w) (hA : ∀ q, adr w q → A q) : va_D A w := by
  refine ⟨fun i j p q hi hj hpq => ?_, fun k q hk => hA _ (List.mem_map_of_mem (List.mem_of_getElem? hk))⟩
  have h1 : (w.map Prod.fst)[i]? = some p.1 := by rw [List.getElem?_map, hi]; rfl
  have h2 : (w.map Prod.fst)[j]? = some q.1 := by rw [List.getElem?_map, hj]; rfl
  have hi2 : i < (w.map Prod.fst).length := (List.getElem?_eq_some_iff.mp h1).1
  exact (List.getElem?_inj hi2 h).mp (by rw [h1, h2, hpq])
theorem gD_of_va {A : Nat → Prop} {w : va_W} (h : va_D A w) : gD w := by
  unfold gD List.Nodup
  rw [List.pairwise_iff_getElem]
  intro i j hi hj hij he
  rw [List.length_map] at hi hj
  rw [List.getElem_map, List.getElem_map] at he
  have := h.1 i j _ _ (List.getElem?_eq_getElem hi) (List.getElem?_eq_getElem hj) he
  omega
/-- two lists of regions of the same addresses, region by region, in any order -/
def sameA (ss ss' : List va_W) : Prop := ss.length = ss'.length ∧ ∀ (k : Nat) (w w' : va_W), ss[k]? = some w → ss'[k]? = some w' → (w.map Prod.fst).Perm (w'.map Prod.fst)
theorem sameA_of {ss ss' : List va_W} (h : ss.map (fun w => w.map Prod.fst) = ss'.map (fun w => w.map Prod.fst)) : sameA ss ss' := by
  refine ⟨by simpa using congrArg List.length h, fun k w w' h1 h2 => ?_⟩
  have z := congrArg (fun l => l[k]?) h
  simp only [List.getElem?_map, h1, h2, Option.map_some, Option.some.injEq] at z
  rw [z]
theorem sameA_perm : ∀ {ss ss' : List va_W}, sameA ss ss' → (ss.flatten.map Prod.fst).Perm (ss'.flatten.map Prod.fst)
  | [], [], _ => List.Perm.refl _
  | [], _ :: _, h => by have := h.1; simp at this
  | _ :: _, [], h => by have := h.1; simp at this
  | w :: ws, w' :: ws', h => by
    rw [List.flatten_cons, List.flatten_cons, List.map_append, List.map_append]
    refine List.Perm.append (h.2 0 w w' rfl rfl) (sameA_perm ⟨by have := h.1; simpa using this, fun k x x' h1 h2 => h.2 (k + 1) x x' h1 h2⟩)
theorem sameA_adr {ss ss' : List va_W} (h : sameA ss ss') (q : Nat) : adr ss.flatten q ↔ adr ss'.flatten q := (sameA_perm h).mem_iff
theorem sameA_gD {ss ss' : List va_W} (h : sameA ss ss') (hd : gD ss.flatten) : gD ss'.flatten := (sameA_perm h).nodup_iff.mp hd
/-- regions replaced, by their places -/
def rgU (rs : List va_W) (is : List Nat) (ss : List va_W) : List va_W := (is.zip ss).foldl (fun l q => l.set q.1 q.2) rs
/-- WHAT A WALK THAT WRITES HOLDS: the regions, apart, in A; nothing else written -/
def Wd (G : gT) (A : Nat → Prop) (rs : List va_W) (H0 H : Heap) (locs : List Loc) : Prop := gP G rs.flatten H ∧ gD rs.flatten ∧ (∀ q, adr rs.flatten q → A q) ∧ va_S A H0 H locs
theorem adr_rg {rs ss : List va_W} (is : List Nat) (hs : rgS rs is = ss) {q : Nat} (h : adr ss.flatten q) : adr rs.flatten q := by
  obtain ⟨e, h⟩ := adr_iff.mp h
  refine adr_iff.mpr ⟨e, ?_⟩
  subst hs
  obtain ⟨l, hl, hq⟩ := List.mem_flatten.mp h
  obtain ⟨i, -, hi⟩ := List.mem_filterMap.mp hl
  exact List.mem_flatten.mpr ⟨l, List.mem_of_getElem? hi, hq⟩
theorem Wd.rd {G : gT} {A : Nat → Prop} {rs ss : List va_W} {H0 H : Heap} {locs : List Loc} (h : Wd G A rs H0 H locs) (is : List Nat) (hs : rgS rs is = ss) : gP G ss.flatten H := gP_rg h.1 is hs
theorem Wd.in {G : gT} {A : Nat → Prop} {rs ss : List va_W} {H0 H : Heap} {locs : List Loc} (h : Wd G A rs H0 H locs) (is : List Nat) (hs : rgS rs is = ss) : ∀ q, adr ss.flatten q → A q := fun q hq => h.2.2.1 q (adr_rg is hs hq)
/-- regions of a list whose addresses are all apart: two that share an address are one -/
theorem rg_apart {rs : List va_W} (hd : gD rs.flatten) : ∀ (i j : Nat) (a b : va_W) (q : Nat), rs[i]? = some a → rs[j]? = some b → adr a q → adr b q → i = j := by
  induction rs with
  | nil => intro i j a b q h; simp at h
  | cons w rs ih =>
    have e : (w :: rs).flatten.map Prod.fst = w.map Prod.fst ++ rs.flatten.map Prod.fst := by rw [List.flatten_cons, List.map_append]
    unfold gD at hd
    rw [e, List.nodup_append] at hd
    obtain ⟨-, h2, h3⟩ := hd
    intro i j a b q hi hj ha hb
    cases i with
    | zero =>
      cases j with
      | zero => rfl
      | succ j =>
        rw [List.getElem?_cons_zero] at hi
        rw [List.getElem?_cons_succ] at hj
        cases hi
        refine absurd rfl (h3 q ha q ?_)
        rw [List.map_flatten]
        exact List.mem_flatten.mpr ⟨_, List.mem_map_of_mem (List.mem_of_getElem? hj), hb⟩
    | succ i =>
      rw [List.getElem?_cons_succ] at hi
      cases j with
      | zero =>
        rw [List.getElem?_cons_zero] at hj
        cases hj
        refine absurd rfl (h3 q hb q ?_)
        rw [List.map_flatten]
        exact List.mem_flatten.mpr ⟨_, List.mem_map_of_mem (List.mem_of_getElem? hi), ha⟩
      | succ j =>
        rw [List.getElem?_cons_succ] at hj
        rw [ih h2 i j a b q hi hj ha hb]
theorem rgU_len (is : List Nat) : ∀ (ss rs : List va_W), (rgU rs is ss).length = rs.length := by
  induction is with
  | nil => intro ss rs; rfl
  | cons i is ih =>
    intro ss rs
    cases ss with
    | nil => rfl
    | cons s ss =>
      show (rgU (rs.set i s) is ss).length = _
      rw [ih, List.length_set]
theorem rgU_at (is : List Nat) : ∀ (ss rs : List va_W), is.length = ss.length → ∀ (k : Nat) (w : va_W), (rgU rs is ss)[k]? = some w → (k ∉ is ∧ rs[k]? = some w) ∨ (k ∈ is ∧ w ∈ ss) := by
  induction is with
  | nil => intro ss rs _ k w h; exact Or.inl ⟨List.not_mem_nil, h⟩
  | cons i is ih =>
    intro ss rs hlen k w h
    cases ss with
    | nil => cases hlen
    | cons s ss =>
      have hlen' : is.length = ss.length := by simpa using hlen
      rcases ih ss (rs.set i s) hlen' k w h with ⟨h1, h2⟩ | ⟨h1, h2⟩
      · by_cases hk : k = i
        · subst hk
          right
          refine ⟨List.mem_cons_self, ?_⟩
          rw [List.getElem?_set] at h2
          simp only [if_true] at h2
          split at h2
          · cases h2; exact List.mem_cons_self
          · cases h2
        · left
          refine ⟨fun z => (List.mem_cons.mp z).elim hk h1, ?_⟩
          rwa [List.getElem?_set_ne (Ne.symm hk)] at h2
      · exact Or.inr ⟨List.mem_cons_of_mem _ h1, List.mem_cons_of_mem _ h2⟩
theorem rgU_key : ∀ (is : List Nat) (ss ss' : List va_W) (r0 r1 : List va_W), sameA r0 r1 → is.map (fun i => r0[i]?) = ss.map some → sameA ss ss' → sameA r0 (rgU r1 is ss') := by
  intro is
  induction is with
  | nil => intro ss ss' r0 r1 h _ _; exact h
  | cons i is ih =>
    intro ss ss' r0 r1 e hs hsame
    cases ss with
    | nil => cases hs
    | cons s ss =>
      cases ss' with
      | nil => have := hsame.1; simp at this
      | cons s' ss' =>
        simp only [List.map_cons, List.cons.injEq] at hs
        refine ih ss ss' r0 (r1.set i s') ⟨by rw [List.length_set]; exact e.1, fun k w w' h1 h2 => ?_⟩ hs.2 ⟨by have := hsame.1; simpa using this, fun k x x' h1 h2 => hsame.2 (k + 1) x x' h1 h2⟩
        by_cases hk : k = i
        · subst hk
          rw [List.getElem?_set] at h2
          simp only [if_true] at h2
          split at h2
          · cases h2
            cases h1.symm.trans hs.1
            exact hsame.2 0 _ _ rfl rfl
          · cases h2
        · rw [List.getElem?_set_ne (Ne.symm hk)] at h2
          exact e.2 k w w' h1 h2
theorem sameA.rf {ss : List va_W} : sameA ss ss := sameA_of rfl
theorem rgU_sameA {rs ss ss' rs' : List va_W} (is : List Nat) (hs : is.map (fun i => rs[i]?) = ss.map some) (hsame : sameA ss ss') (hU : rgU rs is ss' = rs') : sameA rs rs' := by
  subst hU
  exact rgU_key is ss ss' rs rs sameA.rf hs hsame
/-- behind a call that wrote in the regions ss alone: all regions -/
theorem Wd.call {G : gT} {A : Nat → Prop} {rs ss ss' rs' : List va_W} {H0 H H1 : Heap} {locs locs1 : List Loc} (h : Wd G A rs H0 H locs) (is : List Nat) (hs : is.map (fun i => rs[i]?) = ss.map some) (hsame : sameA ss ss') (hU : rgU rs is ss' = rs')
    (hP1 : gP G ss'.flatten H1) (hk : ∀ q : Nat, q < H.size → ¬ adr ss.flatten q → H1[q]? = H[q]?) (hS1 : va_S A H0 H1 locs1) : Wd G A rs' H0 H1 locs1 := by
  obtain ⟨hP, hD, hA, -⟩ := h
  have hsa := rgU_sameA is hs hsame hU
  have hlen : is.length = ss'.length := by
    have e1 := congrArg List.length hs
    have e2 := hsame.1
    simp only [List.length_map] at e1
    omega
  refine ⟨gP_iff.mpr fun q hq => ?_, sameA_gD hsa hD, fun q hq => hA q ((sameA_adr hsa q).mpr hq), hS1⟩
  obtain ⟨w, hw, hqw⟩ := List.mem_flatten.mp hq
  obtain ⟨k, hkk⟩ := List.getElem?_of_mem hw
  subst hU
  rcases rgU_at is ss' rs hlen k w hkk with ⟨h1, h2⟩ | ⟨-, h2⟩
  · have h0 := gP_iff.mp hP q (List.mem_flatten.mpr ⟨w, List.mem_of_getElem? h2, hqw⟩)
    refine h0.kept (hk q.1 h0.lt fun z => ?_)
    obtain ⟨e, ze⟩ := adr_iff.mp z
    obtain ⟨w2, hw2, hq2⟩ := List.mem_flatten.mp ze
    obtain ⟨k2, hk2⟩ := List.getElem?_of_mem hw2
    have z2 : (is.map (fun i => rs[i]?))[k2]? = some (some w2) := by rw [hs, List.getElem?_map, hk2]; rfl
    rw [List.getElem?_map] at z2
    cases hi : is[k2]? with
    | none => rw [hi] at z2; cases z2
    | some i =>
      rw [hi] at z2
      have z3 : rs[i]? = some w2 := Option.some.inj z2
      have := rg_apart hD k i w w2 q.1 h2 z3 (List.mem_map_of_mem hqw) (adr_iff.mpr ⟨e, hq2⟩)
      exact h1 (this ▸ List.mem_of_getElem? hi)
  · exact gP_iff.mp hP1 q (List.mem_flatten.mpr ⟨w, h2, hqw⟩)
theorem Wd.re {G : gT} {A : Nat → Prop} {rs rs' : List va_W} {H0 H : Heap} {locs : List Loc} (h : Wd G A rs H0 H locs) (e : rs.flatten = rs'.flatten) : Wd G A rs' H0 H locs := by
  unfold Wd at *
  rw [← e]
  exact h
theorem Wd.perm {G : gT} {A : Nat → Prop} {rs rs' : List va_W} {H0 H : Heap} {locs : List Loc} (h : Wd G A rs H0 H locs) (e : rs.flatten.Perm rs'.flatten) : Wd G A rs' H0 H locs := by
  have e2 : (rs.flatten.map Prod.fst).Perm (rs'.flatten.map Prod.fst) := e.map _
  exact ⟨gP_iff.mpr fun q hq => gP_iff.mp h.1 q (e.mem_iff.mpr hq), e2.nodup_iff.mp h.2.1, fun q hq => h.2.2.1 q (e2.mem_iff.mpr hq), h.2.2.2⟩
