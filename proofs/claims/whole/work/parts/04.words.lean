
def isNest : Cond → Bool
  | .fieldLinkNest .. => true
  | .methodLinkNest .. => true
  | _ => false
/-- all good words of the tables, the private methods' selections ahead -/
def lw_all : List Cond := lw_tbl.filter goodWord
/-- the words of links between nest mates -/
def lw_nst : List Cond := tables_1.filter isNest
theorem all_mem {w : Cond} (i : Nat) (h : tables_1[i]? = some w) (g : goodWord w = true) : w ∈ lw_all := List.mem_filter.mpr ⟨List.mem_append_right _ (List.mem_of_getElem? h), g⟩
theorem all_memS {w : Cond} (i : Nat) (h : (k2_sels lw_privs)[i]? = some w) (g : goodWord w = true) : w ∈ lw_all := List.mem_filter.mpr ⟨List.mem_append_left _ (List.mem_of_getElem? h), g⟩
theorem nst_mem {w : Cond} (i : Nat) (h : tables_1[i]? = some w) (g : isNest w = true) : w ∈ lw_nst := List.mem_filter.mpr ⟨List.mem_of_getElem? h, g⟩
theorem all_tbl {w : Cond} (h : w ∈ lw_all) : w ∈ lw_tbl := (List.mem_filter.mp h).1
theorem good_all : GoodIn lw_all lw_all := fun w h => ⟨h, good_of_word (List.mem_filter.mp h).2⟩
def ws_ (y : MethodName) (cc : ByteArray) (n : Nat) (ret : Option FieldType) : List Cond := .code y cc n ret :: lw_all
theorem good_ws {y : MethodName} {cc : ByteArray} {n : Nat} {ret : Option FieldType} (h : Cond.code y cc n ret ∈ lw_all) : GoodIn lw_all (ws_ y cc n ret) := fun w hw => (List.mem_cons.mp hw).elim (fun e => e ▸ good_all _ h) (fun q => good_all w q)
abbrev okd (y : MethodName) (k : Nat) : Prop := y.cls ≠ "java/lang/invoke/MethodHandle" ∧ y.cls ≠ "java/lang/invoke/VarHandle" ∧ (parseMethodDescriptor y.desc).map (fun d => d.parameters.length) = some k
/-- a virtual call's words -/
def CWV (own : String) (idx : Nat) (C : String) (y : MethodName) (cc : ByteArray) (n : Nat) (ret : Option FieldType) (k : Nat) : Prop :=
  GoodIn lw_all (wsV own idx C y (ws_ y cc n ret)) ∧ (y.cls = C ∧ okd y k)
theorem cwv_mk {own C : String} {idx n k : Nat} {y : MethodName} {cc : ByteArray} {ret : Option FieldType} (h1 : Cond.methodLink own idx y ∈ lw_all) (h2 : Cond.instanceMethod y ∈ lw_all) (h3 : Cond.selects C y y ∈ lw_all) (h4 : Cond.initialized C ∈ lw_all) (h5 : Cond.code y cc n ret ∈ lw_all) (hd : y.cls = C ∧ okd y k) : CWV own idx C y cc n ret k := by
  refine ⟨fun w hw => ?_, hd⟩
  rcases List.mem_append.mp hw with h | h
  · simp only [List.mem_cons, List.not_mem_nil, or_false] at h
    rcases h with rfl | rfl | rfl | rfl
    · exact good_all _ h1
    · exact good_all _ h2
    · exact good_all _ h3
    · exact good_all _ h4
  · exact good_ws h5 w h
/-- a static call's words -/
def CWS (own : String) (idx : Nat) (y : MethodName) (cc : ByteArray) (n : Nat) (ret : Option FieldType) (k : Nat) : Prop :=
  GoodIn lw_all (va_wsS own idx y (ws_ y cc n ret)) ∧ okd y k
theorem cws_mk {own : String} {idx n k : Nat} {y : MethodName} {cc : ByteArray} {ret : Option FieldType} (h1 : Cond.methodLink own idx y ∈ lw_all) (h2 : Cond.static y ∈ lw_all) (h4 : Cond.initialized y.cls ∈ lw_all) (h5 : Cond.code y cc n ret ∈ lw_all) (hd : okd y k) : CWS own idx y cc n ret k := by
  refine ⟨fun w hw => ?_, hd⟩
  rcases List.mem_append.mp hw with h | h
  · simp only [List.mem_cons, List.not_mem_nil, or_false] at h
    rcases h with rfl | rfl | rfl
    · exact good_all _ h1
    · exact good_all _ h2
    · exact good_all _ h4
  · exact good_ws h5 w h
/-- a static call's words, of a nest mate's private method -/
def CWN (own : String) (idx : Nat) (y : MethodName) (cc : ByteArray) (n : Nat) (ret : Option FieldType) (k : Nat) : Prop :=
  (∃ host, Cond.methodLinkNest own idx y host ∈ lw_nst) ∧ Cond.static y ∈ lw_all ∧ Cond.initialized y.cls ∈ lw_all ∧ Cond.code y cc n ret ∈ lw_all ∧ okd y k
/-- a constructor's words -/
def CWI (own : String) (idx : Nat) (y : MethodName) (cc : ByteArray) (n : Nat) (k : Nat) : Prop :=
  Cond.methodLink own idx y ∈ lw_all ∧ Cond.instanceMethod y ∈ lw_all ∧ Cond.initialized y.cls ∈ lw_all ∧ Cond.code y cc n none ∈ lw_all ∧ y.name = "<init>" ∧ okd y k
def CWIN (own : String) (idx : Nat) (y : MethodName) (cc : ByteArray) (n : Nat) (k : Nat) : Prop :=
  (∃ host, Cond.methodLinkNest own idx y host ∈ lw_nst) ∧ Cond.instanceMethod y ∈ lw_all ∧ Cond.initialized y.cls ∈ lw_all ∧ Cond.code y cc n none ∈ lw_all ∧ y.name = "<init>" ∧ okd y k
/-- a field that is read: its link and its class's words -/
def FLD (own : String) (idx ci k : Nat) : Prop := ∃ (C : String) (T : u_T) (N : Nat), vwCl[ci]? = some (C, T, N) ∧ k < N ∧ (∀ w ∈ u_ws C T N, w ∈ lw_all) ∧ Cond.fieldLink own idx (T k).1 (T k).2.1 (T k).2.2.1 ∈ lw_all
def FLN (own : String) (idx ci k : Nat) : Prop := ∃ (C : String) (T : u_T) (N : Nat), vwCl[ci]? = some (C, T, N) ∧ k < N ∧ (∀ w ∈ u_ws C T N, w ∈ lw_all) ∧ ∃ host, Cond.fieldLinkNest own idx (T k).1 (T k).2.1 (T k).2.2.1 host ∈ lw_nst
/-- a class's fields: types, names apart -/
def FCL (ci k : Nat) (fin : Bool) (ty : FieldType) : Prop := ∃ (C : String) (T : u_T) (N : Nat) (ty0 : Nat → FieldType), vwCl[ci]? = some (C, T, N) ∧ (∀ k, k < N → parseFieldDescriptor (T k).2.2.1 = some (ty0 k)) ∧ (∀ a, a < N → ∀ b, b < N → a ≠ b → (T a).2.1 ≠ (T b).2.1) ∧ (T k).2.2.2 = fin ∧ parseFieldDescriptor (T k).2.2.1 = some ty ∧ (T k).1 = C

theorem in_tX0 : ∀ w ∈ u_ws RX0 TX0 4, w ∈ tables_1 := by decide +kernel
theorem gd_X0 : (u_ws RX0 TX0 4).all goodWord = true := by decide +kernel
theorem in_X0 : ∀ w ∈ u_ws RX0 TX0 4, w ∈ lw_all := fun w h => List.mem_filter.mpr ⟨List.mem_append_right _ (in_tX0 w h), List.all_eq_true.mp gd_X0 w h⟩
theorem in_tX1 : ∀ w ∈ u_ws RX1 TX1 7, w ∈ tables_1 := by decide +kernel
theorem gd_X1 : (u_ws RX1 TX1 7).all goodWord = true := by decide +kernel
theorem in_X1 : ∀ w ∈ u_ws RX1 TX1 7, w ∈ lw_all := fun w h => List.mem_filter.mpr ⟨List.mem_append_right _ (in_tX1 w h), List.all_eq_true.mp gd_X1 w h⟩
theorem in_tX2 : ∀ w ∈ u_ws RX2 TX2 2, w ∈ tables_1 := by decide +kernel
theorem gd_X2 : (u_ws RX2 TX2 2).all goodWord = true := by decide +kernel
theorem in_X2 : ∀ w ∈ u_ws RX2 TX2 2, w ∈ lw_all := fun w h => List.mem_filter.mpr ⟨List.mem_append_right _ (in_tX2 w h), List.all_eq_true.mp gd_X2 w h⟩
theorem in_tX3 : ∀ w ∈ u_ws RX3 TX3 1, w ∈ tables_1 := by decide +kernel
theorem gd_X3 : (u_ws RX3 TX3 1).all goodWord = true := by decide +kernel
theorem in_X3 : ∀ w ∈ u_ws RX3 TX3 1, w ∈ lw_all := fun w h => List.mem_filter.mpr ⟨List.mem_append_right _ (in_tX3 w h), List.all_eq_true.mp gd_X3 w h⟩
theorem in_tX4 : ∀ w ∈ u_ws RX4 TX4 14, w ∈ tables_1 := by decide +kernel
theorem gd_X4 : (u_ws RX4 TX4 14).all goodWord = true := by decide +kernel
theorem in_X4 : ∀ w ∈ u_ws RX4 TX4 14, w ∈ lw_all := fun w h => List.mem_filter.mpr ⟨List.mem_append_right _ (in_tX4 w h), List.all_eq_true.mp gd_X4 w h⟩
theorem in_tX5 : ∀ w ∈ u_ws RX5 TX5 6, w ∈ tables_1 := by decide +kernel
theorem gd_X5 : (u_ws RX5 TX5 6).all goodWord = true := by decide +kernel
theorem in_X5 : ∀ w ∈ u_ws RX5 TX5 6, w ∈ lw_all := fun w h => List.mem_filter.mpr ⟨List.mem_append_right _ (in_tX5 w h), List.all_eq_true.mp gd_X5 w h⟩
theorem in_tX6 : ∀ w ∈ u_ws RX6 TX6 11, w ∈ tables_1 := by decide +kernel
theorem gd_X6 : (u_ws RX6 TX6 11).all goodWord = true := by decide +kernel
theorem in_X6 : ∀ w ∈ u_ws RX6 TX6 11, w ∈ lw_all := fun w h => List.mem_filter.mpr ⟨List.mem_append_right _ (in_tX6 w h), List.all_eq_true.mp gd_X6 w h⟩
theorem fc_X0_0 : FCL 0 0 true (.array (.object "TideBoats$State")) := ⟨RX0, TX0, 4, tyX0, rfl, tyX0_ok, nmX0, rfl, by decide +kernel, rfl⟩
theorem fc_X0_1 : FCL 0 1 true (.object "TideBoats$State") := ⟨RX0, TX0, 4, tyX0, rfl, tyX0_ok, nmX0, rfl, by decide +kernel, rfl⟩
theorem fc_X0_2 : FCL 0 2 false (.int) := ⟨RX0, TX0, 4, tyX0, rfl, tyX0_ok, nmX0, rfl, by decide +kernel, rfl⟩
theorem fc_X0_3 : FCL 0 3 false (.boolean) := ⟨RX0, TX0, 4, tyX0, rfl, tyX0_ok, nmX0, rfl, by decide +kernel, rfl⟩
theorem fc_X1_0 : FCL 1 0 true (.object "TideBoats$State") := ⟨RX1, TX1, 7, tyX1, rfl, tyX1_ok, nmX1, rfl, by decide +kernel, rfl⟩
theorem fc_X1_1 : FCL 1 1 true (.array .long) := ⟨RX1, TX1, 7, tyX1, rfl, tyX1_ok, nmX1, rfl, by decide +kernel, rfl⟩
theorem fc_X1_2 : FCL 1 2 false (.long) := ⟨RX1, TX1, 7, tyX1, rfl, tyX1_ok, nmX1, rfl, by decide +kernel, rfl⟩
theorem fc_X1_3 : FCL 1 3 false (.long) := ⟨RX1, TX1, 7, tyX1, rfl, tyX1_ok, nmX1, rfl, by decide +kernel, rfl⟩
theorem fc_X1_4 : FCL 1 4 false (.long) := ⟨RX1, TX1, 7, tyX1, rfl, tyX1_ok, nmX1, rfl, by decide +kernel, rfl⟩
theorem fc_X1_5 : FCL 1 5 false (.int) := ⟨RX1, TX1, 7, tyX1, rfl, tyX1_ok, nmX1, rfl, by decide +kernel, rfl⟩
theorem fc_X1_6 : FCL 1 6 false (.int) := ⟨RX1, TX1, 7, tyX1, rfl, tyX1_ok, nmX1, rfl, by decide +kernel, rfl⟩
theorem fc_X2_0 : FCL 2 0 true (.array .char) := ⟨RX2, TX2, 2, tyX2, rfl, tyX2_ok, nmX2, rfl, by decide +kernel, rfl⟩
theorem fc_X2_1 : FCL 2 1 false (.int) := ⟨RX2, TX2, 2, tyX2, rfl, tyX2_ok, nmX2, rfl, by decide +kernel, rfl⟩
theorem fc_X3_0 : FCL 3 0 true (.object "TideBoats$State") := ⟨RX3, TX3, 1, tyX3, rfl, tyX3_ok, nmX3, rfl, by decide +kernel, rfl⟩
theorem fc_X4_0 : FCL 4 0 true (.array .int) := ⟨RX4, TX4, 14, tyX4, rfl, tyX4_ok, nmX4, rfl, by decide +kernel, rfl⟩
theorem fc_X4_1 : FCL 4 1 true (.array .int) := ⟨RX4, TX4, 14, tyX4, rfl, tyX4_ok, nmX4, rfl, by decide +kernel, rfl⟩
theorem fc_X4_2 : FCL 4 2 true (.array .int) := ⟨RX4, TX4, 14, tyX4, rfl, tyX4_ok, nmX4, rfl, by decide +kernel, rfl⟩
theorem fc_X4_3 : FCL 4 3 true (.array .int) := ⟨RX4, TX4, 14, tyX4, rfl, tyX4_ok, nmX4, rfl, by decide +kernel, rfl⟩
theorem fc_X4_4 : FCL 4 4 true (.array .int) := ⟨RX4, TX4, 14, tyX4, rfl, tyX4_ok, nmX4, rfl, by decide +kernel, rfl⟩
theorem fc_X4_5 : FCL 4 5 true (.array .int) := ⟨RX4, TX4, 14, tyX4, rfl, tyX4_ok, nmX4, rfl, by decide +kernel, rfl⟩
theorem fc_X4_6 : FCL 4 6 true (.array .int) := ⟨RX4, TX4, 14, tyX4, rfl, tyX4_ok, nmX4, rfl, by decide +kernel, rfl⟩
theorem fc_X4_7 : FCL 4 7 false (.int) := ⟨RX4, TX4, 14, tyX4, rfl, tyX4_ok, nmX4, rfl, by decide +kernel, rfl⟩
theorem fc_X4_8 : FCL 4 8 false (.int) := ⟨RX4, TX4, 14, tyX4, rfl, tyX4_ok, nmX4, rfl, by decide +kernel, rfl⟩
theorem fc_X4_9 : FCL 4 9 false (.int) := ⟨RX4, TX4, 14, tyX4, rfl, tyX4_ok, nmX4, rfl, by decide +kernel, rfl⟩
theorem fc_X4_10 : FCL 4 10 false (.int) := ⟨RX4, TX4, 14, tyX4, rfl, tyX4_ok, nmX4, rfl, by decide +kernel, rfl⟩
theorem fc_X4_11 : FCL 4 11 false (.int) := ⟨RX4, TX4, 14, tyX4, rfl, tyX4_ok, nmX4, rfl, by decide +kernel, rfl⟩
theorem fc_X4_12 : FCL 4 12 false (.int) := ⟨RX4, TX4, 14, tyX4, rfl, tyX4_ok, nmX4, rfl, by decide +kernel, rfl⟩
theorem fc_X4_13 : FCL 4 13 false (.int) := ⟨RX4, TX4, 14, tyX4, rfl, tyX4_ok, nmX4, rfl, by decide +kernel, rfl⟩
theorem fc_X5_0 : FCL 5 0 true (.object "TideBoats$State") := ⟨RX5, TX5, 6, tyX5, rfl, tyX5_ok, nmX5, rfl, by decide +kernel, rfl⟩
theorem fc_X5_1 : FCL 5 1 true (.object "TideBoats$State") := ⟨RX5, TX5, 6, tyX5, rfl, tyX5_ok, nmX5, rfl, by decide +kernel, rfl⟩
theorem fc_X5_2 : FCL 5 2 true (.object "TideBoats$Rules") := ⟨RX5, TX5, 6, tyX5, rfl, tyX5_ok, nmX5, rfl, by decide +kernel, rfl⟩
theorem fc_X5_3 : FCL 5 3 true (.object "TideBoats$HomeSearch") := ⟨RX5, TX5, 6, tyX5, rfl, tyX5_ok, nmX5, rfl, by decide +kernel, rfl⟩
theorem fc_X5_4 : FCL 5 4 true (.object "TideBoats$History") := ⟨RX5, TX5, 6, tyX5, rfl, tyX5_ok, nmX5, rfl, by decide +kernel, rfl⟩
theorem fc_X5_5 : FCL 5 5 true (.object "TideBoats$Orders") := ⟨RX5, TX5, 6, tyX5, rfl, tyX5_ok, nmX5, rfl, by decide +kernel, rfl⟩
theorem fc_X6_0 : FCL 6 0 true (.array .int) := ⟨RX6, TX6, 11, tyX6, rfl, tyX6_ok, nmX6, rfl, by decide +kernel, rfl⟩
theorem fc_X6_1 : FCL 6 1 true (.array .int) := ⟨RX6, TX6, 11, tyX6, rfl, tyX6_ok, nmX6, rfl, by decide +kernel, rfl⟩
theorem fc_X6_2 : FCL 6 2 false (.int) := ⟨RX6, TX6, 11, tyX6, rfl, tyX6_ok, nmX6, rfl, by decide +kernel, rfl⟩
theorem fc_X6_3 : FCL 6 3 true (.array .int) := ⟨RX6, TX6, 11, tyX6, rfl, tyX6_ok, nmX6, rfl, by decide +kernel, rfl⟩
theorem fc_X6_4 : FCL 6 4 false (.boolean) := ⟨RX6, TX6, 11, tyX6, rfl, tyX6_ok, nmX6, rfl, by decide +kernel, rfl⟩
theorem fc_X6_5 : FCL 6 5 true (.array .int) := ⟨RX6, TX6, 11, tyX6, rfl, tyX6_ok, nmX6, rfl, by decide +kernel, rfl⟩
theorem fc_X6_6 : FCL 6 6 false (.int) := ⟨RX6, TX6, 11, tyX6, rfl, tyX6_ok, nmX6, rfl, by decide +kernel, rfl⟩
theorem fc_X6_7 : FCL 6 7 true (.array .boolean) := ⟨RX6, TX6, 11, tyX6, rfl, tyX6_ok, nmX6, rfl, by decide +kernel, rfl⟩
theorem fc_X6_8 : FCL 6 8 true (.array .boolean) := ⟨RX6, TX6, 11, tyX6, rfl, tyX6_ok, nmX6, rfl, by decide +kernel, rfl⟩
theorem fc_X6_9 : FCL 6 9 true (.array .int) := ⟨RX6, TX6, 11, tyX6, rfl, tyX6_ok, nmX6, rfl, by decide +kernel, rfl⟩
theorem fc_X6_10 : FCL 6 10 true (.array .int) := ⟨RX6, TX6, 11, tyX6, rfl, tyX6_ok, nmX6, rfl, by decide +kernel, rfl⟩
theorem q156 : (Jvm.Cond.fieldLink "TideBoats$History" (11 : Nat) "TideBoats$History" "past" "[LTideBoats$State;") ∈ lw_all := all_mem 156 (by decide +kernel) (by decide +kernel)
theorem fl_X0_11 : FLD RX0 11 0 0 := ⟨RX0, TX0, 4, rfl, Nat.le_of_ble_eq_true rfl, in_X0, q156⟩
theorem q26 : (Jvm.Cond.code ({ cls := "TideBoats$State", name := "<init>", desc := "()V" } : Jvm.MethodName) prog_6_method_1_code (2 : Nat) (Option.none : Option Jvm.ClassFile.FieldType)) ∈ lw_all := all_mem 26 (by decide +kernel) (by decide +kernel)
theorem q25 : (Jvm.Cond.instanceMethod ({ cls := "TideBoats$State", name := "<init>", desc := "()V" } : Jvm.MethodName)) ∈ lw_all := all_mem 25 (by decide +kernel) (by decide +kernel)
theorem q155 : (Jvm.Cond.methodLink "TideBoats$History" (17 : Nat) ({ cls := "TideBoats$State", name := "<init>", desc := "()V" } : Jvm.MethodName)) ∈ lw_all := all_mem 155 (by decide +kernel) (by decide +kernel)
theorem q2 : (Jvm.Cond.initialized "TideBoats$State") ∈ lw_all := all_mem 2 (by decide +kernel) (by decide +kernel)
theorem kI_X0_17 : CWI RX0 17 yX4_init cX4_init 2 0 := ⟨q155, q25, q2, q26, rfl, ⟨by decide +kernel, by decide +kernel, by decide +kernel⟩⟩
theorem q157 : (Jvm.Cond.fieldLink "TideBoats$History" (18 : Nat) "TideBoats$History" "snapshot" "LTideBoats$State;") ∈ lw_all := all_mem 157 (by decide +kernel) (by decide +kernel)
theorem fl_X0_18 : FLD RX0 18 0 1 := ⟨RX0, TX0, 4, rfl, Nat.le_of_ble_eq_true rfl, in_X0, q157⟩
theorem q158 : (Jvm.Cond.fieldLink "TideBoats$History" (22 : Nat) "TideBoats$History" "size" "I") ∈ lw_all := all_mem 158 (by decide +kernel) (by decide +kernel)
theorem fl_X0_22 : FLD RX0 22 0 2 := ⟨RX0, TX0, 4, rfl, Nat.le_of_ble_eq_true rfl, in_X0, q158⟩
theorem q238 : (Jvm.Cond.code ({ cls := "TideBoats$History", name := "dropOldest", desc := "()V" } : Jvm.MethodName) prog_2_method_7_code (3 : Nat) (Option.none : Option Jvm.ClassFile.FieldType)) ∈ lw_all := all_mem 238 (by decide +kernel) (by decide +kernel)
theorem q235 : (Jvm.Cond.methodLink "TideBoats$History" (26 : Nat) ({ cls := "TideBoats$History", name := "dropOldest", desc := "()V" } : Jvm.MethodName)) ∈ lw_all := all_mem 235 (by decide +kernel) (by decide +kernel)
theorem q237 : (Jvm.Cond.instanceMethod ({ cls := "TideBoats$History", name := "dropOldest", desc := "()V" } : Jvm.MethodName)) ∈ lw_all := all_mem 237 (by decide +kernel) (by decide +kernel)
theorem qs1 : (Jvm.Cond.selects "TideBoats$History" ({ cls := "TideBoats$History", name := "dropOldest", desc := "()V" } : Jvm.MethodName) ({ cls := "TideBoats$History", name := "dropOldest", desc := "()V" } : Jvm.MethodName)) ∈ lw_all := all_memS 1 (by decide +kernel) (by decide +kernel)
theorem q5 : (Jvm.Cond.initialized "TideBoats$History") ∈ lw_all := all_mem 5 (by decide +kernel) (by decide +kernel)
theorem kV_X0_26 : CWV RX0 26 RX0 yX0_dropOldest cX0_dropOldest 3 (none) 0 := cwv_mk q235 q237 qs1 q5 q238 ⟨rfl, ⟨by decide +kernel, by decide +kernel, by decide +kernel⟩⟩
theorem q242 : (Jvm.Cond.code ({ cls := "TideBoats$History", name := "slotAt", desc := "(I)LTideBoats$State;" } : Jvm.MethodName) prog_2_method_6_code (2 : Nat) (Option.some (Jvm.ClassFile.FieldType.object "TideBoats$State"))) ∈ lw_all := all_mem 242 (by decide +kernel) (by decide +kernel)
theorem q239 : (Jvm.Cond.methodLink "TideBoats$History" (29 : Nat) ({ cls := "TideBoats$History", name := "slotAt", desc := "(I)LTideBoats$State;" } : Jvm.MethodName)) ∈ lw_all := all_mem 239 (by decide +kernel) (by decide +kernel)
theorem q241 : (Jvm.Cond.instanceMethod ({ cls := "TideBoats$History", name := "slotAt", desc := "(I)LTideBoats$State;" } : Jvm.MethodName)) ∈ lw_all := all_mem 241 (by decide +kernel) (by decide +kernel)
theorem qs2 : (Jvm.Cond.selects "TideBoats$History" ({ cls := "TideBoats$History", name := "slotAt", desc := "(I)LTideBoats$State;" } : Jvm.MethodName) ({ cls := "TideBoats$History", name := "slotAt", desc := "(I)LTideBoats$State;" } : Jvm.MethodName)) ∈ lw_all := all_memS 2 (by decide +kernel) (by decide +kernel)
theorem kV_X0_29 : CWV RX0 29 RX0 yX0_slotAt cX0_slotAt 2 (some (.object "TideBoats$State")) 1 := cwv_mk q239 q241 qs2 q5 q242 ⟨rfl, ⟨by decide +kernel, by decide +kernel, by decide +kernel⟩⟩
theorem q211 : (Jvm.Cond.code ({ cls := "TideBoats$State", name := "copyFrom", desc := "(LTideBoats$State;)V" } : Jvm.MethodName) prog_6_method_2_code (2 : Nat) (Option.none : Option Jvm.ClassFile.FieldType)) ∈ lw_all := all_mem 211 (by decide +kernel) (by decide +kernel)
theorem q243 : (Jvm.Cond.methodLink "TideBoats$History" (33 : Nat) ({ cls := "TideBoats$State", name := "copyFrom", desc := "(LTideBoats$State;)V" } : Jvm.MethodName)) ∈ lw_all := all_mem 243 (by decide +kernel) (by decide +kernel)
theorem q209 : (Jvm.Cond.instanceMethod ({ cls := "TideBoats$State", name := "copyFrom", desc := "(LTideBoats$State;)V" } : Jvm.MethodName)) ∈ lw_all := all_mem 209 (by decide +kernel) (by decide +kernel)
theorem q210 : (Jvm.Cond.selects "TideBoats$State" ({ cls := "TideBoats$State", name := "copyFrom", desc := "(LTideBoats$State;)V" } : Jvm.MethodName) ({ cls := "TideBoats$State", name := "copyFrom", desc := "(LTideBoats$State;)V" } : Jvm.MethodName)) ∈ lw_all := all_mem 210 (by decide +kernel) (by decide +kernel)
theorem kV_X0_33 : CWV RX0 33 RX4 yX4_copyFrom cX4_copyFrom 2 (none) 1 := cwv_mk q243 q209 q210 q2 q211 ⟨rfl, ⟨by decide +kernel, by decide +kernel, by decide +kernel⟩⟩
theorem q160 : (Jvm.Cond.fieldLink "TideBoats$History" (37 : Nat) "TideBoats$History" "hasSnapshot" "Z") ∈ lw_all := all_mem 160 (by decide +kernel) (by decide +kernel)
theorem fl_X0_37 : FLD RX0 37 0 3 := ⟨RX0, TX0, 4, rfl, Nat.le_of_ble_eq_true rfl, in_X0, q160⟩
theorem q67 : (Jvm.Cond.fieldLinkNest "TideBoats$History" (41 : Nat) "TideBoats$State" "turn" "I" "TideBoats") ∈ lw_nst := nst_mem 67 (by decide +kernel) (by decide +kernel)
theorem fl_X0_41 : FLN RX0 41 4 9 := ⟨RX4, TX4, 14, rfl, Nat.le_of_ble_eq_true rfl, in_X4, _, q67⟩
theorem q125 : (Jvm.Cond.fieldLink "TideBoats$HomeSearch" (9 : Nat) "TideBoats$HomeSearch" "cellsUpTo" "[J") ∈ lw_all := all_mem 125 (by decide +kernel) (by decide +kernel)
theorem fl_X1_9 : FLD RX1 9 1 1 := ⟨RX1, TX1, 7, rfl, Nat.le_of_ble_eq_true rfl, in_X1, q125⟩
theorem q124 : (Jvm.Cond.fieldLink "TideBoats$HomeSearch" (15 : Nat) "TideBoats$HomeSearch" "sea" "LTideBoats$State;") ∈ lw_all := all_mem 124 (by decide +kernel) (by decide +kernel)
theorem fl_X1_15 : FLD RX1 15 1 0 := ⟨RX1, TX1, 7, rfl, Nat.le_of_ble_eq_true rfl, in_X1, q124⟩
theorem q43 : (Jvm.Cond.fieldLinkNest "TideBoats$HomeSearch" (19 : Nat) "TideBoats$State" "owners" "[I" "TideBoats") ∈ lw_nst := nst_mem 43 (by decide +kernel) (by decide +kernel)
theorem fl_X1_19 : FLN RX1 19 4 2 := ⟨RX4, TX4, 14, rfl, Nat.le_of_ble_eq_true rfl, in_X4, _, q43⟩
theorem q225 : (Jvm.Cond.code ({ cls := "TideBoats", name := "read", desc := "([II)I" } : Jvm.MethodName) prog_1_method_35_code (2 : Nat) (Option.some Jvm.ClassFile.FieldType.int)) ∈ lw_all := all_mem 225 (by decide +kernel) (by decide +kernel)
theorem q224 : (Jvm.Cond.static ({ cls := "TideBoats", name := "read", desc := "([II)I" } : Jvm.MethodName)) ∈ lw_all := all_mem 224 (by decide +kernel) (by decide +kernel)
theorem q686 : (Jvm.Cond.methodLinkNest "TideBoats$HomeSearch" (25 : Nat) ({ cls := "TideBoats", name := "read", desc := "([II)I" } : Jvm.MethodName) "TideBoats") ∈ lw_nst := nst_mem 686 (by decide +kernel) (by decide +kernel)
theorem q1 : (Jvm.Cond.initialized "TideBoats") ∈ lw_all := all_mem 1 (by decide +kernel) (by decide +kernel)
theorem kN_X1_25 : CWN RX1 25 yX5_read cX5_read 2 (some .int) 2 := ⟨⟨_, q686⟩, q224, q1, q225, ⟨by decide +kernel, by decide +kernel, by decide +kernel⟩⟩
theorem q129 : (Jvm.Cond.fieldLink "TideBoats$HomeSearch" (29 : Nat) "TideBoats$HomeSearch" "player" "I") ∈ lw_all := all_mem 129 (by decide +kernel) (by decide +kernel)
theorem fl_X1_29 : FLD RX1 29 1 5 := ⟨RX1, TX1, 7, rfl, Nat.le_of_ble_eq_true rfl, in_X1, q129⟩
theorem q47 : (Jvm.Cond.fieldLinkNest "TideBoats$HomeSearch" (33 : Nat) "TideBoats$State" "drafts" "[I" "TideBoats") ∈ lw_nst := nst_mem 47 (by decide +kernel) (by decide +kernel)
theorem fl_X1_33 : FLN RX1 33 4 3 := ⟨RX4, TX4, 14, rfl, Nat.le_of_ble_eq_true rfl, in_X4, _, q47⟩
theorem q130 : (Jvm.Cond.fieldLink "TideBoats$HomeSearch" (36 : Nat) "TideBoats$HomeSearch" "draft" "I") ∈ lw_all := all_mem 130 (by decide +kernel) (by decide +kernel)
theorem fl_X1_36 : FLD RX1 36 1 6 := ⟨RX1, TX1, 7, rfl, Nat.le_of_ble_eq_true rfl, in_X1, q130⟩
theorem q338 : (Jvm.Cond.code ({ cls := "TideBoats", name := "harbourOf", desc := "(I)I" } : Jvm.MethodName) prog_1_method_32_code (1 : Nat) (Option.some Jvm.ClassFile.FieldType.int)) ∈ lw_all := all_mem 338 (by decide +kernel) (by decide +kernel)
theorem q337 : (Jvm.Cond.static ({ cls := "TideBoats", name := "harbourOf", desc := "(I)I" } : Jvm.MethodName)) ∈ lw_all := all_mem 337 (by decide +kernel) (by decide +kernel)
theorem q687 : (Jvm.Cond.methodLinkNest "TideBoats$HomeSearch" (39 : Nat) ({ cls := "TideBoats", name := "harbourOf", desc := "(I)I" } : Jvm.MethodName) "TideBoats") ∈ lw_nst := nst_mem 687 (by decide +kernel) (by decide +kernel)
theorem kN_X1_39 : CWN RX1 39 yX5_harbourOf cX5_harbourOf 1 (some .int) 1 := ⟨⟨_, q687⟩, q337, q1, q338, ⟨by decide +kernel, by decide +kernel, by decide +kernel⟩⟩
theorem q690 : (Jvm.Cond.code ({ cls := "TideBoats$HomeSearch", name := "setOf", desc := "(I)J" } : Jvm.MethodName) prog_3_method_11_code (1 : Nat) (Option.some Jvm.ClassFile.FieldType.long)) ∈ lw_all := all_mem 690 (by decide +kernel) (by decide +kernel)
theorem q689 : (Jvm.Cond.static ({ cls := "TideBoats$HomeSearch", name := "setOf", desc := "(I)J" } : Jvm.MethodName)) ∈ lw_all := all_mem 689 (by decide +kernel) (by decide +kernel)
theorem q688 : (Jvm.Cond.methodLink "TideBoats$HomeSearch" (43 : Nat) ({ cls := "TideBoats$HomeSearch", name := "setOf", desc := "(I)J" } : Jvm.MethodName)) ∈ lw_all := all_mem 688 (by decide +kernel) (by decide +kernel)
theorem q4 : (Jvm.Cond.initialized "TideBoats$HomeSearch") ∈ lw_all := all_mem 4 (by decide +kernel) (by decide +kernel)
theorem kS_X1_43 : CWS RX1 43 yX1_setOf cX1_setOf 1 (some .long) 1 := cws_mk q688 q689 q4 q690 ⟨by decide +kernel, by decide +kernel, by decide +kernel⟩
theorem q127 : (Jvm.Cond.fieldLink "TideBoats$HomeSearch" (47 : Nat) "TideBoats$HomeSearch" "ownHarbour" "J") ∈ lw_all := all_mem 127 (by decide +kernel) (by decide +kernel)
theorem fl_X1_47 : FLD RX1 47 1 3 := ⟨RX1, TX1, 7, rfl, Nat.le_of_ble_eq_true rfl, in_X1, q127⟩
theorem q128 : (Jvm.Cond.fieldLink "TideBoats$HomeSearch" (51 : Nat) "TideBoats$HomeSearch" "otherHarbour" "J") ∈ lw_all := all_mem 128 (by decide +kernel) (by decide +kernel)
theorem fl_X1_51 : FLD RX1 51 1 4 := ⟨RX1, TX1, 7, rfl, Nat.le_of_ble_eq_true rfl, in_X1, q128⟩
theorem q126 : (Jvm.Cond.fieldLink "TideBoats$HomeSearch" (54 : Nat) "TideBoats$HomeSearch" "rockCells" "J") ∈ lw_all := all_mem 126 (by decide +kernel) (by decide +kernel)
theorem fl_X1_54 : FLD RX1 54 1 2 := ⟨RX1, TX1, 7, rfl, Nat.le_of_ble_eq_true rfl, in_X1, q126⟩
theorem q40 : (Jvm.Cond.fieldLinkNest "TideBoats$HomeSearch" (57 : Nat) "TideBoats$State" "rocks" "[I" "TideBoats") ∈ lw_nst := nst_mem 40 (by decide +kernel) (by decide +kernel)
theorem fl_X1_57 : FLN RX1 57 4 1 := ⟨RX4, TX4, 14, rfl, Nat.le_of_ble_eq_true rfl, in_X4, _, q40⟩
theorem q36 : (Jvm.Cond.fieldLinkNest "TideBoats$HomeSearch" (60 : Nat) "TideBoats$State" "heights" "[I" "TideBoats") ∈ lw_nst := nst_mem 36 (by decide +kernel) (by decide +kernel)
theorem fl_X1_60 : FLN RX1 60 4 0 := ⟨RX4, TX4, 14, rfl, Nat.le_of_ble_eq_true rfl, in_X4, _, q36⟩
theorem q443 : (Jvm.Cond.code ({ cls := "java/lang/Math", name := "max", desc := "(II)I" } : Jvm.MethodName) prog_10_method_65_code (2 : Nat) (Option.some Jvm.ClassFile.FieldType.int)) ∈ lw_all := all_mem 443 (by decide +kernel) (by decide +kernel)
theorem q442 : (Jvm.Cond.static ({ cls := "java/lang/Math", name := "max", desc := "(II)I" } : Jvm.MethodName)) ∈ lw_all := all_mem 442 (by decide +kernel) (by decide +kernel)
theorem q692 : (Jvm.Cond.methodLink "TideBoats$HomeSearch" (63 : Nat) ({ cls := "java/lang/Math", name := "max", desc := "(II)I" } : Jvm.MethodName)) ∈ lw_all := all_mem 692 (by decide +kernel) (by decide +kernel)
theorem q10 : (Jvm.Cond.initialized "java/lang/Math") ∈ lw_all := all_mem 10 (by decide +kernel) (by decide +kernel)
theorem kS_X1_63 : CWS RX1 63 yJ9_max_7cf53 cJ9_max_7cf53 2 (some .int) 2 := cws_mk q692 q442 q10 q443 ⟨by decide +kernel, by decide +kernel, by decide +kernel⟩
theorem q76 : (Jvm.Cond.fieldLinkNest "TideBoats$HomeSearch" (69 : Nat) "TideBoats$State" "lastTurn" "I" "TideBoats") ∈ lw_nst := nst_mem 76 (by decide +kernel) (by decide +kernel)
theorem fl_X1_69 : FLN RX1 69 4 13 := ⟨RX4, TX4, 14, rfl, Nat.le_of_ble_eq_true rfl, in_X4, _, q76⟩
theorem q700 : (Jvm.Cond.code ({ cls := "TideBoats$HomeSearch", name := "wetCells", desc := "(I)J" } : Jvm.MethodName) prog_3_method_9_code (3 : Nat) (Option.some Jvm.ClassFile.FieldType.long)) ∈ lw_all := all_mem 700 (by decide +kernel) (by decide +kernel)
theorem q697 : (Jvm.Cond.methodLink "TideBoats$HomeSearch" (72 : Nat) ({ cls := "TideBoats$HomeSearch", name := "wetCells", desc := "(I)J" } : Jvm.MethodName)) ∈ lw_all := all_mem 697 (by decide +kernel) (by decide +kernel)
theorem q699 : (Jvm.Cond.instanceMethod ({ cls := "TideBoats$HomeSearch", name := "wetCells", desc := "(I)J" } : Jvm.MethodName)) ∈ lw_all := all_mem 699 (by decide +kernel) (by decide +kernel)
theorem qs9 : (Jvm.Cond.selects "TideBoats$HomeSearch" ({ cls := "TideBoats$HomeSearch", name := "wetCells", desc := "(I)J" } : Jvm.MethodName) ({ cls := "TideBoats$HomeSearch", name := "wetCells", desc := "(I)J" } : Jvm.MethodName)) ∈ lw_all := all_memS 9 (by decide +kernel) (by decide +kernel)
theorem kV_X1_72 : CWV RX1 72 RX1 yX1_wetCells cX1_wetCells 3 (some .long) 1 := cwv_mk q697 q699 qs9 q4 q700 ⟨rfl, ⟨by decide +kernel, by decide +kernel, by decide +kernel⟩⟩
theorem q706 : (Jvm.Cond.code ({ cls := "TideBoats$HomeSearch", name := "goalsOf", desc := "(JJ)J" } : Jvm.MethodName) prog_3_method_7_code (11 : Nat) (Option.some Jvm.ClassFile.FieldType.long)) ∈ lw_all := all_mem 706 (by decide +kernel) (by decide +kernel)
theorem q703 : (Jvm.Cond.methodLink "TideBoats$HomeSearch" (75 : Nat) ({ cls := "TideBoats$HomeSearch", name := "goalsOf", desc := "(JJ)J" } : Jvm.MethodName)) ∈ lw_all := all_mem 703 (by decide +kernel) (by decide +kernel)
theorem q705 : (Jvm.Cond.instanceMethod ({ cls := "TideBoats$HomeSearch", name := "goalsOf", desc := "(JJ)J" } : Jvm.MethodName)) ∈ lw_all := all_mem 705 (by decide +kernel) (by decide +kernel)
theorem qs10 : (Jvm.Cond.selects "TideBoats$HomeSearch" ({ cls := "TideBoats$HomeSearch", name := "goalsOf", desc := "(JJ)J" } : Jvm.MethodName) ({ cls := "TideBoats$HomeSearch", name := "goalsOf", desc := "(JJ)J" } : Jvm.MethodName)) ∈ lw_all := all_memS 10 (by decide +kernel) (by decide +kernel)
theorem kV_X1_75 : CWV RX1 75 RX1 yX1_goalsOf cX1_goalsOf 11 (some .long) 2 := cwv_mk q703 q705 qs10 q4 q706 ⟨rfl, ⟨by decide +kernel, by decide +kernel, by decide +kernel⟩⟩
theorem q717 : (Jvm.Cond.code ({ cls := "TideBoats$HomeSearch", name := "wreckingCells", desc := "(I)J" } : Jvm.MethodName) prog_3_method_10_code (2 : Nat) (Option.some Jvm.ClassFile.FieldType.long)) ∈ lw_all := all_mem 717 (by decide +kernel) (by decide +kernel)
theorem q714 : (Jvm.Cond.methodLink "TideBoats$HomeSearch" (79 : Nat) ({ cls := "TideBoats$HomeSearch", name := "wreckingCells", desc := "(I)J" } : Jvm.MethodName)) ∈ lw_all := all_mem 714 (by decide +kernel) (by decide +kernel)
theorem q716 : (Jvm.Cond.instanceMethod ({ cls := "TideBoats$HomeSearch", name := "wreckingCells", desc := "(I)J" } : Jvm.MethodName)) ∈ lw_all := all_mem 716 (by decide +kernel) (by decide +kernel)
theorem qs11 : (Jvm.Cond.selects "TideBoats$HomeSearch" ({ cls := "TideBoats$HomeSearch", name := "wreckingCells", desc := "(I)J" } : Jvm.MethodName) ({ cls := "TideBoats$HomeSearch", name := "wreckingCells", desc := "(I)J" } : Jvm.MethodName)) ∈ lw_all := all_memS 11 (by decide +kernel) (by decide +kernel)
theorem kV_X1_79 : CWV RX1 79 RX1 yX1_wreckingCells cX1_wreckingCells 2 (some .long) 1 := cwv_mk q714 q716 qs11 q4 q717 ⟨rfl, ⟨by decide +kernel, by decide +kernel, by decide +kernel⟩⟩
theorem q725 : (Jvm.Cond.code ({ cls := "TideBoats$HomeSearch", name := "cellsThatLeadHome", desc := "(II)J" } : Jvm.MethodName) prog_3_method_6_code (6 : Nat) (Option.some Jvm.ClassFile.FieldType.long)) ∈ lw_all := all_mem 725 (by decide +kernel) (by decide +kernel)
theorem q722 : (Jvm.Cond.methodLink "TideBoats$HomeSearch" (84 : Nat) ({ cls := "TideBoats$HomeSearch", name := "cellsThatLeadHome", desc := "(II)J" } : Jvm.MethodName)) ∈ lw_all := all_mem 722 (by decide +kernel) (by decide +kernel)
theorem q724 : (Jvm.Cond.instanceMethod ({ cls := "TideBoats$HomeSearch", name := "cellsThatLeadHome", desc := "(II)J" } : Jvm.MethodName)) ∈ lw_all := all_mem 724 (by decide +kernel) (by decide +kernel)
theorem qs12 : (Jvm.Cond.selects "TideBoats$HomeSearch" ({ cls := "TideBoats$HomeSearch", name := "cellsThatLeadHome", desc := "(II)J" } : Jvm.MethodName) ({ cls := "TideBoats$HomeSearch", name := "cellsThatLeadHome", desc := "(II)J" } : Jvm.MethodName)) ∈ lw_all := all_memS 12 (by decide +kernel) (by decide +kernel)
theorem kV_X1_84 : CWV RX1 84 RX1 yX1_cellsThatLeadHome cX1_cellsThatLeadHome 6 (some .long) 2 := cwv_mk q722 q724 qs12 q4 q725 ⟨rfl, ⟨by decide +kernel, by decide +kernel, by decide +kernel⟩⟩
theorem q696 : (Jvm.Cond.code ({ cls := "TideBoats$HomeSearch", name := "turnsForwards", desc := "(II)I" } : Jvm.MethodName) prog_3_method_3_code (6 : Nat) (Option.some Jvm.ClassFile.FieldType.int)) ∈ lw_all := all_mem 696 (by decide +kernel) (by decide +kernel)
theorem q750 : (Jvm.Cond.methodLink "TideBoats$HomeSearch" (88 : Nat) ({ cls := "TideBoats$HomeSearch", name := "turnsForwards", desc := "(II)I" } : Jvm.MethodName)) ∈ lw_all := all_mem 750 (by decide +kernel) (by decide +kernel)
theorem q694 : (Jvm.Cond.instanceMethod ({ cls := "TideBoats$HomeSearch", name := "turnsForwards", desc := "(II)I" } : Jvm.MethodName)) ∈ lw_all := all_mem 694 (by decide +kernel) (by decide +kernel)
theorem q695 : (Jvm.Cond.selects "TideBoats$HomeSearch" ({ cls := "TideBoats$HomeSearch", name := "turnsForwards", desc := "(II)I" } : Jvm.MethodName) ({ cls := "TideBoats$HomeSearch", name := "turnsForwards", desc := "(II)I" } : Jvm.MethodName)) ∈ lw_all := all_mem 695 (by decide +kernel) (by decide +kernel)
theorem kV_X1_88 : CWV RX1 88 RX1 yX1_turnsForwards cX1_turnsForwards 6 (some .int) 2 := cwv_mk q750 q694 q695 q4 q696 ⟨rfl, ⟨by decide +kernel, by decide +kernel, by decide +kernel⟩⟩
theorem q729 : (Jvm.Cond.code ({ cls := "TideBoats$HomeSearch", name := "startsFor", desc := "(JJ)J" } : Jvm.MethodName) prog_3_method_8_code (13 : Nat) (Option.some Jvm.ClassFile.FieldType.long)) ∈ lw_all := all_mem 729 (by decide +kernel) (by decide +kernel)
theorem q726 : (Jvm.Cond.methodLink "TideBoats$HomeSearch" (91 : Nat) ({ cls := "TideBoats$HomeSearch", name := "startsFor", desc := "(JJ)J" } : Jvm.MethodName)) ∈ lw_all := all_mem 726 (by decide +kernel) (by decide +kernel)
theorem q728 : (Jvm.Cond.instanceMethod ({ cls := "TideBoats$HomeSearch", name := "startsFor", desc := "(JJ)J" } : Jvm.MethodName)) ∈ lw_all := all_mem 728 (by decide +kernel) (by decide +kernel)
theorem qs13 : (Jvm.Cond.selects "TideBoats$HomeSearch" ({ cls := "TideBoats$HomeSearch", name := "startsFor", desc := "(JJ)J" } : Jvm.MethodName) ({ cls := "TideBoats$HomeSearch", name := "startsFor", desc := "(JJ)J" } : Jvm.MethodName)) ∈ lw_all := all_memS 13 (by decide +kernel) (by decide +kernel)
theorem kV_X1_91 : CWV RX1 91 RX1 yX1_startsFor cX1_startsFor 13 (some .long) 2 := cwv_mk q726 q728 qs13 q4 q729 ⟨rfl, ⟨by decide +kernel, by decide +kernel, by decide +kernel⟩⟩
theorem q710 : (Jvm.Cond.code ({ cls := "TideBoats$HomeSearch", name := "beside", desc := "(JI)J" } : Jvm.MethodName) prog_3_method_12_code (3 : Nat) (Option.some Jvm.ClassFile.FieldType.long)) ∈ lw_all := all_mem 710 (by decide +kernel) (by decide +kernel)
theorem q709 : (Jvm.Cond.static ({ cls := "TideBoats$HomeSearch", name := "beside", desc := "(JI)J" } : Jvm.MethodName)) ∈ lw_all := all_mem 709 (by decide +kernel) (by decide +kernel)
theorem q708 : (Jvm.Cond.methodLink "TideBoats$HomeSearch" (94 : Nat) ({ cls := "TideBoats$HomeSearch", name := "beside", desc := "(JI)J" } : Jvm.MethodName)) ∈ lw_all := all_mem 708 (by decide +kernel) (by decide +kernel)
theorem kS_X1_94 : CWS RX1 94 yX1_beside cX1_beside 3 (some .long) 2 := cws_mk q708 q709 q4 q710 ⟨by decide +kernel, by decide +kernel, by decide +kernel⟩
theorem q331 : (Jvm.Cond.code ({ cls := "TideBoats$State", name := "tideIn", desc := "(I)I" } : Jvm.MethodName) prog_6_method_6_code (4 : Nat) (Option.some Jvm.ClassFile.FieldType.int)) ∈ lw_all := all_mem 331 (by decide +kernel) (by decide +kernel)
theorem q701 : (Jvm.Cond.methodLink "TideBoats$HomeSearch" (98 : Nat) ({ cls := "TideBoats$State", name := "tideIn", desc := "(I)I" } : Jvm.MethodName)) ∈ lw_all := all_mem 701 (by decide +kernel) (by decide +kernel)
theorem q329 : (Jvm.Cond.instanceMethod ({ cls := "TideBoats$State", name := "tideIn", desc := "(I)I" } : Jvm.MethodName)) ∈ lw_all := all_mem 329 (by decide +kernel) (by decide +kernel)
theorem q330 : (Jvm.Cond.selects "TideBoats$State" ({ cls := "TideBoats$State", name := "tideIn", desc := "(I)I" } : Jvm.MethodName) ({ cls := "TideBoats$State", name := "tideIn", desc := "(I)I" } : Jvm.MethodName)) ∈ lw_all := all_mem 330 (by decide +kernel) (by decide +kernel)
theorem kV_X1_98 : CWV RX1 98 RX4 yX4_tideIn cX4_tideIn 4 (some .int) 1 := cwv_mk q701 q329 q330 q2 q331 ⟨rfl, ⟨by decide +kernel, by decide +kernel, by decide +kernel⟩⟩
theorem q446 : (Jvm.Cond.code ({ cls := "java/lang/Math", name := "min", desc := "(II)I" } : Jvm.MethodName) prog_10_method_69_code (2 : Nat) (Option.some Jvm.ClassFile.FieldType.int)) ∈ lw_all := all_mem 446 (by decide +kernel) (by decide +kernel)
theorem q445 : (Jvm.Cond.static ({ cls := "java/lang/Math", name := "min", desc := "(II)I" } : Jvm.MethodName)) ∈ lw_all := all_mem 445 (by decide +kernel) (by decide +kernel)
theorem q702 : (Jvm.Cond.methodLink "TideBoats$HomeSearch" (101 : Nat) ({ cls := "java/lang/Math", name := "min", desc := "(II)I" } : Jvm.MethodName)) ∈ lw_all := all_mem 702 (by decide +kernel) (by decide +kernel)
theorem kS_X1_101 : CWS RX1 101 yJ9_min_7cf53 cJ9_min_7cf53 2 (some .int) 2 := cws_mk q702 q445 q10 q446 ⟨by decide +kernel, by decide +kernel, by decide +kernel⟩
theorem q221 : (Jvm.Cond.code ({ cls := "TideBoats", name := "isCell", desc := "(I)Z" } : Jvm.MethodName) prog_1_method_28_code (1 : Nat) (Option.some Jvm.ClassFile.FieldType.boolean)) ∈ lw_all := all_mem 221 (by decide +kernel) (by decide +kernel)
theorem q220 : (Jvm.Cond.static ({ cls := "TideBoats", name := "isCell", desc := "(I)Z" } : Jvm.MethodName)) ∈ lw_all := all_mem 220 (by decide +kernel) (by decide +kernel)
theorem q691 : (Jvm.Cond.methodLinkNest "TideBoats$HomeSearch" (104 : Nat) ({ cls := "TideBoats", name := "isCell", desc := "(I)Z" } : Jvm.MethodName) "TideBoats") ∈ lw_nst := nst_mem 691 (by decide +kernel) (by decide +kernel)
theorem kN_X1_104 : CWN RX1 104 yX5_isCell cX5_isCell 1 (some .boolean) 1 := ⟨⟨_, q691⟩, q220, q1, q221, ⟨by decide +kernel, by decide +kernel, by decide +kernel⟩⟩
theorem q176 : (Jvm.Cond.fieldLink "TideBoats$Orders" (9 : Nat) "TideBoats$Orders" "signs" "[C") ∈ lw_all := all_mem 176 (by decide +kernel) (by decide +kernel)
theorem fl_X2_9 : FLD RX2 9 2 0 := ⟨RX2, TX2, 2, rfl, Nat.le_of_ble_eq_true rfl, in_X2, q176⟩
theorem q177 : (Jvm.Cond.fieldLink "TideBoats$Orders" (15 : Nat) "TideBoats$Orders" "length" "I") ∈ lw_all := all_mem 177 (by decide +kernel) (by decide +kernel)
theorem fl_X2_15 : FLD RX2 15 2 1 := ⟨RX2, TX2, 2, rfl, Nat.le_of_ble_eq_true rfl, in_X2, q177⟩
theorem q401 : (Jvm.Cond.code ({ cls := "TideBoats$Orders", name := "endOfOrder", desc := "(I)I" } : Jvm.MethodName) prog_4_method_5_code (5 : Nat) (Option.some Jvm.ClassFile.FieldType.int)) ∈ lw_all := all_mem 401 (by decide +kernel) (by decide +kernel)
theorem q398 : (Jvm.Cond.methodLink "TideBoats$Orders" (19 : Nat) ({ cls := "TideBoats$Orders", name := "endOfOrder", desc := "(I)I" } : Jvm.MethodName)) ∈ lw_all := all_mem 398 (by decide +kernel) (by decide +kernel)
theorem q399 : (Jvm.Cond.instanceMethod ({ cls := "TideBoats$Orders", name := "endOfOrder", desc := "(I)I" } : Jvm.MethodName)) ∈ lw_all := all_mem 399 (by decide +kernel) (by decide +kernel)
theorem q400 : (Jvm.Cond.selects "TideBoats$Orders" ({ cls := "TideBoats$Orders", name := "endOfOrder", desc := "(I)I" } : Jvm.MethodName) ({ cls := "TideBoats$Orders", name := "endOfOrder", desc := "(I)I" } : Jvm.MethodName)) ∈ lw_all := all_mem 400 (by decide +kernel) (by decide +kernel)
theorem q6 : (Jvm.Cond.initialized "TideBoats$Orders") ∈ lw_all := all_mem 6 (by decide +kernel) (by decide +kernel)
theorem kV_X2_19 : CWV RX2 19 RX2 yX2_endOfOrder cX2_endOfOrder 5 (some .int) 1 := cwv_mk q398 q399 q400 q6 q401 ⟨rfl, ⟨by decide +kernel, by decide +kernel, by decide +kernel⟩⟩
theorem q405 : (Jvm.Cond.code ({ cls := "TideBoats$Orders", name := "signAt", desc := "(I)C" } : Jvm.MethodName) prog_4_method_6_code (2 : Nat) (Option.some Jvm.ClassFile.FieldType.char)) ∈ lw_all := all_mem 405 (by decide +kernel) (by decide +kernel)
theorem q402 : (Jvm.Cond.methodLink "TideBoats$Orders" (23 : Nat) ({ cls := "TideBoats$Orders", name := "signAt", desc := "(I)C" } : Jvm.MethodName)) ∈ lw_all := all_mem 402 (by decide +kernel) (by decide +kernel)
theorem q403 : (Jvm.Cond.instanceMethod ({ cls := "TideBoats$Orders", name := "signAt", desc := "(I)C" } : Jvm.MethodName)) ∈ lw_all := all_mem 403 (by decide +kernel) (by decide +kernel)
theorem q404 : (Jvm.Cond.selects "TideBoats$Orders" ({ cls := "TideBoats$Orders", name := "signAt", desc := "(I)C" } : Jvm.MethodName) ({ cls := "TideBoats$Orders", name := "signAt", desc := "(I)C" } : Jvm.MethodName)) ∈ lw_all := all_mem 404 (by decide +kernel) (by decide +kernel)
theorem kV_X2_23 : CWV RX2 23 RX2 yX2_signAt cX2_signAt 2 (some .char) 1 := cwv_mk q402 q403 q404 q6 q405 ⟨rfl, ⟨by decide +kernel, by decide +kernel, by decide +kernel⟩⟩
theorem q408 : (Jvm.Cond.code ({ cls := "TideBoats$Orders", name := "placesOfOrder", desc := "(C)Ljava/lang/String;" } : Jvm.MethodName) prog_4_method_16_code (1 : Nat) (Option.some (Jvm.ClassFile.FieldType.object "java/lang/String"))) ∈ lw_all := all_mem 408 (by decide +kernel) (by decide +kernel)
theorem q407 : (Jvm.Cond.static ({ cls := "TideBoats$Orders", name := "placesOfOrder", desc := "(C)Ljava/lang/String;" } : Jvm.MethodName)) ∈ lw_all := all_mem 407 (by decide +kernel) (by decide +kernel)
theorem q406 : (Jvm.Cond.methodLink "TideBoats$Orders" (27 : Nat) ({ cls := "TideBoats$Orders", name := "placesOfOrder", desc := "(C)Ljava/lang/String;" } : Jvm.MethodName)) ∈ lw_all := all_mem 406 (by decide +kernel) (by decide +kernel)
theorem kS_X2_27 : CWS RX2 27 yX2_placesOfOrder cX2_placesOfOrder 1 (some (.object "java/lang/String")) 1 := cws_mk q406 q407 q6 q408 ⟨by decide +kernel, by decide +kernel, by decide +kernel⟩
theorem q430 : (Jvm.Cond.code ({ cls := "java/lang/String", name := "length", desc := "()I" } : Jvm.MethodName) prog_11_method_54_code (1 : Nat) (Option.some Jvm.ClassFile.FieldType.int)) ∈ lw_all := all_mem 430 (by decide +kernel) (by decide +kernel)
theorem q504 : (Jvm.Cond.methodLink "TideBoats$Orders" (31 : Nat) ({ cls := "java/lang/String", name := "length", desc := "()I" } : Jvm.MethodName)) ∈ lw_all := all_mem 504 (by decide +kernel) (by decide +kernel)
theorem q428 : (Jvm.Cond.instanceMethod ({ cls := "java/lang/String", name := "length", desc := "()I" } : Jvm.MethodName)) ∈ lw_all := all_mem 428 (by decide +kernel) (by decide +kernel)
theorem q429 : (Jvm.Cond.selects "java/lang/String" ({ cls := "java/lang/String", name := "length", desc := "()I" } : Jvm.MethodName) ({ cls := "java/lang/String", name := "length", desc := "()I" } : Jvm.MethodName)) ∈ lw_all := all_mem 429 (by decide +kernel) (by decide +kernel)
theorem q8 : (Jvm.Cond.initialized "java/lang/String") ∈ lw_all := all_mem 8 (by decide +kernel) (by decide +kernel)
theorem kV_X2_31 : CWV RX2 31 RJ0 yJ0_length_8abf5 cJ0_length_8abf5 1 (some .int) 0 := cwv_mk q504 q428 q429 q8 q430 ⟨rfl, ⟨by decide +kernel, by decide +kernel, by decide +kernel⟩⟩
theorem q508 : (Jvm.Cond.code ({ cls := "java/lang/String", name := "charAt", desc := "(I)C" } : Jvm.MethodName) prog_11_method_56_code (2 : Nat) (Option.some Jvm.ClassFile.FieldType.char)) ∈ lw_all := all_mem 508 (by decide +kernel) (by decide +kernel)
theorem q505 : (Jvm.Cond.methodLink "TideBoats$Orders" (36 : Nat) ({ cls := "java/lang/String", name := "charAt", desc := "(I)C" } : Jvm.MethodName)) ∈ lw_all := all_mem 505 (by decide +kernel) (by decide +kernel)
theorem q506 : (Jvm.Cond.instanceMethod ({ cls := "java/lang/String", name := "charAt", desc := "(I)C" } : Jvm.MethodName)) ∈ lw_all := all_mem 506 (by decide +kernel) (by decide +kernel)
theorem q507 : (Jvm.Cond.selects "java/lang/String" ({ cls := "java/lang/String", name := "charAt", desc := "(I)C" } : Jvm.MethodName) ({ cls := "java/lang/String", name := "charAt", desc := "(I)C" } : Jvm.MethodName)) ∈ lw_all := all_mem 507 (by decide +kernel) (by decide +kernel)
theorem kV_X2_36 : CWV RX2 36 RJ0 yJ0_charAt_5068e cJ0_charAt_5068e 2 (some .char) 1 := cwv_mk q505 q506 q507 q8 q508 ⟨rfl, ⟨by decide +kernel, by decide +kernel, by decide +kernel⟩⟩
theorem q527 : (Jvm.Cond.code ({ cls := "TideBoats$Orders", name := "fits", desc := "(CC)Z" } : Jvm.MethodName) prog_4_method_17_code (3 : Nat) (Option.some Jvm.ClassFile.FieldType.boolean)) ∈ lw_all := all_mem 527 (by decide +kernel) (by decide +kernel)
theorem q526 : (Jvm.Cond.static ({ cls := "TideBoats$Orders", name := "fits", desc := "(CC)Z" } : Jvm.MethodName)) ∈ lw_all := all_mem 526 (by decide +kernel) (by decide +kernel)
theorem q525 : (Jvm.Cond.methodLink "TideBoats$Orders" (39 : Nat) ({ cls := "TideBoats$Orders", name := "fits", desc := "(CC)Z" } : Jvm.MethodName)) ∈ lw_all := all_mem 525 (by decide +kernel) (by decide +kernel)
theorem kS_X2_39 : CWS RX2 39 yX2_fits cX2_fits 3 (some .boolean) 2 := cws_mk q525 q526 q6 q527 ⟨by decide +kernel, by decide +kernel, by decide +kernel⟩
theorem q411 : (Jvm.Cond.code ({ cls := "TideBoats$Orders", name := "isColumn", desc := "(C)Z" } : Jvm.MethodName) prog_4_method_15_code (1 : Nat) (Option.some Jvm.ClassFile.FieldType.boolean)) ∈ lw_all := all_mem 411 (by decide +kernel) (by decide +kernel)
theorem q410 : (Jvm.Cond.static ({ cls := "TideBoats$Orders", name := "isColumn", desc := "(C)Z" } : Jvm.MethodName)) ∈ lw_all := all_mem 410 (by decide +kernel) (by decide +kernel)
theorem q409 : (Jvm.Cond.methodLink "TideBoats$Orders" (43 : Nat) ({ cls := "TideBoats$Orders", name := "isColumn", desc := "(C)Z" } : Jvm.MethodName)) ∈ lw_all := all_mem 409 (by decide +kernel) (by decide +kernel)
theorem kS_X2_43 : CWS RX2 43 yX2_isColumn cX2_isColumn 1 (some .boolean) 1 := cws_mk q409 q410 q6 q411 ⟨by decide +kernel, by decide +kernel, by decide +kernel⟩
theorem q544 : (Jvm.Cond.code ({ cls := "TideBoats$Orders", name := "isRockAt", desc := "(I)Z" } : Jvm.MethodName) prog_4_method_7_code (2 : Nat) (Option.some Jvm.ClassFile.FieldType.boolean)) ∈ lw_all := all_mem 544 (by decide +kernel) (by decide +kernel)
theorem q541 : (Jvm.Cond.methodLink "TideBoats$Orders" (47 : Nat) ({ cls := "TideBoats$Orders", name := "isRockAt", desc := "(I)Z" } : Jvm.MethodName)) ∈ lw_all := all_mem 541 (by decide +kernel) (by decide +kernel)
theorem q542 : (Jvm.Cond.instanceMethod ({ cls := "TideBoats$Orders", name := "isRockAt", desc := "(I)Z" } : Jvm.MethodName)) ∈ lw_all := all_mem 542 (by decide +kernel) (by decide +kernel)
theorem q543 : (Jvm.Cond.selects "TideBoats$Orders" ({ cls := "TideBoats$Orders", name := "isRockAt", desc := "(I)Z" } : Jvm.MethodName) ({ cls := "TideBoats$Orders", name := "isRockAt", desc := "(I)Z" } : Jvm.MethodName)) ∈ lw_all := all_mem 543 (by decide +kernel) (by decide +kernel)
theorem kV_X2_47 : CWV RX2 47 RX2 yX2_isRockAt cX2_isRockAt 2 (some .boolean) 1 := cwv_mk q541 q542 q543 q6 q544 ⟨rfl, ⟨by decide +kernel, by decide +kernel, by decide +kernel⟩⟩
theorem q416 : (Jvm.Cond.code ({ cls := "java/lang/String", name := "indexOf", desc := "(I)I" } : Jvm.MethodName) prog_11_method_79_code (2 : Nat) (Option.some Jvm.ClassFile.FieldType.int)) ∈ lw_all := all_mem 416 (by decide +kernel) (by decide +kernel)
theorem q413 : (Jvm.Cond.methodLink "TideBoats$Orders" (53 : Nat) ({ cls := "java/lang/String", name := "indexOf", desc := "(I)I" } : Jvm.MethodName)) ∈ lw_all := all_mem 413 (by decide +kernel) (by decide +kernel)
theorem q414 : (Jvm.Cond.instanceMethod ({ cls := "java/lang/String", name := "indexOf", desc := "(I)I" } : Jvm.MethodName)) ∈ lw_all := all_mem 414 (by decide +kernel) (by decide +kernel)
theorem q415 : (Jvm.Cond.selects "java/lang/String" ({ cls := "java/lang/String", name := "indexOf", desc := "(I)I" } : Jvm.MethodName) ({ cls := "java/lang/String", name := "indexOf", desc := "(I)I" } : Jvm.MethodName)) ∈ lw_all := all_mem 415 (by decide +kernel) (by decide +kernel)
theorem kV_X2_53 : CWV RX2 53 RJ0 yJ0_indexOf_0f7a4 cJ0_indexOf_0f7a4 2 (some .int) 1 := cwv_mk q413 q414 q415 q8 q416 ⟨rfl, ⟨by decide +kernel, by decide +kernel, by decide +kernel⟩⟩
theorem q530 : (Jvm.Cond.code ({ cls := "TideBoats$Orders", name := "allowedAt", desc := "(C)Ljava/lang/String;" } : Jvm.MethodName) prog_4_method_18_code (1 : Nat) (Option.some (Jvm.ClassFile.FieldType.object "java/lang/String"))) ∈ lw_all := all_mem 530 (by decide +kernel) (by decide +kernel)
theorem q529 : (Jvm.Cond.static ({ cls := "TideBoats$Orders", name := "allowedAt", desc := "(C)Ljava/lang/String;" } : Jvm.MethodName)) ∈ lw_all := all_mem 529 (by decide +kernel) (by decide +kernel)
theorem q528 : (Jvm.Cond.methodLink "TideBoats$Orders" (76 : Nat) ({ cls := "TideBoats$Orders", name := "allowedAt", desc := "(C)Ljava/lang/String;" } : Jvm.MethodName)) ∈ lw_all := all_mem 528 (by decide +kernel) (by decide +kernel)
theorem kS_X2_76 : CWS RX2 76 yX2_allowedAt cX2_allowedAt 1 (some (.object "java/lang/String")) 1 := cws_mk q528 q529 q6 q530 ⟨by decide +kernel, by decide +kernel, by decide +kernel⟩
theorem q540 : (Jvm.Cond.code ({ cls := "java/lang/String", name := "isEmpty", desc := "()Z" } : Jvm.MethodName) prog_11_method_55_code (1 : Nat) (Option.some Jvm.ClassFile.FieldType.boolean)) ∈ lw_all := all_mem 540 (by decide +kernel) (by decide +kernel)
theorem q537 : (Jvm.Cond.methodLink "TideBoats$Orders" (79 : Nat) ({ cls := "java/lang/String", name := "isEmpty", desc := "()Z" } : Jvm.MethodName)) ∈ lw_all := all_mem 537 (by decide +kernel) (by decide +kernel)
theorem q538 : (Jvm.Cond.instanceMethod ({ cls := "java/lang/String", name := "isEmpty", desc := "()Z" } : Jvm.MethodName)) ∈ lw_all := all_mem 538 (by decide +kernel) (by decide +kernel)
theorem q539 : (Jvm.Cond.selects "java/lang/String" ({ cls := "java/lang/String", name := "isEmpty", desc := "()Z" } : Jvm.MethodName) ({ cls := "java/lang/String", name := "isEmpty", desc := "()Z" } : Jvm.MethodName)) ∈ lw_all := all_mem 539 (by decide +kernel) (by decide +kernel)
theorem kV_X2_79 : CWV RX2 79 RJ0 yJ0_isEmpty_aae02 cJ0_isEmpty_aae02 1 (some .boolean) 0 := cwv_mk q537 q538 q539 q8 q540 ⟨rfl, ⟨by decide +kernel, by decide +kernel, by decide +kernel⟩⟩
theorem q114 : (Jvm.Cond.fieldLink "TideBoats$Rules" (9 : Nat) "TideBoats$Rules" "sea" "LTideBoats$State;") ∈ lw_all := all_mem 114 (by decide +kernel) (by decide +kernel)
theorem fl_X3_9 : FLD RX3 9 3 0 := ⟨RX3, TX3, 1, rfl, Nat.le_of_ble_eq_true rfl, in_X3, q114⟩
theorem q219 : (Jvm.Cond.methodLinkNest "TideBoats$Rules" (15 : Nat) ({ cls := "TideBoats", name := "isCell", desc := "(I)Z" } : Jvm.MethodName) "TideBoats") ∈ lw_nst := nst_mem 219 (by decide +kernel) (by decide +kernel)
theorem kN_X3_15 : CWN RX3 15 yX5_isCell cX5_isCell 1 (some .boolean) 1 := ⟨⟨_, q219⟩, q220, q1, q221, ⟨by decide +kernel, by decide +kernel, by decide +kernel⟩⟩
theorem q30 : (Jvm.Cond.code ({ cls := "TideBoats", name := "isHarbour", desc := "(I)Z" } : Jvm.MethodName) prog_1_method_31_code (1 : Nat) (Option.some Jvm.ClassFile.FieldType.boolean)) ∈ lw_all := all_mem 30 (by decide +kernel) (by decide +kernel)
theorem q29 : (Jvm.Cond.static ({ cls := "TideBoats", name := "isHarbour", desc := "(I)Z" } : Jvm.MethodName)) ∈ lw_all := all_mem 29 (by decide +kernel) (by decide +kernel)
theorem q222 : (Jvm.Cond.methodLinkNest "TideBoats$Rules" (19 : Nat) ({ cls := "TideBoats", name := "isHarbour", desc := "(I)Z" } : Jvm.MethodName) "TideBoats") ∈ lw_nst := nst_mem 222 (by decide +kernel) (by decide +kernel)
theorem kN_X3_19 : CWN RX3 19 yX5_isHarbour cX5_isHarbour 1 (some .boolean) 1 := ⟨⟨_, q222⟩, q29, q1, q30, ⟨by decide +kernel, by decide +kernel, by decide +kernel⟩⟩
theorem q65 : (Jvm.Cond.fieldLinkNest "TideBoats$Rules" (22 : Nat) "TideBoats$State" "turn" "I" "TideBoats") ∈ lw_nst := nst_mem 65 (by decide +kernel) (by decide +kernel)
theorem fl_X3_22 : FLN RX3 22 4 9 := ⟨RX4, TX4, 14, rfl, Nat.le_of_ble_eq_true rfl, in_X4, _, q65⟩
theorem q35 : (Jvm.Cond.fieldLinkNest "TideBoats$Rules" (28 : Nat) "TideBoats$State" "heights" "[I" "TideBoats") ∈ lw_nst := nst_mem 35 (by decide +kernel) (by decide +kernel)
theorem fl_X3_28 : FLN RX3 28 4 0 := ⟨RX4, TX4, 14, rfl, Nat.le_of_ble_eq_true rfl, in_X4, _, q35⟩
theorem q223 : (Jvm.Cond.methodLinkNest "TideBoats$Rules" (32 : Nat) ({ cls := "TideBoats", name := "read", desc := "([II)I" } : Jvm.MethodName) "TideBoats") ∈ lw_nst := nst_mem 223 (by decide +kernel) (by decide +kernel)
theorem kN_X3_32 : CWN RX3 32 yX5_read cX5_read 2 (some .int) 2 := ⟨⟨_, q223⟩, q224, q1, q225, ⟨by decide +kernel, by decide +kernel, by decide +kernel⟩⟩
theorem q39 : (Jvm.Cond.fieldLinkNest "TideBoats$Rules" (36 : Nat) "TideBoats$State" "rocks" "[I" "TideBoats") ∈ lw_nst := nst_mem 39 (by decide +kernel) (by decide +kernel)
theorem fl_X3_36 : FLN RX3 36 4 1 := ⟨RX4, TX4, 14, rfl, Nat.le_of_ble_eq_true rfl, in_X4, _, q39⟩
theorem q33 : (Jvm.Cond.code ({ cls := "TideBoats", name := "write", desc := "([III)V" } : Jvm.MethodName) prog_1_method_36_code (3 : Nat) (Option.none : Option Jvm.ClassFile.FieldType)) ∈ lw_all := all_mem 33 (by decide +kernel) (by decide +kernel)
theorem q32 : (Jvm.Cond.static ({ cls := "TideBoats", name := "write", desc := "([III)V" } : Jvm.MethodName)) ∈ lw_all := all_mem 32 (by decide +kernel) (by decide +kernel)
theorem q226 : (Jvm.Cond.methodLinkNest "TideBoats$Rules" (39 : Nat) ({ cls := "TideBoats", name := "write", desc := "([III)V" } : Jvm.MethodName) "TideBoats") ∈ lw_nst := nst_mem 226 (by decide +kernel) (by decide +kernel)
theorem kN_X3_39 : CWN RX3 39 yX5_write cX5_write 3 (none) 3 := ⟨⟨_, q226⟩, q32, q1, q33, ⟨by decide +kernel, by decide +kernel, by decide +kernel⟩⟩
theorem q254 : (Jvm.Cond.code ({ cls := "TideBoats", name := "isPlayer", desc := "(I)Z" } : Jvm.MethodName) prog_1_method_29_code (1 : Nat) (Option.some Jvm.ClassFile.FieldType.boolean)) ∈ lw_all := all_mem 254 (by decide +kernel) (by decide +kernel)
theorem q253 : (Jvm.Cond.static ({ cls := "TideBoats", name := "isPlayer", desc := "(I)Z" } : Jvm.MethodName)) ∈ lw_all := all_mem 253 (by decide +kernel) (by decide +kernel)
theorem q252 : (Jvm.Cond.methodLinkNest "TideBoats$Rules" (43 : Nat) ({ cls := "TideBoats", name := "isPlayer", desc := "(I)Z" } : Jvm.MethodName) "TideBoats") ∈ lw_nst := nst_mem 252 (by decide +kernel) (by decide +kernel)
theorem kN_X3_43 : CWN RX3 43 yX5_isPlayer cX5_isPlayer 1 (some .boolean) 1 := ⟨⟨_, q252⟩, q253, q1, q254, ⟨by decide +kernel, by decide +kernel, by decide +kernel⟩⟩
theorem q257 : (Jvm.Cond.code ({ cls := "TideBoats", name := "isDraft", desc := "(I)Z" } : Jvm.MethodName) prog_1_method_30_code (1 : Nat) (Option.some Jvm.ClassFile.FieldType.boolean)) ∈ lw_all := all_mem 257 (by decide +kernel) (by decide +kernel)
theorem q256 : (Jvm.Cond.static ({ cls := "TideBoats", name := "isDraft", desc := "(I)Z" } : Jvm.MethodName)) ∈ lw_all := all_mem 256 (by decide +kernel) (by decide +kernel)
theorem q255 : (Jvm.Cond.methodLinkNest "TideBoats$Rules" (46 : Nat) ({ cls := "TideBoats", name := "isDraft", desc := "(I)Z" } : Jvm.MethodName) "TideBoats") ∈ lw_nst := nst_mem 255 (by decide +kernel) (by decide +kernel)
theorem kN_X3_46 : CWN RX3 46 yX5_isDraft cX5_isDraft 1 (some .boolean) 1 := ⟨⟨_, q255⟩, q256, q1, q257, ⟨by decide +kernel, by decide +kernel, by decide +kernel⟩⟩
theorem q261 : (Jvm.Cond.code ({ cls := "TideBoats$State", name := "boatAt", desc := "(I)I" } : Jvm.MethodName) prog_6_method_13_code (3 : Nat) (Option.some Jvm.ClassFile.FieldType.int)) ∈ lw_all := all_mem 261 (by decide +kernel) (by decide +kernel)
theorem q258 : (Jvm.Cond.methodLink "TideBoats$Rules" (49 : Nat) ({ cls := "TideBoats$State", name := "boatAt", desc := "(I)I" } : Jvm.MethodName)) ∈ lw_all := all_mem 258 (by decide +kernel) (by decide +kernel)
theorem q259 : (Jvm.Cond.instanceMethod ({ cls := "TideBoats$State", name := "boatAt", desc := "(I)I" } : Jvm.MethodName)) ∈ lw_all := all_mem 259 (by decide +kernel) (by decide +kernel)
theorem q260 : (Jvm.Cond.selects "TideBoats$State" ({ cls := "TideBoats$State", name := "boatAt", desc := "(I)I" } : Jvm.MethodName) ({ cls := "TideBoats$State", name := "boatAt", desc := "(I)I" } : Jvm.MethodName)) ∈ lw_all := all_mem 260 (by decide +kernel) (by decide +kernel)
theorem kV_X3_49 : CWV RX3 49 RX4 yX4_boatAt cX4_boatAt 3 (some .int) 1 := cwv_mk q258 q259 q260 q2 q261 ⟨rfl, ⟨by decide +kernel, by decide +kernel, by decide +kernel⟩⟩
theorem q60 : (Jvm.Cond.fieldLinkNest "TideBoats$Rules" (53 : Nat) "TideBoats$State" "boats" "I" "TideBoats") ∈ lw_nst := nst_mem 60 (by decide +kernel) (by decide +kernel)
theorem fl_X3_53 : FLN RX3 53 4 7 := ⟨RX4, TX4, 14, rfl, Nat.le_of_ble_eq_true rfl, in_X4, _, q60⟩
theorem q44 : (Jvm.Cond.fieldLinkNest "TideBoats$Rules" (56 : Nat) "TideBoats$State" "owners" "[I" "TideBoats") ∈ lw_nst := nst_mem 44 (by decide +kernel) (by decide +kernel)
theorem fl_X3_56 : FLN RX3 56 4 2 := ⟨RX4, TX4, 14, rfl, Nat.le_of_ble_eq_true rfl, in_X4, _, q44⟩
theorem q48 : (Jvm.Cond.fieldLinkNest "TideBoats$Rules" (59 : Nat) "TideBoats$State" "drafts" "[I" "TideBoats") ∈ lw_nst := nst_mem 48 (by decide +kernel) (by decide +kernel)
theorem fl_X3_59 : FLN RX3 59 4 3 := ⟨RX4, TX4, 14, rfl, Nat.le_of_ble_eq_true rfl, in_X4, _, q48⟩
theorem q51 : (Jvm.Cond.fieldLinkNest "TideBoats$Rules" (62 : Nat) "TideBoats$State" "conditions" "[I" "TideBoats") ∈ lw_nst := nst_mem 51 (by decide +kernel) (by decide +kernel)
theorem fl_X3_62 : FLN RX3 62 4 4 := ⟨RX4, TX4, 14, rfl, Nat.le_of_ble_eq_true rfl, in_X4, _, q51⟩
theorem q54 : (Jvm.Cond.fieldLinkNest "TideBoats$Rules" (65 : Nat) "TideBoats$State" "places" "[I" "TideBoats") ∈ lw_nst := nst_mem 54 (by decide +kernel) (by decide +kernel)
theorem fl_X3_65 : FLN RX3 65 4 5 := ⟨RX4, TX4, 14, rfl, Nat.le_of_ble_eq_true rfl, in_X4, _, q54⟩
theorem q57 : (Jvm.Cond.fieldLinkNest "TideBoats$Rules" (68 : Nat) "TideBoats$State" "stepsGone" "[I" "TideBoats") ∈ lw_nst := nst_mem 57 (by decide +kernel) (by decide +kernel)
theorem fl_X3_68 : FLN RX3 68 4 6 := ⟨RX4, TX4, 14, rfl, Nat.le_of_ble_eq_true rfl, in_X4, _, q57⟩
theorem q278 : (Jvm.Cond.code ({ cls := "TideBoats$State", name := "settingOf", desc := "(I)I" } : Jvm.MethodName) prog_6_method_3_code (2 : Nat) (Option.some Jvm.ClassFile.FieldType.int)) ∈ lw_all := all_mem 278 (by decide +kernel) (by decide +kernel)
theorem q275 : (Jvm.Cond.methodLink "TideBoats$Rules" (77 : Nat) ({ cls := "TideBoats$State", name := "settingOf", desc := "(I)I" } : Jvm.MethodName)) ∈ lw_all := all_mem 275 (by decide +kernel) (by decide +kernel)
theorem q276 : (Jvm.Cond.instanceMethod ({ cls := "TideBoats$State", name := "settingOf", desc := "(I)I" } : Jvm.MethodName)) ∈ lw_all := all_mem 276 (by decide +kernel) (by decide +kernel)
theorem q277 : (Jvm.Cond.selects "TideBoats$State" ({ cls := "TideBoats$State", name := "settingOf", desc := "(I)I" } : Jvm.MethodName) ({ cls := "TideBoats$State", name := "settingOf", desc := "(I)I" } : Jvm.MethodName)) ∈ lw_all := all_mem 277 (by decide +kernel) (by decide +kernel)
theorem kV_X3_77 : CWV RX3 77 RX4 yX4_settingOf cX4_settingOf 2 (some .int) 1 := cwv_mk q275 q276 q277 q2 q278 ⟨rfl, ⟨by decide +kernel, by decide +kernel, by decide +kernel⟩⟩
theorem q282 : (Jvm.Cond.code ({ cls := "TideBoats$State", name := "changeSetting", desc := "(II)V" } : Jvm.MethodName) prog_6_method_4_code (3 : Nat) (Option.none : Option Jvm.ClassFile.FieldType)) ∈ lw_all := all_mem 282 (by decide +kernel) (by decide +kernel)
theorem q279 : (Jvm.Cond.methodLink "TideBoats$Rules" (80 : Nat) ({ cls := "TideBoats$State", name := "changeSetting", desc := "(II)V" } : Jvm.MethodName)) ∈ lw_all := all_mem 279 (by decide +kernel) (by decide +kernel)
theorem q280 : (Jvm.Cond.instanceMethod ({ cls := "TideBoats$State", name := "changeSetting", desc := "(II)V" } : Jvm.MethodName)) ∈ lw_all := all_mem 280 (by decide +kernel) (by decide +kernel)
theorem q281 : (Jvm.Cond.selects "TideBoats$State" ({ cls := "TideBoats$State", name := "changeSetting", desc := "(II)V" } : Jvm.MethodName) ({ cls := "TideBoats$State", name := "changeSetting", desc := "(II)V" } : Jvm.MethodName)) ∈ lw_all := all_mem 281 (by decide +kernel) (by decide +kernel)
theorem kV_X3_80 : CWV RX3 80 RX4 yX4_changeSetting cX4_changeSetting 3 (none) 2 := cwv_mk q279 q280 q281 q2 q282 ⟨rfl, ⟨by decide +kernel, by decide +kernel, by decide +kernel⟩⟩
theorem q294 : (Jvm.Cond.code ({ cls := "TideBoats$Rules", name := "errorOfMove", desc := "(III)I" } : Jvm.MethodName) prog_5_method_7_code (4 : Nat) (Option.some Jvm.ClassFile.FieldType.int)) ∈ lw_all := all_mem 294 (by decide +kernel) (by decide +kernel)
theorem q291 : (Jvm.Cond.methodLink "TideBoats$Rules" (84 : Nat) ({ cls := "TideBoats$Rules", name := "errorOfMove", desc := "(III)I" } : Jvm.MethodName)) ∈ lw_all := all_mem 291 (by decide +kernel) (by decide +kernel)
theorem q292 : (Jvm.Cond.instanceMethod ({ cls := "TideBoats$Rules", name := "errorOfMove", desc := "(III)I" } : Jvm.MethodName)) ∈ lw_all := all_mem 292 (by decide +kernel) (by decide +kernel)
theorem q293 : (Jvm.Cond.selects "TideBoats$Rules" ({ cls := "TideBoats$Rules", name := "errorOfMove", desc := "(III)I" } : Jvm.MethodName) ({ cls := "TideBoats$Rules", name := "errorOfMove", desc := "(III)I" } : Jvm.MethodName)) ∈ lw_all := all_mem 293 (by decide +kernel) (by decide +kernel)
theorem q3 : (Jvm.Cond.initialized "TideBoats$Rules") ∈ lw_all := all_mem 3 (by decide +kernel) (by decide +kernel)
theorem kV_X3_84 : CWV RX3 84 RX3 yX3_errorOfMove cX3_errorOfMove 4 (some .int) 3 := cwv_mk q291 q292 q293 q3 q294 ⟨rfl, ⟨by decide +kernel, by decide +kernel, by decide +kernel⟩⟩
theorem q302 : (Jvm.Cond.code ({ cls := "TideBoats$Rules", name := "reasonAgainst", desc := "(IIIZ)I" } : Jvm.MethodName) prog_5_method_8_code (5 : Nat) (Option.some Jvm.ClassFile.FieldType.int)) ∈ lw_all := all_mem 302 (by decide +kernel) (by decide +kernel)
theorem q299 : (Jvm.Cond.methodLink "TideBoats$Rules" (88 : Nat) ({ cls := "TideBoats$Rules", name := "reasonAgainst", desc := "(IIIZ)I" } : Jvm.MethodName)) ∈ lw_all := all_mem 299 (by decide +kernel) (by decide +kernel)
theorem q300 : (Jvm.Cond.instanceMethod ({ cls := "TideBoats$Rules", name := "reasonAgainst", desc := "(IIIZ)I" } : Jvm.MethodName)) ∈ lw_all := all_mem 300 (by decide +kernel) (by decide +kernel)
theorem q301 : (Jvm.Cond.selects "TideBoats$Rules" ({ cls := "TideBoats$Rules", name := "reasonAgainst", desc := "(IIIZ)I" } : Jvm.MethodName) ({ cls := "TideBoats$Rules", name := "reasonAgainst", desc := "(IIIZ)I" } : Jvm.MethodName)) ∈ lw_all := all_mem 301 (by decide +kernel) (by decide +kernel)
theorem kV_X3_88 : CWV RX3 88 RX3 yX3_reasonAgainst cX3_reasonAgainst 5 (some .int) 4 := cwv_mk q299 q300 q301 q3 q302 ⟨rfl, ⟨by decide +kernel, by decide +kernel, by decide +kernel⟩⟩
theorem q350 : (Jvm.Cond.code ({ cls := "TideBoats", name := "cellFrom", desc := "(III)I" } : Jvm.MethodName) prog_1_method_34_code (5 : Nat) (Option.some Jvm.ClassFile.FieldType.int)) ∈ lw_all := all_mem 350 (by decide +kernel) (by decide +kernel)
theorem q349 : (Jvm.Cond.static ({ cls := "TideBoats", name := "cellFrom", desc := "(III)I" } : Jvm.MethodName)) ∈ lw_all := all_mem 349 (by decide +kernel) (by decide +kernel)
theorem q348 : (Jvm.Cond.methodLinkNest "TideBoats$Rules" (92 : Nat) ({ cls := "TideBoats", name := "cellFrom", desc := "(III)I" } : Jvm.MethodName) "TideBoats") ∈ lw_nst := nst_mem 348 (by decide +kernel) (by decide +kernel)
theorem kN_X3_92 : CWN RX3 92 yX5_cellFrom cX5_cellFrom 5 (some .int) 3 := ⟨⟨_, q348⟩, q349, q1, q350, ⟨by decide +kernel, by decide +kernel, by decide +kernel⟩⟩
theorem q355 : (Jvm.Cond.code ({ cls := "TideBoats$Rules", name := "ram", desc := "(I)I" } : Jvm.MethodName) prog_5_method_12_code (2 : Nat) (Option.some Jvm.ClassFile.FieldType.int)) ∈ lw_all := all_mem 355 (by decide +kernel) (by decide +kernel)
theorem q352 : (Jvm.Cond.methodLink "TideBoats$Rules" (95 : Nat) ({ cls := "TideBoats$Rules", name := "ram", desc := "(I)I" } : Jvm.MethodName)) ∈ lw_all := all_mem 352 (by decide +kernel) (by decide +kernel)
theorem q354 : (Jvm.Cond.instanceMethod ({ cls := "TideBoats$Rules", name := "ram", desc := "(I)I" } : Jvm.MethodName)) ∈ lw_all := all_mem 354 (by decide +kernel) (by decide +kernel)
theorem qs5 : (Jvm.Cond.selects "TideBoats$Rules" ({ cls := "TideBoats$Rules", name := "ram", desc := "(I)I" } : Jvm.MethodName) ({ cls := "TideBoats$Rules", name := "ram", desc := "(I)I" } : Jvm.MethodName)) ∈ lw_all := all_memS 5 (by decide +kernel) (by decide +kernel)
theorem kV_X3_95 : CWV RX3 95 RX3 yX3_ram cX3_ram 2 (some .int) 1 := cwv_mk q352 q354 qs5 q3 q355 ⟨rfl, ⟨by decide +kernel, by decide +kernel, by decide +kernel⟩⟩
theorem q336 : (Jvm.Cond.methodLinkNest "TideBoats$Rules" (98 : Nat) ({ cls := "TideBoats", name := "harbourOf", desc := "(I)I" } : Jvm.MethodName) "TideBoats") ∈ lw_nst := nst_mem 336 (by decide +kernel) (by decide +kernel)
theorem kN_X3_98 : CWN RX3 98 yX5_harbourOf cX5_harbourOf 1 (some .int) 1 := ⟨⟨_, q336⟩, q337, q1, q338, ⟨by decide +kernel, by decide +kernel, by decide +kernel⟩⟩
theorem q359 : (Jvm.Cond.code ({ cls := "TideBoats$Rules", name := "endTurn", desc := "()V" } : Jvm.MethodName) prog_5_method_13_code (2 : Nat) (Option.none : Option Jvm.ClassFile.FieldType)) ∈ lw_all := all_mem 359 (by decide +kernel) (by decide +kernel)
theorem q356 : (Jvm.Cond.methodLink "TideBoats$Rules" (101 : Nat) ({ cls := "TideBoats$Rules", name := "endTurn", desc := "()V" } : Jvm.MethodName)) ∈ lw_all := all_mem 356 (by decide +kernel) (by decide +kernel)
theorem q358 : (Jvm.Cond.instanceMethod ({ cls := "TideBoats$Rules", name := "endTurn", desc := "()V" } : Jvm.MethodName)) ∈ lw_all := all_mem 358 (by decide +kernel) (by decide +kernel)
theorem qs6 : (Jvm.Cond.selects "TideBoats$Rules" ({ cls := "TideBoats$Rules", name := "endTurn", desc := "()V" } : Jvm.MethodName) ({ cls := "TideBoats$Rules", name := "endTurn", desc := "()V" } : Jvm.MethodName)) ∈ lw_all := all_memS 6 (by decide +kernel) (by decide +kernel)
theorem kV_X3_101 : CWV RX3 101 RX3 yX3_endTurn cX3_endTurn 2 (none) 0 := cwv_mk q356 q358 qs6 q3 q359 ⟨rfl, ⟨by decide +kernel, by decide +kernel, by decide +kernel⟩⟩
theorem q306 : (Jvm.Cond.code ({ cls := "TideBoats$State", name := "isOver", desc := "()Z" } : Jvm.MethodName) prog_6_method_18_code (1 : Nat) (Option.some Jvm.ClassFile.FieldType.boolean)) ∈ lw_all := all_mem 306 (by decide +kernel) (by decide +kernel)
theorem q303 : (Jvm.Cond.methodLink "TideBoats$Rules" (104 : Nat) ({ cls := "TideBoats$State", name := "isOver", desc := "()Z" } : Jvm.MethodName)) ∈ lw_all := all_mem 303 (by decide +kernel) (by decide +kernel)
theorem q304 : (Jvm.Cond.instanceMethod ({ cls := "TideBoats$State", name := "isOver", desc := "()Z" } : Jvm.MethodName)) ∈ lw_all := all_mem 304 (by decide +kernel) (by decide +kernel)
theorem q305 : (Jvm.Cond.selects "TideBoats$State" ({ cls := "TideBoats$State", name := "isOver", desc := "()Z" } : Jvm.MethodName) ({ cls := "TideBoats$State", name := "isOver", desc := "()Z" } : Jvm.MethodName)) ∈ lw_all := all_mem 305 (by decide +kernel) (by decide +kernel)
theorem kV_X3_104 : CWV RX3 104 RX4 yX4_isOver cX4_isOver 1 (some .boolean) 0 := cwv_mk q303 q304 q305 q2 q306 ⟨rfl, ⟨by decide +kernel, by decide +kernel, by decide +kernel⟩⟩
theorem q373 : (Jvm.Cond.methodLink "TideBoats$Rules" (108 : Nat) ({ cls := "TideBoats$State", name := "tideIn", desc := "(I)I" } : Jvm.MethodName)) ∈ lw_all := all_mem 373 (by decide +kernel) (by decide +kernel)
theorem kV_X3_108 : CWV RX3 108 RX4 yX4_tideIn cX4_tideIn 4 (some .int) 1 := cwv_mk q373 q329 q330 q2 q331 ⟨rfl, ⟨by decide +kernel, by decide +kernel, by decide +kernel⟩⟩
theorem q298 : (Jvm.Cond.code ({ cls := "TideBoats$State", name := "isBoat", desc := "(I)Z" } : Jvm.MethodName) prog_6_method_9_code (2 : Nat) (Option.some Jvm.ClassFile.FieldType.boolean)) ∈ lw_all := all_mem 298 (by decide +kernel) (by decide +kernel)
theorem q295 : (Jvm.Cond.methodLink "TideBoats$Rules" (111 : Nat) ({ cls := "TideBoats$State", name := "isBoat", desc := "(I)Z" } : Jvm.MethodName)) ∈ lw_all := all_mem 295 (by decide +kernel) (by decide +kernel)
theorem q296 : (Jvm.Cond.instanceMethod ({ cls := "TideBoats$State", name := "isBoat", desc := "(I)Z" } : Jvm.MethodName)) ∈ lw_all := all_mem 296 (by decide +kernel) (by decide +kernel)
theorem q297 : (Jvm.Cond.selects "TideBoats$State" ({ cls := "TideBoats$State", name := "isBoat", desc := "(I)Z" } : Jvm.MethodName) ({ cls := "TideBoats$State", name := "isBoat", desc := "(I)Z" } : Jvm.MethodName)) ∈ lw_all := all_mem 297 (by decide +kernel) (by decide +kernel)
theorem kV_X3_111 : CWV RX3 111 RX4 yX4_isBoat cX4_isBoat 2 (some .boolean) 1 := cwv_mk q295 q296 q297 q2 q298 ⟨rfl, ⟨by decide +kernel, by decide +kernel, by decide +kernel⟩⟩
theorem q314 : (Jvm.Cond.code ({ cls := "TideBoats$State", name := "isOnBoard", desc := "(I)Z" } : Jvm.MethodName) prog_6_method_10_code (2 : Nat) (Option.some Jvm.ClassFile.FieldType.boolean)) ∈ lw_all := all_mem 314 (by decide +kernel) (by decide +kernel)
theorem q311 : (Jvm.Cond.methodLink "TideBoats$Rules" (114 : Nat) ({ cls := "TideBoats$State", name := "isOnBoard", desc := "(I)Z" } : Jvm.MethodName)) ∈ lw_all := all_mem 311 (by decide +kernel) (by decide +kernel)
theorem q312 : (Jvm.Cond.instanceMethod ({ cls := "TideBoats$State", name := "isOnBoard", desc := "(I)Z" } : Jvm.MethodName)) ∈ lw_all := all_mem 312 (by decide +kernel) (by decide +kernel)
theorem q313 : (Jvm.Cond.selects "TideBoats$State" ({ cls := "TideBoats$State", name := "isOnBoard", desc := "(I)Z" } : Jvm.MethodName) ({ cls := "TideBoats$State", name := "isOnBoard", desc := "(I)Z" } : Jvm.MethodName)) ∈ lw_all := all_mem 313 (by decide +kernel) (by decide +kernel)
theorem kV_X3_114 : CWV RX3 114 RX4 yX4_isOnBoard cX4_isOnBoard 2 (some .boolean) 1 := cwv_mk q311 q312 q313 q2 q314 ⟨rfl, ⟨by decide +kernel, by decide +kernel, by decide +kernel⟩⟩
theorem q319 : (Jvm.Cond.code ({ cls := "TideBoats$State", name := "mover", desc := "()I" } : Jvm.MethodName) prog_6_method_17_code (1 : Nat) (Option.some Jvm.ClassFile.FieldType.int)) ∈ lw_all := all_mem 319 (by decide +kernel) (by decide +kernel)
theorem q316 : (Jvm.Cond.methodLink "TideBoats$Rules" (117 : Nat) ({ cls := "TideBoats$State", name := "mover", desc := "()I" } : Jvm.MethodName)) ∈ lw_all := all_mem 316 (by decide +kernel) (by decide +kernel)
theorem q317 : (Jvm.Cond.instanceMethod ({ cls := "TideBoats$State", name := "mover", desc := "()I" } : Jvm.MethodName)) ∈ lw_all := all_mem 317 (by decide +kernel) (by decide +kernel)
theorem q318 : (Jvm.Cond.selects "TideBoats$State" ({ cls := "TideBoats$State", name := "mover", desc := "()I" } : Jvm.MethodName) ({ cls := "TideBoats$State", name := "mover", desc := "()I" } : Jvm.MethodName)) ∈ lw_all := all_mem 318 (by decide +kernel) (by decide +kernel)
theorem kV_X3_117 : CWV RX3 117 RX4 yX4_mover cX4_mover 1 (some .int) 0 := cwv_mk q316 q317 q318 q2 q319 ⟨rfl, ⟨by decide +kernel, by decide +kernel, by decide +kernel⟩⟩
theorem q323 : (Jvm.Cond.code ({ cls := "TideBoats$State", name := "floats", desc := "(I)Z" } : Jvm.MethodName) prog_6_method_11_code (2 : Nat) (Option.some Jvm.ClassFile.FieldType.boolean)) ∈ lw_all := all_mem 323 (by decide +kernel) (by decide +kernel)
theorem q320 : (Jvm.Cond.methodLink "TideBoats$Rules" (121 : Nat) ({ cls := "TideBoats$State", name := "floats", desc := "(I)Z" } : Jvm.MethodName)) ∈ lw_all := all_mem 320 (by decide +kernel) (by decide +kernel)
theorem q321 : (Jvm.Cond.instanceMethod ({ cls := "TideBoats$State", name := "floats", desc := "(I)Z" } : Jvm.MethodName)) ∈ lw_all := all_mem 321 (by decide +kernel) (by decide +kernel)
theorem q322 : (Jvm.Cond.selects "TideBoats$State" ({ cls := "TideBoats$State", name := "floats", desc := "(I)Z" } : Jvm.MethodName) ({ cls := "TideBoats$State", name := "floats", desc := "(I)Z" } : Jvm.MethodName)) ∈ lw_all := all_mem 322 (by decide +kernel) (by decide +kernel)
theorem kV_X3_121 : CWV RX3 121 RX4 yX4_floats cX4_floats 2 (some .boolean) 1 := cwv_mk q320 q321 q322 q2 q323 ⟨rfl, ⟨by decide +kernel, by decide +kernel, by decide +kernel⟩⟩
theorem q335 : (Jvm.Cond.code ({ cls := "TideBoats$Rules", name := "isWayOpen", desc := "(III)Z" } : Jvm.MethodName) prog_5_method_10_code (9 : Nat) (Option.some Jvm.ClassFile.FieldType.boolean)) ∈ lw_all := all_mem 335 (by decide +kernel) (by decide +kernel)
theorem q332 : (Jvm.Cond.methodLink "TideBoats$Rules" (124 : Nat) ({ cls := "TideBoats$Rules", name := "isWayOpen", desc := "(III)Z" } : Jvm.MethodName)) ∈ lw_all := all_mem 332 (by decide +kernel) (by decide +kernel)
theorem q334 : (Jvm.Cond.instanceMethod ({ cls := "TideBoats$Rules", name := "isWayOpen", desc := "(III)Z" } : Jvm.MethodName)) ∈ lw_all := all_mem 334 (by decide +kernel) (by decide +kernel)
theorem qs3 : (Jvm.Cond.selects "TideBoats$Rules" ({ cls := "TideBoats$Rules", name := "isWayOpen", desc := "(III)Z" } : Jvm.MethodName) ({ cls := "TideBoats$Rules", name := "isWayOpen", desc := "(III)Z" } : Jvm.MethodName)) ∈ lw_all := all_memS 3 (by decide +kernel) (by decide +kernel)
theorem kV_X3_124 : CWV RX3 124 RX3 yX3_isWayOpen cX3_isWayOpen 9 (some .boolean) 3 := cwv_mk q332 q334 qs3 q3 q335 ⟨rfl, ⟨by decide +kernel, by decide +kernel, by decide +kernel⟩⟩
theorem q347 : (Jvm.Cond.code ({ cls := "TideBoats$Rules", name := "isBoatInWay", desc := "(III)Z" } : Jvm.MethodName) prog_5_method_11_code (8 : Nat) (Option.some Jvm.ClassFile.FieldType.boolean)) ∈ lw_all := all_mem 347 (by decide +kernel) (by decide +kernel)
theorem q344 : (Jvm.Cond.methodLink "TideBoats$Rules" (128 : Nat) ({ cls := "TideBoats$Rules", name := "isBoatInWay", desc := "(III)Z" } : Jvm.MethodName)) ∈ lw_all := all_mem 344 (by decide +kernel) (by decide +kernel)
theorem q346 : (Jvm.Cond.instanceMethod ({ cls := "TideBoats$Rules", name := "isBoatInWay", desc := "(III)Z" } : Jvm.MethodName)) ∈ lw_all := all_mem 346 (by decide +kernel) (by decide +kernel)
theorem qs4 : (Jvm.Cond.selects "TideBoats$Rules" ({ cls := "TideBoats$Rules", name := "isBoatInWay", desc := "(III)Z" } : Jvm.MethodName) ({ cls := "TideBoats$Rules", name := "isBoatInWay", desc := "(III)Z" } : Jvm.MethodName)) ∈ lw_all := all_memS 4 (by decide +kernel) (by decide +kernel)
theorem kV_X3_128 : CWV RX3 128 RX3 yX3_isBoatInWay cX3_isBoatInWay 8 (some .boolean) 3 := cwv_mk q344 q346 qs4 q3 q347 ⟨rfl, ⟨by decide +kernel, by decide +kernel, by decide +kernel⟩⟩
theorem q341 : (Jvm.Cond.code ({ cls := "TideBoats", name := "cellBeside", desc := "(II)I" } : Jvm.MethodName) prog_1_method_33_code (3 : Nat) (Option.some Jvm.ClassFile.FieldType.int)) ∈ lw_all := all_mem 341 (by decide +kernel) (by decide +kernel)
theorem q340 : (Jvm.Cond.static ({ cls := "TideBoats", name := "cellBeside", desc := "(II)I" } : Jvm.MethodName)) ∈ lw_all := all_mem 340 (by decide +kernel) (by decide +kernel)
theorem q339 : (Jvm.Cond.methodLinkNest "TideBoats$Rules" (131 : Nat) ({ cls := "TideBoats", name := "cellBeside", desc := "(II)I" } : Jvm.MethodName) "TideBoats") ∈ lw_nst := nst_mem 339 (by decide +kernel) (by decide +kernel)
theorem kN_X3_131 : CWN RX3 131 yX5_cellBeside cX5_cellBeside 3 (some .int) 2 := ⟨⟨_, q339⟩, q340, q1, q341, ⟨by decide +kernel, by decide +kernel, by decide +kernel⟩⟩
theorem q327 : (Jvm.Cond.code ({ cls := "TideBoats$State", name := "isWet", desc := "(III)Z" } : Jvm.MethodName) prog_6_method_8_code (4 : Nat) (Option.some Jvm.ClassFile.FieldType.boolean)) ∈ lw_all := all_mem 327 (by decide +kernel) (by decide +kernel)
theorem q343 : (Jvm.Cond.methodLink "TideBoats$Rules" (135 : Nat) ({ cls := "TideBoats$State", name := "isWet", desc := "(III)Z" } : Jvm.MethodName)) ∈ lw_all := all_mem 343 (by decide +kernel) (by decide +kernel)
theorem q325 : (Jvm.Cond.instanceMethod ({ cls := "TideBoats$State", name := "isWet", desc := "(III)Z" } : Jvm.MethodName)) ∈ lw_all := all_mem 325 (by decide +kernel) (by decide +kernel)
theorem q326 : (Jvm.Cond.selects "TideBoats$State" ({ cls := "TideBoats$State", name := "isWet", desc := "(III)Z" } : Jvm.MethodName) ({ cls := "TideBoats$State", name := "isWet", desc := "(III)Z" } : Jvm.MethodName)) ∈ lw_all := all_mem 326 (by decide +kernel) (by decide +kernel)
theorem kV_X3_135 : CWV RX3 135 RX4 yX4_isWet cX4_isWet 4 (some .boolean) 3 := cwv_mk q343 q325 q326 q2 q327 ⟨rfl, ⟨by decide +kernel, by decide +kernel, by decide +kernel⟩⟩
theorem q63 : (Jvm.Cond.fieldLinkNest "TideBoats$Rules" (138 : Nat) "TideBoats$State" "boatsRammed" "I" "TideBoats") ∈ lw_nst := nst_mem 63 (by decide +kernel) (by decide +kernel)
theorem fl_X3_138 : FLN RX3 138 4 8 := ⟨RX4, TX4, 14, rfl, Nat.le_of_ble_eq_true rfl, in_X4, _, q63⟩
theorem q363 : (Jvm.Cond.code ({ cls := "TideBoats$State", name := "isWreckedAhead", desc := "(I)Z" } : Jvm.MethodName) prog_6_method_12_code (3 : Nat) (Option.some Jvm.ClassFile.FieldType.boolean)) ∈ lw_all := all_mem 363 (by decide +kernel) (by decide +kernel)
theorem q360 : (Jvm.Cond.methodLink "TideBoats$Rules" (141 : Nat) ({ cls := "TideBoats$State", name := "isWreckedAhead", desc := "(I)Z" } : Jvm.MethodName)) ∈ lw_all := all_mem 360 (by decide +kernel) (by decide +kernel)
theorem q361 : (Jvm.Cond.instanceMethod ({ cls := "TideBoats$State", name := "isWreckedAhead", desc := "(I)Z" } : Jvm.MethodName)) ∈ lw_all := all_mem 361 (by decide +kernel) (by decide +kernel)
theorem q362 : (Jvm.Cond.selects "TideBoats$State" ({ cls := "TideBoats$State", name := "isWreckedAhead", desc := "(I)Z" } : Jvm.MethodName) ({ cls := "TideBoats$State", name := "isWreckedAhead", desc := "(I)Z" } : Jvm.MethodName)) ∈ lw_all := all_mem 362 (by decide +kernel) (by decide +kernel)
theorem kV_X3_141 : CWV RX3 141 RX4 yX4_isWreckedAhead cX4_isWreckedAhead 3 (some .boolean) 1 := cwv_mk q360 q361 q362 q2 q363 ⟨rfl, ⟨by decide +kernel, by decide +kernel, by decide +kernel⟩⟩
theorem q34 : (Jvm.Cond.fieldLink "TideBoats$State" (9 : Nat) "TideBoats$State" "heights" "[I") ∈ lw_all := all_mem 34 (by decide +kernel) (by decide +kernel)
theorem fl_X4_9 : FLD RX4 9 4 0 := ⟨RX4, TX4, 14, rfl, Nat.le_of_ble_eq_true rfl, in_X4, q34⟩
theorem q38 : (Jvm.Cond.fieldLink "TideBoats$State" (15 : Nat) "TideBoats$State" "rocks" "[I") ∈ lw_all := all_mem 38 (by decide +kernel) (by decide +kernel)
theorem fl_X4_15 : FLD RX4 15 4 1 := ⟨RX4, TX4, 14, rfl, Nat.le_of_ble_eq_true rfl, in_X4, q38⟩
theorem q42 : (Jvm.Cond.fieldLink "TideBoats$State" (18 : Nat) "TideBoats$State" "owners" "[I") ∈ lw_all := all_mem 42 (by decide +kernel) (by decide +kernel)
theorem fl_X4_18 : FLD RX4 18 4 2 := ⟨RX4, TX4, 14, rfl, Nat.le_of_ble_eq_true rfl, in_X4, q42⟩
theorem q46 : (Jvm.Cond.fieldLink "TideBoats$State" (21 : Nat) "TideBoats$State" "drafts" "[I") ∈ lw_all := all_mem 46 (by decide +kernel) (by decide +kernel)
theorem fl_X4_21 : FLD RX4 21 4 3 := ⟨RX4, TX4, 14, rfl, Nat.le_of_ble_eq_true rfl, in_X4, q46⟩
theorem q50 : (Jvm.Cond.fieldLink "TideBoats$State" (24 : Nat) "TideBoats$State" "conditions" "[I") ∈ lw_all := all_mem 50 (by decide +kernel) (by decide +kernel)
theorem fl_X4_24 : FLD RX4 24 4 4 := ⟨RX4, TX4, 14, rfl, Nat.le_of_ble_eq_true rfl, in_X4, q50⟩
theorem q53 : (Jvm.Cond.fieldLink "TideBoats$State" (27 : Nat) "TideBoats$State" "places" "[I") ∈ lw_all := all_mem 53 (by decide +kernel) (by decide +kernel)
theorem fl_X4_27 : FLD RX4 27 4 5 := ⟨RX4, TX4, 14, rfl, Nat.le_of_ble_eq_true rfl, in_X4, q53⟩
theorem q56 : (Jvm.Cond.fieldLink "TideBoats$State" (30 : Nat) "TideBoats$State" "stepsGone" "[I") ∈ lw_all := all_mem 56 (by decide +kernel) (by decide +kernel)
theorem fl_X4_30 : FLD RX4 30 4 6 := ⟨RX4, TX4, 14, rfl, Nat.le_of_ble_eq_true rfl, in_X4, q56⟩
theorem q69 : (Jvm.Cond.fieldLink "TideBoats$State" (33 : Nat) "TideBoats$State" "lowWater" "I") ∈ lw_all := all_mem 69 (by decide +kernel) (by decide +kernel)
theorem fl_X4_33 : FLD RX4 33 4 10 := ⟨RX4, TX4, 14, rfl, Nat.le_of_ble_eq_true rfl, in_X4, q69⟩
theorem q71 : (Jvm.Cond.fieldLink "TideBoats$State" (37 : Nat) "TideBoats$State" "riseSteps" "I") ∈ lw_all := all_mem 71 (by decide +kernel) (by decide +kernel)
theorem fl_X4_37 : FLD RX4 37 4 11 := ⟨RX4, TX4, 14, rfl, Nat.le_of_ble_eq_true rfl, in_X4, q71⟩
theorem q73 : (Jvm.Cond.fieldLink "TideBoats$State" (40 : Nat) "TideBoats$State" "stepTurns" "I") ∈ lw_all := all_mem 73 (by decide +kernel) (by decide +kernel)
theorem fl_X4_40 : FLD RX4 40 4 12 := ⟨RX4, TX4, 14, rfl, Nat.le_of_ble_eq_true rfl, in_X4, q73⟩
theorem q75 : (Jvm.Cond.fieldLink "TideBoats$State" (43 : Nat) "TideBoats$State" "lastTurn" "I") ∈ lw_all := all_mem 75 (by decide +kernel) (by decide +kernel)
theorem fl_X4_43 : FLD RX4 43 4 13 := ⟨RX4, TX4, 14, rfl, Nat.le_of_ble_eq_true rfl, in_X4, q75⟩
theorem q28 : (Jvm.Cond.methodLinkNest "TideBoats$State" (46 : Nat) ({ cls := "TideBoats", name := "isHarbour", desc := "(I)Z" } : Jvm.MethodName) "TideBoats") ∈ lw_nst := nst_mem 28 (by decide +kernel) (by decide +kernel)
theorem kN_X4_46 : CWN RX4 46 yX5_isHarbour cX5_isHarbour 1 (some .boolean) 1 := ⟨⟨_, q28⟩, q29, q1, q30, ⟨by decide +kernel, by decide +kernel, by decide +kernel⟩⟩
theorem q31 : (Jvm.Cond.methodLinkNest "TideBoats$State" (50 : Nat) ({ cls := "TideBoats", name := "write", desc := "([III)V" } : Jvm.MethodName) "TideBoats") ∈ lw_nst := nst_mem 31 (by decide +kernel) (by decide +kernel)
theorem kN_X4_50 : CWN RX4 50 yX5_write cX5_write 3 (none) 3 := ⟨⟨_, q31⟩, q32, q1, q33, ⟨by decide +kernel, by decide +kernel, by decide +kernel⟩⟩
theorem q214 : (Jvm.Cond.code ({ cls := "TideBoats", name := "copy", desc := "([I[I)V" } : Jvm.MethodName) prog_1_method_37_code (3 : Nat) (Option.none : Option Jvm.ClassFile.FieldType)) ∈ lw_all := all_mem 214 (by decide +kernel) (by decide +kernel)
theorem q213 : (Jvm.Cond.static ({ cls := "TideBoats", name := "copy", desc := "([I[I)V" } : Jvm.MethodName)) ∈ lw_all := all_mem 213 (by decide +kernel) (by decide +kernel)
theorem q212 : (Jvm.Cond.methodLinkNest "TideBoats$State" (54 : Nat) ({ cls := "TideBoats", name := "copy", desc := "([I[I)V" } : Jvm.MethodName) "TideBoats") ∈ lw_nst := nst_mem 212 (by decide +kernel) (by decide +kernel)
theorem kN_X4_54 : CWN RX4 54 yX5_copy cX5_copy 3 (none) 2 := ⟨⟨_, q212⟩, q213, q1, q214, ⟨by decide +kernel, by decide +kernel, by decide +kernel⟩⟩
theorem q59 : (Jvm.Cond.fieldLink "TideBoats$State" (58 : Nat) "TideBoats$State" "boats" "I") ∈ lw_all := all_mem 59 (by decide +kernel) (by decide +kernel)
theorem fl_X4_58 : FLD RX4 58 4 7 := ⟨RX4, TX4, 14, rfl, Nat.le_of_ble_eq_true rfl, in_X4, q59⟩
theorem q62 : (Jvm.Cond.fieldLink "TideBoats$State" (61 : Nat) "TideBoats$State" "boatsRammed" "I") ∈ lw_all := all_mem 62 (by decide +kernel) (by decide +kernel)
theorem fl_X4_61 : FLD RX4 61 4 8 := ⟨RX4, TX4, 14, rfl, Nat.le_of_ble_eq_true rfl, in_X4, q62⟩
theorem q66 : (Jvm.Cond.fieldLink "TideBoats$State" (64 : Nat) "TideBoats$State" "turn" "I") ∈ lw_all := all_mem 66 (by decide +kernel) (by decide +kernel)
theorem fl_X4_64 : FLD RX4 64 4 9 := ⟨RX4, TX4, 14, rfl, Nat.le_of_ble_eq_true rfl, in_X4, q66⟩
theorem q328 : (Jvm.Cond.methodLink "TideBoats$State" (67 : Nat) ({ cls := "TideBoats$State", name := "tideIn", desc := "(I)I" } : Jvm.MethodName)) ∈ lw_all := all_mem 328 (by decide +kernel) (by decide +kernel)
theorem kV_X4_67 : CWV RX4 67 RX4 yX4_tideIn cX4_tideIn 4 (some .int) 1 := cwv_mk q328 q329 q330 q2 q331 ⟨rfl, ⟨by decide +kernel, by decide +kernel, by decide +kernel⟩⟩
theorem q262 : (Jvm.Cond.methodLinkNest "TideBoats$State" (71 : Nat) ({ cls := "TideBoats", name := "read", desc := "([II)I" } : Jvm.MethodName) "TideBoats") ∈ lw_nst := nst_mem 262 (by decide +kernel) (by decide +kernel)
theorem kN_X4_71 : CWN RX4 71 yX5_read cX5_read 2 (some .int) 2 := ⟨⟨_, q262⟩, q224, q1, q225, ⟨by decide +kernel, by decide +kernel, by decide +kernel⟩⟩
theorem q619 : (Jvm.Cond.methodLink "TideBoats$State" (75 : Nat) ({ cls := "java/lang/Math", name := "max", desc := "(II)I" } : Jvm.MethodName)) ∈ lw_all := all_mem 619 (by decide +kernel) (by decide +kernel)
theorem kS_X4_75 : CWS RX4 75 yJ9_max_7cf53 cJ9_max_7cf53 2 (some .int) 2 := cws_mk q619 q442 q10 q443 ⟨by decide +kernel, by decide +kernel, by decide +kernel⟩
theorem q315 : (Jvm.Cond.methodLink "TideBoats$State" (81 : Nat) ({ cls := "TideBoats$State", name := "isBoat", desc := "(I)Z" } : Jvm.MethodName)) ∈ lw_all := all_mem 315 (by decide +kernel) (by decide +kernel)
theorem kV_X4_81 : CWV RX4 81 RX4 yX4_isBoat cX4_isBoat 2 (some .boolean) 1 := cwv_mk q315 q296 q297 q2 q298 ⟨rfl, ⟨by decide +kernel, by decide +kernel, by decide +kernel⟩⟩
theorem q324 : (Jvm.Cond.methodLink "TideBoats$State" (84 : Nat) ({ cls := "TideBoats$State", name := "isWet", desc := "(III)Z" } : Jvm.MethodName)) ∈ lw_all := all_mem 324 (by decide +kernel) (by decide +kernel)
theorem kV_X4_84 : CWV RX4 84 RX4 yX4_isWet cX4_isWet 4 (some .boolean) 3 := cwv_mk q324 q325 q326 q2 q327 ⟨rfl, ⟨by decide +kernel, by decide +kernel, by decide +kernel⟩⟩
theorem q364 : (Jvm.Cond.methodLink "TideBoats$State" (88 : Nat) ({ cls := "TideBoats$State", name := "isOnBoard", desc := "(I)Z" } : Jvm.MethodName)) ∈ lw_all := all_mem 364 (by decide +kernel) (by decide +kernel)
theorem kV_X4_88 : CWV RX4 88 RX4 yX4_isOnBoard cX4_isOnBoard 2 (some .boolean) 1 := cwv_mk q364 q312 q313 q2 q314 ⟨rfl, ⟨by decide +kernel, by decide +kernel, by decide +kernel⟩⟩
theorem q657 : (Jvm.Cond.methodLink "TideBoats$State" (91 : Nat) ({ cls := "TideBoats$State", name := "floats", desc := "(I)Z" } : Jvm.MethodName)) ∈ lw_all := all_mem 657 (by decide +kernel) (by decide +kernel)
theorem kV_X4_91 : CWV RX4 91 RX4 yX4_floats cX4_floats 2 (some .boolean) 1 := cwv_mk q657 q321 q322 q2 q323 ⟨rfl, ⟨by decide +kernel, by decide +kernel, by decide +kernel⟩⟩
theorem q310 : (Jvm.Cond.code ({ cls := "TideBoats$State", name := "boatsThatAre", desc := "(I)I" } : Jvm.MethodName) prog_6_method_14_code (4 : Nat) (Option.some Jvm.ClassFile.FieldType.int)) ∈ lw_all := all_mem 310 (by decide +kernel) (by decide +kernel)
theorem q307 : (Jvm.Cond.methodLink "TideBoats$State" (94 : Nat) ({ cls := "TideBoats$State", name := "boatsThatAre", desc := "(I)I" } : Jvm.MethodName)) ∈ lw_all := all_mem 307 (by decide +kernel) (by decide +kernel)
theorem q308 : (Jvm.Cond.instanceMethod ({ cls := "TideBoats$State", name := "boatsThatAre", desc := "(I)I" } : Jvm.MethodName)) ∈ lw_all := all_mem 308 (by decide +kernel) (by decide +kernel)
theorem q309 : (Jvm.Cond.selects "TideBoats$State" ({ cls := "TideBoats$State", name := "boatsThatAre", desc := "(I)I" } : Jvm.MethodName) ({ cls := "TideBoats$State", name := "boatsThatAre", desc := "(I)I" } : Jvm.MethodName)) ∈ lw_all := all_mem 309 (by decide +kernel) (by decide +kernel)
theorem kV_X4_94 : CWV RX4 94 RX4 yX4_boatsThatAre cX4_boatsThatAre 4 (some .int) 1 := cwv_mk q307 q308 q309 q2 q310 ⟨rfl, ⟨by decide +kernel, by decide +kernel, by decide +kernel⟩⟩
theorem q24 : (Jvm.Cond.methodLink "TideBoats" (9 : Nat) ({ cls := "TideBoats$State", name := "<init>", desc := "()V" } : Jvm.MethodName)) ∈ lw_all := all_mem 24 (by decide +kernel) (by decide +kernel)
theorem kI_X5_9 : CWI RX5 9 yX4_init cX4_init 2 0 := ⟨q24, q25, q2, q26, rfl, ⟨by decide +kernel, by decide +kernel, by decide +kernel⟩⟩
theorem q185 : (Jvm.Cond.fieldLink "TideBoats" (10 : Nat) "TideBoats" "now" "LTideBoats$State;") ∈ lw_all := all_mem 185 (by decide +kernel) (by decide +kernel)
theorem fl_X5_10 : FLD RX5 10 5 0 := ⟨RX5, TX5, 6, rfl, Nat.le_of_ble_eq_true rfl, in_X5, q185⟩
theorem q186 : (Jvm.Cond.fieldLink "TideBoats" (16 : Nat) "TideBoats" "before" "LTideBoats$State;") ∈ lw_all := all_mem 186 (by decide +kernel) (by decide +kernel)
theorem fl_X5_16 : FLD RX5 16 5 1 := ⟨RX5, TX5, 6, rfl, Nat.le_of_ble_eq_true rfl, in_X5, q186⟩
theorem q112 : (Jvm.Cond.code ({ cls := "TideBoats$Rules", name := "<init>", desc := "(LTideBoats$State;)V" } : Jvm.MethodName) prog_5_method_1_code (2 : Nat) (Option.none : Option Jvm.ClassFile.FieldType)) ∈ lw_all := all_mem 112 (by decide +kernel) (by decide +kernel)
theorem q111 : (Jvm.Cond.instanceMethod ({ cls := "TideBoats$Rules", name := "<init>", desc := "(LTideBoats$State;)V" } : Jvm.MethodName)) ∈ lw_all := all_mem 111 (by decide +kernel) (by decide +kernel)
theorem q110 : (Jvm.Cond.methodLink "TideBoats" (21 : Nat) ({ cls := "TideBoats$Rules", name := "<init>", desc := "(LTideBoats$State;)V" } : Jvm.MethodName)) ∈ lw_all := all_mem 110 (by decide +kernel) (by decide +kernel)
theorem kI_X5_21 : CWI RX5 21 yX3_init cX3_init 2 1 := ⟨q110, q111, q3, q112, rfl, ⟨by decide +kernel, by decide +kernel, by decide +kernel⟩⟩
theorem q187 : (Jvm.Cond.fieldLink "TideBoats" (24 : Nat) "TideBoats" "rules" "LTideBoats$Rules;") ∈ lw_all := all_mem 187 (by decide +kernel) (by decide +kernel)
theorem fl_X5_24 : FLD RX5 24 5 2 := ⟨RX5, TX5, 6, rfl, Nat.le_of_ble_eq_true rfl, in_X5, q187⟩
theorem q122 : (Jvm.Cond.code ({ cls := "TideBoats$HomeSearch", name := "<init>", desc := "(LTideBoats$State;)V" } : Jvm.MethodName) prog_3_method_1_code (2 : Nat) (Option.none : Option Jvm.ClassFile.FieldType)) ∈ lw_all := all_mem 122 (by decide +kernel) (by decide +kernel)
theorem q121 : (Jvm.Cond.instanceMethod ({ cls := "TideBoats$HomeSearch", name := "<init>", desc := "(LTideBoats$State;)V" } : Jvm.MethodName)) ∈ lw_all := all_mem 121 (by decide +kernel) (by decide +kernel)
theorem q120 : (Jvm.Cond.methodLink "TideBoats" (30 : Nat) ({ cls := "TideBoats$HomeSearch", name := "<init>", desc := "(LTideBoats$State;)V" } : Jvm.MethodName)) ∈ lw_all := all_mem 120 (by decide +kernel) (by decide +kernel)
theorem kI_X5_30 : CWI RX5 30 yX1_init cX1_init 2 1 := ⟨q120, q121, q4, q122, rfl, ⟨by decide +kernel, by decide +kernel, by decide +kernel⟩⟩
theorem q188 : (Jvm.Cond.fieldLink "TideBoats" (31 : Nat) "TideBoats" "search" "LTideBoats$HomeSearch;") ∈ lw_all := all_mem 188 (by decide +kernel) (by decide +kernel)
theorem fl_X5_31 : FLD RX5 31 5 3 := ⟨RX5, TX5, 6, rfl, Nat.le_of_ble_eq_true rfl, in_X5, q188⟩
theorem q151 : (Jvm.Cond.code ({ cls := "TideBoats$History", name := "<init>", desc := "()V" } : Jvm.MethodName) prog_2_method_1_code (2 : Nat) (Option.none : Option Jvm.ClassFile.FieldType)) ∈ lw_all := all_mem 151 (by decide +kernel) (by decide +kernel)
theorem q150 : (Jvm.Cond.instanceMethod ({ cls := "TideBoats$History", name := "<init>", desc := "()V" } : Jvm.MethodName)) ∈ lw_all := all_mem 150 (by decide +kernel) (by decide +kernel)
theorem q149 : (Jvm.Cond.methodLink "TideBoats" (37 : Nat) ({ cls := "TideBoats$History", name := "<init>", desc := "()V" } : Jvm.MethodName)) ∈ lw_all := all_mem 149 (by decide +kernel) (by decide +kernel)
theorem kI_X5_37 : CWI RX5 37 yX0_init cX0_init 2 0 := ⟨q149, q150, q5, q151, rfl, ⟨by decide +kernel, by decide +kernel, by decide +kernel⟩⟩
theorem q189 : (Jvm.Cond.fieldLink "TideBoats" (38 : Nat) "TideBoats" "history" "LTideBoats$History;") ∈ lw_all := all_mem 189 (by decide +kernel) (by decide +kernel)
theorem fl_X5_38 : FLD RX5 38 5 4 := ⟨RX5, TX5, 6, rfl, Nat.le_of_ble_eq_true rfl, in_X5, q189⟩
theorem q174 : (Jvm.Cond.code ({ cls := "TideBoats$Orders", name := "<init>", desc := "()V" } : Jvm.MethodName) prog_4_method_1_code (1 : Nat) (Option.none : Option Jvm.ClassFile.FieldType)) ∈ lw_all := all_mem 174 (by decide +kernel) (by decide +kernel)
theorem q173 : (Jvm.Cond.instanceMethod ({ cls := "TideBoats$Orders", name := "<init>", desc := "()V" } : Jvm.MethodName)) ∈ lw_all := all_mem 173 (by decide +kernel) (by decide +kernel)
theorem q172 : (Jvm.Cond.methodLinkNest "TideBoats" (44 : Nat) ({ cls := "TideBoats$Orders", name := "<init>", desc := "()V" } : Jvm.MethodName) "TideBoats") ∈ lw_nst := nst_mem 172 (by decide +kernel) (by decide +kernel)
theorem kIN_X5_44 : CWIN RX5 44 yX2_init cX2_init 1 0 := ⟨⟨_, q172⟩, q173, q6, q174, rfl, ⟨by decide +kernel, by decide +kernel, by decide +kernel⟩⟩
theorem q190 : (Jvm.Cond.fieldLink "TideBoats" (45 : Nat) "TideBoats" "text" "LTideBoats$Orders;") ∈ lw_all := all_mem 190 (by decide +kernel) (by decide +kernel)
theorem fl_X5_45 : FLD RX5 45 5 5 := ⟨RX5, TX5, 6, rfl, Nat.le_of_ble_eq_true rfl, in_X5, q190⟩
theorem q208 : (Jvm.Cond.methodLink "TideBoats" (49 : Nat) ({ cls := "TideBoats$State", name := "copyFrom", desc := "(LTideBoats$State;)V" } : Jvm.MethodName)) ∈ lw_all := all_mem 208 (by decide +kernel) (by decide +kernel)
theorem kV_X5_49 : CWV RX5 49 RX4 yX4_copyFrom cX4_copyFrom 2 (none) 1 := cwv_mk q208 q209 q210 q2 q211 ⟨rfl, ⟨by decide +kernel, by decide +kernel, by decide +kernel⟩⟩
theorem q218 : (Jvm.Cond.code ({ cls := "TideBoats$Rules", name := "laySand", desc := "(IIZ)I" } : Jvm.MethodName) prog_5_method_2_code (6 : Nat) (Option.some Jvm.ClassFile.FieldType.int)) ∈ lw_all := all_mem 218 (by decide +kernel) (by decide +kernel)
theorem q215 : (Jvm.Cond.methodLink "TideBoats" (52 : Nat) ({ cls := "TideBoats$Rules", name := "laySand", desc := "(IIZ)I" } : Jvm.MethodName)) ∈ lw_all := all_mem 215 (by decide +kernel) (by decide +kernel)
theorem q216 : (Jvm.Cond.instanceMethod ({ cls := "TideBoats$Rules", name := "laySand", desc := "(IIZ)I" } : Jvm.MethodName)) ∈ lw_all := all_mem 216 (by decide +kernel) (by decide +kernel)
theorem q217 : (Jvm.Cond.selects "TideBoats$Rules" ({ cls := "TideBoats$Rules", name := "laySand", desc := "(IIZ)I" } : Jvm.MethodName) ({ cls := "TideBoats$Rules", name := "laySand", desc := "(IIZ)I" } : Jvm.MethodName)) ∈ lw_all := all_mem 217 (by decide +kernel) (by decide +kernel)
theorem kV_X5_52 : CWV RX5 52 RX3 yX3_laySand cX3_laySand 6 (some .int) 3 := cwv_mk q215 q216 q217 q3 q218 ⟨rfl, ⟨by decide +kernel, by decide +kernel, by decide +kernel⟩⟩
theorem q230 : (Jvm.Cond.code ({ cls := "TideBoats", name := "recorded", desc := "(I)I" } : Jvm.MethodName) prog_1_method_24_code (2 : Nat) (Option.some Jvm.ClassFile.FieldType.int)) ∈ lw_all := all_mem 230 (by decide +kernel) (by decide +kernel)
theorem q227 : (Jvm.Cond.methodLink "TideBoats" (56 : Nat) ({ cls := "TideBoats", name := "recorded", desc := "(I)I" } : Jvm.MethodName)) ∈ lw_all := all_mem 227 (by decide +kernel) (by decide +kernel)
theorem q229 : (Jvm.Cond.instanceMethod ({ cls := "TideBoats", name := "recorded", desc := "(I)I" } : Jvm.MethodName)) ∈ lw_all := all_mem 229 (by decide +kernel) (by decide +kernel)
theorem qs0 : (Jvm.Cond.selects "TideBoats" ({ cls := "TideBoats", name := "recorded", desc := "(I)I" } : Jvm.MethodName) ({ cls := "TideBoats", name := "recorded", desc := "(I)I" } : Jvm.MethodName)) ∈ lw_all := all_memS 0 (by decide +kernel) (by decide +kernel)
theorem kV_X5_56 : CWV RX5 56 RX5 yX5_recorded cX5_recorded 2 (some .int) 1 := cwv_mk q227 q229 qs0 q1 q230 ⟨rfl, ⟨by decide +kernel, by decide +kernel, by decide +kernel⟩⟩
theorem q251 : (Jvm.Cond.code ({ cls := "TideBoats$Rules", name := "addBoat", desc := "(III)I" } : Jvm.MethodName) prog_5_method_3_code (5 : Nat) (Option.some Jvm.ClassFile.FieldType.int)) ∈ lw_all := all_mem 251 (by decide +kernel) (by decide +kernel)
theorem q248 : (Jvm.Cond.methodLink "TideBoats" (60 : Nat) ({ cls := "TideBoats$Rules", name := "addBoat", desc := "(III)I" } : Jvm.MethodName)) ∈ lw_all := all_mem 248 (by decide +kernel) (by decide +kernel)
theorem q249 : (Jvm.Cond.instanceMethod ({ cls := "TideBoats$Rules", name := "addBoat", desc := "(III)I" } : Jvm.MethodName)) ∈ lw_all := all_mem 249 (by decide +kernel) (by decide +kernel)
theorem q250 : (Jvm.Cond.selects "TideBoats$Rules" ({ cls := "TideBoats$Rules", name := "addBoat", desc := "(III)I" } : Jvm.MethodName) ({ cls := "TideBoats$Rules", name := "addBoat", desc := "(III)I" } : Jvm.MethodName)) ∈ lw_all := all_mem 250 (by decide +kernel) (by decide +kernel)
theorem kV_X5_60 : CWV RX5 60 RX3 yX3_addBoat cX3_addBoat 5 (some .int) 3 := cwv_mk q248 q249 q250 q3 q251 ⟨rfl, ⟨by decide +kernel, by decide +kernel, by decide +kernel⟩⟩
theorem q270 : (Jvm.Cond.code ({ cls := "TideBoats$Rules", name := "changeSetting", desc := "(II)I" } : Jvm.MethodName) prog_5_method_4_code (4 : Nat) (Option.some Jvm.ClassFile.FieldType.int)) ∈ lw_all := all_mem 270 (by decide +kernel) (by decide +kernel)
theorem q267 : (Jvm.Cond.methodLink "TideBoats" (64 : Nat) ({ cls := "TideBoats$Rules", name := "changeSetting", desc := "(II)I" } : Jvm.MethodName)) ∈ lw_all := all_mem 267 (by decide +kernel) (by decide +kernel)
theorem q268 : (Jvm.Cond.instanceMethod ({ cls := "TideBoats$Rules", name := "changeSetting", desc := "(II)I" } : Jvm.MethodName)) ∈ lw_all := all_mem 268 (by decide +kernel) (by decide +kernel)
theorem q269 : (Jvm.Cond.selects "TideBoats$Rules" ({ cls := "TideBoats$Rules", name := "changeSetting", desc := "(II)I" } : Jvm.MethodName) ({ cls := "TideBoats$Rules", name := "changeSetting", desc := "(II)I" } : Jvm.MethodName)) ∈ lw_all := all_mem 269 (by decide +kernel) (by decide +kernel)
theorem kV_X5_64 : CWV RX5 64 RX3 yX3_changeSetting cX3_changeSetting 4 (some .int) 2 := cwv_mk q267 q268 q269 q3 q270 ⟨rfl, ⟨by decide +kernel, by decide +kernel, by decide +kernel⟩⟩
theorem q290 : (Jvm.Cond.code ({ cls := "TideBoats$Rules", name := "sail", desc := "(III)I" } : Jvm.MethodName) prog_5_method_5_code (8 : Nat) (Option.some Jvm.ClassFile.FieldType.int)) ∈ lw_all := all_mem 290 (by decide +kernel) (by decide +kernel)
theorem q287 : (Jvm.Cond.methodLink "TideBoats" (68 : Nat) ({ cls := "TideBoats$Rules", name := "sail", desc := "(III)I" } : Jvm.MethodName)) ∈ lw_all := all_mem 287 (by decide +kernel) (by decide +kernel)
theorem q288 : (Jvm.Cond.instanceMethod ({ cls := "TideBoats$Rules", name := "sail", desc := "(III)I" } : Jvm.MethodName)) ∈ lw_all := all_mem 288 (by decide +kernel) (by decide +kernel)
theorem q289 : (Jvm.Cond.selects "TideBoats$Rules" ({ cls := "TideBoats$Rules", name := "sail", desc := "(III)I" } : Jvm.MethodName) ({ cls := "TideBoats$Rules", name := "sail", desc := "(III)I" } : Jvm.MethodName)) ∈ lw_all := all_mem 289 (by decide +kernel) (by decide +kernel)
theorem kV_X5_68 : CWV RX5 68 RX3 yX3_sail cX3_sail 8 (some .int) 3 := cwv_mk q287 q288 q289 q3 q290 ⟨rfl, ⟨by decide +kernel, by decide +kernel, by decide +kernel⟩⟩
theorem q372 : (Jvm.Cond.code ({ cls := "TideBoats$Rules", name := "waitATurn", desc := "()I" } : Jvm.MethodName) prog_5_method_6_code (1 : Nat) (Option.some Jvm.ClassFile.FieldType.int)) ∈ lw_all := all_mem 372 (by decide +kernel) (by decide +kernel)
theorem q369 : (Jvm.Cond.methodLink "TideBoats" (71 : Nat) ({ cls := "TideBoats$Rules", name := "waitATurn", desc := "()I" } : Jvm.MethodName)) ∈ lw_all := all_mem 369 (by decide +kernel) (by decide +kernel)
theorem q370 : (Jvm.Cond.instanceMethod ({ cls := "TideBoats$Rules", name := "waitATurn", desc := "()I" } : Jvm.MethodName)) ∈ lw_all := all_mem 370 (by decide +kernel) (by decide +kernel)
theorem q371 : (Jvm.Cond.selects "TideBoats$Rules" ({ cls := "TideBoats$Rules", name := "waitATurn", desc := "()I" } : Jvm.MethodName) ({ cls := "TideBoats$Rules", name := "waitATurn", desc := "()I" } : Jvm.MethodName)) ∈ lw_all := all_mem 371 (by decide +kernel) (by decide +kernel)
theorem kV_X5_71 : CWV RX5 71 RX3 yX3_waitATurn cX3_waitATurn 1 (some .int) 0 := cwv_mk q369 q370 q371 q3 q372 ⟨rfl, ⟨by decide +kernel, by decide +kernel, by decide +kernel⟩⟩
theorem q381 : (Jvm.Cond.code ({ cls := "TideBoats$Orders", name := "append", desc := "(C)I" } : Jvm.MethodName) prog_4_method_2_code (2 : Nat) (Option.some Jvm.ClassFile.FieldType.int)) ∈ lw_all := all_mem 381 (by decide +kernel) (by decide +kernel)
theorem q378 : (Jvm.Cond.methodLink "TideBoats" (75 : Nat) ({ cls := "TideBoats$Orders", name := "append", desc := "(C)I" } : Jvm.MethodName)) ∈ lw_all := all_mem 378 (by decide +kernel) (by decide +kernel)
theorem q379 : (Jvm.Cond.instanceMethod ({ cls := "TideBoats$Orders", name := "append", desc := "(C)I" } : Jvm.MethodName)) ∈ lw_all := all_mem 379 (by decide +kernel) (by decide +kernel)
theorem q380 : (Jvm.Cond.selects "TideBoats$Orders" ({ cls := "TideBoats$Orders", name := "append", desc := "(C)I" } : Jvm.MethodName) ({ cls := "TideBoats$Orders", name := "append", desc := "(C)I" } : Jvm.MethodName)) ∈ lw_all := all_mem 380 (by decide +kernel) (by decide +kernel)
theorem kV_X5_75 : CWV RX5 75 RX2 yX2_append cX2_append 2 (some .int) 1 := cwv_mk q378 q379 q380 q6 q381 ⟨rfl, ⟨by decide +kernel, by decide +kernel, by decide +kernel⟩⟩
theorem q389 : (Jvm.Cond.code ({ cls := "TideBoats$Orders", name := "removeAll", desc := "()I" } : Jvm.MethodName) prog_4_method_3_code (2 : Nat) (Option.some Jvm.ClassFile.FieldType.int)) ∈ lw_all := all_mem 389 (by decide +kernel) (by decide +kernel)
theorem q386 : (Jvm.Cond.methodLink "TideBoats" (79 : Nat) ({ cls := "TideBoats$Orders", name := "removeAll", desc := "()I" } : Jvm.MethodName)) ∈ lw_all := all_mem 386 (by decide +kernel) (by decide +kernel)
theorem q387 : (Jvm.Cond.instanceMethod ({ cls := "TideBoats$Orders", name := "removeAll", desc := "()I" } : Jvm.MethodName)) ∈ lw_all := all_mem 387 (by decide +kernel) (by decide +kernel)
theorem q388 : (Jvm.Cond.selects "TideBoats$Orders" ({ cls := "TideBoats$Orders", name := "removeAll", desc := "()I" } : Jvm.MethodName) ({ cls := "TideBoats$Orders", name := "removeAll", desc := "()I" } : Jvm.MethodName)) ∈ lw_all := all_mem 388 (by decide +kernel) (by decide +kernel)
theorem kV_X5_79 : CWV RX5 79 RX2 yX2_removeAll cX2_removeAll 2 (some .int) 0 := cwv_mk q386 q387 q388 q6 q389 ⟨rfl, ⟨by decide +kernel, by decide +kernel, by decide +kernel⟩⟩
theorem q397 : (Jvm.Cond.code ({ cls := "TideBoats$Orders", name := "findFault", desc := "()I" } : Jvm.MethodName) prog_4_method_4_code (4 : Nat) (Option.some Jvm.ClassFile.FieldType.int)) ∈ lw_all := all_mem 397 (by decide +kernel) (by decide +kernel)
theorem q394 : (Jvm.Cond.methodLink "TideBoats" (82 : Nat) ({ cls := "TideBoats$Orders", name := "findFault", desc := "()I" } : Jvm.MethodName)) ∈ lw_all := all_mem 394 (by decide +kernel) (by decide +kernel)
theorem q395 : (Jvm.Cond.instanceMethod ({ cls := "TideBoats$Orders", name := "findFault", desc := "()I" } : Jvm.MethodName)) ∈ lw_all := all_mem 395 (by decide +kernel) (by decide +kernel)
theorem q396 : (Jvm.Cond.selects "TideBoats$Orders" ({ cls := "TideBoats$Orders", name := "findFault", desc := "()I" } : Jvm.MethodName) ({ cls := "TideBoats$Orders", name := "findFault", desc := "()I" } : Jvm.MethodName)) ∈ lw_all := all_mem 396 (by decide +kernel) (by decide +kernel)
theorem kV_X5_82 : CWV RX5 82 RX2 yX2_findFault cX2_findFault 4 (some .int) 0 := cwv_mk q394 q395 q396 q6 q397 ⟨rfl, ⟨by decide +kernel, by decide +kernel, by decide +kernel⟩⟩
theorem q178 : (Jvm.Cond.fieldLinkNest "TideBoats" (85 : Nat) "TideBoats$Orders" "length" "I" "TideBoats") ∈ lw_nst := nst_mem 178 (by decide +kernel) (by decide +kernel)
theorem fl_X5_85 : FLN RX5 85 2 1 := ⟨RX2, TX2, 2, rfl, Nat.le_of_ble_eq_true rfl, in_X2, _, q178⟩
theorem q553 : (Jvm.Cond.code ({ cls := "TideBoats", name := "doOrder", desc := "(I)I" } : Jvm.MethodName) prog_1_method_25_code (3 : Nat) (Option.some Jvm.ClassFile.FieldType.int)) ∈ lw_all := all_mem 553 (by decide +kernel) (by decide +kernel)
theorem q550 : (Jvm.Cond.methodLink "TideBoats" (89 : Nat) ({ cls := "TideBoats", name := "doOrder", desc := "(I)I" } : Jvm.MethodName)) ∈ lw_all := all_mem 550 (by decide +kernel) (by decide +kernel)
theorem q552 : (Jvm.Cond.instanceMethod ({ cls := "TideBoats", name := "doOrder", desc := "(I)I" } : Jvm.MethodName)) ∈ lw_all := all_mem 552 (by decide +kernel) (by decide +kernel)
theorem qs7 : (Jvm.Cond.selects "TideBoats" ({ cls := "TideBoats", name := "doOrder", desc := "(I)I" } : Jvm.MethodName) ({ cls := "TideBoats", name := "doOrder", desc := "(I)I" } : Jvm.MethodName)) ∈ lw_all := all_memS 7 (by decide +kernel) (by decide +kernel)
theorem kV_X5_89 : CWV RX5 89 RX5 yX5_doOrder cX5_doOrder 3 (some .int) 1 := cwv_mk q550 q552 qs7 q1 q553 ⟨rfl, ⟨by decide +kernel, by decide +kernel, by decide +kernel⟩⟩
theorem q585 : (Jvm.Cond.methodLink "TideBoats" (92 : Nat) ({ cls := "TideBoats$Orders", name := "endOfOrder", desc := "(I)I" } : Jvm.MethodName)) ∈ lw_all := all_mem 585 (by decide +kernel) (by decide +kernel)
theorem kV_X5_92 : CWV RX5 92 RX2 yX2_endOfOrder cX2_endOfOrder 5 (some .int) 1 := cwv_mk q585 q399 q400 q6 q401 ⟨rfl, ⟨by decide +kernel, by decide +kernel, by decide +kernel⟩⟩
theorem q593 : (Jvm.Cond.code ({ cls := "TideBoats$History", name := "takeLatest", desc := "(LTideBoats$State;)I" } : Jvm.MethodName) prog_2_method_3_code (3 : Nat) (Option.some Jvm.ClassFile.FieldType.int)) ∈ lw_all := all_mem 593 (by decide +kernel) (by decide +kernel)
theorem q590 : (Jvm.Cond.methodLink "TideBoats" (95 : Nat) ({ cls := "TideBoats$History", name := "takeLatest", desc := "(LTideBoats$State;)I" } : Jvm.MethodName)) ∈ lw_all := all_mem 590 (by decide +kernel) (by decide +kernel)
theorem q591 : (Jvm.Cond.instanceMethod ({ cls := "TideBoats$History", name := "takeLatest", desc := "(LTideBoats$State;)I" } : Jvm.MethodName)) ∈ lw_all := all_mem 591 (by decide +kernel) (by decide +kernel)
theorem q592 : (Jvm.Cond.selects "TideBoats$History" ({ cls := "TideBoats$History", name := "takeLatest", desc := "(LTideBoats$State;)I" } : Jvm.MethodName) ({ cls := "TideBoats$History", name := "takeLatest", desc := "(LTideBoats$State;)I" } : Jvm.MethodName)) ∈ lw_all := all_mem 592 (by decide +kernel) (by decide +kernel)
theorem kV_X5_95 : CWV RX5 95 RX0 yX0_takeLatest cX0_takeLatest 3 (some .int) 1 := cwv_mk q590 q591 q592 q5 q593 ⟨rfl, ⟨by decide +kernel, by decide +kernel, by decide +kernel⟩⟩
theorem q601 : (Jvm.Cond.code ({ cls := "TideBoats$History", name := "takeSnapshot", desc := "(LTideBoats$State;)V" } : Jvm.MethodName) prog_2_method_4_code (2 : Nat) (Option.none : Option Jvm.ClassFile.FieldType)) ∈ lw_all := all_mem 601 (by decide +kernel) (by decide +kernel)
theorem q598 : (Jvm.Cond.methodLink "TideBoats" (99 : Nat) ({ cls := "TideBoats$History", name := "takeSnapshot", desc := "(LTideBoats$State;)V" } : Jvm.MethodName)) ∈ lw_all := all_mem 598 (by decide +kernel) (by decide +kernel)
theorem q599 : (Jvm.Cond.instanceMethod ({ cls := "TideBoats$History", name := "takeSnapshot", desc := "(LTideBoats$State;)V" } : Jvm.MethodName)) ∈ lw_all := all_mem 599 (by decide +kernel) (by decide +kernel)
theorem q600 : (Jvm.Cond.selects "TideBoats$History" ({ cls := "TideBoats$History", name := "takeSnapshot", desc := "(LTideBoats$State;)V" } : Jvm.MethodName) ({ cls := "TideBoats$History", name := "takeSnapshot", desc := "(LTideBoats$State;)V" } : Jvm.MethodName)) ∈ lw_all := all_mem 600 (by decide +kernel) (by decide +kernel)
theorem kV_X5_99 : CWV RX5 99 RX0 yX0_takeSnapshot cX0_takeSnapshot 2 (none) 1 := cwv_mk q598 q599 q600 q5 q601 ⟨rfl, ⟨by decide +kernel, by decide +kernel, by decide +kernel⟩⟩
theorem q68 : (Jvm.Cond.fieldLinkNest "TideBoats" (102 : Nat) "TideBoats$State" "turn" "I" "TideBoats") ∈ lw_nst := nst_mem 68 (by decide +kernel) (by decide +kernel)
theorem fl_X5_102 : FLN RX5 102 4 9 := ⟨RX4, TX4, 14, rfl, Nat.le_of_ble_eq_true rfl, in_X4, _, q68⟩
theorem q609 : (Jvm.Cond.code ({ cls := "TideBoats$History", name := "giveSnapshot", desc := "(LTideBoats$State;)I" } : Jvm.MethodName) prog_2_method_5_code (2 : Nat) (Option.some Jvm.ClassFile.FieldType.int)) ∈ lw_all := all_mem 609 (by decide +kernel) (by decide +kernel)
theorem q606 : (Jvm.Cond.methodLink "TideBoats" (105 : Nat) ({ cls := "TideBoats$History", name := "giveSnapshot", desc := "(LTideBoats$State;)I" } : Jvm.MethodName)) ∈ lw_all := all_mem 606 (by decide +kernel) (by decide +kernel)
theorem q607 : (Jvm.Cond.instanceMethod ({ cls := "TideBoats$History", name := "giveSnapshot", desc := "(LTideBoats$State;)I" } : Jvm.MethodName)) ∈ lw_all := all_mem 607 (by decide +kernel) (by decide +kernel)
theorem q608 : (Jvm.Cond.selects "TideBoats$History" ({ cls := "TideBoats$History", name := "giveSnapshot", desc := "(LTideBoats$State;)I" } : Jvm.MethodName) ({ cls := "TideBoats$History", name := "giveSnapshot", desc := "(LTideBoats$State;)I" } : Jvm.MethodName)) ∈ lw_all := all_mem 608 (by decide +kernel) (by decide +kernel)
theorem kV_X5_105 : CWV RX5 105 RX0 yX0_giveSnapshot cX0_giveSnapshot 2 (some .int) 1 := cwv_mk q606 q607 q608 q5 q609 ⟨rfl, ⟨by decide +kernel, by decide +kernel, by decide +kernel⟩⟩
theorem q342 : (Jvm.Cond.methodLink "TideBoats" (108 : Nat) ({ cls := "TideBoats", name := "isCell", desc := "(I)Z" } : Jvm.MethodName)) ∈ lw_all := all_mem 342 (by decide +kernel) (by decide +kernel)
theorem kS_X5_108 : CWS RX5 108 yX5_isCell cX5_isCell 1 (some .boolean) 1 := cws_mk q342 q220 q1 q221 ⟨by decide +kernel, by decide +kernel, by decide +kernel⟩
theorem q37 : (Jvm.Cond.fieldLinkNest "TideBoats" (112 : Nat) "TideBoats$State" "heights" "[I" "TideBoats") ∈ lw_nst := nst_mem 37 (by decide +kernel) (by decide +kernel)
theorem fl_X5_112 : FLN RX5 112 4 0 := ⟨RX4, TX4, 14, rfl, Nat.le_of_ble_eq_true rfl, in_X4, _, q37⟩
theorem q614 : (Jvm.Cond.methodLink "TideBoats" (116 : Nat) ({ cls := "TideBoats", name := "read", desc := "([II)I" } : Jvm.MethodName)) ∈ lw_all := all_mem 614 (by decide +kernel) (by decide +kernel)
theorem kS_X5_116 : CWS RX5 116 yX5_read cX5_read 2 (some .int) 2 := cws_mk q614 q224 q1 q225 ⟨by decide +kernel, by decide +kernel, by decide +kernel⟩
theorem q41 : (Jvm.Cond.fieldLinkNest "TideBoats" (120 : Nat) "TideBoats$State" "rocks" "[I" "TideBoats") ∈ lw_nst := nst_mem 41 (by decide +kernel) (by decide +kernel)
theorem fl_X5_120 : FLN RX5 120 4 1 := ⟨RX4, TX4, 14, rfl, Nat.le_of_ble_eq_true rfl, in_X4, _, q41⟩
theorem q618 : (Jvm.Cond.code ({ cls := "TideBoats$State", name := "waterOver", desc := "(I)I" } : Jvm.MethodName) prog_6_method_7_code (2 : Nat) (Option.some Jvm.ClassFile.FieldType.int)) ∈ lw_all := all_mem 618 (by decide +kernel) (by decide +kernel)
theorem q615 : (Jvm.Cond.methodLink "TideBoats" (123 : Nat) ({ cls := "TideBoats$State", name := "waterOver", desc := "(I)I" } : Jvm.MethodName)) ∈ lw_all := all_mem 615 (by decide +kernel) (by decide +kernel)
theorem q616 : (Jvm.Cond.instanceMethod ({ cls := "TideBoats$State", name := "waterOver", desc := "(I)I" } : Jvm.MethodName)) ∈ lw_all := all_mem 616 (by decide +kernel) (by decide +kernel)
theorem q617 : (Jvm.Cond.selects "TideBoats$State" ({ cls := "TideBoats$State", name := "waterOver", desc := "(I)I" } : Jvm.MethodName) ({ cls := "TideBoats$State", name := "waterOver", desc := "(I)I" } : Jvm.MethodName)) ∈ lw_all := all_mem 617 (by decide +kernel) (by decide +kernel)
theorem kV_X5_123 : CWV RX5 123 RX4 yX4_waterOver cX4_waterOver 2 (some .int) 1 := cwv_mk q615 q616 q617 q2 q618 ⟨rfl, ⟨by decide +kernel, by decide +kernel, by decide +kernel⟩⟩
theorem q620 : (Jvm.Cond.methodLink "TideBoats" (126 : Nat) ({ cls := "TideBoats$State", name := "boatAt", desc := "(I)I" } : Jvm.MethodName)) ∈ lw_all := all_mem 620 (by decide +kernel) (by decide +kernel)
theorem kV_X5_126 : CWV RX5 126 RX4 yX4_boatAt cX4_boatAt 3 (some .int) 1 := cwv_mk q620 q259 q260 q2 q261 ⟨rfl, ⟨by decide +kernel, by decide +kernel, by decide +kernel⟩⟩
theorem q625 : (Jvm.Cond.methodLink "TideBoats" (129 : Nat) ({ cls := "TideBoats$State", name := "isBoat", desc := "(I)Z" } : Jvm.MethodName)) ∈ lw_all := all_mem 625 (by decide +kernel) (by decide +kernel)
theorem kV_X5_129 : CWV RX5 129 RX4 yX4_isBoat cX4_isBoat 2 (some .boolean) 1 := cwv_mk q625 q296 q297 q2 q298 ⟨rfl, ⟨by decide +kernel, by decide +kernel, by decide +kernel⟩⟩
theorem q45 : (Jvm.Cond.fieldLinkNest "TideBoats" (132 : Nat) "TideBoats$State" "owners" "[I" "TideBoats") ∈ lw_nst := nst_mem 45 (by decide +kernel) (by decide +kernel)
theorem fl_X5_132 : FLN RX5 132 4 2 := ⟨RX4, TX4, 14, rfl, Nat.le_of_ble_eq_true rfl, in_X4, _, q45⟩
theorem q49 : (Jvm.Cond.fieldLinkNest "TideBoats" (135 : Nat) "TideBoats$State" "drafts" "[I" "TideBoats") ∈ lw_nst := nst_mem 49 (by decide +kernel) (by decide +kernel)
theorem fl_X5_135 : FLN RX5 135 4 3 := ⟨RX4, TX4, 14, rfl, Nat.le_of_ble_eq_true rfl, in_X4, _, q49⟩
theorem q52 : (Jvm.Cond.fieldLinkNest "TideBoats" (138 : Nat) "TideBoats$State" "conditions" "[I" "TideBoats") ∈ lw_nst := nst_mem 52 (by decide +kernel) (by decide +kernel)
theorem fl_X5_138 : FLN RX5 138 4 4 := ⟨RX4, TX4, 14, rfl, Nat.le_of_ble_eq_true rfl, in_X4, _, q52⟩
theorem q626 : (Jvm.Cond.methodLink "TideBoats" (141 : Nat) ({ cls := "TideBoats$State", name := "isOnBoard", desc := "(I)Z" } : Jvm.MethodName)) ∈ lw_all := all_mem 626 (by decide +kernel) (by decide +kernel)
theorem kV_X5_141 : CWV RX5 141 RX4 yX4_isOnBoard cX4_isOnBoard 2 (some .boolean) 1 := cwv_mk q626 q312 q313 q2 q314 ⟨rfl, ⟨by decide +kernel, by decide +kernel, by decide +kernel⟩⟩
theorem q55 : (Jvm.Cond.fieldLinkNest "TideBoats" (144 : Nat) "TideBoats$State" "places" "[I" "TideBoats") ∈ lw_nst := nst_mem 55 (by decide +kernel) (by decide +kernel)
theorem fl_X5_144 : FLN RX5 144 4 5 := ⟨RX4, TX4, 14, rfl, Nat.le_of_ble_eq_true rfl, in_X4, _, q55⟩
theorem q627 : (Jvm.Cond.methodLink "TideBoats" (147 : Nat) ({ cls := "TideBoats$State", name := "floats", desc := "(I)Z" } : Jvm.MethodName)) ∈ lw_all := all_mem 627 (by decide +kernel) (by decide +kernel)
theorem kV_X5_147 : CWV RX5 147 RX4 yX4_floats cX4_floats 2 (some .boolean) 1 := cwv_mk q627 q321 q322 q2 q323 ⟨rfl, ⟨by decide +kernel, by decide +kernel, by decide +kernel⟩⟩
theorem q58 : (Jvm.Cond.fieldLinkNest "TideBoats" (150 : Nat) "TideBoats$State" "stepsGone" "[I" "TideBoats") ∈ lw_nst := nst_mem 58 (by decide +kernel) (by decide +kernel)
theorem fl_X5_150 : FLN RX5 150 4 6 := ⟨RX4, TX4, 14, rfl, Nat.le_of_ble_eq_true rfl, in_X4, _, q58⟩
theorem q631 : (Jvm.Cond.code ({ cls := "TideBoats$Rules", name := "movesOf", desc := "(I)I" } : Jvm.MethodName) prog_5_method_9_code (5 : Nat) (Option.some Jvm.ClassFile.FieldType.int)) ∈ lw_all := all_mem 631 (by decide +kernel) (by decide +kernel)
theorem q628 : (Jvm.Cond.methodLink "TideBoats" (153 : Nat) ({ cls := "TideBoats$Rules", name := "movesOf", desc := "(I)I" } : Jvm.MethodName)) ∈ lw_all := all_mem 628 (by decide +kernel) (by decide +kernel)
theorem q629 : (Jvm.Cond.instanceMethod ({ cls := "TideBoats$Rules", name := "movesOf", desc := "(I)I" } : Jvm.MethodName)) ∈ lw_all := all_mem 629 (by decide +kernel) (by decide +kernel)
theorem q630 : (Jvm.Cond.selects "TideBoats$Rules" ({ cls := "TideBoats$Rules", name := "movesOf", desc := "(I)I" } : Jvm.MethodName) ({ cls := "TideBoats$Rules", name := "movesOf", desc := "(I)I" } : Jvm.MethodName)) ∈ lw_all := all_mem 630 (by decide +kernel) (by decide +kernel)
theorem kV_X5_153 : CWV RX5 153 RX3 yX3_movesOf cX3_movesOf 5 (some .int) 1 := cwv_mk q628 q629 q630 q3 q631 ⟨rfl, ⟨by decide +kernel, by decide +kernel, by decide +kernel⟩⟩
theorem q636 : (Jvm.Cond.methodLink "TideBoats" (156 : Nat) ({ cls := "TideBoats$State", name := "tideIn", desc := "(I)I" } : Jvm.MethodName)) ∈ lw_all := all_mem 636 (by decide +kernel) (by decide +kernel)
theorem kV_X5_156 : CWV RX5 156 RX4 yX4_tideIn cX4_tideIn 4 (some .int) 1 := cwv_mk q636 q329 q330 q2 q331 ⟨rfl, ⟨by decide +kernel, by decide +kernel, by decide +kernel⟩⟩
theorem q641 : (Jvm.Cond.methodLink "TideBoats" (159 : Nat) ({ cls := "TideBoats$Rules", name := "errorOfMove", desc := "(III)I" } : Jvm.MethodName)) ∈ lw_all := all_mem 641 (by decide +kernel) (by decide +kernel)
theorem kV_X5_159 : CWV RX5 159 RX3 yX3_errorOfMove cX3_errorOfMove 4 (some .int) 3 := cwv_mk q641 q292 q293 q3 q294 ⟨rfl, ⟨by decide +kernel, by decide +kernel, by decide +kernel⟩⟩
theorem q642 : (Jvm.Cond.methodLink "TideBoats" (162 : Nat) ({ cls := "TideBoats$Rules", name := "reasonAgainst", desc := "(IIIZ)I" } : Jvm.MethodName)) ∈ lw_all := all_mem 642 (by decide +kernel) (by decide +kernel)
theorem kV_X5_162 : CWV RX5 162 RX3 yX3_reasonAgainst cX3_reasonAgainst 5 (some .int) 4 := cwv_mk q642 q300 q301 q3 q302 ⟨rfl, ⟨by decide +kernel, by decide +kernel, by decide +kernel⟩⟩
theorem q647 : (Jvm.Cond.methodLink "TideBoats" (166 : Nat) ({ cls := "TideBoats$State", name := "mover", desc := "()I" } : Jvm.MethodName)) ∈ lw_all := all_mem 647 (by decide +kernel) (by decide +kernel)
theorem kV_X5_166 : CWV RX5 166 RX4 yX4_mover cX4_mover 1 (some .int) 0 := cwv_mk q647 q317 q318 q2 q319 ⟨rfl, ⟨by decide +kernel, by decide +kernel, by decide +kernel⟩⟩
theorem q651 : (Jvm.Cond.code ({ cls := "TideBoats$State", name := "scoreOf", desc := "(I)I" } : Jvm.MethodName) prog_6_method_16_code (4 : Nat) (Option.some Jvm.ClassFile.FieldType.int)) ∈ lw_all := all_mem 651 (by decide +kernel) (by decide +kernel)
theorem q648 : (Jvm.Cond.methodLink "TideBoats" (169 : Nat) ({ cls := "TideBoats$State", name := "scoreOf", desc := "(I)I" } : Jvm.MethodName)) ∈ lw_all := all_mem 648 (by decide +kernel) (by decide +kernel)
theorem q649 : (Jvm.Cond.instanceMethod ({ cls := "TideBoats$State", name := "scoreOf", desc := "(I)I" } : Jvm.MethodName)) ∈ lw_all := all_mem 649 (by decide +kernel) (by decide +kernel)
theorem q650 : (Jvm.Cond.selects "TideBoats$State" ({ cls := "TideBoats$State", name := "scoreOf", desc := "(I)I" } : Jvm.MethodName) ({ cls := "TideBoats$State", name := "scoreOf", desc := "(I)I" } : Jvm.MethodName)) ∈ lw_all := all_mem 650 (by decide +kernel) (by decide +kernel)
theorem kV_X5_169 : CWV RX5 169 RX4 yX4_scoreOf cX4_scoreOf 4 (some .int) 1 := cwv_mk q648 q649 q650 q2 q651 ⟨rfl, ⟨by decide +kernel, by decide +kernel, by decide +kernel⟩⟩
theorem q61 : (Jvm.Cond.fieldLinkNest "TideBoats" (172 : Nat) "TideBoats$State" "boats" "I" "TideBoats") ∈ lw_nst := nst_mem 61 (by decide +kernel) (by decide +kernel)
theorem fl_X5_172 : FLN RX5 172 4 7 := ⟨RX4, TX4, 14, rfl, Nat.le_of_ble_eq_true rfl, in_X4, _, q61⟩
theorem q652 : (Jvm.Cond.methodLink "TideBoats" (175 : Nat) ({ cls := "TideBoats$State", name := "boatsThatAre", desc := "(I)I" } : Jvm.MethodName)) ∈ lw_all := all_mem 652 (by decide +kernel) (by decide +kernel)
theorem kV_X5_175 : CWV RX5 175 RX4 yX4_boatsThatAre cX4_boatsThatAre 4 (some .int) 1 := cwv_mk q652 q308 q309 q2 q310 ⟨rfl, ⟨by decide +kernel, by decide +kernel, by decide +kernel⟩⟩
theorem q656 : (Jvm.Cond.code ({ cls := "TideBoats$State", name := "boatsAground", desc := "()I" } : Jvm.MethodName) prog_6_method_15_code (3 : Nat) (Option.some Jvm.ClassFile.FieldType.int)) ∈ lw_all := all_mem 656 (by decide +kernel) (by decide +kernel)
theorem q653 : (Jvm.Cond.methodLink "TideBoats" (178 : Nat) ({ cls := "TideBoats$State", name := "boatsAground", desc := "()I" } : Jvm.MethodName)) ∈ lw_all := all_mem 653 (by decide +kernel) (by decide +kernel)
theorem q654 : (Jvm.Cond.instanceMethod ({ cls := "TideBoats$State", name := "boatsAground", desc := "()I" } : Jvm.MethodName)) ∈ lw_all := all_mem 654 (by decide +kernel) (by decide +kernel)
theorem q655 : (Jvm.Cond.selects "TideBoats$State" ({ cls := "TideBoats$State", name := "boatsAground", desc := "()I" } : Jvm.MethodName) ({ cls := "TideBoats$State", name := "boatsAground", desc := "()I" } : Jvm.MethodName)) ∈ lw_all := all_mem 655 (by decide +kernel) (by decide +kernel)
theorem kV_X5_178 : CWV RX5 178 RX4 yX4_boatsAground cX4_boatsAground 3 (some .int) 0 := cwv_mk q653 q654 q655 q2 q656 ⟨rfl, ⟨by decide +kernel, by decide +kernel, by decide +kernel⟩⟩
theorem q64 : (Jvm.Cond.fieldLinkNest "TideBoats" (181 : Nat) "TideBoats$State" "boatsRammed" "I" "TideBoats") ∈ lw_nst := nst_mem 64 (by decide +kernel) (by decide +kernel)
theorem fl_X5_181 : FLN RX5 181 4 8 := ⟨RX4, TX4, 14, rfl, Nat.le_of_ble_eq_true rfl, in_X4, _, q64⟩
theorem q658 : (Jvm.Cond.methodLink "TideBoats" (184 : Nat) ({ cls := "TideBoats$State", name := "isOver", desc := "()Z" } : Jvm.MethodName)) ∈ lw_all := all_mem 658 (by decide +kernel) (by decide +kernel)
theorem kV_X5_184 : CWV RX5 184 RX4 yX4_isOver cX4_isOver 1 (some .boolean) 0 := cwv_mk q658 q304 q305 q2 q306 ⟨rfl, ⟨by decide +kernel, by decide +kernel, by decide +kernel⟩⟩
theorem q662 : (Jvm.Cond.code ({ cls := "TideBoats", name := "movesOfMover", desc := "()I" } : Jvm.MethodName) prog_1_method_26_code (3 : Nat) (Option.some Jvm.ClassFile.FieldType.int)) ∈ lw_all := all_mem 662 (by decide +kernel) (by decide +kernel)
theorem q659 : (Jvm.Cond.methodLink "TideBoats" (188 : Nat) ({ cls := "TideBoats", name := "movesOfMover", desc := "()I" } : Jvm.MethodName)) ∈ lw_all := all_mem 659 (by decide +kernel) (by decide +kernel)
theorem q661 : (Jvm.Cond.instanceMethod ({ cls := "TideBoats", name := "movesOfMover", desc := "()I" } : Jvm.MethodName)) ∈ lw_all := all_mem 661 (by decide +kernel) (by decide +kernel)
theorem qs8 : (Jvm.Cond.selects "TideBoats" ({ cls := "TideBoats", name := "movesOfMover", desc := "()I" } : Jvm.MethodName) ({ cls := "TideBoats", name := "movesOfMover", desc := "()I" } : Jvm.MethodName)) ∈ lw_all := all_memS 8 (by decide +kernel) (by decide +kernel)
theorem kV_X5_188 : CWV RX5 188 RX5 yX5_movesOfMover cX5_movesOfMover 3 (some .int) 0 := cwv_mk q659 q661 qs8 q1 q662 ⟨rfl, ⟨by decide +kernel, by decide +kernel, by decide +kernel⟩⟩
theorem q159 : (Jvm.Cond.fieldLinkNest "TideBoats" (191 : Nat) "TideBoats$History" "size" "I" "TideBoats") ∈ lw_nst := nst_mem 159 (by decide +kernel) (by decide +kernel)
theorem fl_X5_191 : FLN RX5 191 0 2 := ⟨RX0, TX0, 4, rfl, Nat.le_of_ble_eq_true rfl, in_X0, _, q159⟩
theorem q70 : (Jvm.Cond.fieldLinkNest "TideBoats" (194 : Nat) "TideBoats$State" "lowWater" "I" "TideBoats") ∈ lw_nst := nst_mem 70 (by decide +kernel) (by decide +kernel)
theorem fl_X5_194 : FLN RX5 194 4 10 := ⟨RX4, TX4, 14, rfl, Nat.le_of_ble_eq_true rfl, in_X4, _, q70⟩
theorem q72 : (Jvm.Cond.fieldLinkNest "TideBoats" (197 : Nat) "TideBoats$State" "riseSteps" "I" "TideBoats") ∈ lw_nst := nst_mem 72 (by decide +kernel) (by decide +kernel)
theorem fl_X5_197 : FLN RX5 197 4 11 := ⟨RX4, TX4, 14, rfl, Nat.le_of_ble_eq_true rfl, in_X4, _, q72⟩
theorem q74 : (Jvm.Cond.fieldLinkNest "TideBoats" (200 : Nat) "TideBoats$State" "stepTurns" "I" "TideBoats") ∈ lw_nst := nst_mem 74 (by decide +kernel) (by decide +kernel)
theorem fl_X5_200 : FLN RX5 200 4 12 := ⟨RX4, TX4, 14, rfl, Nat.le_of_ble_eq_true rfl, in_X4, _, q74⟩
theorem q77 : (Jvm.Cond.fieldLinkNest "TideBoats" (203 : Nat) "TideBoats$State" "lastTurn" "I" "TideBoats") ∈ lw_nst := nst_mem 77 (by decide +kernel) (by decide +kernel)
theorem fl_X5_203 : FLN RX5 203 4 13 := ⟨RX4, TX4, 14, rfl, Nat.le_of_ble_eq_true rfl, in_X4, _, q77⟩
theorem q670 : (Jvm.Cond.code ({ cls := "TideBoats$State", name := "turnsOfTide", desc := "()I" } : Jvm.MethodName) prog_6_method_5_code (1 : Nat) (Option.some Jvm.ClassFile.FieldType.int)) ∈ lw_all := all_mem 670 (by decide +kernel) (by decide +kernel)
theorem q667 : (Jvm.Cond.methodLink "TideBoats" (206 : Nat) ({ cls := "TideBoats$State", name := "turnsOfTide", desc := "()I" } : Jvm.MethodName)) ∈ lw_all := all_mem 667 (by decide +kernel) (by decide +kernel)
theorem q668 : (Jvm.Cond.instanceMethod ({ cls := "TideBoats$State", name := "turnsOfTide", desc := "()I" } : Jvm.MethodName)) ∈ lw_all := all_mem 668 (by decide +kernel) (by decide +kernel)
theorem q669 : (Jvm.Cond.selects "TideBoats$State" ({ cls := "TideBoats$State", name := "turnsOfTide", desc := "()I" } : Jvm.MethodName) ({ cls := "TideBoats$State", name := "turnsOfTide", desc := "()I" } : Jvm.MethodName)) ∈ lw_all := all_mem 669 (by decide +kernel) (by decide +kernel)
theorem kV_X5_206 : CWV RX5 206 RX4 yX4_turnsOfTide cX4_turnsOfTide 1 (some .int) 0 := cwv_mk q667 q668 q669 q2 q670 ⟨rfl, ⟨by decide +kernel, by decide +kernel, by decide +kernel⟩⟩
theorem q671 : (Jvm.Cond.methodLink "TideBoats" (209 : Nat) ({ cls := "TideBoats", name := "isDraft", desc := "(I)Z" } : Jvm.MethodName)) ∈ lw_all := all_mem 671 (by decide +kernel) (by decide +kernel)
theorem kS_X5_209 : CWS RX5 209 yX5_isDraft cX5_isDraft 1 (some .boolean) 1 := cws_mk q671 q256 q1 q257 ⟨by decide +kernel, by decide +kernel, by decide +kernel⟩
theorem q673 : (Jvm.Cond.methodLink "TideBoats" (213 : Nat) ({ cls := "TideBoats$State", name := "isWet", desc := "(III)Z" } : Jvm.MethodName)) ∈ lw_all := all_mem 673 (by decide +kernel) (by decide +kernel)
theorem kV_X5_213 : CWV RX5 213 RX4 yX4_isWet cX4_isWet 4 (some .boolean) 3 := cwv_mk q673 q325 q326 q2 q327 ⟨rfl, ⟨by decide +kernel, by decide +kernel, by decide +kernel⟩⟩
theorem q685 : (Jvm.Cond.code ({ cls := "TideBoats$HomeSearch", name := "prepare", desc := "(I)V" } : Jvm.MethodName) prog_3_method_2_code (4 : Nat) (Option.none : Option Jvm.ClassFile.FieldType)) ∈ lw_all := all_mem 685 (by decide +kernel) (by decide +kernel)
theorem q682 : (Jvm.Cond.methodLink "TideBoats" (217 : Nat) ({ cls := "TideBoats$HomeSearch", name := "prepare", desc := "(I)V" } : Jvm.MethodName)) ∈ lw_all := all_mem 682 (by decide +kernel) (by decide +kernel)
theorem q683 : (Jvm.Cond.instanceMethod ({ cls := "TideBoats$HomeSearch", name := "prepare", desc := "(I)V" } : Jvm.MethodName)) ∈ lw_all := all_mem 683 (by decide +kernel) (by decide +kernel)
theorem q684 : (Jvm.Cond.selects "TideBoats$HomeSearch" ({ cls := "TideBoats$HomeSearch", name := "prepare", desc := "(I)V" } : Jvm.MethodName) ({ cls := "TideBoats$HomeSearch", name := "prepare", desc := "(I)V" } : Jvm.MethodName)) ∈ lw_all := all_mem 684 (by decide +kernel) (by decide +kernel)
theorem kV_X5_217 : CWV RX5 217 RX1 yX1_prepare cX1_prepare 4 (none) 1 := cwv_mk q682 q683 q684 q4 q685 ⟨rfl, ⟨by decide +kernel, by decide +kernel, by decide +kernel⟩⟩
theorem q693 : (Jvm.Cond.methodLink "TideBoats" (221 : Nat) ({ cls := "TideBoats$HomeSearch", name := "turnsForwards", desc := "(II)I" } : Jvm.MethodName)) ∈ lw_all := all_mem 693 (by decide +kernel) (by decide +kernel)
theorem kV_X5_221 : CWV RX5 221 RX1 yX1_turnsForwards cX1_turnsForwards 6 (some .int) 2 := cwv_mk q693 q694 q695 q4 q696 ⟨rfl, ⟨by decide +kernel, by decide +kernel, by decide +kernel⟩⟩
theorem q721 : (Jvm.Cond.code ({ cls := "TideBoats$HomeSearch", name := "turnsBackwards", desc := "(II)I" } : Jvm.MethodName) prog_3_method_4_code (4 : Nat) (Option.some Jvm.ClassFile.FieldType.int)) ∈ lw_all := all_mem 721 (by decide +kernel) (by decide +kernel)
theorem q718 : (Jvm.Cond.methodLink "TideBoats" (224 : Nat) ({ cls := "TideBoats$HomeSearch", name := "turnsBackwards", desc := "(II)I" } : Jvm.MethodName)) ∈ lw_all := all_mem 718 (by decide +kernel) (by decide +kernel)
theorem q719 : (Jvm.Cond.instanceMethod ({ cls := "TideBoats$HomeSearch", name := "turnsBackwards", desc := "(II)I" } : Jvm.MethodName)) ∈ lw_all := all_mem 719 (by decide +kernel) (by decide +kernel)
theorem q720 : (Jvm.Cond.selects "TideBoats$HomeSearch" ({ cls := "TideBoats$HomeSearch", name := "turnsBackwards", desc := "(II)I" } : Jvm.MethodName) ({ cls := "TideBoats$HomeSearch", name := "turnsBackwards", desc := "(II)I" } : Jvm.MethodName)) ∈ lw_all := all_mem 720 (by decide +kernel) (by decide +kernel)
theorem kV_X5_224 : CWV RX5 224 RX1 yX1_turnsBackwards cX1_turnsBackwards 4 (some .int) 2 := cwv_mk q718 q719 q720 q4 q721 ⟨rfl, ⟨by decide +kernel, by decide +kernel, by decide +kernel⟩⟩
theorem q734 : (Jvm.Cond.methodLink "TideBoats" (227 : Nat) ({ cls := "TideBoats", name := "isPlayer", desc := "(I)Z" } : Jvm.MethodName)) ∈ lw_all := all_mem 734 (by decide +kernel) (by decide +kernel)
theorem kS_X5_227 : CWS RX5 227 yX5_isPlayer cX5_isPlayer 1 (some .boolean) 1 := cws_mk q734 q253 q1 q254 ⟨by decide +kernel, by decide +kernel, by decide +kernel⟩
theorem q735 : (Jvm.Cond.methodLink "TideBoats" (230 : Nat) ({ cls := "TideBoats$State", name := "isWreckedAhead", desc := "(I)Z" } : Jvm.MethodName)) ∈ lw_all := all_mem 735 (by decide +kernel) (by decide +kernel)
theorem kV_X5_230 : CWV RX5 230 RX4 yX4_isWreckedAhead cX4_isWreckedAhead 3 (some .boolean) 1 := cwv_mk q735 q361 q362 q2 q363 ⟨rfl, ⟨by decide +kernel, by decide +kernel, by decide +kernel⟩⟩
theorem q743 : (Jvm.Cond.code ({ cls := "TideBoats", name := "worthOf", desc := "(III)I" } : Jvm.MethodName) prog_1_method_27_code (7 : Nat) (Option.some Jvm.ClassFile.FieldType.int)) ∈ lw_all := all_mem 743 (by decide +kernel) (by decide +kernel)
theorem q740 : (Jvm.Cond.methodLink "TideBoats" (233 : Nat) ({ cls := "TideBoats", name := "worthOf", desc := "(III)I" } : Jvm.MethodName)) ∈ lw_all := all_mem 740 (by decide +kernel) (by decide +kernel)
theorem q742 : (Jvm.Cond.instanceMethod ({ cls := "TideBoats", name := "worthOf", desc := "(III)I" } : Jvm.MethodName)) ∈ lw_all := all_mem 742 (by decide +kernel) (by decide +kernel)
theorem qs14 : (Jvm.Cond.selects "TideBoats" ({ cls := "TideBoats", name := "worthOf", desc := "(III)I" } : Jvm.MethodName) ({ cls := "TideBoats", name := "worthOf", desc := "(III)I" } : Jvm.MethodName)) ∈ lw_all := all_memS 14 (by decide +kernel) (by decide +kernel)
theorem kV_X5_233 : CWV RX5 233 RX5 yX5_worthOf cX5_worthOf 7 (some .int) 3 := cwv_mk q740 q742 qs14 q1 q743 ⟨rfl, ⟨by decide +kernel, by decide +kernel, by decide +kernel⟩⟩
theorem q234 : (Jvm.Cond.code ({ cls := "TideBoats$History", name := "record", desc := "(LTideBoats$State;)V" } : Jvm.MethodName) prog_2_method_2_code (3 : Nat) (Option.none : Option Jvm.ClassFile.FieldType)) ∈ lw_all := all_mem 234 (by decide +kernel) (by decide +kernel)
theorem q231 : (Jvm.Cond.methodLink "TideBoats" (236 : Nat) ({ cls := "TideBoats$History", name := "record", desc := "(LTideBoats$State;)V" } : Jvm.MethodName)) ∈ lw_all := all_mem 231 (by decide +kernel) (by decide +kernel)
theorem q232 : (Jvm.Cond.instanceMethod ({ cls := "TideBoats$History", name := "record", desc := "(LTideBoats$State;)V" } : Jvm.MethodName)) ∈ lw_all := all_mem 232 (by decide +kernel) (by decide +kernel)
theorem q233 : (Jvm.Cond.selects "TideBoats$History" ({ cls := "TideBoats$History", name := "record", desc := "(LTideBoats$State;)V" } : Jvm.MethodName) ({ cls := "TideBoats$History", name := "record", desc := "(LTideBoats$State;)V" } : Jvm.MethodName)) ∈ lw_all := all_mem 233 (by decide +kernel) (by decide +kernel)
theorem kV_X5_236 : CWV RX5 236 RX0 yX0_record cX0_record 3 (none) 1 := cwv_mk q231 q232 q233 q5 q234 ⟨rfl, ⟨by decide +kernel, by decide +kernel, by decide +kernel⟩⟩
theorem q554 : (Jvm.Cond.methodLink "TideBoats" (239 : Nat) ({ cls := "TideBoats$Orders", name := "signAt", desc := "(I)C" } : Jvm.MethodName)) ∈ lw_all := all_mem 554 (by decide +kernel) (by decide +kernel)
theorem kV_X5_239 : CWV RX5 239 RX2 yX2_signAt cX2_signAt 2 (some .char) 1 := cwv_mk q554 q403 q404 q6 q405 ⟨rfl, ⟨by decide +kernel, by decide +kernel, by decide +kernel⟩⟩
theorem q555 : (Jvm.Cond.methodLink "TideBoats" (243 : Nat) ({ cls := "TideBoats$Orders", name := "isColumn", desc := "(C)Z" } : Jvm.MethodName)) ∈ lw_all := all_mem 555 (by decide +kernel) (by decide +kernel)
theorem kS_X5_243 : CWS RX5 243 yX2_isColumn cX2_isColumn 1 (some .boolean) 1 := cws_mk q555 q410 q6 q411 ⟨by decide +kernel, by decide +kernel, by decide +kernel⟩
theorem q559 : (Jvm.Cond.code ({ cls := "TideBoats$Orders", name := "cellAt", desc := "(I)I" } : Jvm.MethodName) prog_4_method_8_code (2 : Nat) (Option.some Jvm.ClassFile.FieldType.int)) ∈ lw_all := all_mem 559 (by decide +kernel) (by decide +kernel)
theorem q556 : (Jvm.Cond.methodLink "TideBoats" (247 : Nat) ({ cls := "TideBoats$Orders", name := "cellAt", desc := "(I)I" } : Jvm.MethodName)) ∈ lw_all := all_mem 556 (by decide +kernel) (by decide +kernel)
theorem q557 : (Jvm.Cond.instanceMethod ({ cls := "TideBoats$Orders", name := "cellAt", desc := "(I)I" } : Jvm.MethodName)) ∈ lw_all := all_mem 557 (by decide +kernel) (by decide +kernel)
theorem q558 : (Jvm.Cond.selects "TideBoats$Orders" ({ cls := "TideBoats$Orders", name := "cellAt", desc := "(I)I" } : Jvm.MethodName) ({ cls := "TideBoats$Orders", name := "cellAt", desc := "(I)I" } : Jvm.MethodName)) ∈ lw_all := all_mem 558 (by decide +kernel) (by decide +kernel)
theorem kV_X5_247 : CWV RX5 247 RX2 yX2_cellAt cX2_cellAt 2 (some .int) 1 := cwv_mk q556 q557 q558 q6 q559 ⟨rfl, ⟨by decide +kernel, by decide +kernel, by decide +kernel⟩⟩
theorem q563 : (Jvm.Cond.code ({ cls := "TideBoats$Orders", name := "heightAt", desc := "(I)I" } : Jvm.MethodName) prog_4_method_9_code (2 : Nat) (Option.some Jvm.ClassFile.FieldType.int)) ∈ lw_all := all_mem 563 (by decide +kernel) (by decide +kernel)
theorem q560 : (Jvm.Cond.methodLink "TideBoats" (250 : Nat) ({ cls := "TideBoats$Orders", name := "heightAt", desc := "(I)I" } : Jvm.MethodName)) ∈ lw_all := all_mem 560 (by decide +kernel) (by decide +kernel)
theorem q561 : (Jvm.Cond.instanceMethod ({ cls := "TideBoats$Orders", name := "heightAt", desc := "(I)I" } : Jvm.MethodName)) ∈ lw_all := all_mem 561 (by decide +kernel) (by decide +kernel)
theorem q562 : (Jvm.Cond.selects "TideBoats$Orders" ({ cls := "TideBoats$Orders", name := "heightAt", desc := "(I)I" } : Jvm.MethodName) ({ cls := "TideBoats$Orders", name := "heightAt", desc := "(I)I" } : Jvm.MethodName)) ∈ lw_all := all_mem 562 (by decide +kernel) (by decide +kernel)
theorem kV_X5_250 : CWV RX5 250 RX2 yX2_heightAt cX2_heightAt 2 (some .int) 1 := cwv_mk q560 q561 q562 q6 q563 ⟨rfl, ⟨by decide +kernel, by decide +kernel, by decide +kernel⟩⟩
theorem q564 : (Jvm.Cond.methodLink "TideBoats" (253 : Nat) ({ cls := "TideBoats$Orders", name := "isRockAt", desc := "(I)Z" } : Jvm.MethodName)) ∈ lw_all := all_mem 564 (by decide +kernel) (by decide +kernel)
theorem kV_X5_253 : CWV RX5 253 RX2 yX2_isRockAt cX2_isRockAt 2 (some .boolean) 1 := cwv_mk q564 q542 q543 q6 q544 ⟨rfl, ⟨by decide +kernel, by decide +kernel, by decide +kernel⟩⟩
theorem q568 : (Jvm.Cond.code ({ cls := "TideBoats$Orders", name := "playerAt", desc := "(I)I" } : Jvm.MethodName) prog_4_method_10_code (2 : Nat) (Option.some Jvm.ClassFile.FieldType.int)) ∈ lw_all := all_mem 568 (by decide +kernel) (by decide +kernel)
theorem q565 : (Jvm.Cond.methodLink "TideBoats" (256 : Nat) ({ cls := "TideBoats$Orders", name := "playerAt", desc := "(I)I" } : Jvm.MethodName)) ∈ lw_all := all_mem 565 (by decide +kernel) (by decide +kernel)
theorem q566 : (Jvm.Cond.instanceMethod ({ cls := "TideBoats$Orders", name := "playerAt", desc := "(I)I" } : Jvm.MethodName)) ∈ lw_all := all_mem 566 (by decide +kernel) (by decide +kernel)
theorem q567 : (Jvm.Cond.selects "TideBoats$Orders" ({ cls := "TideBoats$Orders", name := "playerAt", desc := "(I)I" } : Jvm.MethodName) ({ cls := "TideBoats$Orders", name := "playerAt", desc := "(I)I" } : Jvm.MethodName)) ∈ lw_all := all_mem 567 (by decide +kernel) (by decide +kernel)
theorem kV_X5_256 : CWV RX5 256 RX2 yX2_playerAt cX2_playerAt 2 (some .int) 1 := cwv_mk q565 q566 q567 q6 q568 ⟨rfl, ⟨by decide +kernel, by decide +kernel, by decide +kernel⟩⟩
theorem q572 : (Jvm.Cond.code ({ cls := "TideBoats$Orders", name := "draftAt", desc := "(I)I" } : Jvm.MethodName) prog_4_method_11_code (2 : Nat) (Option.some Jvm.ClassFile.FieldType.int)) ∈ lw_all := all_mem 572 (by decide +kernel) (by decide +kernel)
theorem q569 : (Jvm.Cond.methodLink "TideBoats" (259 : Nat) ({ cls := "TideBoats$Orders", name := "draftAt", desc := "(I)I" } : Jvm.MethodName)) ∈ lw_all := all_mem 569 (by decide +kernel) (by decide +kernel)
theorem q570 : (Jvm.Cond.instanceMethod ({ cls := "TideBoats$Orders", name := "draftAt", desc := "(I)I" } : Jvm.MethodName)) ∈ lw_all := all_mem 570 (by decide +kernel) (by decide +kernel)
theorem q571 : (Jvm.Cond.selects "TideBoats$Orders" ({ cls := "TideBoats$Orders", name := "draftAt", desc := "(I)I" } : Jvm.MethodName) ({ cls := "TideBoats$Orders", name := "draftAt", desc := "(I)I" } : Jvm.MethodName)) ∈ lw_all := all_mem 571 (by decide +kernel) (by decide +kernel)
theorem kV_X5_259 : CWV RX5 259 RX2 yX2_draftAt cX2_draftAt 2 (some .int) 1 := cwv_mk q569 q570 q571 q6 q572 ⟨rfl, ⟨by decide +kernel, by decide +kernel, by decide +kernel⟩⟩
theorem q576 : (Jvm.Cond.code ({ cls := "TideBoats$Orders", name := "boatAt", desc := "(I)I" } : Jvm.MethodName) prog_4_method_12_code (2 : Nat) (Option.some Jvm.ClassFile.FieldType.int)) ∈ lw_all := all_mem 576 (by decide +kernel) (by decide +kernel)
theorem q573 : (Jvm.Cond.methodLink "TideBoats" (262 : Nat) ({ cls := "TideBoats$Orders", name := "boatAt", desc := "(I)I" } : Jvm.MethodName)) ∈ lw_all := all_mem 573 (by decide +kernel) (by decide +kernel)
theorem q574 : (Jvm.Cond.instanceMethod ({ cls := "TideBoats$Orders", name := "boatAt", desc := "(I)I" } : Jvm.MethodName)) ∈ lw_all := all_mem 574 (by decide +kernel) (by decide +kernel)
theorem q575 : (Jvm.Cond.selects "TideBoats$Orders" ({ cls := "TideBoats$Orders", name := "boatAt", desc := "(I)I" } : Jvm.MethodName) ({ cls := "TideBoats$Orders", name := "boatAt", desc := "(I)I" } : Jvm.MethodName)) ∈ lw_all := all_mem 575 (by decide +kernel) (by decide +kernel)
theorem kV_X5_262 : CWV RX5 262 RX2 yX2_boatAt cX2_boatAt 2 (some .int) 1 := cwv_mk q573 q574 q575 q6 q576 ⟨rfl, ⟨by decide +kernel, by decide +kernel, by decide +kernel⟩⟩
theorem q580 : (Jvm.Cond.code ({ cls := "TideBoats$Orders", name := "directionAt", desc := "(I)I" } : Jvm.MethodName) prog_4_method_13_code (2 : Nat) (Option.some Jvm.ClassFile.FieldType.int)) ∈ lw_all := all_mem 580 (by decide +kernel) (by decide +kernel)
theorem q577 : (Jvm.Cond.methodLink "TideBoats" (263 : Nat) ({ cls := "TideBoats$Orders", name := "directionAt", desc := "(I)I" } : Jvm.MethodName)) ∈ lw_all := all_mem 577 (by decide +kernel) (by decide +kernel)
theorem q578 : (Jvm.Cond.instanceMethod ({ cls := "TideBoats$Orders", name := "directionAt", desc := "(I)I" } : Jvm.MethodName)) ∈ lw_all := all_mem 578 (by decide +kernel) (by decide +kernel)
theorem q579 : (Jvm.Cond.selects "TideBoats$Orders" ({ cls := "TideBoats$Orders", name := "directionAt", desc := "(I)I" } : Jvm.MethodName) ({ cls := "TideBoats$Orders", name := "directionAt", desc := "(I)I" } : Jvm.MethodName)) ∈ lw_all := all_mem 579 (by decide +kernel) (by decide +kernel)
theorem kV_X5_263 : CWV RX5 263 RX2 yX2_directionAt cX2_directionAt 2 (some .int) 1 := cwv_mk q577 q578 q579 q6 q580 ⟨rfl, ⟨by decide +kernel, by decide +kernel, by decide +kernel⟩⟩
theorem q584 : (Jvm.Cond.code ({ cls := "TideBoats$Orders", name := "stepsAt", desc := "(I)I" } : Jvm.MethodName) prog_4_method_14_code (2 : Nat) (Option.some Jvm.ClassFile.FieldType.int)) ∈ lw_all := all_mem 584 (by decide +kernel) (by decide +kernel)
theorem q581 : (Jvm.Cond.methodLink "TideBoats" (266 : Nat) ({ cls := "TideBoats$Orders", name := "stepsAt", desc := "(I)I" } : Jvm.MethodName)) ∈ lw_all := all_mem 581 (by decide +kernel) (by decide +kernel)
theorem q582 : (Jvm.Cond.instanceMethod ({ cls := "TideBoats$Orders", name := "stepsAt", desc := "(I)I" } : Jvm.MethodName)) ∈ lw_all := all_mem 582 (by decide +kernel) (by decide +kernel)
theorem q583 : (Jvm.Cond.selects "TideBoats$Orders" ({ cls := "TideBoats$Orders", name := "stepsAt", desc := "(I)I" } : Jvm.MethodName) ({ cls := "TideBoats$Orders", name := "stepsAt", desc := "(I)I" } : Jvm.MethodName)) ∈ lw_all := all_mem 583 (by decide +kernel) (by decide +kernel)
theorem kV_X5_266 : CWV RX5 266 RX2 yX2_stepsAt cX2_stepsAt 2 (some .int) 1 := cwv_mk q581 q582 q583 q6 q584 ⟨rfl, ⟨by decide +kernel, by decide +kernel, by decide +kernel⟩⟩
theorem q744 : (Jvm.Cond.methodLink "TideBoats" (269 : Nat) ({ cls := "TideBoats", name := "cellFrom", desc := "(III)I" } : Jvm.MethodName)) ∈ lw_all := all_mem 744 (by decide +kernel) (by decide +kernel)
theorem kS_X5_269 : CWS RX5 269 yX5_cellFrom cX5_cellFrom 5 (some .int) 3 := cws_mk q744 q349 q1 q350 ⟨by decide +kernel, by decide +kernel, by decide +kernel⟩
theorem q745 : (Jvm.Cond.methodLink "TideBoats" (272 : Nat) ({ cls := "TideBoats", name := "harbourOf", desc := "(I)I" } : Jvm.MethodName)) ∈ lw_all := all_mem 745 (by decide +kernel) (by decide +kernel)
theorem kS_X5_272 : CWS RX5 272 yX5_harbourOf cX5_harbourOf 1 (some .int) 1 := cws_mk q745 q337 q1 q338 ⟨by decide +kernel, by decide +kernel, by decide +kernel⟩
theorem q749 : (Jvm.Cond.code ({ cls := "TideBoats$HomeSearch", name := "turnsBehind", desc := "(II)I" } : Jvm.MethodName) prog_3_method_5_code (4 : Nat) (Option.some Jvm.ClassFile.FieldType.int)) ∈ lw_all := all_mem 749 (by decide +kernel) (by decide +kernel)
theorem q746 : (Jvm.Cond.methodLink "TideBoats" (275 : Nat) ({ cls := "TideBoats$HomeSearch", name := "turnsBehind", desc := "(II)I" } : Jvm.MethodName)) ∈ lw_all := all_mem 746 (by decide +kernel) (by decide +kernel)
theorem q747 : (Jvm.Cond.instanceMethod ({ cls := "TideBoats$HomeSearch", name := "turnsBehind", desc := "(II)I" } : Jvm.MethodName)) ∈ lw_all := all_mem 747 (by decide +kernel) (by decide +kernel)
theorem q748 : (Jvm.Cond.selects "TideBoats$HomeSearch" ({ cls := "TideBoats$HomeSearch", name := "turnsBehind", desc := "(II)I" } : Jvm.MethodName) ({ cls := "TideBoats$HomeSearch", name := "turnsBehind", desc := "(II)I" } : Jvm.MethodName)) ∈ lw_all := all_mem 748 (by decide +kernel) (by decide +kernel)
theorem kV_X5_275 : CWV RX5 275 RX1 yX1_turnsBehind cX1_turnsBehind 4 (some .int) 2 := cwv_mk q746 q747 q748 q4 q749 ⟨rfl, ⟨by decide +kernel, by decide +kernel, by decide +kernel⟩⟩
theorem q351 : (Jvm.Cond.methodLink "TideBoats" (278 : Nat) ({ cls := "TideBoats", name := "cellBeside", desc := "(II)I" } : Jvm.MethodName)) ∈ lw_all := all_mem 351 (by decide +kernel) (by decide +kernel)
theorem kS_X5_278 : CWS RX5 278 yX5_cellBeside cX5_cellBeside 3 (some .int) 2 := cws_mk q351 q340 q1 q341 ⟨by decide +kernel, by decide +kernel, by decide +kernel⟩
theorem q757 : (Jvm.Cond.fieldLink "TideBoatsModel" (7 : Nat) "TideBoatsModel" "s" "[I") ∈ lw_all := all_mem 757 (by decide +kernel) (by decide +kernel)
theorem fl_X6_7 : FLD RX6 7 6 0 := ⟨RX6, TX6, 11, rfl, Nat.le_of_ble_eq_true rfl, in_X6, q757⟩
theorem q758 : (Jvm.Cond.fieldLink "TideBoatsModel" (13 : Nat) "TideBoatsModel" "past" "[I") ∈ lw_all := all_mem 758 (by decide +kernel) (by decide +kernel)
theorem fl_X6_13 : FLD RX6 13 6 1 := ⟨RX6, TX6, 11, rfl, Nat.le_of_ble_eq_true rfl, in_X6, q758⟩
theorem q760 : (Jvm.Cond.fieldLink "TideBoatsModel" (16 : Nat) "TideBoatsModel" "snap" "[I") ∈ lw_all := all_mem 760 (by decide +kernel) (by decide +kernel)
theorem fl_X6_16 : FLD RX6 16 6 3 := ⟨RX6, TX6, 11, rfl, Nat.le_of_ble_eq_true rfl, in_X6, q760⟩
theorem q762 : (Jvm.Cond.fieldLink "TideBoatsModel" (19 : Nat) "TideBoatsModel" "text" "[I") ∈ lw_all := all_mem 762 (by decide +kernel) (by decide +kernel)
theorem fl_X6_19 : FLD RX6 19 6 5 := ⟨RX6, TX6, 11, rfl, Nat.le_of_ble_eq_true rfl, in_X6, q762⟩
theorem q764 : (Jvm.Cond.fieldLink "TideBoatsModel" (22 : Nat) "TideBoatsModel" "now" "[Z") ∈ lw_all := all_mem 764 (by decide +kernel) (by decide +kernel)
theorem fl_X6_22 : FLD RX6 22 6 7 := ⟨RX6, TX6, 11, rfl, Nat.le_of_ble_eq_true rfl, in_X6, q764⟩
theorem q765 : (Jvm.Cond.fieldLink "TideBoatsModel" (26 : Nat) "TideBoatsModel" "then" "[Z") ∈ lw_all := all_mem 765 (by decide +kernel) (by decide +kernel)
theorem fl_X6_26 : FLD RX6 26 6 8 := ⟨RX6, TX6, 11, rfl, Nat.le_of_ble_eq_true rfl, in_X6, q765⟩
theorem q766 : (Jvm.Cond.fieldLink "TideBoatsModel" (29 : Nat) "TideBoatsModel" "least" "[I") ∈ lw_all := all_mem 766 (by decide +kernel) (by decide +kernel)
theorem fl_X6_29 : FLD RX6 29 6 9 := ⟨RX6, TX6, 11, rfl, Nat.le_of_ble_eq_true rfl, in_X6, q766⟩
theorem q767 : (Jvm.Cond.fieldLink "TideBoatsModel" (32 : Nat) "TideBoatsModel" "later" "[I") ∈ lw_all := all_mem 767 (by decide +kernel) (by decide +kernel)
theorem fl_X6_32 : FLD RX6 32 6 10 := ⟨RX6, TX6, 11, rfl, Nat.le_of_ble_eq_true rfl, in_X6, q767⟩
theorem q809 : (Jvm.Cond.code ({ cls := "TideBoatsModel", name := "in", desc := "(III)Z" } : Jvm.MethodName) prog_8_method_3_code (3 : Nat) (Option.some Jvm.ClassFile.FieldType.boolean)) ∈ lw_all := all_mem 809 (by decide +kernel) (by decide +kernel)
theorem q808 : (Jvm.Cond.static ({ cls := "TideBoatsModel", name := "in", desc := "(III)Z" } : Jvm.MethodName)) ∈ lw_all := all_mem 808 (by decide +kernel) (by decide +kernel)
theorem q807 : (Jvm.Cond.methodLink "TideBoatsModel" (35 : Nat) ({ cls := "TideBoatsModel", name := "in", desc := "(III)Z" } : Jvm.MethodName)) ∈ lw_all := all_mem 807 (by decide +kernel) (by decide +kernel)
theorem q7 : (Jvm.Cond.initialized "TideBoatsModel") ∈ lw_all := all_mem 7 (by decide +kernel) (by decide +kernel)
theorem kS_X6_35 : CWS RX6 35 yX6_in cX6_in 3 (some .boolean) 3 := cws_mk q807 q808 q7 q809 ⟨by decide +kernel, by decide +kernel, by decide +kernel⟩
theorem q836 : (Jvm.Cond.code ({ cls := "TideBoatsModel", name := "at", desc := "(II)I" } : Jvm.MethodName) prog_8_method_6_code (2 : Nat) (Option.some Jvm.ClassFile.FieldType.int)) ∈ lw_all := all_mem 836 (by decide +kernel) (by decide +kernel)
theorem q835 : (Jvm.Cond.static ({ cls := "TideBoatsModel", name := "at", desc := "(II)I" } : Jvm.MethodName)) ∈ lw_all := all_mem 835 (by decide +kernel) (by decide +kernel)
theorem q834 : (Jvm.Cond.methodLink "TideBoatsModel" (39 : Nat) ({ cls := "TideBoatsModel", name := "at", desc := "(II)I" } : Jvm.MethodName)) ∈ lw_all := all_mem 834 (by decide +kernel) (by decide +kernel)
theorem kS_X6_39 : CWS RX6 39 yX6_at cX6_at 2 (some .int) 2 := cws_mk q834 q835 q7 q836 ⟨by decide +kernel, by decide +kernel, by decide +kernel⟩
theorem q759 : (Jvm.Cond.fieldLink "TideBoatsModel" (43 : Nat) "TideBoatsModel" "known" "I") ∈ lw_all := all_mem 759 (by decide +kernel) (by decide +kernel)
theorem fl_X6_43 : FLD RX6 43 6 2 := ⟨RX6, TX6, 11, rfl, Nat.le_of_ble_eq_true rfl, in_X6, q759⟩
theorem q817 : (Jvm.Cond.code ({ cls := "TideBoatsModel", name := "remembers", desc := "()V" } : Jvm.MethodName) prog_8_method_9_code (2 : Nat) (Option.none : Option Jvm.ClassFile.FieldType)) ∈ lw_all := all_mem 817 (by decide +kernel) (by decide +kernel)
theorem q814 : (Jvm.Cond.methodLink "TideBoatsModel" (47 : Nat) ({ cls := "TideBoatsModel", name := "remembers", desc := "()V" } : Jvm.MethodName)) ∈ lw_all := all_mem 814 (by decide +kernel) (by decide +kernel)
theorem q816 : (Jvm.Cond.instanceMethod ({ cls := "TideBoatsModel", name := "remembers", desc := "()V" } : Jvm.MethodName)) ∈ lw_all := all_mem 816 (by decide +kernel) (by decide +kernel)
theorem qs18 : (Jvm.Cond.selects "TideBoatsModel" ({ cls := "TideBoatsModel", name := "remembers", desc := "()V" } : Jvm.MethodName) ({ cls := "TideBoatsModel", name := "remembers", desc := "()V" } : Jvm.MethodName)) ∈ lw_all := all_memS 18 (by decide +kernel) (by decide +kernel)
theorem kV_X6_47 : CWV RX6 47 RX6 yX6_remembers cX6_remembers 2 (none) 0 := cwv_mk q814 q816 qs18 q7 q817 ⟨rfl, ⟨by decide +kernel, by decide +kernel, by decide +kernel⟩⟩
theorem q887 : (Jvm.Cond.code ({ cls := "TideBoatsModel", name := "tideOf", desc := "(II)I" } : Jvm.MethodName) prog_8_method_11_code (5 : Nat) (Option.some Jvm.ClassFile.FieldType.int)) ∈ lw_all := all_mem 887 (by decide +kernel) (by decide +kernel)
theorem q884 : (Jvm.Cond.methodLink "TideBoatsModel" (50 : Nat) ({ cls := "TideBoatsModel", name := "tideOf", desc := "(II)I" } : Jvm.MethodName)) ∈ lw_all := all_mem 884 (by decide +kernel) (by decide +kernel)
theorem q886 : (Jvm.Cond.instanceMethod ({ cls := "TideBoatsModel", name := "tideOf", desc := "(II)I" } : Jvm.MethodName)) ∈ lw_all := all_mem 886 (by decide +kernel) (by decide +kernel)
theorem qs31 : (Jvm.Cond.selects "TideBoatsModel" ({ cls := "TideBoatsModel", name := "tideOf", desc := "(II)I" } : Jvm.MethodName) ({ cls := "TideBoatsModel", name := "tideOf", desc := "(II)I" } : Jvm.MethodName)) ∈ lw_all := all_memS 31 (by decide +kernel) (by decide +kernel)
theorem kV_X6_50 : CWV RX6 50 RX6 yX6_tideOf cX6_tideOf 5 (some .int) 2 := cwv_mk q884 q886 qs31 q7 q887 ⟨rfl, ⟨by decide +kernel, by decide +kernel, by decide +kernel⟩⟩
theorem q883 : (Jvm.Cond.code ({ cls := "TideBoatsModel", name := "water", desc := "(III)I" } : Jvm.MethodName) prog_8_method_12_code (5 : Nat) (Option.some Jvm.ClassFile.FieldType.int)) ∈ lw_all := all_mem 883 (by decide +kernel) (by decide +kernel)
theorem q880 : (Jvm.Cond.methodLink "TideBoatsModel" (53 : Nat) ({ cls := "TideBoatsModel", name := "water", desc := "(III)I" } : Jvm.MethodName)) ∈ lw_all := all_mem 880 (by decide +kernel) (by decide +kernel)
theorem q882 : (Jvm.Cond.instanceMethod ({ cls := "TideBoatsModel", name := "water", desc := "(III)I" } : Jvm.MethodName)) ∈ lw_all := all_mem 882 (by decide +kernel) (by decide +kernel)
theorem qs30 : (Jvm.Cond.selects "TideBoatsModel" ({ cls := "TideBoatsModel", name := "water", desc := "(III)I" } : Jvm.MethodName) ({ cls := "TideBoatsModel", name := "water", desc := "(III)I" } : Jvm.MethodName)) ∈ lw_all := all_memS 30 (by decide +kernel) (by decide +kernel)
theorem kV_X6_53 : CWV RX6 53 RX6 yX6_water cX6_water 5 (some .int) 3 := cwv_mk q880 q882 qs30 q7 q883 ⟨rfl, ⟨by decide +kernel, by decide +kernel, by decide +kernel⟩⟩
theorem q879 : (Jvm.Cond.code ({ cls := "TideBoatsModel", name := "floats", desc := "(IIII)Z" } : Jvm.MethodName) prog_8_method_13_code (5 : Nat) (Option.some Jvm.ClassFile.FieldType.boolean)) ∈ lw_all := all_mem 879 (by decide +kernel) (by decide +kernel)
theorem q876 : (Jvm.Cond.methodLink "TideBoatsModel" (57 : Nat) ({ cls := "TideBoatsModel", name := "floats", desc := "(IIII)Z" } : Jvm.MethodName)) ∈ lw_all := all_mem 876 (by decide +kernel) (by decide +kernel)
theorem q878 : (Jvm.Cond.instanceMethod ({ cls := "TideBoatsModel", name := "floats", desc := "(IIII)Z" } : Jvm.MethodName)) ∈ lw_all := all_mem 878 (by decide +kernel) (by decide +kernel)
theorem qs29 : (Jvm.Cond.selects "TideBoatsModel" ({ cls := "TideBoatsModel", name := "floats", desc := "(IIII)Z" } : Jvm.MethodName) ({ cls := "TideBoatsModel", name := "floats", desc := "(IIII)Z" } : Jvm.MethodName)) ∈ lw_all := all_memS 29 (by decide +kernel) (by decide +kernel)
theorem kV_X6_57 : CWV RX6 57 RX6 yX6_floats cX6_floats 5 (some .boolean) 4 := cwv_mk q876 q878 qs29 q7 q879 ⟨rfl, ⟨by decide +kernel, by decide +kernel, by decide +kernel⟩⟩
theorem q898 : (Jvm.Cond.code ({ cls := "TideBoatsModel", name := "harbour", desc := "(I)I" } : Jvm.MethodName) prog_8_method_15_code (1 : Nat) (Option.some Jvm.ClassFile.FieldType.int)) ∈ lw_all := all_mem 898 (by decide +kernel) (by decide +kernel)
theorem q897 : (Jvm.Cond.static ({ cls := "TideBoatsModel", name := "harbour", desc := "(I)I" } : Jvm.MethodName)) ∈ lw_all := all_mem 897 (by decide +kernel) (by decide +kernel)
theorem q896 : (Jvm.Cond.methodLink "TideBoatsModel" (61 : Nat) ({ cls := "TideBoatsModel", name := "harbour", desc := "(I)I" } : Jvm.MethodName)) ∈ lw_all := all_mem 896 (by decide +kernel) (by decide +kernel)
theorem kS_X6_61 : CWS RX6 61 yX6_harbour cX6_harbour 1 (some .int) 1 := cws_mk q896 q897 q7 q898 ⟨by decide +kernel, by decide +kernel, by decide +kernel⟩
theorem q901 : (Jvm.Cond.code ({ cls := "TideBoatsModel", name := "beside", desc := "(II)I" } : Jvm.MethodName) prog_8_method_16_code (4 : Nat) (Option.some Jvm.ClassFile.FieldType.int)) ∈ lw_all := all_mem 901 (by decide +kernel) (by decide +kernel)
theorem q900 : (Jvm.Cond.static ({ cls := "TideBoatsModel", name := "beside", desc := "(II)I" } : Jvm.MethodName)) ∈ lw_all := all_mem 900 (by decide +kernel) (by decide +kernel)
theorem q899 : (Jvm.Cond.methodLink "TideBoatsModel" (65 : Nat) ({ cls := "TideBoatsModel", name := "beside", desc := "(II)I" } : Jvm.MethodName)) ∈ lw_all := all_mem 899 (by decide +kernel) (by decide +kernel)
theorem kS_X6_65 : CWS RX6 65 yX6_beside cX6_beside 4 (some .int) 2 := cws_mk q899 q900 q7 q901 ⟨by decide +kernel, by decide +kernel, by decide +kernel⟩
theorem q833 : (Jvm.Cond.code ({ cls := "TideBoatsModel", name := "its", desc := "(III)I" } : Jvm.MethodName) prog_8_method_7_code (4 : Nat) (Option.some Jvm.ClassFile.FieldType.int)) ∈ lw_all := all_mem 833 (by decide +kernel) (by decide +kernel)
theorem q830 : (Jvm.Cond.methodLink "TideBoatsModel" (68 : Nat) ({ cls := "TideBoatsModel", name := "its", desc := "(III)I" } : Jvm.MethodName)) ∈ lw_all := all_mem 830 (by decide +kernel) (by decide +kernel)
theorem q832 : (Jvm.Cond.instanceMethod ({ cls := "TideBoatsModel", name := "its", desc := "(III)I" } : Jvm.MethodName)) ∈ lw_all := all_mem 832 (by decide +kernel) (by decide +kernel)
theorem qs21 : (Jvm.Cond.selects "TideBoatsModel" ({ cls := "TideBoatsModel", name := "its", desc := "(III)I" } : Jvm.MethodName) ({ cls := "TideBoatsModel", name := "its", desc := "(III)I" } : Jvm.MethodName)) ∈ lw_all := all_memS 21 (by decide +kernel) (by decide +kernel)
theorem kV_X6_68 : CWV RX6 68 RX6 yX6_its cX6_its 4 (some .int) 3 := cwv_mk q830 q832 qs21 q7 q833 ⟨rfl, ⟨by decide +kernel, by decide +kernel, by decide +kernel⟩⟩
theorem q829 : (Jvm.Cond.code ({ cls := "TideBoatsModel", name := "boatAt", desc := "(II)I" } : Jvm.MethodName) prog_8_method_18_code (4 : Nat) (Option.some Jvm.ClassFile.FieldType.int)) ∈ lw_all := all_mem 829 (by decide +kernel) (by decide +kernel)
theorem q826 : (Jvm.Cond.methodLink "TideBoatsModel" (71 : Nat) ({ cls := "TideBoatsModel", name := "boatAt", desc := "(II)I" } : Jvm.MethodName)) ∈ lw_all := all_mem 826 (by decide +kernel) (by decide +kernel)
theorem q828 : (Jvm.Cond.instanceMethod ({ cls := "TideBoatsModel", name := "boatAt", desc := "(II)I" } : Jvm.MethodName)) ∈ lw_all := all_mem 828 (by decide +kernel) (by decide +kernel)
theorem qs20 : (Jvm.Cond.selects "TideBoatsModel" ({ cls := "TideBoatsModel", name := "boatAt", desc := "(II)I" } : Jvm.MethodName) ({ cls := "TideBoatsModel", name := "boatAt", desc := "(II)I" } : Jvm.MethodName)) ∈ lw_all := all_memS 20 (by decide +kernel) (by decide +kernel)
theorem kV_X6_71 : CWV RX6 71 RX6 yX6_boatAt cX6_boatAt 4 (some .int) 2 := cwv_mk q826 q828 qs20 q7 q829 ⟨rfl, ⟨by decide +kernel, by decide +kernel, by decide +kernel⟩⟩
theorem q875 : (Jvm.Cond.code ({ cls := "TideBoatsModel", name := "isAfloat", desc := "(II)Z" } : Jvm.MethodName) prog_8_method_19_code (3 : Nat) (Option.some Jvm.ClassFile.FieldType.boolean)) ∈ lw_all := all_mem 875 (by decide +kernel) (by decide +kernel)
theorem q872 : (Jvm.Cond.methodLink "TideBoatsModel" (74 : Nat) ({ cls := "TideBoatsModel", name := "isAfloat", desc := "(II)Z" } : Jvm.MethodName)) ∈ lw_all := all_mem 872 (by decide +kernel) (by decide +kernel)
theorem q874 : (Jvm.Cond.instanceMethod ({ cls := "TideBoatsModel", name := "isAfloat", desc := "(II)Z" } : Jvm.MethodName)) ∈ lw_all := all_mem 874 (by decide +kernel) (by decide +kernel)
theorem qs28 : (Jvm.Cond.selects "TideBoatsModel" ({ cls := "TideBoatsModel", name := "isAfloat", desc := "(II)Z" } : Jvm.MethodName) ({ cls := "TideBoatsModel", name := "isAfloat", desc := "(II)Z" } : Jvm.MethodName)) ∈ lw_all := all_memS 28 (by decide +kernel) (by decide +kernel)
theorem kV_X6_74 : CWV RX6 74 RX6 yX6_isAfloat cX6_isAfloat 3 (some .boolean) 2 := cwv_mk q872 q874 qs28 q7 q875 ⟨rfl, ⟨by decide +kernel, by decide +kernel, by decide +kernel⟩⟩
theorem q871 : (Jvm.Cond.code ({ cls := "TideBoatsModel", name := "onBoard", desc := "(II)I" } : Jvm.MethodName) prog_8_method_22_code (5 : Nat) (Option.some Jvm.ClassFile.FieldType.int)) ∈ lw_all := all_mem 871 (by decide +kernel) (by decide +kernel)
theorem q868 : (Jvm.Cond.methodLink "TideBoatsModel" (78 : Nat) ({ cls := "TideBoatsModel", name := "onBoard", desc := "(II)I" } : Jvm.MethodName)) ∈ lw_all := all_mem 868 (by decide +kernel) (by decide +kernel)
theorem q870 : (Jvm.Cond.instanceMethod ({ cls := "TideBoatsModel", name := "onBoard", desc := "(II)I" } : Jvm.MethodName)) ∈ lw_all := all_mem 870 (by decide +kernel) (by decide +kernel)
theorem qs27 : (Jvm.Cond.selects "TideBoatsModel" ({ cls := "TideBoatsModel", name := "onBoard", desc := "(II)I" } : Jvm.MethodName) ({ cls := "TideBoatsModel", name := "onBoard", desc := "(II)I" } : Jvm.MethodName)) ∈ lw_all := all_memS 27 (by decide +kernel) (by decide +kernel)
theorem kV_X6_78 : CWV RX6 78 RX6 yX6_onBoard cX6_onBoard 5 (some .int) 2 := cwv_mk q868 q870 qs27 q7 q871 ⟨rfl, ⟨by decide +kernel, by decide +kernel, by decide +kernel⟩⟩
theorem q867 : (Jvm.Cond.code ({ cls := "TideBoatsModel", name := "isOver", desc := "(I)Z" } : Jvm.MethodName) prog_8_method_23_code (2 : Nat) (Option.some Jvm.ClassFile.FieldType.boolean)) ∈ lw_all := all_mem 867 (by decide +kernel) (by decide +kernel)
theorem q864 : (Jvm.Cond.methodLink "TideBoatsModel" (81 : Nat) ({ cls := "TideBoatsModel", name := "isOver", desc := "(I)Z" } : Jvm.MethodName)) ∈ lw_all := all_mem 864 (by decide +kernel) (by decide +kernel)
theorem q866 : (Jvm.Cond.instanceMethod ({ cls := "TideBoatsModel", name := "isOver", desc := "(I)Z" } : Jvm.MethodName)) ∈ lw_all := all_mem 866 (by decide +kernel) (by decide +kernel)
theorem qs26 : (Jvm.Cond.selects "TideBoatsModel" ({ cls := "TideBoatsModel", name := "isOver", desc := "(I)Z" } : Jvm.MethodName) ({ cls := "TideBoatsModel", name := "isOver", desc := "(I)Z" } : Jvm.MethodName)) ∈ lw_all := all_memS 26 (by decide +kernel) (by decide +kernel)
theorem kV_X6_81 : CWV RX6 81 RX6 yX6_isOver cX6_isOver 2 (some .boolean) 1 := cwv_mk q864 q866 qs26 q7 q867 ⟨rfl, ⟨by decide +kernel, by decide +kernel, by decide +kernel⟩⟩
theorem q891 : (Jvm.Cond.code ({ cls := "TideBoatsModel", name := "kind", desc := "(II)I" } : Jvm.MethodName) prog_8_method_21_code (3 : Nat) (Option.some Jvm.ClassFile.FieldType.int)) ∈ lw_all := all_mem 891 (by decide +kernel) (by decide +kernel)
theorem q888 : (Jvm.Cond.methodLink "TideBoatsModel" (85 : Nat) ({ cls := "TideBoatsModel", name := "kind", desc := "(II)I" } : Jvm.MethodName)) ∈ lw_all := all_mem 888 (by decide +kernel) (by decide +kernel)
theorem q890 : (Jvm.Cond.instanceMethod ({ cls := "TideBoatsModel", name := "kind", desc := "(II)I" } : Jvm.MethodName)) ∈ lw_all := all_mem 890 (by decide +kernel) (by decide +kernel)
theorem qs32 : (Jvm.Cond.selects "TideBoatsModel" ({ cls := "TideBoatsModel", name := "kind", desc := "(II)I" } : Jvm.MethodName) ({ cls := "TideBoatsModel", name := "kind", desc := "(II)I" } : Jvm.MethodName)) ∈ lw_all := all_memS 32 (by decide +kernel) (by decide +kernel)
theorem kV_X6_85 : CWV RX6 85 RX6 yX6_kind cX6_kind 3 (some .int) 2 := cwv_mk q888 q890 qs32 q7 q891 ⟨rfl, ⟨by decide +kernel, by decide +kernel, by decide +kernel⟩⟩
theorem q895 : (Jvm.Cond.code ({ cls := "TideBoatsModel", name := "wayEnd", desc := "(IIIII)I" } : Jvm.MethodName) prog_8_method_17_code (10 : Nat) (Option.some Jvm.ClassFile.FieldType.int)) ∈ lw_all := all_mem 895 (by decide +kernel) (by decide +kernel)
theorem q892 : (Jvm.Cond.methodLink "TideBoatsModel" (88 : Nat) ({ cls := "TideBoatsModel", name := "wayEnd", desc := "(IIIII)I" } : Jvm.MethodName)) ∈ lw_all := all_mem 892 (by decide +kernel) (by decide +kernel)
theorem q894 : (Jvm.Cond.instanceMethod ({ cls := "TideBoatsModel", name := "wayEnd", desc := "(IIIII)I" } : Jvm.MethodName)) ∈ lw_all := all_mem 894 (by decide +kernel) (by decide +kernel)
theorem qs33 : (Jvm.Cond.selects "TideBoatsModel" ({ cls := "TideBoatsModel", name := "wayEnd", desc := "(IIIII)I" } : Jvm.MethodName) ({ cls := "TideBoatsModel", name := "wayEnd", desc := "(IIIII)I" } : Jvm.MethodName)) ∈ lw_all := all_memS 33 (by decide +kernel) (by decide +kernel)
theorem kV_X6_88 : CWV RX6 88 RX6 yX6_wayEnd cX6_wayEnd 10 (some .int) 5 := cwv_mk q892 q894 qs33 q7 q895 ⟨rfl, ⟨by decide +kernel, by decide +kernel, by decide +kernel⟩⟩
theorem q905 : (Jvm.Cond.code ({ cls := "TideBoatsModel", name := "isBlocked", desc := "(III)Z" } : Jvm.MethodName) prog_8_method_20_code (10 : Nat) (Option.some Jvm.ClassFile.FieldType.boolean)) ∈ lw_all := all_mem 905 (by decide +kernel) (by decide +kernel)
theorem q902 : (Jvm.Cond.methodLink "TideBoatsModel" (92 : Nat) ({ cls := "TideBoatsModel", name := "isBlocked", desc := "(III)Z" } : Jvm.MethodName)) ∈ lw_all := all_mem 902 (by decide +kernel) (by decide +kernel)
theorem q904 : (Jvm.Cond.instanceMethod ({ cls := "TideBoatsModel", name := "isBlocked", desc := "(III)Z" } : Jvm.MethodName)) ∈ lw_all := all_mem 904 (by decide +kernel) (by decide +kernel)
theorem qs34 : (Jvm.Cond.selects "TideBoatsModel" ({ cls := "TideBoatsModel", name := "isBlocked", desc := "(III)Z" } : Jvm.MethodName) ({ cls := "TideBoatsModel", name := "isBlocked", desc := "(III)Z" } : Jvm.MethodName)) ∈ lw_all := all_memS 34 (by decide +kernel) (by decide +kernel)
theorem kV_X6_92 : CWV RX6 92 RX6 yX6_isBlocked cX6_isBlocked 10 (some .boolean) 3 := cwv_mk q902 q904 qs34 q7 q905 ⟨rfl, ⟨by decide +kernel, by decide +kernel, by decide +kernel⟩⟩
theorem q863 : (Jvm.Cond.code ({ cls := "TideBoatsModel", name := "reason", desc := "(III)I" } : Jvm.MethodName) prog_8_method_24_code (5 : Nat) (Option.some Jvm.ClassFile.FieldType.int)) ∈ lw_all := all_mem 863 (by decide +kernel) (by decide +kernel)
theorem q860 : (Jvm.Cond.methodLink "TideBoatsModel" (95 : Nat) ({ cls := "TideBoatsModel", name := "reason", desc := "(III)I" } : Jvm.MethodName)) ∈ lw_all := all_mem 860 (by decide +kernel) (by decide +kernel)
theorem q862 : (Jvm.Cond.instanceMethod ({ cls := "TideBoatsModel", name := "reason", desc := "(III)I" } : Jvm.MethodName)) ∈ lw_all := all_mem 862 (by decide +kernel) (by decide +kernel)
theorem qs25 : (Jvm.Cond.selects "TideBoatsModel" ({ cls := "TideBoatsModel", name := "reason", desc := "(III)I" } : Jvm.MethodName) ({ cls := "TideBoatsModel", name := "reason", desc := "(III)I" } : Jvm.MethodName)) ∈ lw_all := all_memS 25 (by decide +kernel) (by decide +kernel)
theorem kV_X6_95 : CWV RX6 95 RX6 yX6_reason cX6_reason 5 (some .int) 3 := cwv_mk q860 q862 qs25 q7 q863 ⟨rfl, ⟨by decide +kernel, by decide +kernel, by decide +kernel⟩⟩
theorem q806 : (Jvm.Cond.code ({ cls := "TideBoatsModel", name := "isCell", desc := "(I)Z" } : Jvm.MethodName) prog_8_method_4_code (1 : Nat) (Option.some Jvm.ClassFile.FieldType.boolean)) ∈ lw_all := all_mem 806 (by decide +kernel) (by decide +kernel)
theorem q805 : (Jvm.Cond.static ({ cls := "TideBoatsModel", name := "isCell", desc := "(I)Z" } : Jvm.MethodName)) ∈ lw_all := all_mem 805 (by decide +kernel) (by decide +kernel)
theorem q804 : (Jvm.Cond.methodLink "TideBoatsModel" (98 : Nat) ({ cls := "TideBoatsModel", name := "isCell", desc := "(I)Z" } : Jvm.MethodName)) ∈ lw_all := all_mem 804 (by decide +kernel) (by decide +kernel)
theorem kS_X6_98 : CWS RX6 98 yX6_isCell cX6_isCell 1 (some .boolean) 1 := cws_mk q804 q805 q7 q806 ⟨by decide +kernel, by decide +kernel, by decide +kernel⟩
theorem q913 : (Jvm.Cond.code ({ cls := "TideBoatsModel", name := "wrecks", desc := "(IIII)Z" } : Jvm.MethodName) prog_8_method_14_code (5 : Nat) (Option.some Jvm.ClassFile.FieldType.boolean)) ∈ lw_all := all_mem 913 (by decide +kernel) (by decide +kernel)
theorem q910 : (Jvm.Cond.methodLink "TideBoatsModel" (101 : Nat) ({ cls := "TideBoatsModel", name := "wrecks", desc := "(IIII)Z" } : Jvm.MethodName)) ∈ lw_all := all_mem 910 (by decide +kernel) (by decide +kernel)
theorem q912 : (Jvm.Cond.instanceMethod ({ cls := "TideBoatsModel", name := "wrecks", desc := "(IIII)Z" } : Jvm.MethodName)) ∈ lw_all := all_mem 912 (by decide +kernel) (by decide +kernel)
theorem qs36 : (Jvm.Cond.selects "TideBoatsModel" ({ cls := "TideBoatsModel", name := "wrecks", desc := "(IIII)Z" } : Jvm.MethodName) ({ cls := "TideBoatsModel", name := "wrecks", desc := "(IIII)Z" } : Jvm.MethodName)) ∈ lw_all := all_memS 36 (by decide +kernel) (by decide +kernel)
theorem kV_X6_101 : CWV RX6 101 RX6 yX6_wrecks cX6_wrecks 5 (some .boolean) 4 := cwv_mk q910 q912 qs36 q7 q913 ⟨rfl, ⟨by decide +kernel, by decide +kernel, by decide +kernel⟩⟩
theorem q855 : (Jvm.Cond.code ({ cls := "TideBoatsModel", name := "isBoat", desc := "(II)Z" } : Jvm.MethodName) prog_8_method_5_code (3 : Nat) (Option.some Jvm.ClassFile.FieldType.boolean)) ∈ lw_all := all_mem 855 (by decide +kernel) (by decide +kernel)
theorem q852 : (Jvm.Cond.methodLink "TideBoatsModel" (104 : Nat) ({ cls := "TideBoatsModel", name := "isBoat", desc := "(II)Z" } : Jvm.MethodName)) ∈ lw_all := all_mem 852 (by decide +kernel) (by decide +kernel)
theorem q854 : (Jvm.Cond.instanceMethod ({ cls := "TideBoatsModel", name := "isBoat", desc := "(II)Z" } : Jvm.MethodName)) ∈ lw_all := all_mem 854 (by decide +kernel) (by decide +kernel)
theorem qs23 : (Jvm.Cond.selects "TideBoatsModel" ({ cls := "TideBoatsModel", name := "isBoat", desc := "(II)Z" } : Jvm.MethodName) ({ cls := "TideBoatsModel", name := "isBoat", desc := "(II)Z" } : Jvm.MethodName)) ∈ lw_all := all_memS 23 (by decide +kernel) (by decide +kernel)
theorem kV_X6_104 : CWV RX6 104 RX6 yX6_isBoat cX6_isBoat 3 (some .boolean) 2 := cwv_mk q852 q854 qs23 q7 q855 ⟨rfl, ⟨by decide +kernel, by decide +kernel, by decide +kernel⟩⟩
theorem q859 : (Jvm.Cond.code ({ cls := "TideBoatsModel", name := "whyNot", desc := "(III)I" } : Jvm.MethodName) prog_8_method_25_code (6 : Nat) (Option.some Jvm.ClassFile.FieldType.int)) ∈ lw_all := all_mem 859 (by decide +kernel) (by decide +kernel)
theorem q856 : (Jvm.Cond.methodLink "TideBoatsModel" (107 : Nat) ({ cls := "TideBoatsModel", name := "whyNot", desc := "(III)I" } : Jvm.MethodName)) ∈ lw_all := all_mem 856 (by decide +kernel) (by decide +kernel)
theorem q858 : (Jvm.Cond.instanceMethod ({ cls := "TideBoatsModel", name := "whyNot", desc := "(III)I" } : Jvm.MethodName)) ∈ lw_all := all_mem 858 (by decide +kernel) (by decide +kernel)
theorem qs24 : (Jvm.Cond.selects "TideBoatsModel" ({ cls := "TideBoatsModel", name := "whyNot", desc := "(III)I" } : Jvm.MethodName) ({ cls := "TideBoatsModel", name := "whyNot", desc := "(III)I" } : Jvm.MethodName)) ∈ lw_all := all_memS 24 (by decide +kernel) (by decide +kernel)
theorem kV_X6_107 : CWV RX6 107 RX6 yX6_whyNot cX6_whyNot 6 (some .int) 3 := cwv_mk q856 q858 qs24 q7 q859 ⟨rfl, ⟨by decide +kernel, by decide +kernel, by decide +kernel⟩⟩
theorem q909 : (Jvm.Cond.code ({ cls := "TideBoatsModel", name := "passes", desc := "(I)V" } : Jvm.MethodName) prog_8_method_29_code (4 : Nat) (Option.none : Option Jvm.ClassFile.FieldType)) ∈ lw_all := all_mem 909 (by decide +kernel) (by decide +kernel)
theorem q906 : (Jvm.Cond.methodLink "TideBoatsModel" (110 : Nat) ({ cls := "TideBoatsModel", name := "passes", desc := "(I)V" } : Jvm.MethodName)) ∈ lw_all := all_mem 906 (by decide +kernel) (by decide +kernel)
theorem q908 : (Jvm.Cond.instanceMethod ({ cls := "TideBoatsModel", name := "passes", desc := "(I)V" } : Jvm.MethodName)) ∈ lw_all := all_mem 908 (by decide +kernel) (by decide +kernel)
theorem qs35 : (Jvm.Cond.selects "TideBoatsModel" ({ cls := "TideBoatsModel", name := "passes", desc := "(I)V" } : Jvm.MethodName) ({ cls := "TideBoatsModel", name := "passes", desc := "(I)V" } : Jvm.MethodName)) ∈ lw_all := all_memS 35 (by decide +kernel) (by decide +kernel)
theorem kV_X6_110 : CWV RX6 110 RX6 yX6_passes cX6_passes 4 (none) 1 := cwv_mk q906 q908 qs35 q7 q909 ⟨rfl, ⟨by decide +kernel, by decide +kernel, by decide +kernel⟩⟩
theorem q799 : (Jvm.Cond.code ({ cls := "TideBoatsModel", name := "copies", desc := "()V" } : Jvm.MethodName) prog_8_method_8_code (2 : Nat) (Option.none : Option Jvm.ClassFile.FieldType)) ∈ lw_all := all_mem 799 (by decide +kernel) (by decide +kernel)
theorem q796 : (Jvm.Cond.methodLink "TideBoatsModel" (114 : Nat) ({ cls := "TideBoatsModel", name := "copies", desc := "()V" } : Jvm.MethodName)) ∈ lw_all := all_mem 796 (by decide +kernel) (by decide +kernel)
theorem q798 : (Jvm.Cond.instanceMethod ({ cls := "TideBoatsModel", name := "copies", desc := "()V" } : Jvm.MethodName)) ∈ lw_all := all_mem 798 (by decide +kernel) (by decide +kernel)
theorem qs15 : (Jvm.Cond.selects "TideBoatsModel" ({ cls := "TideBoatsModel", name := "copies", desc := "()V" } : Jvm.MethodName) ({ cls := "TideBoatsModel", name := "copies", desc := "()V" } : Jvm.MethodName)) ∈ lw_all := all_memS 15 (by decide +kernel) (by decide +kernel)
theorem kV_X6_114 : CWV RX6 114 RX6 yX6_copies cX6_copies 2 (none) 0 := cwv_mk q796 q798 qs15 q7 q799 ⟨rfl, ⟨by decide +kernel, by decide +kernel, by decide +kernel⟩⟩
theorem q803 : (Jvm.Cond.code ({ cls := "TideBoatsModel", name := "sands", desc := "(IIII)I" } : Jvm.MethodName) prog_8_method_27_code (6 : Nat) (Option.some Jvm.ClassFile.FieldType.int)) ∈ lw_all := all_mem 803 (by decide +kernel) (by decide +kernel)
theorem q800 : (Jvm.Cond.methodLink "TideBoatsModel" (117 : Nat) ({ cls := "TideBoatsModel", name := "sands", desc := "(IIII)I" } : Jvm.MethodName)) ∈ lw_all := all_mem 800 (by decide +kernel) (by decide +kernel)
theorem q802 : (Jvm.Cond.instanceMethod ({ cls := "TideBoatsModel", name := "sands", desc := "(IIII)I" } : Jvm.MethodName)) ∈ lw_all := all_mem 802 (by decide +kernel) (by decide +kernel)
theorem qs16 : (Jvm.Cond.selects "TideBoatsModel" ({ cls := "TideBoatsModel", name := "sands", desc := "(IIII)I" } : Jvm.MethodName) ({ cls := "TideBoatsModel", name := "sands", desc := "(IIII)I" } : Jvm.MethodName)) ∈ lw_all := all_memS 16 (by decide +kernel) (by decide +kernel)
theorem kV_X6_117 : CWV RX6 117 RX6 yX6_sands cX6_sands 6 (some .int) 4 := cwv_mk q800 q802 qs16 q7 q803 ⟨rfl, ⟨by decide +kernel, by decide +kernel, by decide +kernel⟩⟩
theorem q813 : (Jvm.Cond.code ({ cls := "TideBoatsModel", name := "acts", desc := "(I)I" } : Jvm.MethodName) prog_8_method_10_code (3 : Nat) (Option.some Jvm.ClassFile.FieldType.int)) ∈ lw_all := all_mem 813 (by decide +kernel) (by decide +kernel)
theorem q810 : (Jvm.Cond.methodLink "TideBoatsModel" (121 : Nat) ({ cls := "TideBoatsModel", name := "acts", desc := "(I)I" } : Jvm.MethodName)) ∈ lw_all := all_mem 810 (by decide +kernel) (by decide +kernel)
theorem q812 : (Jvm.Cond.instanceMethod ({ cls := "TideBoatsModel", name := "acts", desc := "(I)I" } : Jvm.MethodName)) ∈ lw_all := all_mem 812 (by decide +kernel) (by decide +kernel)
theorem qs17 : (Jvm.Cond.selects "TideBoatsModel" ({ cls := "TideBoatsModel", name := "acts", desc := "(I)I" } : Jvm.MethodName) ({ cls := "TideBoatsModel", name := "acts", desc := "(I)I" } : Jvm.MethodName)) ∈ lw_all := all_memS 17 (by decide +kernel) (by decide +kernel)
theorem kV_X6_121 : CWV RX6 121 RX6 yX6_acts cX6_acts 3 (some .int) 1 := cwv_mk q810 q812 qs17 q7 q813 ⟨rfl, ⟨by decide +kernel, by decide +kernel, by decide +kernel⟩⟩
theorem q825 : (Jvm.Cond.code ({ cls := "TideBoatsModel", name := "comes", desc := "(IIII)I" } : Jvm.MethodName) prog_8_method_28_code (6 : Nat) (Option.some Jvm.ClassFile.FieldType.int)) ∈ lw_all := all_mem 825 (by decide +kernel) (by decide +kernel)
theorem q822 : (Jvm.Cond.methodLink "TideBoatsModel" (124 : Nat) ({ cls := "TideBoatsModel", name := "comes", desc := "(IIII)I" } : Jvm.MethodName)) ∈ lw_all := all_mem 822 (by decide +kernel) (by decide +kernel)
theorem q824 : (Jvm.Cond.instanceMethod ({ cls := "TideBoatsModel", name := "comes", desc := "(IIII)I" } : Jvm.MethodName)) ∈ lw_all := all_mem 824 (by decide +kernel) (by decide +kernel)
theorem qs19 : (Jvm.Cond.selects "TideBoatsModel" ({ cls := "TideBoatsModel", name := "comes", desc := "(IIII)I" } : Jvm.MethodName) ({ cls := "TideBoatsModel", name := "comes", desc := "(IIII)I" } : Jvm.MethodName)) ∈ lw_all := all_memS 19 (by decide +kernel) (by decide +kernel)
theorem kV_X6_124 : CWV RX6 124 RX6 yX6_comes cX6_comes 6 (some .int) 4 := cwv_mk q822 q824 qs19 q7 q825 ⟨rfl, ⟨by decide +kernel, by decide +kernel, by decide +kernel⟩⟩
theorem q847 : (Jvm.Cond.code ({ cls := "TideBoatsModel", name := "wayOf", desc := "(II)I" } : Jvm.MethodName) prog_8_method_26_code (2 : Nat) (Option.some Jvm.ClassFile.FieldType.int)) ∈ lw_all := all_mem 847 (by decide +kernel) (by decide +kernel)
theorem q846 : (Jvm.Cond.static ({ cls := "TideBoatsModel", name := "wayOf", desc := "(II)I" } : Jvm.MethodName)) ∈ lw_all := all_mem 846 (by decide +kernel) (by decide +kernel)
theorem q845 : (Jvm.Cond.methodLink "TideBoatsModel" (127 : Nat) ({ cls := "TideBoatsModel", name := "wayOf", desc := "(II)I" } : Jvm.MethodName)) ∈ lw_all := all_mem 845 (by decide +kernel) (by decide +kernel)
theorem kS_X6_127 : CWS RX6 127 yX6_wayOf cX6_wayOf 2 (some .int) 2 := cws_mk q845 q846 q7 q847 ⟨by decide +kernel, by decide +kernel, by decide +kernel⟩
theorem q851 : (Jvm.Cond.code ({ cls := "TideBoatsModel", name := "moves", desc := "(III)I" } : Jvm.MethodName) prog_8_method_30_code (8 : Nat) (Option.some Jvm.ClassFile.FieldType.int)) ∈ lw_all := all_mem 851 (by decide +kernel) (by decide +kernel)
theorem q848 : (Jvm.Cond.methodLink "TideBoatsModel" (130 : Nat) ({ cls := "TideBoatsModel", name := "moves", desc := "(III)I" } : Jvm.MethodName)) ∈ lw_all := all_mem 848 (by decide +kernel) (by decide +kernel)
theorem q850 : (Jvm.Cond.instanceMethod ({ cls := "TideBoatsModel", name := "moves", desc := "(III)I" } : Jvm.MethodName)) ∈ lw_all := all_mem 850 (by decide +kernel) (by decide +kernel)
theorem qs22 : (Jvm.Cond.selects "TideBoatsModel" ({ cls := "TideBoatsModel", name := "moves", desc := "(III)I" } : Jvm.MethodName) ({ cls := "TideBoatsModel", name := "moves", desc := "(III)I" } : Jvm.MethodName)) ∈ lw_all := all_memS 22 (by decide +kernel) (by decide +kernel)
theorem kV_X6_130 : CWV RX6 130 RX6 yX6_moves cX6_moves 8 (some .int) 3 := cwv_mk q848 q850 qs22 q7 q851 ⟨rfl, ⟨by decide +kernel, by decide +kernel, by decide +kernel⟩⟩
theorem q921 : (Jvm.Cond.code ({ cls := "TideBoatsModel", name := "waits", desc := "(I)I" } : Jvm.MethodName) prog_8_method_31_code (2 : Nat) (Option.some Jvm.ClassFile.FieldType.int)) ∈ lw_all := all_mem 921 (by decide +kernel) (by decide +kernel)
theorem q918 : (Jvm.Cond.methodLink "TideBoatsModel" (133 : Nat) ({ cls := "TideBoatsModel", name := "waits", desc := "(I)I" } : Jvm.MethodName)) ∈ lw_all := all_mem 918 (by decide +kernel) (by decide +kernel)
theorem q920 : (Jvm.Cond.instanceMethod ({ cls := "TideBoatsModel", name := "waits", desc := "(I)I" } : Jvm.MethodName)) ∈ lw_all := all_mem 920 (by decide +kernel) (by decide +kernel)
theorem qs37 : (Jvm.Cond.selects "TideBoatsModel" ({ cls := "TideBoatsModel", name := "waits", desc := "(I)I" } : Jvm.MethodName) ({ cls := "TideBoatsModel", name := "waits", desc := "(I)I" } : Jvm.MethodName)) ∈ lw_all := all_memS 37 (by decide +kernel) (by decide +kernel)
theorem kV_X6_133 : CWV RX6 133 RX6 yX6_waits cX6_waits 2 (some .int) 1 := cwv_mk q918 q920 qs37 q7 q921 ⟨rfl, ⟨by decide +kernel, by decide +kernel, by decide +kernel⟩⟩
theorem q763 : (Jvm.Cond.fieldLink "TideBoatsModel" (136 : Nat) "TideBoatsModel" "length" "I") ∈ lw_all := all_mem 763 (by decide +kernel) (by decide +kernel)
theorem fl_X6_136 : FLD RX6 136 6 6 := ⟨RX6, TX6, 11, rfl, Nat.le_of_ble_eq_true rfl, in_X6, q763⟩
theorem q941 : (Jvm.Cond.code ({ cls := "TideBoatsModel", name := "sign", desc := "(I)I" } : Jvm.MethodName) prog_8_method_39_code (2 : Nat) (Option.some Jvm.ClassFile.FieldType.int)) ∈ lw_all := all_mem 941 (by decide +kernel) (by decide +kernel)
theorem q938 : (Jvm.Cond.methodLink "TideBoatsModel" (139 : Nat) ({ cls := "TideBoatsModel", name := "sign", desc := "(I)I" } : Jvm.MethodName)) ∈ lw_all := all_mem 938 (by decide +kernel) (by decide +kernel)
theorem q940 : (Jvm.Cond.instanceMethod ({ cls := "TideBoatsModel", name := "sign", desc := "(I)I" } : Jvm.MethodName)) ∈ lw_all := all_mem 940 (by decide +kernel) (by decide +kernel)
theorem qs39 : (Jvm.Cond.selects "TideBoatsModel" ({ cls := "TideBoatsModel", name := "sign", desc := "(I)I" } : Jvm.MethodName) ({ cls := "TideBoatsModel", name := "sign", desc := "(I)I" } : Jvm.MethodName)) ∈ lw_all := all_memS 39 (by decide +kernel) (by decide +kernel)
theorem kV_X6_139 : CWV RX6 139 RX6 yX6_sign cX6_sign 2 (some .int) 1 := cwv_mk q938 q940 qs39 q7 q941 ⟨rfl, ⟨by decide +kernel, by decide +kernel, by decide +kernel⟩⟩
theorem q945 : (Jvm.Cond.code ({ cls := "TideBoatsModel", name := "isSign", desc := "(III)Z" } : Jvm.MethodName) prog_8_method_40_code (4 : Nat) (Option.some Jvm.ClassFile.FieldType.boolean)) ∈ lw_all := all_mem 945 (by decide +kernel) (by decide +kernel)
theorem q942 : (Jvm.Cond.methodLink "TideBoatsModel" (142 : Nat) ({ cls := "TideBoatsModel", name := "isSign", desc := "(III)Z" } : Jvm.MethodName)) ∈ lw_all := all_mem 942 (by decide +kernel) (by decide +kernel)
theorem q944 : (Jvm.Cond.instanceMethod ({ cls := "TideBoatsModel", name := "isSign", desc := "(III)Z" } : Jvm.MethodName)) ∈ lw_all := all_mem 944 (by decide +kernel) (by decide +kernel)
theorem qs40 : (Jvm.Cond.selects "TideBoatsModel" ({ cls := "TideBoatsModel", name := "isSign", desc := "(III)Z" } : Jvm.MethodName) ({ cls := "TideBoatsModel", name := "isSign", desc := "(III)Z" } : Jvm.MethodName)) ∈ lw_all := all_memS 40 (by decide +kernel) (by decide +kernel)
theorem kV_X6_142 : CWV RX6 142 RX6 yX6_isSign cX6_isSign 4 (some .boolean) 3 := cwv_mk q942 q944 qs40 q7 q945 ⟨rfl, ⟨by decide +kernel, by decide +kernel, by decide +kernel⟩⟩
theorem q949 : (Jvm.Cond.code ({ cls := "TideBoatsModel", name := "cellEnd", desc := "(I)I" } : Jvm.MethodName) prog_8_method_41_code (2 : Nat) (Option.some Jvm.ClassFile.FieldType.int)) ∈ lw_all := all_mem 949 (by decide +kernel) (by decide +kernel)
theorem q946 : (Jvm.Cond.methodLink "TideBoatsModel" (145 : Nat) ({ cls := "TideBoatsModel", name := "cellEnd", desc := "(I)I" } : Jvm.MethodName)) ∈ lw_all := all_mem 946 (by decide +kernel) (by decide +kernel)
theorem q948 : (Jvm.Cond.instanceMethod ({ cls := "TideBoatsModel", name := "cellEnd", desc := "(I)I" } : Jvm.MethodName)) ∈ lw_all := all_mem 948 (by decide +kernel) (by decide +kernel)
theorem qs41 : (Jvm.Cond.selects "TideBoatsModel" ({ cls := "TideBoatsModel", name := "cellEnd", desc := "(I)I" } : Jvm.MethodName) ({ cls := "TideBoatsModel", name := "cellEnd", desc := "(I)I" } : Jvm.MethodName)) ∈ lw_all := all_memS 41 (by decide +kernel) (by decide +kernel)
theorem kV_X6_145 : CWV RX6 145 RX6 yX6_cellEnd cX6_cellEnd 2 (some .int) 1 := cwv_mk q946 q948 qs41 q7 q949 ⟨rfl, ⟨by decide +kernel, by decide +kernel, by decide +kernel⟩⟩
theorem q953 : (Jvm.Cond.code ({ cls := "TideBoatsModel", name := "directionOf", desc := "(I)I" } : Jvm.MethodName) prog_8_method_43_code (2 : Nat) (Option.some Jvm.ClassFile.FieldType.int)) ∈ lw_all := all_mem 953 (by decide +kernel) (by decide +kernel)
theorem q950 : (Jvm.Cond.methodLink "TideBoatsModel" (148 : Nat) ({ cls := "TideBoatsModel", name := "directionOf", desc := "(I)I" } : Jvm.MethodName)) ∈ lw_all := all_mem 950 (by decide +kernel) (by decide +kernel)
theorem q952 : (Jvm.Cond.instanceMethod ({ cls := "TideBoatsModel", name := "directionOf", desc := "(I)I" } : Jvm.MethodName)) ∈ lw_all := all_mem 952 (by decide +kernel) (by decide +kernel)
theorem qs42 : (Jvm.Cond.selects "TideBoatsModel" ({ cls := "TideBoatsModel", name := "directionOf", desc := "(I)I" } : Jvm.MethodName) ({ cls := "TideBoatsModel", name := "directionOf", desc := "(I)I" } : Jvm.MethodName)) ∈ lw_all := all_memS 42 (by decide +kernel) (by decide +kernel)
theorem kV_X6_148 : CWV RX6 148 RX6 yX6_directionOf cX6_directionOf 2 (some .int) 1 := cwv_mk q950 q952 qs42 q7 q953 ⟨rfl, ⟨by decide +kernel, by decide +kernel, by decide +kernel⟩⟩
theorem q957 : (Jvm.Cond.code ({ cls := "TideBoatsModel", name := "sandEnd", desc := "(I)I" } : Jvm.MethodName) prog_8_method_44_code (3 : Nat) (Option.some Jvm.ClassFile.FieldType.int)) ∈ lw_all := all_mem 957 (by decide +kernel) (by decide +kernel)
theorem q954 : (Jvm.Cond.methodLink "TideBoatsModel" (151 : Nat) ({ cls := "TideBoatsModel", name := "sandEnd", desc := "(I)I" } : Jvm.MethodName)) ∈ lw_all := all_mem 954 (by decide +kernel) (by decide +kernel)
theorem q956 : (Jvm.Cond.instanceMethod ({ cls := "TideBoatsModel", name := "sandEnd", desc := "(I)I" } : Jvm.MethodName)) ∈ lw_all := all_mem 956 (by decide +kernel) (by decide +kernel)
theorem qs43 : (Jvm.Cond.selects "TideBoatsModel" ({ cls := "TideBoatsModel", name := "sandEnd", desc := "(I)I" } : Jvm.MethodName) ({ cls := "TideBoatsModel", name := "sandEnd", desc := "(I)I" } : Jvm.MethodName)) ∈ lw_all := all_memS 43 (by decide +kernel) (by decide +kernel)
theorem kV_X6_151 : CWV RX6 151 RX6 yX6_sandEnd cX6_sandEnd 3 (some .int) 1 := cwv_mk q954 q956 qs43 q7 q957 ⟨rfl, ⟨by decide +kernel, by decide +kernel, by decide +kernel⟩⟩
theorem q937 : (Jvm.Cond.code ({ cls := "TideBoatsModel", name := "orderEnd", desc := "(I)I" } : Jvm.MethodName) prog_8_method_45_code (3 : Nat) (Option.some Jvm.ClassFile.FieldType.int)) ∈ lw_all := all_mem 937 (by decide +kernel) (by decide +kernel)
theorem q934 : (Jvm.Cond.methodLink "TideBoatsModel" (154 : Nat) ({ cls := "TideBoatsModel", name := "orderEnd", desc := "(I)I" } : Jvm.MethodName)) ∈ lw_all := all_mem 934 (by decide +kernel) (by decide +kernel)
theorem q936 : (Jvm.Cond.instanceMethod ({ cls := "TideBoatsModel", name := "orderEnd", desc := "(I)I" } : Jvm.MethodName)) ∈ lw_all := all_mem 936 (by decide +kernel) (by decide +kernel)
theorem qs38 : (Jvm.Cond.selects "TideBoatsModel" ({ cls := "TideBoatsModel", name := "orderEnd", desc := "(I)I" } : Jvm.MethodName) ({ cls := "TideBoatsModel", name := "orderEnd", desc := "(I)I" } : Jvm.MethodName)) ∈ lw_all := all_memS 38 (by decide +kernel) (by decide +kernel)
theorem kV_X6_154 : CWV RX6 154 RX6 yX6_orderEnd cX6_orderEnd 3 (some .int) 1 := cwv_mk q934 q936 qs38 q7 q937 ⟨rfl, ⟨by decide +kernel, by decide +kernel, by decide +kernel⟩⟩
theorem q970 : (Jvm.Cond.code ({ cls := "TideBoatsModel", name := "cellIn", desc := "(I)I" } : Jvm.MethodName) prog_8_method_42_code (2 : Nat) (Option.some Jvm.ClassFile.FieldType.int)) ∈ lw_all := all_mem 970 (by decide +kernel) (by decide +kernel)
theorem q967 : (Jvm.Cond.methodLink "TideBoatsModel" (157 : Nat) ({ cls := "TideBoatsModel", name := "cellIn", desc := "(I)I" } : Jvm.MethodName)) ∈ lw_all := all_mem 967 (by decide +kernel) (by decide +kernel)
theorem q969 : (Jvm.Cond.instanceMethod ({ cls := "TideBoatsModel", name := "cellIn", desc := "(I)I" } : Jvm.MethodName)) ∈ lw_all := all_mem 969 (by decide +kernel) (by decide +kernel)
theorem qs45 : (Jvm.Cond.selects "TideBoatsModel" ({ cls := "TideBoatsModel", name := "cellIn", desc := "(I)I" } : Jvm.MethodName) ({ cls := "TideBoatsModel", name := "cellIn", desc := "(I)I" } : Jvm.MethodName)) ∈ lw_all := all_memS 45 (by decide +kernel) (by decide +kernel)
theorem kV_X6_157 : CWV RX6 157 RX6 yX6_cellIn cX6_cellIn 2 (some .int) 1 := cwv_mk q967 q969 qs45 q7 q970 ⟨rfl, ⟨by decide +kernel, by decide +kernel, by decide +kernel⟩⟩
theorem q933 : (Jvm.Cond.code ({ cls := "TideBoatsModel", name := "fault", desc := "()I" } : Jvm.MethodName) prog_8_method_46_code (4 : Nat) (Option.some Jvm.ClassFile.FieldType.int)) ∈ lw_all := all_mem 933 (by decide +kernel) (by decide +kernel)
theorem q962 : (Jvm.Cond.methodLink "TideBoatsModel" (160 : Nat) ({ cls := "TideBoatsModel", name := "fault", desc := "()I" } : Jvm.MethodName)) ∈ lw_all := all_mem 962 (by decide +kernel) (by decide +kernel)
theorem q931 : (Jvm.Cond.instanceMethod ({ cls := "TideBoatsModel", name := "fault", desc := "()I" } : Jvm.MethodName)) ∈ lw_all := all_mem 931 (by decide +kernel) (by decide +kernel)
theorem q932 : (Jvm.Cond.selects "TideBoatsModel" ({ cls := "TideBoatsModel", name := "fault", desc := "()I" } : Jvm.MethodName) ({ cls := "TideBoatsModel", name := "fault", desc := "()I" } : Jvm.MethodName)) ∈ lw_all := all_mem 932 (by decide +kernel) (by decide +kernel)
theorem kV_X6_160 : CWV RX6 160 RX6 yX6_fault cX6_fault 4 (some .int) 0 := cwv_mk q962 q931 q932 q7 q933 ⟨rfl, ⟨by decide +kernel, by decide +kernel, by decide +kernel⟩⟩
theorem q966 : (Jvm.Cond.code ({ cls := "TideBoatsModel", name := "does", desc := "(I)I" } : Jvm.MethodName) prog_8_method_47_code (2 : Nat) (Option.some Jvm.ClassFile.FieldType.int)) ∈ lw_all := all_mem 966 (by decide +kernel) (by decide +kernel)
theorem q963 : (Jvm.Cond.methodLink "TideBoatsModel" (164 : Nat) ({ cls := "TideBoatsModel", name := "does", desc := "(I)I" } : Jvm.MethodName)) ∈ lw_all := all_mem 963 (by decide +kernel) (by decide +kernel)
theorem q965 : (Jvm.Cond.instanceMethod ({ cls := "TideBoatsModel", name := "does", desc := "(I)I" } : Jvm.MethodName)) ∈ lw_all := all_mem 965 (by decide +kernel) (by decide +kernel)
theorem qs44 : (Jvm.Cond.selects "TideBoatsModel" ({ cls := "TideBoatsModel", name := "does", desc := "(I)I" } : Jvm.MethodName) ({ cls := "TideBoatsModel", name := "does", desc := "(I)I" } : Jvm.MethodName)) ∈ lw_all := all_memS 44 (by decide +kernel) (by decide +kernel)
theorem kV_X6_164 : CWV RX6 164 RX6 yX6_does cX6_does 2 (some .int) 1 := cwv_mk q963 q965 qs44 q7 q966 ⟨rfl, ⟨by decide +kernel, by decide +kernel, by decide +kernel⟩⟩
theorem q761 : (Jvm.Cond.fieldLink "TideBoatsModel" (167 : Nat) "TideBoatsModel" "isKept" "Z") ∈ lw_all := all_mem 761 (by decide +kernel) (by decide +kernel)
theorem fl_X6_167 : FLD RX6 167 6 4 := ⟨RX6, TX6, 11, rfl, Nat.le_of_ble_eq_true rfl, in_X6, q761⟩
theorem q994 : (Jvm.Cond.code ({ cls := "TideBoatsModel", name := "movesOf", desc := "(I)I" } : Jvm.MethodName) prog_8_method_53_code (4 : Nat) (Option.some Jvm.ClassFile.FieldType.int)) ∈ lw_all := all_mem 994 (by decide +kernel) (by decide +kernel)
theorem q991 : (Jvm.Cond.methodLink "TideBoatsModel" (171 : Nat) ({ cls := "TideBoatsModel", name := "movesOf", desc := "(I)I" } : Jvm.MethodName)) ∈ lw_all := all_mem 991 (by decide +kernel) (by decide +kernel)
theorem q993 : (Jvm.Cond.instanceMethod ({ cls := "TideBoatsModel", name := "movesOf", desc := "(I)I" } : Jvm.MethodName)) ∈ lw_all := all_mem 993 (by decide +kernel) (by decide +kernel)
theorem qs46 : (Jvm.Cond.selects "TideBoatsModel" ({ cls := "TideBoatsModel", name := "movesOf", desc := "(I)I" } : Jvm.MethodName) ({ cls := "TideBoatsModel", name := "movesOf", desc := "(I)I" } : Jvm.MethodName)) ∈ lw_all := all_memS 46 (by decide +kernel) (by decide +kernel)
theorem kV_X6_171 : CWV RX6 171 RX6 yX6_movesOf cX6_movesOf 4 (some .int) 1 := cwv_mk q991 q993 qs46 q7 q994 ⟨rfl, ⟨by decide +kernel, by decide +kernel, by decide +kernel⟩⟩
theorem q1010 : (Jvm.Cond.code ({ cls := "TideBoatsModel", name := "score", desc := "(I)I" } : Jvm.MethodName) prog_8_method_57_code (4 : Nat) (Option.some Jvm.ClassFile.FieldType.int)) ∈ lw_all := all_mem 1010 (by decide +kernel) (by decide +kernel)
theorem q1007 : (Jvm.Cond.methodLink "TideBoatsModel" (174 : Nat) ({ cls := "TideBoatsModel", name := "score", desc := "(I)I" } : Jvm.MethodName)) ∈ lw_all := all_mem 1007 (by decide +kernel) (by decide +kernel)
theorem q1009 : (Jvm.Cond.instanceMethod ({ cls := "TideBoatsModel", name := "score", desc := "(I)I" } : Jvm.MethodName)) ∈ lw_all := all_mem 1009 (by decide +kernel) (by decide +kernel)
theorem qs47 : (Jvm.Cond.selects "TideBoatsModel" ({ cls := "TideBoatsModel", name := "score", desc := "(I)I" } : Jvm.MethodName) ({ cls := "TideBoatsModel", name := "score", desc := "(I)I" } : Jvm.MethodName)) ∈ lw_all := all_memS 47 (by decide +kernel) (by decide +kernel)
theorem kV_X6_174 : CWV RX6 174 RX6 yX6_score cX6_score 4 (some .int) 1 := cwv_mk q1007 q1009 qs47 q7 q1010 ⟨rfl, ⟨by decide +kernel, by decide +kernel, by decide +kernel⟩⟩
theorem q1014 : (Jvm.Cond.code ({ cls := "TideBoatsModel", name := "aground", desc := "()I" } : Jvm.MethodName) prog_8_method_58_code (3 : Nat) (Option.some Jvm.ClassFile.FieldType.int)) ∈ lw_all := all_mem 1014 (by decide +kernel) (by decide +kernel)
theorem q1011 : (Jvm.Cond.methodLink "TideBoatsModel" (177 : Nat) ({ cls := "TideBoatsModel", name := "aground", desc := "()I" } : Jvm.MethodName)) ∈ lw_all := all_mem 1011 (by decide +kernel) (by decide +kernel)
theorem q1013 : (Jvm.Cond.instanceMethod ({ cls := "TideBoatsModel", name := "aground", desc := "()I" } : Jvm.MethodName)) ∈ lw_all := all_mem 1013 (by decide +kernel) (by decide +kernel)
theorem qs48 : (Jvm.Cond.selects "TideBoatsModel" ({ cls := "TideBoatsModel", name := "aground", desc := "()I" } : Jvm.MethodName) ({ cls := "TideBoatsModel", name := "aground", desc := "()I" } : Jvm.MethodName)) ∈ lw_all := all_memS 48 (by decide +kernel) (by decide +kernel)
theorem kV_X6_177 : CWV RX6 177 RX6 yX6_aground cX6_aground 3 (some .int) 0 := cwv_mk q1011 q1013 qs48 q7 q1014 ⟨rfl, ⟨by decide +kernel, by decide +kernel, by decide +kernel⟩⟩
theorem q1018 : (Jvm.Cond.code ({ cls := "TideBoatsModel", name := "movesNow", desc := "()I" } : Jvm.MethodName) prog_8_method_59_code (3 : Nat) (Option.some Jvm.ClassFile.FieldType.int)) ∈ lw_all := all_mem 1018 (by decide +kernel) (by decide +kernel)
theorem q1015 : (Jvm.Cond.methodLink "TideBoatsModel" (180 : Nat) ({ cls := "TideBoatsModel", name := "movesNow", desc := "()I" } : Jvm.MethodName)) ∈ lw_all := all_mem 1015 (by decide +kernel) (by decide +kernel)
theorem q1017 : (Jvm.Cond.instanceMethod ({ cls := "TideBoatsModel", name := "movesNow", desc := "()I" } : Jvm.MethodName)) ∈ lw_all := all_mem 1017 (by decide +kernel) (by decide +kernel)
theorem qs49 : (Jvm.Cond.selects "TideBoatsModel" ({ cls := "TideBoatsModel", name := "movesNow", desc := "()I" } : Jvm.MethodName) ({ cls := "TideBoatsModel", name := "movesNow", desc := "()I" } : Jvm.MethodName)) ∈ lw_all := all_memS 49 (by decide +kernel) (by decide +kernel)
theorem kV_X6_180 : CWV RX6 180 RX6 yX6_movesNow cX6_movesNow 3 (some .int) 0 := cwv_mk q1015 q1017 qs49 q7 q1018 ⟨rfl, ⟨by decide +kernel, by decide +kernel, by decide +kernel⟩⟩
theorem q1027 : (Jvm.Cond.code ({ cls := "TideBoatsModel", name := "period", desc := "()I" } : Jvm.MethodName) prog_8_method_61_code (1 : Nat) (Option.some Jvm.ClassFile.FieldType.int)) ∈ lw_all := all_mem 1027 (by decide +kernel) (by decide +kernel)
theorem q1024 : (Jvm.Cond.methodLink "TideBoatsModel" (184 : Nat) ({ cls := "TideBoatsModel", name := "period", desc := "()I" } : Jvm.MethodName)) ∈ lw_all := all_mem 1024 (by decide +kernel) (by decide +kernel)
theorem q1026 : (Jvm.Cond.instanceMethod ({ cls := "TideBoatsModel", name := "period", desc := "()I" } : Jvm.MethodName)) ∈ lw_all := all_mem 1026 (by decide +kernel) (by decide +kernel)
theorem qs50 : (Jvm.Cond.selects "TideBoatsModel" ({ cls := "TideBoatsModel", name := "period", desc := "()I" } : Jvm.MethodName) ({ cls := "TideBoatsModel", name := "period", desc := "()I" } : Jvm.MethodName)) ∈ lw_all := all_memS 50 (by decide +kernel) (by decide +kernel)
theorem kV_X6_184 : CWV RX6 184 RX6 yX6_period cX6_period 1 (some .int) 0 := cwv_mk q1024 q1026 qs50 q7 q1027 ⟨rfl, ⟨by decide +kernel, by decide +kernel, by decide +kernel⟩⟩
theorem q1043 : (Jvm.Cond.code ({ cls := "TideBoatsModel", name := "goes", desc := "(III)Z" } : Jvm.MethodName) prog_8_method_64_code (9 : Nat) (Option.some Jvm.ClassFile.FieldType.boolean)) ∈ lw_all := all_mem 1043 (by decide +kernel) (by decide +kernel)
theorem q1040 : (Jvm.Cond.methodLink "TideBoatsModel" (187 : Nat) ({ cls := "TideBoatsModel", name := "goes", desc := "(III)Z" } : Jvm.MethodName)) ∈ lw_all := all_mem 1040 (by decide +kernel) (by decide +kernel)
theorem q1042 : (Jvm.Cond.instanceMethod ({ cls := "TideBoatsModel", name := "goes", desc := "(III)Z" } : Jvm.MethodName)) ∈ lw_all := all_mem 1042 (by decide +kernel) (by decide +kernel)
theorem qs52 : (Jvm.Cond.selects "TideBoatsModel" ({ cls := "TideBoatsModel", name := "goes", desc := "(III)Z" } : Jvm.MethodName) ({ cls := "TideBoatsModel", name := "goes", desc := "(III)Z" } : Jvm.MethodName)) ∈ lw_all := all_memS 52 (by decide +kernel) (by decide +kernel)
theorem kV_X6_187 : CWV RX6 187 RX6 yX6_goes cX6_goes 9 (some .boolean) 3 := cwv_mk q1040 q1042 qs52 q7 q1043 ⟨rfl, ⟨by decide +kernel, by decide +kernel, by decide +kernel⟩⟩
theorem q1051 : (Jvm.Cond.code ({ cls := "TideBoatsModel", name := "fewest", desc := "(III)I" } : Jvm.MethodName) prog_8_method_66_code (10 : Nat) (Option.some Jvm.ClassFile.FieldType.int)) ∈ lw_all := all_mem 1051 (by decide +kernel) (by decide +kernel)
theorem q1048 : (Jvm.Cond.methodLink "TideBoatsModel" (190 : Nat) ({ cls := "TideBoatsModel", name := "fewest", desc := "(III)I" } : Jvm.MethodName)) ∈ lw_all := all_mem 1048 (by decide +kernel) (by decide +kernel)
theorem q1050 : (Jvm.Cond.instanceMethod ({ cls := "TideBoatsModel", name := "fewest", desc := "(III)I" } : Jvm.MethodName)) ∈ lw_all := all_mem 1050 (by decide +kernel) (by decide +kernel)
theorem qs54 : (Jvm.Cond.selects "TideBoatsModel" ({ cls := "TideBoatsModel", name := "fewest", desc := "(III)I" } : Jvm.MethodName) ({ cls := "TideBoatsModel", name := "fewest", desc := "(III)I" } : Jvm.MethodName)) ∈ lw_all := all_memS 54 (by decide +kernel) (by decide +kernel)
theorem kV_X6_190 : CWV RX6 190 RX6 yX6_fewest cX6_fewest 10 (some .int) 3 := cwv_mk q1048 q1050 qs54 q7 q1051 ⟨rfl, ⟨by decide +kernel, by decide +kernel, by decide +kernel⟩⟩
theorem q1039 : (Jvm.Cond.code ({ cls := "TideBoatsModel", name := "forth", desc := "(II)I" } : Jvm.MethodName) prog_8_method_65_code (5 : Nat) (Option.some Jvm.ClassFile.FieldType.int)) ∈ lw_all := all_mem 1039 (by decide +kernel) (by decide +kernel)
theorem q1036 : (Jvm.Cond.methodLink "TideBoatsModel" (193 : Nat) ({ cls := "TideBoatsModel", name := "forth", desc := "(II)I" } : Jvm.MethodName)) ∈ lw_all := all_mem 1036 (by decide +kernel) (by decide +kernel)
theorem q1038 : (Jvm.Cond.instanceMethod ({ cls := "TideBoatsModel", name := "forth", desc := "(II)I" } : Jvm.MethodName)) ∈ lw_all := all_mem 1038 (by decide +kernel) (by decide +kernel)
theorem qs51 : (Jvm.Cond.selects "TideBoatsModel" ({ cls := "TideBoatsModel", name := "forth", desc := "(II)I" } : Jvm.MethodName) ({ cls := "TideBoatsModel", name := "forth", desc := "(II)I" } : Jvm.MethodName)) ∈ lw_all := all_memS 51 (by decide +kernel) (by decide +kernel)
theorem kV_X6_193 : CWV RX6 193 RX6 yX6_forth cX6_forth 5 (some .int) 2 := cwv_mk q1036 q1038 qs51 q7 q1039 ⟨rfl, ⟨by decide +kernel, by decide +kernel, by decide +kernel⟩⟩
theorem q1047 : (Jvm.Cond.code ({ cls := "TideBoatsModel", name := "back", desc := "(I)I" } : Jvm.MethodName) prog_8_method_67_code (4 : Nat) (Option.some Jvm.ClassFile.FieldType.int)) ∈ lw_all := all_mem 1047 (by decide +kernel) (by decide +kernel)
theorem q1044 : (Jvm.Cond.methodLink "TideBoatsModel" (196 : Nat) ({ cls := "TideBoatsModel", name := "back", desc := "(I)I" } : Jvm.MethodName)) ∈ lw_all := all_mem 1044 (by decide +kernel) (by decide +kernel)
theorem q1046 : (Jvm.Cond.instanceMethod ({ cls := "TideBoatsModel", name := "back", desc := "(I)I" } : Jvm.MethodName)) ∈ lw_all := all_mem 1046 (by decide +kernel) (by decide +kernel)
theorem qs53 : (Jvm.Cond.selects "TideBoatsModel" ({ cls := "TideBoatsModel", name := "back", desc := "(I)I" } : Jvm.MethodName) ({ cls := "TideBoatsModel", name := "back", desc := "(I)I" } : Jvm.MethodName)) ∈ lw_all := all_memS 53 (by decide +kernel) (by decide +kernel)
theorem kV_X6_196 : CWV RX6 196 RX6 yX6_back cX6_back 4 (some .int) 1 := cwv_mk q1044 q1046 qs53 q7 q1047 ⟨rfl, ⟨by decide +kernel, by decide +kernel, by decide +kernel⟩⟩
theorem q1063 : (Jvm.Cond.code ({ cls := "TideBoatsModel", name := "worth", desc := "(II)I" } : Jvm.MethodName) prog_8_method_70_code (5 : Nat) (Option.some Jvm.ClassFile.FieldType.int)) ∈ lw_all := all_mem 1063 (by decide +kernel) (by decide +kernel)
theorem q1060 : (Jvm.Cond.methodLink "TideBoatsModel" (199 : Nat) ({ cls := "TideBoatsModel", name := "worth", desc := "(II)I" } : Jvm.MethodName)) ∈ lw_all := all_mem 1060 (by decide +kernel) (by decide +kernel)
theorem q1062 : (Jvm.Cond.instanceMethod ({ cls := "TideBoatsModel", name := "worth", desc := "(II)I" } : Jvm.MethodName)) ∈ lw_all := all_mem 1062 (by decide +kernel) (by decide +kernel)
theorem qs55 : (Jvm.Cond.selects "TideBoatsModel" ({ cls := "TideBoatsModel", name := "worth", desc := "(II)I" } : Jvm.MethodName) ({ cls := "TideBoatsModel", name := "worth", desc := "(II)I" } : Jvm.MethodName)) ∈ lw_all := all_memS 55 (by decide +kernel) (by decide +kernel)
theorem kV_X6_199 : CWV RX6 199 RX6 yX6_worth cX6_worth 5 (some .int) 2 := cwv_mk q1060 q1062 qs55 q7 q1063 ⟨rfl, ⟨by decide +kernel, by decide +kernel, by decide +kernel⟩⟩
theorem q434 : (Jvm.Cond.code ({ cls := "java/lang/String", name := "coder", desc := "()B" } : Jvm.MethodName) prog_11_method_152_code (1 : Nat) (Option.some Jvm.ClassFile.FieldType.byte)) ∈ lw_all := all_mem 434 (by decide +kernel) (by decide +kernel)
theorem q431 : (Jvm.Cond.methodLink "java/lang/String" (335 : Nat) ({ cls := "java/lang/String", name := "coder", desc := "()B" } : Jvm.MethodName)) ∈ lw_all := all_mem 431 (by decide +kernel) (by decide +kernel)
theorem q432 : (Jvm.Cond.instanceMethod ({ cls := "java/lang/String", name := "coder", desc := "()B" } : Jvm.MethodName)) ∈ lw_all := all_mem 432 (by decide +kernel) (by decide +kernel)
theorem q433 : (Jvm.Cond.selects "java/lang/String" ({ cls := "java/lang/String", name := "coder", desc := "()B" } : Jvm.MethodName) ({ cls := "java/lang/String", name := "coder", desc := "()B" } : Jvm.MethodName)) ∈ lw_all := all_mem 433 (by decide +kernel) (by decide +kernel)
theorem kV_J0_335 : CWV RJ0 335 RJ0 yJ0_coder_7d493 cJ0_coder_7d493 1 (some .byte) 0 := cwv_mk q431 q432 q433 q8 q434 ⟨rfl, ⟨by decide +kernel, by decide +kernel, by decide +kernel⟩⟩
theorem q424 : (Jvm.Cond.code ({ cls := "java/lang/String", name := "isLatin1", desc := "()Z" } : Jvm.MethodName) prog_11_method_154_code (1 : Nat) (Option.some Jvm.ClassFile.FieldType.boolean)) ∈ lw_all := all_mem 424 (by decide +kernel) (by decide +kernel)
theorem q421 : (Jvm.Cond.methodLink "java/lang/String" (492 : Nat) ({ cls := "java/lang/String", name := "isLatin1", desc := "()Z" } : Jvm.MethodName)) ∈ lw_all := all_mem 421 (by decide +kernel) (by decide +kernel)
theorem q422 : (Jvm.Cond.instanceMethod ({ cls := "java/lang/String", name := "isLatin1", desc := "()Z" } : Jvm.MethodName)) ∈ lw_all := all_mem 422 (by decide +kernel) (by decide +kernel)
theorem q423 : (Jvm.Cond.selects "java/lang/String" ({ cls := "java/lang/String", name := "isLatin1", desc := "()Z" } : Jvm.MethodName) ({ cls := "java/lang/String", name := "isLatin1", desc := "()Z" } : Jvm.MethodName)) ∈ lw_all := all_mem 423 (by decide +kernel) (by decide +kernel)
theorem kV_J0_492 : CWV RJ0 492 RJ0 yJ0_isLatin1_aae02 cJ0_isLatin1_aae02 1 (some .boolean) 0 := cwv_mk q421 q422 q423 q8 q424 ⟨rfl, ⟨by decide +kernel, by decide +kernel, by decide +kernel⟩⟩
theorem q511 : (Jvm.Cond.code ({ cls := "java/lang/StringLatin1", name := "charAt", desc := "([BI)C" } : Jvm.MethodName) prog_12_method_2_code (2 : Nat) (Option.some Jvm.ClassFile.FieldType.char)) ∈ lw_all := all_mem 511 (by decide +kernel) (by decide +kernel)
theorem q510 : (Jvm.Cond.static ({ cls := "java/lang/StringLatin1", name := "charAt", desc := "([BI)C" } : Jvm.MethodName)) ∈ lw_all := all_mem 510 (by decide +kernel) (by decide +kernel)
theorem q509 : (Jvm.Cond.methodLink "java/lang/String" (495 : Nat) ({ cls := "java/lang/StringLatin1", name := "charAt", desc := "([BI)C" } : Jvm.MethodName)) ∈ lw_all := all_mem 509 (by decide +kernel) (by decide +kernel)
theorem q9 : (Jvm.Cond.initialized "java/lang/StringLatin1") ∈ lw_all := all_mem 9 (by decide +kernel) (by decide +kernel)
theorem kS_J0_495 : CWS RJ0 495 yJ1_charAt_3b067 cJ1_charAt_3b067 2 (some .char) 2 := cws_mk q509 q510 q9 q511 ⟨by decide +kernel, by decide +kernel, by decide +kernel⟩
theorem q520 : (Jvm.Cond.code ({ cls := "java/lang/StringUTF16", name := "charAt", desc := "([BI)C" } : Jvm.MethodName) prog_13_method_83_code (2 : Nat) (Option.some Jvm.ClassFile.FieldType.char)) ∈ lw_all := all_mem 520 (by decide +kernel) (by decide +kernel)
theorem q519 : (Jvm.Cond.static ({ cls := "java/lang/StringUTF16", name := "charAt", desc := "([BI)C" } : Jvm.MethodName)) ∈ lw_all := all_mem 519 (by decide +kernel) (by decide +kernel)
theorem q518 : (Jvm.Cond.methodLink "java/lang/String" (498 : Nat) ({ cls := "java/lang/StringUTF16", name := "charAt", desc := "([BI)C" } : Jvm.MethodName)) ∈ lw_all := all_mem 518 (by decide +kernel) (by decide +kernel)
theorem q11 : (Jvm.Cond.initialized "java/lang/StringUTF16") ∈ lw_all := all_mem 11 (by decide +kernel) (by decide +kernel)
theorem kS_J0_498 : CWS RJ0 498 yJ2_charAt_3b067 cJ2_charAt_3b067 2 (some .char) 2 := cws_mk q518 q519 q11 q520 ⟨by decide +kernel, by decide +kernel, by decide +kernel⟩
theorem q420 : (Jvm.Cond.code ({ cls := "java/lang/String", name := "indexOf", desc := "(II)I" } : Jvm.MethodName) prog_11_method_80_code (3 : Nat) (Option.some Jvm.ClassFile.FieldType.int)) ∈ lw_all := all_mem 420 (by decide +kernel) (by decide +kernel)
theorem q417 : (Jvm.Cond.methodLink "java/lang/String" (633 : Nat) ({ cls := "java/lang/String", name := "indexOf", desc := "(II)I" } : Jvm.MethodName)) ∈ lw_all := all_mem 417 (by decide +kernel) (by decide +kernel)
theorem q418 : (Jvm.Cond.instanceMethod ({ cls := "java/lang/String", name := "indexOf", desc := "(II)I" } : Jvm.MethodName)) ∈ lw_all := all_mem 418 (by decide +kernel) (by decide +kernel)
theorem q419 : (Jvm.Cond.selects "java/lang/String" ({ cls := "java/lang/String", name := "indexOf", desc := "(II)I" } : Jvm.MethodName) ({ cls := "java/lang/String", name := "indexOf", desc := "(II)I" } : Jvm.MethodName)) ∈ lw_all := all_mem 419 (by decide +kernel) (by decide +kernel)
theorem kV_J0_633 : CWV RJ0 633 RJ0 yJ0_indexOf_7cf53 cJ0_indexOf_7cf53 3 (some .int) 2 := cwv_mk q417 q418 q419 q8 q420 ⟨rfl, ⟨by decide +kernel, by decide +kernel, by decide +kernel⟩⟩
theorem q427 : (Jvm.Cond.methodLink "java/lang/String" (505 : Nat) ({ cls := "java/lang/String", name := "length", desc := "()I" } : Jvm.MethodName)) ∈ lw_all := all_mem 427 (by decide +kernel) (by decide +kernel)
theorem kV_J0_505 : CWV RJ0 505 RJ0 yJ0_length_8abf5 cJ0_length_8abf5 1 (some .int) 0 := cwv_mk q427 q428 q429 q8 q430 ⟨rfl, ⟨by decide +kernel, by decide +kernel, by decide +kernel⟩⟩
theorem q437 : (Jvm.Cond.code ({ cls := "java/lang/StringLatin1", name := "indexOf", desc := "([BIII)I" } : Jvm.MethodName) prog_12_method_22_code (4 : Nat) (Option.some Jvm.ClassFile.FieldType.int)) ∈ lw_all := all_mem 437 (by decide +kernel) (by decide +kernel)
theorem q436 : (Jvm.Cond.static ({ cls := "java/lang/StringLatin1", name := "indexOf", desc := "([BIII)I" } : Jvm.MethodName)) ∈ lw_all := all_mem 436 (by decide +kernel) (by decide +kernel)
theorem q435 : (Jvm.Cond.methodLink "java/lang/String" (637 : Nat) ({ cls := "java/lang/StringLatin1", name := "indexOf", desc := "([BIII)I" } : Jvm.MethodName)) ∈ lw_all := all_mem 435 (by decide +kernel) (by decide +kernel)
theorem kS_J0_637 : CWS RJ0 637 yJ1_indexOf_4cfef cJ1_indexOf_4cfef 4 (some .int) 4 := cws_mk q435 q436 q9 q437 ⟨by decide +kernel, by decide +kernel, by decide +kernel⟩
theorem q452 : (Jvm.Cond.code ({ cls := "java/lang/StringUTF16", name := "indexOf", desc := "([BIII)I" } : Jvm.MethodName) prog_13_method_40_code (4 : Nat) (Option.some Jvm.ClassFile.FieldType.int)) ∈ lw_all := all_mem 452 (by decide +kernel) (by decide +kernel)
theorem q451 : (Jvm.Cond.static ({ cls := "java/lang/StringUTF16", name := "indexOf", desc := "([BIII)I" } : Jvm.MethodName)) ∈ lw_all := all_mem 451 (by decide +kernel) (by decide +kernel)
theorem q450 : (Jvm.Cond.methodLink "java/lang/String" (640 : Nat) ({ cls := "java/lang/StringUTF16", name := "indexOf", desc := "([BIII)I" } : Jvm.MethodName)) ∈ lw_all := all_mem 450 (by decide +kernel) (by decide +kernel)
theorem kS_J0_640 : CWS RJ0 640 yJ2_indexOf_4cfef cJ2_indexOf_4cfef 4 (some .int) 4 := cws_mk q450 q451 q11 q452 ⟨by decide +kernel, by decide +kernel, by decide +kernel⟩
theorem q517 : (Jvm.Cond.code ({ cls := "jdk/internal/util/Preconditions", name := "checkIndex", desc := "(IILjava/util/function/BiFunction;)I" } : Jvm.MethodName) prog_14_method_11_code (3 : Nat) (Option.some Jvm.ClassFile.FieldType.int)) ∈ lw_all := all_mem 517 (by decide +kernel) (by decide +kernel)
theorem q516 : (Jvm.Cond.static ({ cls := "jdk/internal/util/Preconditions", name := "checkIndex", desc := "(IILjava/util/function/BiFunction;)I" } : Jvm.MethodName)) ∈ lw_all := all_mem 516 (by decide +kernel) (by decide +kernel)
theorem q515 : (Jvm.Cond.methodLink "java/lang/String" (1059 : Nat) ({ cls := "jdk/internal/util/Preconditions", name := "checkIndex", desc := "(IILjava/util/function/BiFunction;)I" } : Jvm.MethodName)) ∈ lw_all := all_mem 515 (by decide +kernel) (by decide +kernel)
theorem q12 : (Jvm.Cond.initialized "jdk/internal/util/Preconditions") ∈ lw_all := all_mem 12 (by decide +kernel) (by decide +kernel)
theorem kS_J0_1059 : CWS RJ0 1059 yJ3_checkIndex_8e157 cJ3_checkIndex_8e157 3 (some .int) 3 := cws_mk q515 q516 q12 q517 ⟨by decide +kernel, by decide +kernel, by decide +kernel⟩
theorem q472 : (Jvm.Cond.code ({ cls := "jdk/internal/util/Preconditions", name := "checkFromToIndex", desc := "(IIILjava/util/function/BiFunction;)I" } : Jvm.MethodName) prog_14_method_12_code (4 : Nat) (Option.some Jvm.ClassFile.FieldType.int)) ∈ lw_all := all_mem 472 (by decide +kernel) (by decide +kernel)
theorem q471 : (Jvm.Cond.static ({ cls := "jdk/internal/util/Preconditions", name := "checkFromToIndex", desc := "(IIILjava/util/function/BiFunction;)I" } : Jvm.MethodName)) ∈ lw_all := all_mem 471 (by decide +kernel) (by decide +kernel)
theorem q470 : (Jvm.Cond.methodLink "java/lang/String" (1062 : Nat) ({ cls := "jdk/internal/util/Preconditions", name := "checkFromToIndex", desc := "(IIILjava/util/function/BiFunction;)I" } : Jvm.MethodName)) ∈ lw_all := all_mem 470 (by decide +kernel) (by decide +kernel)
theorem kS_J0_1062 : CWS RJ0 1062 yJ3_checkFromToIndex_8c36e cJ3_checkFromToIndex_8c36e 4 (some .int) 4 := cws_mk q470 q471 q12 q472 ⟨by decide +kernel, by decide +kernel, by decide +kernel⟩
theorem q514 : (Jvm.Cond.code ({ cls := "java/lang/String", name := "checkIndex", desc := "(II)V" } : Jvm.MethodName) prog_11_method_155_code (2 : Nat) (Option.none : Option Jvm.ClassFile.FieldType)) ∈ lw_all := all_mem 514 (by decide +kernel) (by decide +kernel)
theorem q513 : (Jvm.Cond.static ({ cls := "java/lang/String", name := "checkIndex", desc := "(II)V" } : Jvm.MethodName)) ∈ lw_all := all_mem 513 (by decide +kernel) (by decide +kernel)
theorem q512 : (Jvm.Cond.methodLink "java/lang/StringLatin1" (9 : Nat) ({ cls := "java/lang/String", name := "checkIndex", desc := "(II)V" } : Jvm.MethodName)) ∈ lw_all := all_mem 512 (by decide +kernel) (by decide +kernel)
theorem kS_J1_9 : CWS RJ1 9 yJ0_checkIndex_df160 cJ0_checkIndex_df160 2 (none) 2 := cws_mk q512 q513 q8 q514 ⟨by decide +kernel, by decide +kernel, by decide +kernel⟩
theorem q440 : (Jvm.Cond.code ({ cls := "java/lang/StringLatin1", name := "canEncode", desc := "(I)Z" } : Jvm.MethodName) prog_12_method_4_code (1 : Nat) (Option.some Jvm.ClassFile.FieldType.boolean)) ∈ lw_all := all_mem 440 (by decide +kernel) (by decide +kernel)
theorem q439 : (Jvm.Cond.static ({ cls := "java/lang/StringLatin1", name := "canEncode", desc := "(I)Z" } : Jvm.MethodName)) ∈ lw_all := all_mem 439 (by decide +kernel) (by decide +kernel)
theorem q438 : (Jvm.Cond.methodLink "java/lang/StringLatin1" (88 : Nat) ({ cls := "java/lang/StringLatin1", name := "canEncode", desc := "(I)Z" } : Jvm.MethodName)) ∈ lw_all := all_mem 438 (by decide +kernel) (by decide +kernel)
theorem kS_J1_88 : CWS RJ1 88 yJ1_canEncode_9a6ad cJ1_canEncode_9a6ad 1 (some .boolean) 1 := cws_mk q438 q439 q9 q440 ⟨by decide +kernel, by decide +kernel, by decide +kernel⟩
theorem q441 : (Jvm.Cond.methodLink "java/lang/StringLatin1" (92 : Nat) ({ cls := "java/lang/Math", name := "max", desc := "(II)I" } : Jvm.MethodName)) ∈ lw_all := all_mem 441 (by decide +kernel) (by decide +kernel)
theorem kS_J1_92 : CWS RJ1 92 yJ9_max_7cf53 cJ9_max_7cf53 2 (some .int) 2 := cws_mk q441 q442 q10 q443 ⟨by decide +kernel, by decide +kernel, by decide +kernel⟩
theorem q444 : (Jvm.Cond.methodLink "java/lang/StringLatin1" (38 : Nat) ({ cls := "java/lang/Math", name := "min", desc := "(II)I" } : Jvm.MethodName)) ∈ lw_all := all_mem 444 (by decide +kernel) (by decide +kernel)
theorem kS_J1_38 : CWS RJ1 38 yJ9_min_7cf53 cJ9_min_7cf53 2 (some .int) 2 := cws_mk q444 q445 q10 q446 ⟨by decide +kernel, by decide +kernel, by decide +kernel⟩
theorem q449 : (Jvm.Cond.code ({ cls := "java/lang/StringLatin1", name := "indexOfChar", desc := "([BIII)I" } : Jvm.MethodName) prog_12_method_23_code (6 : Nat) (Option.some Jvm.ClassFile.FieldType.int)) ∈ lw_all := all_mem 449 (by decide +kernel) (by decide +kernel)
theorem q448 : (Jvm.Cond.static ({ cls := "java/lang/StringLatin1", name := "indexOfChar", desc := "([BIII)I" } : Jvm.MethodName)) ∈ lw_all := all_mem 448 (by decide +kernel) (by decide +kernel)
theorem q447 : (Jvm.Cond.methodLink "java/lang/StringLatin1" (95 : Nat) ({ cls := "java/lang/StringLatin1", name := "indexOfChar", desc := "([BIII)I" } : Jvm.MethodName)) ∈ lw_all := all_mem 447 (by decide +kernel) (by decide +kernel)
theorem kS_J1_95 : CWS RJ1 95 yJ1_indexOfChar_4cfef cJ1_indexOfChar_4cfef 6 (some .int) 4 := cws_mk q447 q448 q9 q449 ⟨by decide +kernel, by decide +kernel, by decide +kernel⟩
theorem q464 : (Jvm.Cond.code ({ cls := "java/lang/StringUTF16", name := "length", desc := "([B)I" } : Jvm.MethodName) prog_13_method_6_code (1 : Nat) (Option.some Jvm.ClassFile.FieldType.int)) ∈ lw_all := all_mem 464 (by decide +kernel) (by decide +kernel)
theorem q463 : (Jvm.Cond.static ({ cls := "java/lang/StringUTF16", name := "length", desc := "([B)I" } : Jvm.MethodName)) ∈ lw_all := all_mem 463 (by decide +kernel) (by decide +kernel)
theorem q462 : (Jvm.Cond.methodLink "java/lang/StringUTF16" (48 : Nat) ({ cls := "java/lang/StringUTF16", name := "length", desc := "([B)I" } : Jvm.MethodName)) ∈ lw_all := all_mem 462 (by decide +kernel) (by decide +kernel)
theorem kS_J2_48 : CWS RJ2 48 yJ2_length_9d52b cJ2_length_9d52b 1 (some .int) 1 := cws_mk q462 q463 q11 q464 ⟨by decide +kernel, by decide +kernel, by decide +kernel⟩
theorem q453 : (Jvm.Cond.methodLink "java/lang/StringUTF16" (224 : Nat) ({ cls := "java/lang/Math", name := "max", desc := "(II)I" } : Jvm.MethodName)) ∈ lw_all := all_mem 453 (by decide +kernel) (by decide +kernel)
theorem kS_J2_224 : CWS RJ2 224 yJ9_max_7cf53 cJ9_max_7cf53 2 (some .int) 2 := cws_mk q453 q442 q10 q443 ⟨by decide +kernel, by decide +kernel, by decide +kernel⟩
theorem q454 : (Jvm.Cond.methodLink "java/lang/StringUTF16" (183 : Nat) ({ cls := "java/lang/Math", name := "min", desc := "(II)I" } : Jvm.MethodName)) ∈ lw_all := all_mem 454 (by decide +kernel) (by decide +kernel)
theorem kS_J2_183 : CWS RJ2 183 yJ9_min_7cf53 cJ9_min_7cf53 2 (some .int) 2 := cws_mk q454 q445 q10 q446 ⟨by decide +kernel, by decide +kernel, by decide +kernel⟩
theorem q458 : (Jvm.Cond.code ({ cls := "java/lang/StringUTF16", name := "indexOfChar", desc := "([BIII)I" } : Jvm.MethodName) prog_13_method_47_code (4 : Nat) (Option.some Jvm.ClassFile.FieldType.int)) ∈ lw_all := all_mem 458 (by decide +kernel) (by decide +kernel)
theorem q457 : (Jvm.Cond.static ({ cls := "java/lang/StringUTF16", name := "indexOfChar", desc := "([BIII)I" } : Jvm.MethodName)) ∈ lw_all := all_mem 457 (by decide +kernel) (by decide +kernel)
theorem q456 : (Jvm.Cond.methodLink "java/lang/StringUTF16" (228 : Nat) ({ cls := "java/lang/StringUTF16", name := "indexOfChar", desc := "([BIII)I" } : Jvm.MethodName)) ∈ lw_all := all_mem 456 (by decide +kernel) (by decide +kernel)
theorem kS_J2_228 : CWS RJ2 228 yJ2_indexOfChar_4cfef cJ2_indexOfChar_4cfef 4 (some .int) 4 := cws_mk q456 q457 q11 q458 ⟨by decide +kernel, by decide +kernel, by decide +kernel⟩
theorem q487 : (Jvm.Cond.code ({ cls := "java/lang/StringUTF16", name := "indexOfSupplementary", desc := "([BIII)I" } : Jvm.MethodName) prog_13_method_49_code (7 : Nat) (Option.some Jvm.ClassFile.FieldType.int)) ∈ lw_all := all_mem 487 (by decide +kernel) (by decide +kernel)
theorem q486 : (Jvm.Cond.static ({ cls := "java/lang/StringUTF16", name := "indexOfSupplementary", desc := "([BIII)I" } : Jvm.MethodName)) ∈ lw_all := all_mem 486 (by decide +kernel) (by decide +kernel)
theorem q485 : (Jvm.Cond.methodLink "java/lang/StringUTF16" (232 : Nat) ({ cls := "java/lang/StringUTF16", name := "indexOfSupplementary", desc := "([BIII)I" } : Jvm.MethodName)) ∈ lw_all := all_mem 485 (by decide +kernel) (by decide +kernel)
theorem kS_J2_232 : CWS RJ2 232 yJ2_indexOfSupplementary_4cfef cJ2_indexOfSupplementary_4cfef 7 (some .int) 4 := cws_mk q485 q486 q11 q487 ⟨by decide +kernel, by decide +kernel, by decide +kernel⟩
theorem q461 : (Jvm.Cond.code ({ cls := "java/lang/StringUTF16", name := "checkBoundsBeginEnd", desc := "(II[B)V" } : Jvm.MethodName) prog_13_method_93_code (3 : Nat) (Option.none : Option Jvm.ClassFile.FieldType)) ∈ lw_all := all_mem 461 (by decide +kernel) (by decide +kernel)
theorem q460 : (Jvm.Cond.static ({ cls := "java/lang/StringUTF16", name := "checkBoundsBeginEnd", desc := "(II[B)V" } : Jvm.MethodName)) ∈ lw_all := all_mem 460 (by decide +kernel) (by decide +kernel)
theorem q459 : (Jvm.Cond.methodLink "java/lang/StringUTF16" (96 : Nat) ({ cls := "java/lang/StringUTF16", name := "checkBoundsBeginEnd", desc := "(II[B)V" } : Jvm.MethodName)) ∈ lw_all := all_mem 459 (by decide +kernel) (by decide +kernel)
theorem kS_J2_96 : CWS RJ2 96 yJ2_checkBoundsBeginEnd_d044e cJ2_checkBoundsBeginEnd_d044e 3 (none) 3 := cws_mk q459 q460 q11 q461 ⟨by decide +kernel, by decide +kernel, by decide +kernel⟩
theorem q475 : (Jvm.Cond.code ({ cls := "java/lang/StringUTF16", name := "indexOfCharUnsafe", desc := "([BIII)I" } : Jvm.MethodName) prog_13_method_48_code (5 : Nat) (Option.some Jvm.ClassFile.FieldType.int)) ∈ lw_all := all_mem 475 (by decide +kernel) (by decide +kernel)
theorem q474 : (Jvm.Cond.static ({ cls := "java/lang/StringUTF16", name := "indexOfCharUnsafe", desc := "([BIII)I" } : Jvm.MethodName)) ∈ lw_all := all_mem 474 (by decide +kernel) (by decide +kernel)
theorem q473 : (Jvm.Cond.methodLink "java/lang/StringUTF16" (244 : Nat) ({ cls := "java/lang/StringUTF16", name := "indexOfCharUnsafe", desc := "([BIII)I" } : Jvm.MethodName)) ∈ lw_all := all_mem 473 (by decide +kernel) (by decide +kernel)
theorem kS_J2_244 : CWS RJ2 244 yJ2_indexOfCharUnsafe_4cfef cJ2_indexOfCharUnsafe_4cfef 5 (some .int) 4 := cws_mk q473 q474 q11 q475 ⟨by decide +kernel, by decide +kernel, by decide +kernel⟩
theorem q478 : (Jvm.Cond.code ({ cls := "java/lang/StringUTF16", name := "getChar", desc := "([BI)C" } : Jvm.MethodName) prog_13_method_5_code (2 : Nat) (Option.some Jvm.ClassFile.FieldType.char)) ∈ lw_all := all_mem 478 (by decide +kernel) (by decide +kernel)
theorem q477 : (Jvm.Cond.static ({ cls := "java/lang/StringUTF16", name := "getChar", desc := "([BI)C" } : Jvm.MethodName)) ∈ lw_all := all_mem 477 (by decide +kernel) (by decide +kernel)
theorem q476 : (Jvm.Cond.methodLink "java/lang/StringUTF16" (71 : Nat) ({ cls := "java/lang/StringUTF16", name := "getChar", desc := "([BI)C" } : Jvm.MethodName)) ∈ lw_all := all_mem 476 (by decide +kernel) (by decide +kernel)
theorem kS_J2_71 : CWS RJ2 71 yJ2_getChar_3b067 cJ2_getChar_3b067 2 (some .char) 2 := cws_mk q476 q477 q11 q478 ⟨by decide +kernel, by decide +kernel, by decide +kernel⟩
theorem q490 : (Jvm.Cond.code ({ cls := "java/lang/Character", name := "isValidCodePoint", desc := "(I)Z" } : Jvm.MethodName) prog_9_method_11_code (2 : Nat) (Option.some Jvm.ClassFile.FieldType.boolean)) ∈ lw_all := all_mem 490 (by decide +kernel) (by decide +kernel)
theorem q489 : (Jvm.Cond.static ({ cls := "java/lang/Character", name := "isValidCodePoint", desc := "(I)Z" } : Jvm.MethodName)) ∈ lw_all := all_mem 489 (by decide +kernel) (by decide +kernel)
theorem q488 : (Jvm.Cond.methodLink "java/lang/StringUTF16" (164 : Nat) ({ cls := "java/lang/Character", name := "isValidCodePoint", desc := "(I)Z" } : Jvm.MethodName)) ∈ lw_all := all_mem 488 (by decide +kernel) (by decide +kernel)
theorem q13 : (Jvm.Cond.initialized "java/lang/Character") ∈ lw_all := all_mem 13 (by decide +kernel) (by decide +kernel)
theorem kS_J2_164 : CWS RJ2 164 yJ11_isValidCodePoint_9a6ad cJ11_isValidCodePoint_9a6ad 2 (some .boolean) 1 := cws_mk q488 q489 q13 q490 ⟨by decide +kernel, by decide +kernel, by decide +kernel⟩
theorem q493 : (Jvm.Cond.code ({ cls := "java/lang/Character", name := "highSurrogate", desc := "(I)C" } : Jvm.MethodName) prog_9_method_28_code (1 : Nat) (Option.some Jvm.ClassFile.FieldType.char)) ∈ lw_all := all_mem 493 (by decide +kernel) (by decide +kernel)
theorem q492 : (Jvm.Cond.static ({ cls := "java/lang/Character", name := "highSurrogate", desc := "(I)C" } : Jvm.MethodName)) ∈ lw_all := all_mem 492 (by decide +kernel) (by decide +kernel)
theorem q491 : (Jvm.Cond.methodLink "java/lang/StringUTF16" (157 : Nat) ({ cls := "java/lang/Character", name := "highSurrogate", desc := "(I)C" } : Jvm.MethodName)) ∈ lw_all := all_mem 491 (by decide +kernel) (by decide +kernel)
theorem kS_J2_157 : CWS RJ2 157 yJ11_highSurrogate_5068e cJ11_highSurrogate_5068e 1 (some .char) 1 := cws_mk q491 q492 q13 q493 ⟨by decide +kernel, by decide +kernel, by decide +kernel⟩
theorem q497 : (Jvm.Cond.code ({ cls := "java/lang/Character", name := "lowSurrogate", desc := "(I)C" } : Jvm.MethodName) prog_9_method_29_code (1 : Nat) (Option.some Jvm.ClassFile.FieldType.char)) ∈ lw_all := all_mem 497 (by decide +kernel) (by decide +kernel)
theorem q496 : (Jvm.Cond.static ({ cls := "java/lang/Character", name := "lowSurrogate", desc := "(I)C" } : Jvm.MethodName)) ∈ lw_all := all_mem 496 (by decide +kernel) (by decide +kernel)
theorem q495 : (Jvm.Cond.methodLink "java/lang/StringUTF16" (161 : Nat) ({ cls := "java/lang/Character", name := "lowSurrogate", desc := "(I)C" } : Jvm.MethodName)) ∈ lw_all := all_mem 495 (by decide +kernel) (by decide +kernel)
theorem kS_J2_161 : CWS RJ2 161 yJ11_lowSurrogate_5068e cJ11_lowSurrogate_5068e 1 (some .char) 1 := cws_mk q495 q496 q13 q497 ⟨by decide +kernel, by decide +kernel, by decide +kernel⟩
theorem q523 : (Jvm.Cond.code ({ cls := "java/lang/StringUTF16", name := "checkIndex", desc := "(I[B)V" } : Jvm.MethodName) prog_13_method_91_code (2 : Nat) (Option.none : Option Jvm.ClassFile.FieldType)) ∈ lw_all := all_mem 523 (by decide +kernel) (by decide +kernel)
theorem q522 : (Jvm.Cond.static ({ cls := "java/lang/StringUTF16", name := "checkIndex", desc := "(I[B)V" } : Jvm.MethodName)) ∈ lw_all := all_mem 522 (by decide +kernel) (by decide +kernel)
theorem q521 : (Jvm.Cond.methodLink "java/lang/StringUTF16" (67 : Nat) ({ cls := "java/lang/StringUTF16", name := "checkIndex", desc := "(I[B)V" } : Jvm.MethodName)) ∈ lw_all := all_mem 521 (by decide +kernel) (by decide +kernel)
theorem kS_J2_67 : CWS RJ2 67 yJ2_checkIndex_2214a cJ2_checkIndex_2214a 2 (none) 2 := cws_mk q521 q522 q11 q523 ⟨by decide +kernel, by decide +kernel, by decide +kernel⟩
theorem q524 : (Jvm.Cond.methodLink "java/lang/StringUTF16" (414 : Nat) ({ cls := "java/lang/String", name := "checkIndex", desc := "(II)V" } : Jvm.MethodName)) ∈ lw_all := all_mem 524 (by decide +kernel) (by decide +kernel)
theorem kS_J2_414 : CWS RJ2 414 yJ0_checkIndex_df160 cJ0_checkIndex_df160 2 (none) 2 := cws_mk q524 q513 q8 q514 ⟨by decide +kernel, by decide +kernel, by decide +kernel⟩
theorem q467 : (Jvm.Cond.code ({ cls := "java/lang/String", name := "checkBoundsBeginEnd", desc := "(III)V" } : Jvm.MethodName) prog_11_method_158_code (3 : Nat) (Option.none : Option Jvm.ClassFile.FieldType)) ∈ lw_all := all_mem 467 (by decide +kernel) (by decide +kernel)
theorem q466 : (Jvm.Cond.static ({ cls := "java/lang/String", name := "checkBoundsBeginEnd", desc := "(III)V" } : Jvm.MethodName)) ∈ lw_all := all_mem 466 (by decide +kernel) (by decide +kernel)
theorem q465 : (Jvm.Cond.methodLink "java/lang/StringUTF16" (241 : Nat) ({ cls := "java/lang/String", name := "checkBoundsBeginEnd", desc := "(III)V" } : Jvm.MethodName)) ∈ lw_all := all_mem 465 (by decide +kernel) (by decide +kernel)
theorem kS_J2_241 : CWS RJ2 241 yJ0_checkBoundsBeginEnd_23922 cJ0_checkBoundsBeginEnd_23922 3 (none) 3 := cws_mk q465 q466 q8 q467 ⟨by decide +kernel, by decide +kernel, by decide +kernel⟩
theorem q18 : (Jvm.Cond.code ({ cls := "TideBoats", name := "<init>", desc := "()V" } : Jvm.MethodName) prog_1_method_1_code (1 : Nat) (Option.none : Option Jvm.ClassFile.FieldType)) ∈ lw_all := all_mem 18 (by decide +kernel) (by decide +kernel)
theorem q17 : (Jvm.Cond.instanceMethod ({ cls := "TideBoats", name := "<init>", desc := "()V" } : Jvm.MethodName)) ∈ lw_all := all_mem 17 (by decide +kernel) (by decide +kernel)
theorem q16 : (Jvm.Cond.methodLink "TideBoatsLaw" (9 : Nat) ({ cls := "TideBoats", name := "<init>", desc := "()V" } : Jvm.MethodName)) ∈ lw_all := all_mem 16 (by decide +kernel) (by decide +kernel)
theorem kI_L_9 : CWI RL 9 yX5_init cX5_init 1 0 := ⟨q16, q17, q1, q18, rfl, ⟨by decide +kernel, by decide +kernel, by decide +kernel⟩⟩
theorem q755 : (Jvm.Cond.code ({ cls := "TideBoatsModel", name := "<init>", desc := "()V" } : Jvm.MethodName) prog_8_method_1_code (2 : Nat) (Option.none : Option Jvm.ClassFile.FieldType)) ∈ lw_all := all_mem 755 (by decide +kernel) (by decide +kernel)
theorem q754 : (Jvm.Cond.instanceMethod ({ cls := "TideBoatsModel", name := "<init>", desc := "()V" } : Jvm.MethodName)) ∈ lw_all := all_mem 754 (by decide +kernel) (by decide +kernel)
theorem q753 : (Jvm.Cond.methodLink "TideBoatsLaw" (12 : Nat) ({ cls := "TideBoatsModel", name := "<init>", desc := "()V" } : Jvm.MethodName)) ∈ lw_all := all_mem 753 (by decide +kernel) (by decide +kernel)
theorem kI_L_12 : CWI RL 12 yX6_init cX6_init 2 0 := ⟨q753, q754, q7, q755, rfl, ⟨by decide +kernel, by decide +kernel, by decide +kernel⟩⟩
theorem q207 : (Jvm.Cond.code ({ cls := "TideBoats", name := "sand", desc := "(IIZ)I" } : Jvm.MethodName) prog_1_method_2_code (4 : Nat) (Option.some Jvm.ClassFile.FieldType.int)) ∈ lw_all := all_mem 207 (by decide +kernel) (by decide +kernel)
theorem q204 : (Jvm.Cond.methodLink "TideBoatsLaw" (13 : Nat) ({ cls := "TideBoats", name := "sand", desc := "(IIZ)I" } : Jvm.MethodName)) ∈ lw_all := all_mem 204 (by decide +kernel) (by decide +kernel)
theorem q205 : (Jvm.Cond.instanceMethod ({ cls := "TideBoats", name := "sand", desc := "(IIZ)I" } : Jvm.MethodName)) ∈ lw_all := all_mem 205 (by decide +kernel) (by decide +kernel)
theorem q206 : (Jvm.Cond.selects "TideBoats" ({ cls := "TideBoats", name := "sand", desc := "(IIZ)I" } : Jvm.MethodName) ({ cls := "TideBoats", name := "sand", desc := "(IIZ)I" } : Jvm.MethodName)) ∈ lw_all := all_mem 206 (by decide +kernel) (by decide +kernel)
theorem kV_L_13 : CWV RL 13 RX5 yX5_sand cX5_sand 4 (some .int) 3 := cwv_mk q204 q205 q206 q1 q207 ⟨rfl, ⟨by decide +kernel, by decide +kernel, by decide +kernel⟩⟩
theorem q795 : (Jvm.Cond.code ({ cls := "TideBoatsModel", name := "sand", desc := "(IIZ)I" } : Jvm.MethodName) prog_8_method_32_code (4 : Nat) (Option.some Jvm.ClassFile.FieldType.int)) ∈ lw_all := all_mem 795 (by decide +kernel) (by decide +kernel)
theorem q792 : (Jvm.Cond.methodLink "TideBoatsLaw" (17 : Nat) ({ cls := "TideBoatsModel", name := "sand", desc := "(IIZ)I" } : Jvm.MethodName)) ∈ lw_all := all_mem 792 (by decide +kernel) (by decide +kernel)
theorem q793 : (Jvm.Cond.instanceMethod ({ cls := "TideBoatsModel", name := "sand", desc := "(IIZ)I" } : Jvm.MethodName)) ∈ lw_all := all_mem 793 (by decide +kernel) (by decide +kernel)
theorem q794 : (Jvm.Cond.selects "TideBoatsModel" ({ cls := "TideBoatsModel", name := "sand", desc := "(IIZ)I" } : Jvm.MethodName) ({ cls := "TideBoatsModel", name := "sand", desc := "(IIZ)I" } : Jvm.MethodName)) ∈ lw_all := all_mem 794 (by decide +kernel) (by decide +kernel)
theorem kV_L_17 : CWV RL 17 RX6 yX6_sand cX6_sand 4 (some .int) 3 := cwv_mk q792 q793 q794 q7 q795 ⟨rfl, ⟨by decide +kernel, by decide +kernel, by decide +kernel⟩⟩
theorem q247 : (Jvm.Cond.code ({ cls := "TideBoats", name := "boat", desc := "(III)I" } : Jvm.MethodName) prog_1_method_3_code (4 : Nat) (Option.some Jvm.ClassFile.FieldType.int)) ∈ lw_all := all_mem 247 (by decide +kernel) (by decide +kernel)
theorem q244 : (Jvm.Cond.methodLink "TideBoatsLaw" (18 : Nat) ({ cls := "TideBoats", name := "boat", desc := "(III)I" } : Jvm.MethodName)) ∈ lw_all := all_mem 244 (by decide +kernel) (by decide +kernel)
theorem q245 : (Jvm.Cond.instanceMethod ({ cls := "TideBoats", name := "boat", desc := "(III)I" } : Jvm.MethodName)) ∈ lw_all := all_mem 245 (by decide +kernel) (by decide +kernel)
theorem q246 : (Jvm.Cond.selects "TideBoats" ({ cls := "TideBoats", name := "boat", desc := "(III)I" } : Jvm.MethodName) ({ cls := "TideBoats", name := "boat", desc := "(III)I" } : Jvm.MethodName)) ∈ lw_all := all_mem 246 (by decide +kernel) (by decide +kernel)
theorem kV_L_18 : CWV RL 18 RX5 yX5_boat cX5_boat 4 (some .int) 3 := cwv_mk q244 q245 q246 q1 q247 ⟨rfl, ⟨by decide +kernel, by decide +kernel, by decide +kernel⟩⟩
theorem q821 : (Jvm.Cond.code ({ cls := "TideBoatsModel", name := "boat", desc := "(III)I" } : Jvm.MethodName) prog_8_method_33_code (4 : Nat) (Option.some Jvm.ClassFile.FieldType.int)) ∈ lw_all := all_mem 821 (by decide +kernel) (by decide +kernel)
theorem q818 : (Jvm.Cond.methodLink "TideBoatsLaw" (22 : Nat) ({ cls := "TideBoatsModel", name := "boat", desc := "(III)I" } : Jvm.MethodName)) ∈ lw_all := all_mem 818 (by decide +kernel) (by decide +kernel)
theorem q819 : (Jvm.Cond.instanceMethod ({ cls := "TideBoatsModel", name := "boat", desc := "(III)I" } : Jvm.MethodName)) ∈ lw_all := all_mem 819 (by decide +kernel) (by decide +kernel)
theorem q820 : (Jvm.Cond.selects "TideBoatsModel" ({ cls := "TideBoatsModel", name := "boat", desc := "(III)I" } : Jvm.MethodName) ({ cls := "TideBoatsModel", name := "boat", desc := "(III)I" } : Jvm.MethodName)) ∈ lw_all := all_mem 820 (by decide +kernel) (by decide +kernel)
theorem kV_L_22 : CWV RL 22 RX6 yX6_boat cX6_boat 4 (some .int) 3 := cwv_mk q818 q819 q820 q7 q821 ⟨rfl, ⟨by decide +kernel, by decide +kernel, by decide +kernel⟩⟩
theorem q266 : (Jvm.Cond.code ({ cls := "TideBoats", name := "set", desc := "(II)I" } : Jvm.MethodName) prog_1_method_4_code (3 : Nat) (Option.some Jvm.ClassFile.FieldType.int)) ∈ lw_all := all_mem 266 (by decide +kernel) (by decide +kernel)
theorem q263 : (Jvm.Cond.methodLink "TideBoatsLaw" (23 : Nat) ({ cls := "TideBoats", name := "set", desc := "(II)I" } : Jvm.MethodName)) ∈ lw_all := all_mem 263 (by decide +kernel) (by decide +kernel)
theorem q264 : (Jvm.Cond.instanceMethod ({ cls := "TideBoats", name := "set", desc := "(II)I" } : Jvm.MethodName)) ∈ lw_all := all_mem 264 (by decide +kernel) (by decide +kernel)
theorem q265 : (Jvm.Cond.selects "TideBoats" ({ cls := "TideBoats", name := "set", desc := "(II)I" } : Jvm.MethodName) ({ cls := "TideBoats", name := "set", desc := "(II)I" } : Jvm.MethodName)) ∈ lw_all := all_mem 265 (by decide +kernel) (by decide +kernel)
theorem kV_L_23 : CWV RL 23 RX5 yX5_set cX5_set 3 (some .int) 2 := cwv_mk q263 q264 q265 q1 q266 ⟨rfl, ⟨by decide +kernel, by decide +kernel, by decide +kernel⟩⟩
theorem q840 : (Jvm.Cond.code ({ cls := "TideBoatsModel", name := "set", desc := "(II)I" } : Jvm.MethodName) prog_8_method_34_code (5 : Nat) (Option.some Jvm.ClassFile.FieldType.int)) ∈ lw_all := all_mem 840 (by decide +kernel) (by decide +kernel)
theorem q837 : (Jvm.Cond.methodLink "TideBoatsLaw" (27 : Nat) ({ cls := "TideBoatsModel", name := "set", desc := "(II)I" } : Jvm.MethodName)) ∈ lw_all := all_mem 837 (by decide +kernel) (by decide +kernel)
theorem q838 : (Jvm.Cond.instanceMethod ({ cls := "TideBoatsModel", name := "set", desc := "(II)I" } : Jvm.MethodName)) ∈ lw_all := all_mem 838 (by decide +kernel) (by decide +kernel)
theorem q839 : (Jvm.Cond.selects "TideBoatsModel" ({ cls := "TideBoatsModel", name := "set", desc := "(II)I" } : Jvm.MethodName) ({ cls := "TideBoatsModel", name := "set", desc := "(II)I" } : Jvm.MethodName)) ∈ lw_all := all_mem 839 (by decide +kernel) (by decide +kernel)
theorem kV_L_27 : CWV RL 27 RX6 yX6_set cX6_set 5 (some .int) 2 := cwv_mk q837 q838 q839 q7 q840 ⟨rfl, ⟨by decide +kernel, by decide +kernel, by decide +kernel⟩⟩
theorem q286 : (Jvm.Cond.code ({ cls := "TideBoats", name := "move", desc := "(III)I" } : Jvm.MethodName) prog_1_method_5_code (4 : Nat) (Option.some Jvm.ClassFile.FieldType.int)) ∈ lw_all := all_mem 286 (by decide +kernel) (by decide +kernel)
theorem q283 : (Jvm.Cond.methodLink "TideBoatsLaw" (28 : Nat) ({ cls := "TideBoats", name := "move", desc := "(III)I" } : Jvm.MethodName)) ∈ lw_all := all_mem 283 (by decide +kernel) (by decide +kernel)
theorem q284 : (Jvm.Cond.instanceMethod ({ cls := "TideBoats", name := "move", desc := "(III)I" } : Jvm.MethodName)) ∈ lw_all := all_mem 284 (by decide +kernel) (by decide +kernel)
theorem q285 : (Jvm.Cond.selects "TideBoats" ({ cls := "TideBoats", name := "move", desc := "(III)I" } : Jvm.MethodName) ({ cls := "TideBoats", name := "move", desc := "(III)I" } : Jvm.MethodName)) ∈ lw_all := all_mem 285 (by decide +kernel) (by decide +kernel)
theorem kV_L_28 : CWV RL 28 RX5 yX5_move cX5_move 4 (some .int) 3 := cwv_mk q283 q284 q285 q1 q286 ⟨rfl, ⟨by decide +kernel, by decide +kernel, by decide +kernel⟩⟩
theorem q844 : (Jvm.Cond.code ({ cls := "TideBoatsModel", name := "move", desc := "(III)I" } : Jvm.MethodName) prog_8_method_35_code (4 : Nat) (Option.some Jvm.ClassFile.FieldType.int)) ∈ lw_all := all_mem 844 (by decide +kernel) (by decide +kernel)
theorem q841 : (Jvm.Cond.methodLink "TideBoatsLaw" (31 : Nat) ({ cls := "TideBoatsModel", name := "move", desc := "(III)I" } : Jvm.MethodName)) ∈ lw_all := all_mem 841 (by decide +kernel) (by decide +kernel)
theorem q842 : (Jvm.Cond.instanceMethod ({ cls := "TideBoatsModel", name := "move", desc := "(III)I" } : Jvm.MethodName)) ∈ lw_all := all_mem 842 (by decide +kernel) (by decide +kernel)
theorem q843 : (Jvm.Cond.selects "TideBoatsModel" ({ cls := "TideBoatsModel", name := "move", desc := "(III)I" } : Jvm.MethodName) ({ cls := "TideBoatsModel", name := "move", desc := "(III)I" } : Jvm.MethodName)) ∈ lw_all := all_mem 843 (by decide +kernel) (by decide +kernel)
theorem kV_L_31 : CWV RL 31 RX6 yX6_move cX6_move 4 (some .int) 3 := cwv_mk q841 q842 q843 q7 q844 ⟨rfl, ⟨by decide +kernel, by decide +kernel, by decide +kernel⟩⟩
theorem q368 : (Jvm.Cond.code ({ cls := "TideBoats", name := "pause", desc := "()I" } : Jvm.MethodName) prog_1_method_6_code (1 : Nat) (Option.some Jvm.ClassFile.FieldType.int)) ∈ lw_all := all_mem 368 (by decide +kernel) (by decide +kernel)
theorem q365 : (Jvm.Cond.methodLink "TideBoatsLaw" (32 : Nat) ({ cls := "TideBoats", name := "pause", desc := "()I" } : Jvm.MethodName)) ∈ lw_all := all_mem 365 (by decide +kernel) (by decide +kernel)
theorem q366 : (Jvm.Cond.instanceMethod ({ cls := "TideBoats", name := "pause", desc := "()I" } : Jvm.MethodName)) ∈ lw_all := all_mem 366 (by decide +kernel) (by decide +kernel)
theorem q367 : (Jvm.Cond.selects "TideBoats" ({ cls := "TideBoats", name := "pause", desc := "()I" } : Jvm.MethodName) ({ cls := "TideBoats", name := "pause", desc := "()I" } : Jvm.MethodName)) ∈ lw_all := all_mem 367 (by decide +kernel) (by decide +kernel)
theorem kV_L_32 : CWV RL 32 RX5 yX5_pause cX5_pause 1 (some .int) 0 := cwv_mk q365 q366 q367 q1 q368 ⟨rfl, ⟨by decide +kernel, by decide +kernel, by decide +kernel⟩⟩
theorem q917 : (Jvm.Cond.code ({ cls := "TideBoatsModel", name := "pause", desc := "()I" } : Jvm.MethodName) prog_8_method_36_code (1 : Nat) (Option.some Jvm.ClassFile.FieldType.int)) ∈ lw_all := all_mem 917 (by decide +kernel) (by decide +kernel)
theorem q914 : (Jvm.Cond.methodLink "TideBoatsLaw" (36 : Nat) ({ cls := "TideBoatsModel", name := "pause", desc := "()I" } : Jvm.MethodName)) ∈ lw_all := all_mem 914 (by decide +kernel) (by decide +kernel)
theorem q915 : (Jvm.Cond.instanceMethod ({ cls := "TideBoatsModel", name := "pause", desc := "()I" } : Jvm.MethodName)) ∈ lw_all := all_mem 915 (by decide +kernel) (by decide +kernel)
theorem q916 : (Jvm.Cond.selects "TideBoatsModel" ({ cls := "TideBoatsModel", name := "pause", desc := "()I" } : Jvm.MethodName) ({ cls := "TideBoatsModel", name := "pause", desc := "()I" } : Jvm.MethodName)) ∈ lw_all := all_mem 916 (by decide +kernel) (by decide +kernel)
theorem kV_L_36 : CWV RL 36 RX6 yX6_pause cX6_pause 1 (some .int) 0 := cwv_mk q914 q915 q916 q7 q917 ⟨rfl, ⟨by decide +kernel, by decide +kernel, by decide +kernel⟩⟩
theorem q377 : (Jvm.Cond.code ({ cls := "TideBoats", name := "type", desc := "(C)I" } : Jvm.MethodName) prog_1_method_7_code (2 : Nat) (Option.some Jvm.ClassFile.FieldType.int)) ∈ lw_all := all_mem 377 (by decide +kernel) (by decide +kernel)
theorem q374 : (Jvm.Cond.methodLink "TideBoatsLaw" (37 : Nat) ({ cls := "TideBoats", name := "type", desc := "(C)I" } : Jvm.MethodName)) ∈ lw_all := all_mem 374 (by decide +kernel) (by decide +kernel)
theorem q375 : (Jvm.Cond.instanceMethod ({ cls := "TideBoats", name := "type", desc := "(C)I" } : Jvm.MethodName)) ∈ lw_all := all_mem 375 (by decide +kernel) (by decide +kernel)
theorem q376 : (Jvm.Cond.selects "TideBoats" ({ cls := "TideBoats", name := "type", desc := "(C)I" } : Jvm.MethodName) ({ cls := "TideBoats", name := "type", desc := "(C)I" } : Jvm.MethodName)) ∈ lw_all := all_mem 376 (by decide +kernel) (by decide +kernel)
theorem kV_L_37 : CWV RL 37 RX5 yX5_type cX5_type 2 (some .int) 1 := cwv_mk q374 q375 q376 q1 q377 ⟨rfl, ⟨by decide +kernel, by decide +kernel, by decide +kernel⟩⟩
theorem q925 : (Jvm.Cond.code ({ cls := "TideBoatsModel", name := "type", desc := "(C)I" } : Jvm.MethodName) prog_8_method_37_code (2 : Nat) (Option.some Jvm.ClassFile.FieldType.int)) ∈ lw_all := all_mem 925 (by decide +kernel) (by decide +kernel)
theorem q922 : (Jvm.Cond.methodLink "TideBoatsLaw" (41 : Nat) ({ cls := "TideBoatsModel", name := "type", desc := "(C)I" } : Jvm.MethodName)) ∈ lw_all := all_mem 922 (by decide +kernel) (by decide +kernel)
theorem q923 : (Jvm.Cond.instanceMethod ({ cls := "TideBoatsModel", name := "type", desc := "(C)I" } : Jvm.MethodName)) ∈ lw_all := all_mem 923 (by decide +kernel) (by decide +kernel)
theorem q924 : (Jvm.Cond.selects "TideBoatsModel" ({ cls := "TideBoatsModel", name := "type", desc := "(C)I" } : Jvm.MethodName) ({ cls := "TideBoatsModel", name := "type", desc := "(C)I" } : Jvm.MethodName)) ∈ lw_all := all_mem 924 (by decide +kernel) (by decide +kernel)
theorem kV_L_41 : CWV RL 41 RX6 yX6_type cX6_type 2 (some .int) 1 := cwv_mk q922 q923 q924 q7 q925 ⟨rfl, ⟨by decide +kernel, by decide +kernel, by decide +kernel⟩⟩
theorem q385 : (Jvm.Cond.code ({ cls := "TideBoats", name := "clearText", desc := "()I" } : Jvm.MethodName) prog_1_method_8_code (1 : Nat) (Option.some Jvm.ClassFile.FieldType.int)) ∈ lw_all := all_mem 385 (by decide +kernel) (by decide +kernel)
theorem q382 : (Jvm.Cond.methodLink "TideBoatsLaw" (42 : Nat) ({ cls := "TideBoats", name := "clearText", desc := "()I" } : Jvm.MethodName)) ∈ lw_all := all_mem 382 (by decide +kernel) (by decide +kernel)
theorem q383 : (Jvm.Cond.instanceMethod ({ cls := "TideBoats", name := "clearText", desc := "()I" } : Jvm.MethodName)) ∈ lw_all := all_mem 383 (by decide +kernel) (by decide +kernel)
theorem q384 : (Jvm.Cond.selects "TideBoats" ({ cls := "TideBoats", name := "clearText", desc := "()I" } : Jvm.MethodName) ({ cls := "TideBoats", name := "clearText", desc := "()I" } : Jvm.MethodName)) ∈ lw_all := all_mem 384 (by decide +kernel) (by decide +kernel)
theorem kV_L_42 : CWV RL 42 RX5 yX5_clearText cX5_clearText 1 (some .int) 0 := cwv_mk q382 q383 q384 q1 q385 ⟨rfl, ⟨by decide +kernel, by decide +kernel, by decide +kernel⟩⟩
theorem q929 : (Jvm.Cond.code ({ cls := "TideBoatsModel", name := "clearText", desc := "()I" } : Jvm.MethodName) prog_8_method_38_code (2 : Nat) (Option.some Jvm.ClassFile.FieldType.int)) ∈ lw_all := all_mem 929 (by decide +kernel) (by decide +kernel)
theorem q926 : (Jvm.Cond.methodLink "TideBoatsLaw" (45 : Nat) ({ cls := "TideBoatsModel", name := "clearText", desc := "()I" } : Jvm.MethodName)) ∈ lw_all := all_mem 926 (by decide +kernel) (by decide +kernel)
theorem q927 : (Jvm.Cond.instanceMethod ({ cls := "TideBoatsModel", name := "clearText", desc := "()I" } : Jvm.MethodName)) ∈ lw_all := all_mem 927 (by decide +kernel) (by decide +kernel)
theorem q928 : (Jvm.Cond.selects "TideBoatsModel" ({ cls := "TideBoatsModel", name := "clearText", desc := "()I" } : Jvm.MethodName) ({ cls := "TideBoatsModel", name := "clearText", desc := "()I" } : Jvm.MethodName)) ∈ lw_all := all_mem 928 (by decide +kernel) (by decide +kernel)
theorem kV_L_45 : CWV RL 45 RX6 yX6_clearText cX6_clearText 2 (some .int) 0 := cwv_mk q926 q927 q928 q7 q929 ⟨rfl, ⟨by decide +kernel, by decide +kernel, by decide +kernel⟩⟩
theorem q393 : (Jvm.Cond.code ({ cls := "TideBoats", name := "fault", desc := "()I" } : Jvm.MethodName) prog_1_method_9_code (1 : Nat) (Option.some Jvm.ClassFile.FieldType.int)) ∈ lw_all := all_mem 393 (by decide +kernel) (by decide +kernel)
theorem q390 : (Jvm.Cond.methodLink "TideBoatsLaw" (46 : Nat) ({ cls := "TideBoats", name := "fault", desc := "()I" } : Jvm.MethodName)) ∈ lw_all := all_mem 390 (by decide +kernel) (by decide +kernel)
theorem q391 : (Jvm.Cond.instanceMethod ({ cls := "TideBoats", name := "fault", desc := "()I" } : Jvm.MethodName)) ∈ lw_all := all_mem 391 (by decide +kernel) (by decide +kernel)
theorem q392 : (Jvm.Cond.selects "TideBoats" ({ cls := "TideBoats", name := "fault", desc := "()I" } : Jvm.MethodName) ({ cls := "TideBoats", name := "fault", desc := "()I" } : Jvm.MethodName)) ∈ lw_all := all_mem 392 (by decide +kernel) (by decide +kernel)
theorem kV_L_46 : CWV RL 46 RX5 yX5_fault cX5_fault 1 (some .int) 0 := cwv_mk q390 q391 q392 q1 q393 ⟨rfl, ⟨by decide +kernel, by decide +kernel, by decide +kernel⟩⟩
theorem q930 : (Jvm.Cond.methodLink "TideBoatsLaw" (49 : Nat) ({ cls := "TideBoatsModel", name := "fault", desc := "()I" } : Jvm.MethodName)) ∈ lw_all := all_mem 930 (by decide +kernel) (by decide +kernel)
theorem kV_L_49 : CWV RL 49 RX6 yX6_fault cX6_fault 4 (some .int) 0 := cwv_mk q930 q931 q932 q7 q933 ⟨rfl, ⟨by decide +kernel, by decide +kernel, by decide +kernel⟩⟩
theorem q549 : (Jvm.Cond.code ({ cls := "TideBoats", name := "doAll", desc := "()I" } : Jvm.MethodName) prog_1_method_10_code (6 : Nat) (Option.some Jvm.ClassFile.FieldType.int)) ∈ lw_all := all_mem 549 (by decide +kernel) (by decide +kernel)
theorem q546 : (Jvm.Cond.methodLink "TideBoatsLaw" (50 : Nat) ({ cls := "TideBoats", name := "doAll", desc := "()I" } : Jvm.MethodName)) ∈ lw_all := all_mem 546 (by decide +kernel) (by decide +kernel)
theorem q547 : (Jvm.Cond.instanceMethod ({ cls := "TideBoats", name := "doAll", desc := "()I" } : Jvm.MethodName)) ∈ lw_all := all_mem 547 (by decide +kernel) (by decide +kernel)
theorem q548 : (Jvm.Cond.selects "TideBoats" ({ cls := "TideBoats", name := "doAll", desc := "()I" } : Jvm.MethodName) ({ cls := "TideBoats", name := "doAll", desc := "()I" } : Jvm.MethodName)) ∈ lw_all := all_mem 548 (by decide +kernel) (by decide +kernel)
theorem kV_L_50 : CWV RL 50 RX5 yX5_doAll cX5_doAll 6 (some .int) 0 := cwv_mk q546 q547 q548 q1 q549 ⟨rfl, ⟨by decide +kernel, by decide +kernel, by decide +kernel⟩⟩
theorem q961 : (Jvm.Cond.code ({ cls := "TideBoatsModel", name := "doAll", desc := "()I" } : Jvm.MethodName) prog_8_method_48_code (5 : Nat) (Option.some Jvm.ClassFile.FieldType.int)) ∈ lw_all := all_mem 961 (by decide +kernel) (by decide +kernel)
theorem q958 : (Jvm.Cond.methodLink "TideBoatsLaw" (53 : Nat) ({ cls := "TideBoatsModel", name := "doAll", desc := "()I" } : Jvm.MethodName)) ∈ lw_all := all_mem 958 (by decide +kernel) (by decide +kernel)
theorem q959 : (Jvm.Cond.instanceMethod ({ cls := "TideBoatsModel", name := "doAll", desc := "()I" } : Jvm.MethodName)) ∈ lw_all := all_mem 959 (by decide +kernel) (by decide +kernel)
theorem q960 : (Jvm.Cond.selects "TideBoatsModel" ({ cls := "TideBoatsModel", name := "doAll", desc := "()I" } : Jvm.MethodName) ({ cls := "TideBoatsModel", name := "doAll", desc := "()I" } : Jvm.MethodName)) ∈ lw_all := all_mem 960 (by decide +kernel) (by decide +kernel)
theorem kV_L_53 : CWV RL 53 RX6 yX6_doAll cX6_doAll 5 (some .int) 0 := cwv_mk q958 q959 q960 q7 q961 ⟨rfl, ⟨by decide +kernel, by decide +kernel, by decide +kernel⟩⟩
theorem q589 : (Jvm.Cond.code ({ cls := "TideBoats", name := "undo", desc := "()I" } : Jvm.MethodName) prog_1_method_11_code (1 : Nat) (Option.some Jvm.ClassFile.FieldType.int)) ∈ lw_all := all_mem 589 (by decide +kernel) (by decide +kernel)
theorem q586 : (Jvm.Cond.methodLink "TideBoatsLaw" (54 : Nat) ({ cls := "TideBoats", name := "undo", desc := "()I" } : Jvm.MethodName)) ∈ lw_all := all_mem 586 (by decide +kernel) (by decide +kernel)
theorem q587 : (Jvm.Cond.instanceMethod ({ cls := "TideBoats", name := "undo", desc := "()I" } : Jvm.MethodName)) ∈ lw_all := all_mem 587 (by decide +kernel) (by decide +kernel)
theorem q588 : (Jvm.Cond.selects "TideBoats" ({ cls := "TideBoats", name := "undo", desc := "()I" } : Jvm.MethodName) ({ cls := "TideBoats", name := "undo", desc := "()I" } : Jvm.MethodName)) ∈ lw_all := all_mem 588 (by decide +kernel) (by decide +kernel)
theorem kV_L_54 : CWV RL 54 RX5 yX5_undo cX5_undo 1 (some .int) 0 := cwv_mk q586 q587 q588 q1 q589 ⟨rfl, ⟨by decide +kernel, by decide +kernel, by decide +kernel⟩⟩
theorem q974 : (Jvm.Cond.code ({ cls := "TideBoatsModel", name := "undo", desc := "()I" } : Jvm.MethodName) prog_8_method_49_code (2 : Nat) (Option.some Jvm.ClassFile.FieldType.int)) ∈ lw_all := all_mem 974 (by decide +kernel) (by decide +kernel)
theorem q971 : (Jvm.Cond.methodLink "TideBoatsLaw" (57 : Nat) ({ cls := "TideBoatsModel", name := "undo", desc := "()I" } : Jvm.MethodName)) ∈ lw_all := all_mem 971 (by decide +kernel) (by decide +kernel)
theorem q972 : (Jvm.Cond.instanceMethod ({ cls := "TideBoatsModel", name := "undo", desc := "()I" } : Jvm.MethodName)) ∈ lw_all := all_mem 972 (by decide +kernel) (by decide +kernel)
theorem q973 : (Jvm.Cond.selects "TideBoatsModel" ({ cls := "TideBoatsModel", name := "undo", desc := "()I" } : Jvm.MethodName) ({ cls := "TideBoatsModel", name := "undo", desc := "()I" } : Jvm.MethodName)) ∈ lw_all := all_mem 973 (by decide +kernel) (by decide +kernel)
theorem kV_L_57 : CWV RL 57 RX6 yX6_undo cX6_undo 2 (some .int) 0 := cwv_mk q971 q972 q973 q7 q974 ⟨rfl, ⟨by decide +kernel, by decide +kernel, by decide +kernel⟩⟩
theorem q597 : (Jvm.Cond.code ({ cls := "TideBoats", name := "keep", desc := "()I" } : Jvm.MethodName) prog_1_method_12_code (1 : Nat) (Option.some Jvm.ClassFile.FieldType.int)) ∈ lw_all := all_mem 597 (by decide +kernel) (by decide +kernel)
theorem q594 : (Jvm.Cond.methodLink "TideBoatsLaw" (58 : Nat) ({ cls := "TideBoats", name := "keep", desc := "()I" } : Jvm.MethodName)) ∈ lw_all := all_mem 594 (by decide +kernel) (by decide +kernel)
theorem q595 : (Jvm.Cond.instanceMethod ({ cls := "TideBoats", name := "keep", desc := "()I" } : Jvm.MethodName)) ∈ lw_all := all_mem 595 (by decide +kernel) (by decide +kernel)
theorem q596 : (Jvm.Cond.selects "TideBoats" ({ cls := "TideBoats", name := "keep", desc := "()I" } : Jvm.MethodName) ({ cls := "TideBoats", name := "keep", desc := "()I" } : Jvm.MethodName)) ∈ lw_all := all_mem 596 (by decide +kernel) (by decide +kernel)
theorem kV_L_58 : CWV RL 58 RX5 yX5_keep cX5_keep 1 (some .int) 0 := cwv_mk q594 q595 q596 q1 q597 ⟨rfl, ⟨by decide +kernel, by decide +kernel, by decide +kernel⟩⟩
theorem q978 : (Jvm.Cond.code ({ cls := "TideBoatsModel", name := "keep", desc := "()I" } : Jvm.MethodName) prog_8_method_50_code (2 : Nat) (Option.some Jvm.ClassFile.FieldType.int)) ∈ lw_all := all_mem 978 (by decide +kernel) (by decide +kernel)
theorem q975 : (Jvm.Cond.methodLink "TideBoatsLaw" (61 : Nat) ({ cls := "TideBoatsModel", name := "keep", desc := "()I" } : Jvm.MethodName)) ∈ lw_all := all_mem 975 (by decide +kernel) (by decide +kernel)
theorem q976 : (Jvm.Cond.instanceMethod ({ cls := "TideBoatsModel", name := "keep", desc := "()I" } : Jvm.MethodName)) ∈ lw_all := all_mem 976 (by decide +kernel) (by decide +kernel)
theorem q977 : (Jvm.Cond.selects "TideBoatsModel" ({ cls := "TideBoatsModel", name := "keep", desc := "()I" } : Jvm.MethodName) ({ cls := "TideBoatsModel", name := "keep", desc := "()I" } : Jvm.MethodName)) ∈ lw_all := all_mem 977 (by decide +kernel) (by decide +kernel)
theorem kV_L_61 : CWV RL 61 RX6 yX6_keep cX6_keep 2 (some .int) 0 := cwv_mk q975 q976 q977 q7 q978 ⟨rfl, ⟨by decide +kernel, by decide +kernel, by decide +kernel⟩⟩
theorem q605 : (Jvm.Cond.code ({ cls := "TideBoats", name := "restore", desc := "()I" } : Jvm.MethodName) prog_1_method_13_code (1 : Nat) (Option.some Jvm.ClassFile.FieldType.int)) ∈ lw_all := all_mem 605 (by decide +kernel) (by decide +kernel)
theorem q602 : (Jvm.Cond.methodLink "TideBoatsLaw" (62 : Nat) ({ cls := "TideBoats", name := "restore", desc := "()I" } : Jvm.MethodName)) ∈ lw_all := all_mem 602 (by decide +kernel) (by decide +kernel)
theorem q603 : (Jvm.Cond.instanceMethod ({ cls := "TideBoats", name := "restore", desc := "()I" } : Jvm.MethodName)) ∈ lw_all := all_mem 603 (by decide +kernel) (by decide +kernel)
theorem q604 : (Jvm.Cond.selects "TideBoats" ({ cls := "TideBoats", name := "restore", desc := "()I" } : Jvm.MethodName) ({ cls := "TideBoats", name := "restore", desc := "()I" } : Jvm.MethodName)) ∈ lw_all := all_mem 604 (by decide +kernel) (by decide +kernel)
theorem kV_L_62 : CWV RL 62 RX5 yX5_restore cX5_restore 1 (some .int) 0 := cwv_mk q602 q603 q604 q1 q605 ⟨rfl, ⟨by decide +kernel, by decide +kernel, by decide +kernel⟩⟩
theorem q982 : (Jvm.Cond.code ({ cls := "TideBoatsModel", name := "restore", desc := "()I" } : Jvm.MethodName) prog_8_method_51_code (2 : Nat) (Option.some Jvm.ClassFile.FieldType.int)) ∈ lw_all := all_mem 982 (by decide +kernel) (by decide +kernel)
theorem q979 : (Jvm.Cond.methodLink "TideBoatsLaw" (65 : Nat) ({ cls := "TideBoatsModel", name := "restore", desc := "()I" } : Jvm.MethodName)) ∈ lw_all := all_mem 979 (by decide +kernel) (by decide +kernel)
theorem q980 : (Jvm.Cond.instanceMethod ({ cls := "TideBoatsModel", name := "restore", desc := "()I" } : Jvm.MethodName)) ∈ lw_all := all_mem 980 (by decide +kernel) (by decide +kernel)
theorem q981 : (Jvm.Cond.selects "TideBoatsModel" ({ cls := "TideBoatsModel", name := "restore", desc := "()I" } : Jvm.MethodName) ({ cls := "TideBoatsModel", name := "restore", desc := "()I" } : Jvm.MethodName)) ∈ lw_all := all_mem 981 (by decide +kernel) (by decide +kernel)
theorem kV_L_65 : CWV RL 65 RX6 yX6_restore cX6_restore 2 (some .int) 0 := cwv_mk q979 q980 q981 q7 q982 ⟨rfl, ⟨by decide +kernel, by decide +kernel, by decide +kernel⟩⟩
theorem q613 : (Jvm.Cond.code ({ cls := "TideBoats", name := "cellOf", desc := "(II)I" } : Jvm.MethodName) prog_1_method_14_code (3 : Nat) (Option.some Jvm.ClassFile.FieldType.int)) ∈ lw_all := all_mem 613 (by decide +kernel) (by decide +kernel)
theorem q610 : (Jvm.Cond.methodLink "TideBoatsLaw" (66 : Nat) ({ cls := "TideBoats", name := "cellOf", desc := "(II)I" } : Jvm.MethodName)) ∈ lw_all := all_mem 610 (by decide +kernel) (by decide +kernel)
theorem q611 : (Jvm.Cond.instanceMethod ({ cls := "TideBoats", name := "cellOf", desc := "(II)I" } : Jvm.MethodName)) ∈ lw_all := all_mem 611 (by decide +kernel) (by decide +kernel)
theorem q612 : (Jvm.Cond.selects "TideBoats" ({ cls := "TideBoats", name := "cellOf", desc := "(II)I" } : Jvm.MethodName) ({ cls := "TideBoats", name := "cellOf", desc := "(II)I" } : Jvm.MethodName)) ∈ lw_all := all_mem 612 (by decide +kernel) (by decide +kernel)
theorem kV_L_66 : CWV RL 66 RX5 yX5_cellOf cX5_cellOf 3 (some .int) 2 := cwv_mk q610 q611 q612 q1 q613 ⟨rfl, ⟨by decide +kernel, by decide +kernel, by decide +kernel⟩⟩
theorem q986 : (Jvm.Cond.code ({ cls := "TideBoatsModel", name := "cellOf", desc := "(II)I" } : Jvm.MethodName) prog_8_method_52_code (3 : Nat) (Option.some Jvm.ClassFile.FieldType.int)) ∈ lw_all := all_mem 986 (by decide +kernel) (by decide +kernel)
theorem q983 : (Jvm.Cond.methodLink "TideBoatsLaw" (69 : Nat) ({ cls := "TideBoatsModel", name := "cellOf", desc := "(II)I" } : Jvm.MethodName)) ∈ lw_all := all_mem 983 (by decide +kernel) (by decide +kernel)
theorem q984 : (Jvm.Cond.instanceMethod ({ cls := "TideBoatsModel", name := "cellOf", desc := "(II)I" } : Jvm.MethodName)) ∈ lw_all := all_mem 984 (by decide +kernel) (by decide +kernel)
theorem q985 : (Jvm.Cond.selects "TideBoatsModel" ({ cls := "TideBoatsModel", name := "cellOf", desc := "(II)I" } : Jvm.MethodName) ({ cls := "TideBoatsModel", name := "cellOf", desc := "(II)I" } : Jvm.MethodName)) ∈ lw_all := all_mem 985 (by decide +kernel) (by decide +kernel)
theorem kV_L_69 : CWV RL 69 RX6 yX6_cellOf cX6_cellOf 3 (some .int) 2 := cwv_mk q983 q984 q985 q7 q986 ⟨rfl, ⟨by decide +kernel, by decide +kernel, by decide +kernel⟩⟩
theorem q624 : (Jvm.Cond.code ({ cls := "TideBoats", name := "boatOf", desc := "(II)I" } : Jvm.MethodName) prog_1_method_15_code (3 : Nat) (Option.some Jvm.ClassFile.FieldType.int)) ∈ lw_all := all_mem 624 (by decide +kernel) (by decide +kernel)
theorem q621 : (Jvm.Cond.methodLink "TideBoatsLaw" (70 : Nat) ({ cls := "TideBoats", name := "boatOf", desc := "(II)I" } : Jvm.MethodName)) ∈ lw_all := all_mem 621 (by decide +kernel) (by decide +kernel)
theorem q622 : (Jvm.Cond.instanceMethod ({ cls := "TideBoats", name := "boatOf", desc := "(II)I" } : Jvm.MethodName)) ∈ lw_all := all_mem 622 (by decide +kernel) (by decide +kernel)
theorem q623 : (Jvm.Cond.selects "TideBoats" ({ cls := "TideBoats", name := "boatOf", desc := "(II)I" } : Jvm.MethodName) ({ cls := "TideBoats", name := "boatOf", desc := "(II)I" } : Jvm.MethodName)) ∈ lw_all := all_mem 623 (by decide +kernel) (by decide +kernel)
theorem kV_L_70 : CWV RL 70 RX5 yX5_boatOf cX5_boatOf 3 (some .int) 2 := cwv_mk q621 q622 q623 q1 q624 ⟨rfl, ⟨by decide +kernel, by decide +kernel, by decide +kernel⟩⟩
theorem q990 : (Jvm.Cond.code ({ cls := "TideBoatsModel", name := "boatOf", desc := "(II)I" } : Jvm.MethodName) prog_8_method_54_code (3 : Nat) (Option.some Jvm.ClassFile.FieldType.int)) ∈ lw_all := all_mem 990 (by decide +kernel) (by decide +kernel)
theorem q987 : (Jvm.Cond.methodLink "TideBoatsLaw" (73 : Nat) ({ cls := "TideBoatsModel", name := "boatOf", desc := "(II)I" } : Jvm.MethodName)) ∈ lw_all := all_mem 987 (by decide +kernel) (by decide +kernel)
theorem q988 : (Jvm.Cond.instanceMethod ({ cls := "TideBoatsModel", name := "boatOf", desc := "(II)I" } : Jvm.MethodName)) ∈ lw_all := all_mem 988 (by decide +kernel) (by decide +kernel)
theorem q989 : (Jvm.Cond.selects "TideBoatsModel" ({ cls := "TideBoatsModel", name := "boatOf", desc := "(II)I" } : Jvm.MethodName) ({ cls := "TideBoatsModel", name := "boatOf", desc := "(II)I" } : Jvm.MethodName)) ∈ lw_all := all_mem 989 (by decide +kernel) (by decide +kernel)
theorem kV_L_73 : CWV RL 73 RX6 yX6_boatOf cX6_boatOf 3 (some .int) 2 := cwv_mk q987 q988 q989 q7 q990 ⟨rfl, ⟨by decide +kernel, by decide +kernel, by decide +kernel⟩⟩
theorem q635 : (Jvm.Cond.code ({ cls := "TideBoats", name := "tide", desc := "(I)I" } : Jvm.MethodName) prog_1_method_16_code (2 : Nat) (Option.some Jvm.ClassFile.FieldType.int)) ∈ lw_all := all_mem 635 (by decide +kernel) (by decide +kernel)
theorem q632 : (Jvm.Cond.methodLink "TideBoatsLaw" (74 : Nat) ({ cls := "TideBoats", name := "tide", desc := "(I)I" } : Jvm.MethodName)) ∈ lw_all := all_mem 632 (by decide +kernel) (by decide +kernel)
theorem q633 : (Jvm.Cond.instanceMethod ({ cls := "TideBoats", name := "tide", desc := "(I)I" } : Jvm.MethodName)) ∈ lw_all := all_mem 633 (by decide +kernel) (by decide +kernel)
theorem q634 : (Jvm.Cond.selects "TideBoats" ({ cls := "TideBoats", name := "tide", desc := "(I)I" } : Jvm.MethodName) ({ cls := "TideBoats", name := "tide", desc := "(I)I" } : Jvm.MethodName)) ∈ lw_all := all_mem 634 (by decide +kernel) (by decide +kernel)
theorem kV_L_74 : CWV RL 74 RX5 yX5_tide cX5_tide 2 (some .int) 1 := cwv_mk q632 q633 q634 q1 q635 ⟨rfl, ⟨by decide +kernel, by decide +kernel, by decide +kernel⟩⟩
theorem q998 : (Jvm.Cond.code ({ cls := "TideBoatsModel", name := "tide", desc := "(I)I" } : Jvm.MethodName) prog_8_method_55_code (2 : Nat) (Option.some Jvm.ClassFile.FieldType.int)) ∈ lw_all := all_mem 998 (by decide +kernel) (by decide +kernel)
theorem q995 : (Jvm.Cond.methodLink "TideBoatsLaw" (78 : Nat) ({ cls := "TideBoatsModel", name := "tide", desc := "(I)I" } : Jvm.MethodName)) ∈ lw_all := all_mem 995 (by decide +kernel) (by decide +kernel)
theorem q996 : (Jvm.Cond.instanceMethod ({ cls := "TideBoatsModel", name := "tide", desc := "(I)I" } : Jvm.MethodName)) ∈ lw_all := all_mem 996 (by decide +kernel) (by decide +kernel)
theorem q997 : (Jvm.Cond.selects "TideBoatsModel" ({ cls := "TideBoatsModel", name := "tide", desc := "(I)I" } : Jvm.MethodName) ({ cls := "TideBoatsModel", name := "tide", desc := "(I)I" } : Jvm.MethodName)) ∈ lw_all := all_mem 997 (by decide +kernel) (by decide +kernel)
theorem kV_L_78 : CWV RL 78 RX6 yX6_tide cX6_tide 2 (some .int) 1 := cwv_mk q995 q996 q997 q7 q998 ⟨rfl, ⟨by decide +kernel, by decide +kernel, by decide +kernel⟩⟩
theorem q640 : (Jvm.Cond.code ({ cls := "TideBoats", name := "why", desc := "(III)I" } : Jvm.MethodName) prog_1_method_17_code (5 : Nat) (Option.some Jvm.ClassFile.FieldType.int)) ∈ lw_all := all_mem 640 (by decide +kernel) (by decide +kernel)
theorem q637 : (Jvm.Cond.methodLink "TideBoatsLaw" (79 : Nat) ({ cls := "TideBoats", name := "why", desc := "(III)I" } : Jvm.MethodName)) ∈ lw_all := all_mem 637 (by decide +kernel) (by decide +kernel)
theorem q638 : (Jvm.Cond.instanceMethod ({ cls := "TideBoats", name := "why", desc := "(III)I" } : Jvm.MethodName)) ∈ lw_all := all_mem 638 (by decide +kernel) (by decide +kernel)
theorem q639 : (Jvm.Cond.selects "TideBoats" ({ cls := "TideBoats", name := "why", desc := "(III)I" } : Jvm.MethodName) ({ cls := "TideBoats", name := "why", desc := "(III)I" } : Jvm.MethodName)) ∈ lw_all := all_mem 639 (by decide +kernel) (by decide +kernel)
theorem kV_L_79 : CWV RL 79 RX5 yX5_why cX5_why 5 (some .int) 3 := cwv_mk q637 q638 q639 q1 q640 ⟨rfl, ⟨by decide +kernel, by decide +kernel, by decide +kernel⟩⟩
theorem q1002 : (Jvm.Cond.code ({ cls := "TideBoatsModel", name := "why", desc := "(III)I" } : Jvm.MethodName) prog_8_method_56_code (5 : Nat) (Option.some Jvm.ClassFile.FieldType.int)) ∈ lw_all := all_mem 1002 (by decide +kernel) (by decide +kernel)
theorem q999 : (Jvm.Cond.methodLink "TideBoatsLaw" (82 : Nat) ({ cls := "TideBoatsModel", name := "why", desc := "(III)I" } : Jvm.MethodName)) ∈ lw_all := all_mem 999 (by decide +kernel) (by decide +kernel)
theorem q1000 : (Jvm.Cond.instanceMethod ({ cls := "TideBoatsModel", name := "why", desc := "(III)I" } : Jvm.MethodName)) ∈ lw_all := all_mem 1000 (by decide +kernel) (by decide +kernel)
theorem q1001 : (Jvm.Cond.selects "TideBoatsModel" ({ cls := "TideBoatsModel", name := "why", desc := "(III)I" } : Jvm.MethodName) ({ cls := "TideBoatsModel", name := "why", desc := "(III)I" } : Jvm.MethodName)) ∈ lw_all := all_mem 1001 (by decide +kernel) (by decide +kernel)
theorem kV_L_82 : CWV RL 82 RX6 yX6_why cX6_why 5 (some .int) 3 := cwv_mk q999 q1000 q1001 q7 q1002 ⟨rfl, ⟨by decide +kernel, by decide +kernel, by decide +kernel⟩⟩
theorem q646 : (Jvm.Cond.code ({ cls := "TideBoats", name := "count", desc := "(I)I" } : Jvm.MethodName) prog_1_method_18_code (2 : Nat) (Option.some Jvm.ClassFile.FieldType.int)) ∈ lw_all := all_mem 646 (by decide +kernel) (by decide +kernel)
theorem q643 : (Jvm.Cond.methodLink "TideBoatsLaw" (83 : Nat) ({ cls := "TideBoats", name := "count", desc := "(I)I" } : Jvm.MethodName)) ∈ lw_all := all_mem 643 (by decide +kernel) (by decide +kernel)
theorem q644 : (Jvm.Cond.instanceMethod ({ cls := "TideBoats", name := "count", desc := "(I)I" } : Jvm.MethodName)) ∈ lw_all := all_mem 644 (by decide +kernel) (by decide +kernel)
theorem q645 : (Jvm.Cond.selects "TideBoats" ({ cls := "TideBoats", name := "count", desc := "(I)I" } : Jvm.MethodName) ({ cls := "TideBoats", name := "count", desc := "(I)I" } : Jvm.MethodName)) ∈ lw_all := all_mem 645 (by decide +kernel) (by decide +kernel)
theorem kV_L_83 : CWV RL 83 RX5 yX5_count cX5_count 2 (some .int) 1 := cwv_mk q643 q644 q645 q1 q646 ⟨rfl, ⟨by decide +kernel, by decide +kernel, by decide +kernel⟩⟩
theorem q1006 : (Jvm.Cond.code ({ cls := "TideBoatsModel", name := "count", desc := "(I)I" } : Jvm.MethodName) prog_8_method_60_code (2 : Nat) (Option.some Jvm.ClassFile.FieldType.int)) ∈ lw_all := all_mem 1006 (by decide +kernel) (by decide +kernel)
theorem q1003 : (Jvm.Cond.methodLink "TideBoatsLaw" (86 : Nat) ({ cls := "TideBoatsModel", name := "count", desc := "(I)I" } : Jvm.MethodName)) ∈ lw_all := all_mem 1003 (by decide +kernel) (by decide +kernel)
theorem q1004 : (Jvm.Cond.instanceMethod ({ cls := "TideBoatsModel", name := "count", desc := "(I)I" } : Jvm.MethodName)) ∈ lw_all := all_mem 1004 (by decide +kernel) (by decide +kernel)
theorem q1005 : (Jvm.Cond.selects "TideBoatsModel" ({ cls := "TideBoatsModel", name := "count", desc := "(I)I" } : Jvm.MethodName) ({ cls := "TideBoatsModel", name := "count", desc := "(I)I" } : Jvm.MethodName)) ∈ lw_all := all_mem 1005 (by decide +kernel) (by decide +kernel)
theorem kV_L_86 : CWV RL 86 RX6 yX6_count cX6_count 2 (some .int) 1 := cwv_mk q1003 q1004 q1005 q7 q1006 ⟨rfl, ⟨by decide +kernel, by decide +kernel, by decide +kernel⟩⟩
theorem q666 : (Jvm.Cond.code ({ cls := "TideBoats", name := "afloat", desc := "(II)F" } : Jvm.MethodName) prog_1_method_19_code (6 : Nat) (Option.some Jvm.ClassFile.FieldType.float)) ∈ lw_all := all_mem 666 (by decide +kernel) (by decide +kernel)
theorem q663 : (Jvm.Cond.methodLink "TideBoatsLaw" (87 : Nat) ({ cls := "TideBoats", name := "afloat", desc := "(II)F" } : Jvm.MethodName)) ∈ lw_all := all_mem 663 (by decide +kernel) (by decide +kernel)
theorem q664 : (Jvm.Cond.instanceMethod ({ cls := "TideBoats", name := "afloat", desc := "(II)F" } : Jvm.MethodName)) ∈ lw_all := all_mem 664 (by decide +kernel) (by decide +kernel)
theorem q665 : (Jvm.Cond.selects "TideBoats" ({ cls := "TideBoats", name := "afloat", desc := "(II)F" } : Jvm.MethodName) ({ cls := "TideBoats", name := "afloat", desc := "(II)F" } : Jvm.MethodName)) ∈ lw_all := all_mem 665 (by decide +kernel) (by decide +kernel)
theorem kV_L_87 : CWV RL 87 RX5 yX5_afloat cX5_afloat 6 (some .float) 2 := cwv_mk q663 q664 q665 q1 q666 ⟨rfl, ⟨by decide +kernel, by decide +kernel, by decide +kernel⟩⟩
theorem q1022 : (Jvm.Cond.code ({ cls := "TideBoatsModel", name := "afloat", desc := "(II)F" } : Jvm.MethodName) prog_8_method_62_code (5 : Nat) (Option.some Jvm.ClassFile.FieldType.float)) ∈ lw_all := all_mem 1022 (by decide +kernel) (by decide +kernel)
theorem q1019 : (Jvm.Cond.methodLink "TideBoatsLaw" (91 : Nat) ({ cls := "TideBoatsModel", name := "afloat", desc := "(II)F" } : Jvm.MethodName)) ∈ lw_all := all_mem 1019 (by decide +kernel) (by decide +kernel)
theorem q1020 : (Jvm.Cond.instanceMethod ({ cls := "TideBoatsModel", name := "afloat", desc := "(II)F" } : Jvm.MethodName)) ∈ lw_all := all_mem 1020 (by decide +kernel) (by decide +kernel)
theorem q1021 : (Jvm.Cond.selects "TideBoatsModel" ({ cls := "TideBoatsModel", name := "afloat", desc := "(II)F" } : Jvm.MethodName) ({ cls := "TideBoatsModel", name := "afloat", desc := "(II)F" } : Jvm.MethodName)) ∈ lw_all := all_mem 1021 (by decide +kernel) (by decide +kernel)
theorem kV_L_91 : CWV RL 91 RX6 yX6_afloat cX6_afloat 5 (some .float) 2 := cwv_mk q1019 q1020 q1021 q7 q1022 ⟨rfl, ⟨by decide +kernel, by decide +kernel, by decide +kernel⟩⟩
theorem q677 : (Jvm.Cond.code ({ cls := "TideBoats", name := "floatsIn", desc := "(I)I" } : Jvm.MethodName) prog_1_method_20_code (6 : Nat) (Option.some Jvm.ClassFile.FieldType.int)) ∈ lw_all := all_mem 677 (by decide +kernel) (by decide +kernel)
theorem q674 : (Jvm.Cond.methodLink "TideBoatsLaw" (92 : Nat) ({ cls := "TideBoats", name := "floatsIn", desc := "(I)I" } : Jvm.MethodName)) ∈ lw_all := all_mem 674 (by decide +kernel) (by decide +kernel)
theorem q675 : (Jvm.Cond.instanceMethod ({ cls := "TideBoats", name := "floatsIn", desc := "(I)I" } : Jvm.MethodName)) ∈ lw_all := all_mem 675 (by decide +kernel) (by decide +kernel)
theorem q676 : (Jvm.Cond.selects "TideBoats" ({ cls := "TideBoats", name := "floatsIn", desc := "(I)I" } : Jvm.MethodName) ({ cls := "TideBoats", name := "floatsIn", desc := "(I)I" } : Jvm.MethodName)) ∈ lw_all := all_mem 676 (by decide +kernel) (by decide +kernel)
theorem kV_L_92 : CWV RL 92 RX5 yX5_floatsIn cX5_floatsIn 6 (some .int) 1 := cwv_mk q674 q675 q676 q1 q677 ⟨rfl, ⟨by decide +kernel, by decide +kernel, by decide +kernel⟩⟩
theorem q1031 : (Jvm.Cond.code ({ cls := "TideBoatsModel", name := "floatsIn", desc := "(I)I" } : Jvm.MethodName) prog_8_method_63_code (3 : Nat) (Option.some Jvm.ClassFile.FieldType.int)) ∈ lw_all := all_mem 1031 (by decide +kernel) (by decide +kernel)
theorem q1028 : (Jvm.Cond.methodLink "TideBoatsLaw" (95 : Nat) ({ cls := "TideBoatsModel", name := "floatsIn", desc := "(I)I" } : Jvm.MethodName)) ∈ lw_all := all_mem 1028 (by decide +kernel) (by decide +kernel)
theorem q1029 : (Jvm.Cond.instanceMethod ({ cls := "TideBoatsModel", name := "floatsIn", desc := "(I)I" } : Jvm.MethodName)) ∈ lw_all := all_mem 1029 (by decide +kernel) (by decide +kernel)
theorem q1030 : (Jvm.Cond.selects "TideBoatsModel" ({ cls := "TideBoatsModel", name := "floatsIn", desc := "(I)I" } : Jvm.MethodName) ({ cls := "TideBoatsModel", name := "floatsIn", desc := "(I)I" } : Jvm.MethodName)) ∈ lw_all := all_mem 1030 (by decide +kernel) (by decide +kernel)
theorem kV_L_95 : CWV RL 95 RX6 yX6_floatsIn cX6_floatsIn 3 (some .int) 1 := cwv_mk q1028 q1029 q1030 q7 q1031 ⟨rfl, ⟨by decide +kernel, by decide +kernel, by decide +kernel⟩⟩
theorem q681 : (Jvm.Cond.code ({ cls := "TideBoats", name := "homeIn", desc := "(II)I" } : Jvm.MethodName) prog_1_method_21_code (4 : Nat) (Option.some Jvm.ClassFile.FieldType.int)) ∈ lw_all := all_mem 681 (by decide +kernel) (by decide +kernel)
theorem q678 : (Jvm.Cond.methodLink "TideBoatsLaw" (96 : Nat) ({ cls := "TideBoats", name := "homeIn", desc := "(II)I" } : Jvm.MethodName)) ∈ lw_all := all_mem 678 (by decide +kernel) (by decide +kernel)
theorem q679 : (Jvm.Cond.instanceMethod ({ cls := "TideBoats", name := "homeIn", desc := "(II)I" } : Jvm.MethodName)) ∈ lw_all := all_mem 679 (by decide +kernel) (by decide +kernel)
theorem q680 : (Jvm.Cond.selects "TideBoats" ({ cls := "TideBoats", name := "homeIn", desc := "(II)I" } : Jvm.MethodName) ({ cls := "TideBoats", name := "homeIn", desc := "(II)I" } : Jvm.MethodName)) ∈ lw_all := all_mem 680 (by decide +kernel) (by decide +kernel)
theorem kV_L_96 : CWV RL 96 RX5 yX5_homeIn cX5_homeIn 4 (some .int) 2 := cwv_mk q678 q679 q680 q1 q681 ⟨rfl, ⟨by decide +kernel, by decide +kernel, by decide +kernel⟩⟩
theorem q1035 : (Jvm.Cond.code ({ cls := "TideBoatsModel", name := "homeIn", desc := "(II)I" } : Jvm.MethodName) prog_8_method_68_code (3 : Nat) (Option.some Jvm.ClassFile.FieldType.int)) ∈ lw_all := all_mem 1035 (by decide +kernel) (by decide +kernel)
theorem q1032 : (Jvm.Cond.methodLink "TideBoatsLaw" (99 : Nat) ({ cls := "TideBoatsModel", name := "homeIn", desc := "(II)I" } : Jvm.MethodName)) ∈ lw_all := all_mem 1032 (by decide +kernel) (by decide +kernel)
theorem q1033 : (Jvm.Cond.instanceMethod ({ cls := "TideBoatsModel", name := "homeIn", desc := "(II)I" } : Jvm.MethodName)) ∈ lw_all := all_mem 1033 (by decide +kernel) (by decide +kernel)
theorem q1034 : (Jvm.Cond.selects "TideBoatsModel" ({ cls := "TideBoatsModel", name := "homeIn", desc := "(II)I" } : Jvm.MethodName) ({ cls := "TideBoatsModel", name := "homeIn", desc := "(II)I" } : Jvm.MethodName)) ∈ lw_all := all_mem 1034 (by decide +kernel) (by decide +kernel)
theorem kV_L_99 : CWV RL 99 RX6 yX6_homeIn cX6_homeIn 3 (some .int) 2 := cwv_mk q1032 q1033 q1034 q7 q1035 ⟨rfl, ⟨by decide +kernel, by decide +kernel, by decide +kernel⟩⟩
theorem q733 : (Jvm.Cond.code ({ cls := "TideBoats", name := "inDanger", desc := "(I)I" } : Jvm.MethodName) prog_1_method_22_code (4 : Nat) (Option.some Jvm.ClassFile.FieldType.int)) ∈ lw_all := all_mem 733 (by decide +kernel) (by decide +kernel)
theorem q730 : (Jvm.Cond.methodLink "TideBoatsLaw" (100 : Nat) ({ cls := "TideBoats", name := "inDanger", desc := "(I)I" } : Jvm.MethodName)) ∈ lw_all := all_mem 730 (by decide +kernel) (by decide +kernel)
theorem q731 : (Jvm.Cond.instanceMethod ({ cls := "TideBoats", name := "inDanger", desc := "(I)I" } : Jvm.MethodName)) ∈ lw_all := all_mem 731 (by decide +kernel) (by decide +kernel)
theorem q732 : (Jvm.Cond.selects "TideBoats" ({ cls := "TideBoats", name := "inDanger", desc := "(I)I" } : Jvm.MethodName) ({ cls := "TideBoats", name := "inDanger", desc := "(I)I" } : Jvm.MethodName)) ∈ lw_all := all_mem 732 (by decide +kernel) (by decide +kernel)
theorem kV_L_100 : CWV RL 100 RX5 yX5_inDanger cX5_inDanger 4 (some .int) 1 := cwv_mk q730 q731 q732 q1 q733 ⟨rfl, ⟨by decide +kernel, by decide +kernel, by decide +kernel⟩⟩
theorem q1055 : (Jvm.Cond.code ({ cls := "TideBoatsModel", name := "inDanger", desc := "(I)I" } : Jvm.MethodName) prog_8_method_69_code (5 : Nat) (Option.some Jvm.ClassFile.FieldType.int)) ∈ lw_all := all_mem 1055 (by decide +kernel) (by decide +kernel)
theorem q1052 : (Jvm.Cond.methodLink "TideBoatsLaw" (103 : Nat) ({ cls := "TideBoatsModel", name := "inDanger", desc := "(I)I" } : Jvm.MethodName)) ∈ lw_all := all_mem 1052 (by decide +kernel) (by decide +kernel)
theorem q1053 : (Jvm.Cond.instanceMethod ({ cls := "TideBoatsModel", name := "inDanger", desc := "(I)I" } : Jvm.MethodName)) ∈ lw_all := all_mem 1053 (by decide +kernel) (by decide +kernel)
theorem q1054 : (Jvm.Cond.selects "TideBoatsModel" ({ cls := "TideBoatsModel", name := "inDanger", desc := "(I)I" } : Jvm.MethodName) ({ cls := "TideBoatsModel", name := "inDanger", desc := "(I)I" } : Jvm.MethodName)) ∈ lw_all := all_mem 1054 (by decide +kernel) (by decide +kernel)
theorem kV_L_103 : CWV RL 103 RX6 yX6_inDanger cX6_inDanger 5 (some .int) 1 := cwv_mk q1052 q1053 q1054 q7 q1055 ⟨rfl, ⟨by decide +kernel, by decide +kernel, by decide +kernel⟩⟩
theorem q739 : (Jvm.Cond.code ({ cls := "TideBoats", name := "best", desc := "()I" } : Jvm.MethodName) prog_1_method_23_code (7 : Nat) (Option.some Jvm.ClassFile.FieldType.int)) ∈ lw_all := all_mem 739 (by decide +kernel) (by decide +kernel)
theorem q736 : (Jvm.Cond.methodLink "TideBoatsLaw" (104 : Nat) ({ cls := "TideBoats", name := "best", desc := "()I" } : Jvm.MethodName)) ∈ lw_all := all_mem 736 (by decide +kernel) (by decide +kernel)
theorem q737 : (Jvm.Cond.instanceMethod ({ cls := "TideBoats", name := "best", desc := "()I" } : Jvm.MethodName)) ∈ lw_all := all_mem 737 (by decide +kernel) (by decide +kernel)
theorem q738 : (Jvm.Cond.selects "TideBoats" ({ cls := "TideBoats", name := "best", desc := "()I" } : Jvm.MethodName) ({ cls := "TideBoats", name := "best", desc := "()I" } : Jvm.MethodName)) ∈ lw_all := all_mem 738 (by decide +kernel) (by decide +kernel)
theorem kV_L_104 : CWV RL 104 RX5 yX5_best cX5_best 7 (some .int) 0 := cwv_mk q736 q737 q738 q1 q739 ⟨rfl, ⟨by decide +kernel, by decide +kernel, by decide +kernel⟩⟩
theorem q1059 : (Jvm.Cond.code ({ cls := "TideBoatsModel", name := "best", desc := "()I" } : Jvm.MethodName) prog_8_method_71_code (7 : Nat) (Option.some Jvm.ClassFile.FieldType.int)) ∈ lw_all := all_mem 1059 (by decide +kernel) (by decide +kernel)
theorem q1056 : (Jvm.Cond.methodLink "TideBoatsLaw" (107 : Nat) ({ cls := "TideBoatsModel", name := "best", desc := "()I" } : Jvm.MethodName)) ∈ lw_all := all_mem 1056 (by decide +kernel) (by decide +kernel)
theorem q1057 : (Jvm.Cond.instanceMethod ({ cls := "TideBoatsModel", name := "best", desc := "()I" } : Jvm.MethodName)) ∈ lw_all := all_mem 1057 (by decide +kernel) (by decide +kernel)
theorem q1058 : (Jvm.Cond.selects "TideBoatsModel" ({ cls := "TideBoatsModel", name := "best", desc := "()I" } : Jvm.MethodName) ({ cls := "TideBoatsModel", name := "best", desc := "()I" } : Jvm.MethodName)) ∈ lw_all := all_mem 1058 (by decide +kernel) (by decide +kernel)
theorem kV_L_107 : CWV RL 107 RX6 yX6_best cX6_best 7 (some .int) 0 := cwv_mk q1056 q1057 q1058 q7 q1059 ⟨rfl, ⟨by decide +kernel, by decide +kernel, by decide +kernel⟩⟩
