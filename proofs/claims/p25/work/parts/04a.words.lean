
def isNest : Cond → Bool
  | .fieldLinkNest .. => true
  | .methodLinkNest .. => true
  | _ => false
/-- all good words of the tables, the private methods' selections ahead -/
def lw_all : List Cond := lw_tbl.filter goodWord
/-- the words of links between nest mates -/
def lw_nst : List Cond := tables_1.filter isNest
theorem all_mem {w : Cond} (i : Nat) (h : tables_1[i]? = some w) (g : goodWord w = true) : w ∈ lw_all := List.mem_filter.mpr ⟨List.mem_append_right _ (List.mem_of_getElem? h), g⟩
theorem all_memS {w : Cond} (i : Nat) (h : (k2_sels lw_privs)[i]? = some w) (g : goodWord w = true) : w ∈ lw_all := List.mem_filter.mpr ⟨List.mem_append_left _ (List.mem_of_getElem? h), g⟩
theorem nst_mem {w : Cond} (i : Nat) (h : tables_1[i]? = some w) (g : isNest w = true) : w ∈ lw_nst := List.mem_filter.mpr ⟨List.mem_of_getElem? h, g⟩
theorem all_tbl {w : Cond} (h : w ∈ lw_all) : w ∈ lw_tbl := (List.mem_filter.mp h).1
theorem good_all : GoodIn lw_all lw_all := fun w h => ⟨h, good_of_word (List.mem_filter.mp h).2⟩
def ws_ (y : MethodName) (cc : ByteArray) (n : Nat) (ret : Option FieldType) : List Cond := .code y cc n ret :: lw_all
theorem good_ws {y : MethodName} {cc : ByteArray} {n : Nat} {ret : Option FieldType} (h : Cond.code y cc n ret ∈ lw_all) : GoodIn lw_all (ws_ y cc n ret) := fun w hw => (List.mem_cons.mp hw).elim (fun e => e ▸ good_all _ h) (fun q => good_all w q)
abbrev okd (y : MethodName) (k : Nat) : Prop := y.cls ≠ "java/lang/invoke/MethodHandle" ∧ y.cls ≠ "java/lang/invoke/VarHandle" ∧ (parseMethodDescriptor y.desc).map (fun d => d.parameters.length) = some k
/-- a virtual call's words -/
def CWV (own : String) (idx : Nat) (C : String) (y : MethodName) (cc : ByteArray) (n : Nat) (ret : Option FieldType) (k : Nat) : Prop :=
  GoodIn lw_all (wsV own idx C y (ws_ y cc n ret)) ∧ (y.cls = C ∧ okd y k)
theorem cwv_mk {own C : String} {idx n k : Nat} {y : MethodName} {cc : ByteArray} {ret : Option FieldType} (h1 : Cond.methodLink own idx y ∈ lw_all) (h2 : Cond.instanceMethod y ∈ lw_all) (h3 : Cond.selects C y y ∈ lw_all) (h4 : Cond.initialized C ∈ lw_all) (h5 : Cond.code y cc n ret ∈ lw_all) (hd : y.cls = C ∧ okd y k) : CWV own idx C y cc n ret k := by
  refine ⟨fun w hw => ?_, hd⟩
  rcases List.mem_append.mp hw with h | h
  · simp only [List.mem_cons, List.not_mem_nil, or_false] at h
    rcases h with rfl | rfl | rfl | rfl
    · exact good_all _ h1
    · exact good_all _ h2
    · exact good_all _ h3
    · exact good_all _ h4
  · exact good_ws h5 w h
/-- a static call's words -/
def CWS (own : String) (idx : Nat) (y : MethodName) (cc : ByteArray) (n : Nat) (ret : Option FieldType) (k : Nat) : Prop :=
  GoodIn lw_all (va_wsS own idx y (ws_ y cc n ret)) ∧ okd y k
theorem cws_mk {own : String} {idx n k : Nat} {y : MethodName} {cc : ByteArray} {ret : Option FieldType} (h1 : Cond.methodLink own idx y ∈ lw_all) (h2 : Cond.static y ∈ lw_all) (h4 : Cond.initialized y.cls ∈ lw_all) (h5 : Cond.code y cc n ret ∈ lw_all) (hd : okd y k) : CWS own idx y cc n ret k := by
  refine ⟨fun w hw => ?_, hd⟩
  rcases List.mem_append.mp hw with h | h
  · simp only [List.mem_cons, List.not_mem_nil, or_false] at h
    rcases h with rfl | rfl | rfl
    · exact good_all _ h1
    · exact good_all _ h2
    · exact good_all _ h4
  · exact good_ws h5 w h
/-- a static call's words, of a nest mate's private method -/
def CWN (own : String) (idx : Nat) (y : MethodName) (cc : ByteArray) (n : Nat) (ret : Option FieldType) (k : Nat) : Prop :=
  (∃ host, Cond.methodLinkNest own idx y host ∈ lw_nst) ∧ Cond.static y ∈ lw_all ∧ Cond.initialized y.cls ∈ lw_all ∧ Cond.code y cc n ret ∈ lw_all ∧ okd y k
/-- a constructor's words -/
def CWI (own : String) (idx : Nat) (y : MethodName) (cc : ByteArray) (n : Nat) (k : Nat) : Prop :=
  Cond.methodLink own idx y ∈ lw_all ∧ Cond.instanceMethod y ∈ lw_all ∧ Cond.initialized y.cls ∈ lw_all ∧ Cond.code y cc n none ∈ lw_all ∧ y.name = "<init>" ∧ okd y k
def CWIN (own : String) (idx : Nat) (y : MethodName) (cc : ByteArray) (n : Nat) (k : Nat) : Prop :=
  (∃ host, Cond.methodLinkNest own idx y host ∈ lw_nst) ∧ Cond.instanceMethod y ∈ lw_all ∧ Cond.initialized y.cls ∈ lw_all ∧ Cond.code y cc n none ∈ lw_all ∧ y.name = "<init>" ∧ okd y k
/-- a field that is read: its link and its class's words -/
def FLD (own : String) (idx ci k : Nat) : Prop := ∃ (C : String) (T : u_T) (N : Nat), vwCl[ci]? = some (C, T, N) ∧ k < N ∧ (∀ w ∈ u_ws C T N, w ∈ lw_all) ∧ Cond.fieldLink own idx (T k).1 (T k).2.1 (T k).2.2.1 ∈ lw_all
def FLN (own : String) (idx ci k : Nat) : Prop := ∃ (C : String) (T : u_T) (N : Nat), vwCl[ci]? = some (C, T, N) ∧ k < N ∧ (∀ w ∈ u_ws C T N, w ∈ lw_all) ∧ ∃ host, Cond.fieldLinkNest own idx (T k).1 (T k).2.1 (T k).2.2.1 host ∈ lw_nst
/-- a class's fields: types, names apart -/
def FCL (ci k : Nat) (fin : Bool) (ty : FieldType) : Prop := ∃ (C : String) (T : u_T) (N : Nat) (ty0 : Nat → FieldType), vwCl[ci]? = some (C, T, N) ∧ (∀ k, k < N → parseFieldDescriptor (T k).2.2.1 = some (ty0 k)) ∧ (∀ a, a < N → ∀ b, b < N → a ≠ b → (T a).2.1 ≠ (T b).2.1) ∧ (T k).2.2.2 = fin ∧ parseFieldDescriptor (T k).2.2.1 = some ty ∧ (T k).1 = C

theorem in_tX0 : ∀ w ∈ u_ws RX0 TX0 4, w ∈ tables_1 := by decide +kernel
theorem gd_X0 : (u_ws RX0 TX0 4).all goodWord = true := by decide +kernel
theorem in_X0 : ∀ w ∈ u_ws RX0 TX0 4, w ∈ lw_all := fun w h => List.mem_filter.mpr ⟨List.mem_append_right _ (in_tX0 w h), List.all_eq_true.mp gd_X0 w h⟩
theorem in_tX1 : ∀ w ∈ u_ws RX1 TX1 7, w ∈ tables_1 := by decide +kernel
theorem gd_X1 : (u_ws RX1 TX1 7).all goodWord = true := by decide +kernel
theorem in_X1 : ∀ w ∈ u_ws RX1 TX1 7, w ∈ lw_all := fun w h => List.mem_filter.mpr ⟨List.mem_append_right _ (in_tX1 w h), List.all_eq_true.mp gd_X1 w h⟩
theorem in_tX2 : ∀ w ∈ u_ws RX2 TX2 2, w ∈ tables_1 := by decide +kernel
theorem gd_X2 : (u_ws RX2 TX2 2).all goodWord = true := by decide +kernel
theorem in_X2 : ∀ w ∈ u_ws RX2 TX2 2, w ∈ lw_all := fun w h => List.mem_filter.mpr ⟨List.mem_append_right _ (in_tX2 w h), List.all_eq_true.mp gd_X2 w h⟩
theorem in_tX3 : ∀ w ∈ u_ws RX3 TX3 1, w ∈ tables_1 := by decide +kernel
theorem gd_X3 : (u_ws RX3 TX3 1).all goodWord = true := by decide +kernel
theorem in_X3 : ∀ w ∈ u_ws RX3 TX3 1, w ∈ lw_all := fun w h => List.mem_filter.mpr ⟨List.mem_append_right _ (in_tX3 w h), List.all_eq_true.mp gd_X3 w h⟩
theorem in_tX4 : ∀ w ∈ u_ws RX4 TX4 14, w ∈ tables_1 := by decide +kernel
theorem gd_X4 : (u_ws RX4 TX4 14).all goodWord = true := by decide +kernel
theorem in_X4 : ∀ w ∈ u_ws RX4 TX4 14, w ∈ lw_all := fun w h => List.mem_filter.mpr ⟨List.mem_append_right _ (in_tX4 w h), List.all_eq_true.mp gd_X4 w h⟩
theorem in_tX5 : ∀ w ∈ u_ws RX5 TX5 6, w ∈ tables_1 := by decide +kernel
theorem gd_X5 : (u_ws RX5 TX5 6).all goodWord = true := by decide +kernel
theorem in_X5 : ∀ w ∈ u_ws RX5 TX5 6, w ∈ lw_all := fun w h => List.mem_filter.mpr ⟨List.mem_append_right _ (in_tX5 w h), List.all_eq_true.mp gd_X5 w h⟩
theorem fc_X0_0 : FCL 0 0 true (.array (.object "TideBoats$State")) := ⟨RX0, TX0, 4, tyX0, rfl, tyX0_ok, nmX0, rfl, by decide +kernel, rfl⟩
theorem fc_X0_1 : FCL 0 1 true (.object "TideBoats$State") := ⟨RX0, TX0, 4, tyX0, rfl, tyX0_ok, nmX0, rfl, by decide +kernel, rfl⟩
theorem fc_X0_2 : FCL 0 2 false (.int) := ⟨RX0, TX0, 4, tyX0, rfl, tyX0_ok, nmX0, rfl, by decide +kernel, rfl⟩
theorem fc_X0_3 : FCL 0 3 false (.boolean) := ⟨RX0, TX0, 4, tyX0, rfl, tyX0_ok, nmX0, rfl, by decide +kernel, rfl⟩
theorem fc_X1_0 : FCL 1 0 true (.object "TideBoats$State") := ⟨RX1, TX1, 7, tyX1, rfl, tyX1_ok, nmX1, rfl, by decide +kernel, rfl⟩
theorem fc_X1_1 : FCL 1 1 true (.array .long) := ⟨RX1, TX1, 7, tyX1, rfl, tyX1_ok, nmX1, rfl, by decide +kernel, rfl⟩
theorem fc_X1_2 : FCL 1 2 false (.long) := ⟨RX1, TX1, 7, tyX1, rfl, tyX1_ok, nmX1, rfl, by decide +kernel, rfl⟩
theorem fc_X1_3 : FCL 1 3 false (.long) := ⟨RX1, TX1, 7, tyX1, rfl, tyX1_ok, nmX1, rfl, by decide +kernel, rfl⟩
theorem fc_X1_4 : FCL 1 4 false (.long) := ⟨RX1, TX1, 7, tyX1, rfl, tyX1_ok, nmX1, rfl, by decide +kernel, rfl⟩
theorem fc_X1_5 : FCL 1 5 false (.int) := ⟨RX1, TX1, 7, tyX1, rfl, tyX1_ok, nmX1, rfl, by decide +kernel, rfl⟩
theorem fc_X1_6 : FCL 1 6 false (.int) := ⟨RX1, TX1, 7, tyX1, rfl, tyX1_ok, nmX1, rfl, by decide +kernel, rfl⟩
theorem fc_X2_0 : FCL 2 0 true (.array .char) := ⟨RX2, TX2, 2, tyX2, rfl, tyX2_ok, nmX2, rfl, by decide +kernel, rfl⟩
theorem fc_X2_1 : FCL 2 1 false (.int) := ⟨RX2, TX2, 2, tyX2, rfl, tyX2_ok, nmX2, rfl, by decide +kernel, rfl⟩
theorem fc_X3_0 : FCL 3 0 true (.object "TideBoats$State") := ⟨RX3, TX3, 1, tyX3, rfl, tyX3_ok, nmX3, rfl, by decide +kernel, rfl⟩
theorem fc_X4_0 : FCL 4 0 true (.array .int) := ⟨RX4, TX4, 14, tyX4, rfl, tyX4_ok, nmX4, rfl, by decide +kernel, rfl⟩
theorem fc_X4_1 : FCL 4 1 true (.array .int) := ⟨RX4, TX4, 14, tyX4, rfl, tyX4_ok, nmX4, rfl, by decide +kernel, rfl⟩
theorem fc_X4_2 : FCL 4 2 true (.array .int) := ⟨RX4, TX4, 14, tyX4, rfl, tyX4_ok, nmX4, rfl, by decide +kernel, rfl⟩
theorem fc_X4_3 : FCL 4 3 true (.array .int) := ⟨RX4, TX4, 14, tyX4, rfl, tyX4_ok, nmX4, rfl, by decide +kernel, rfl⟩
theorem fc_X4_4 : FCL 4 4 true (.array .int) := ⟨RX4, TX4, 14, tyX4, rfl, tyX4_ok, nmX4, rfl, by decide +kernel, rfl⟩
theorem fc_X4_5 : FCL 4 5 true (.array .int) := ⟨RX4, TX4, 14, tyX4, rfl, tyX4_ok, nmX4, rfl, by decide +kernel, rfl⟩
theorem fc_X4_6 : FCL 4 6 true (.array .int) := ⟨RX4, TX4, 14, tyX4, rfl, tyX4_ok, nmX4, rfl, by decide +kernel, rfl⟩
theorem fc_X4_7 : FCL 4 7 false (.int) := ⟨RX4, TX4, 14, tyX4, rfl, tyX4_ok, nmX4, rfl, by decide +kernel, rfl⟩
theorem fc_X4_8 : FCL 4 8 false (.int) := ⟨RX4, TX4, 14, tyX4, rfl, tyX4_ok, nmX4, rfl, by decide +kernel, rfl⟩
theorem fc_X4_9 : FCL 4 9 false (.int) := ⟨RX4, TX4, 14, tyX4, rfl, tyX4_ok, nmX4, rfl, by decide +kernel, rfl⟩
theorem fc_X4_10 : FCL 4 10 false (.int) := ⟨RX4, TX4, 14, tyX4, rfl, tyX4_ok, nmX4, rfl, by decide +kernel, rfl⟩
theorem fc_X4_11 : FCL 4 11 false (.int) := ⟨RX4, TX4, 14, tyX4, rfl, tyX4_ok, nmX4, rfl, by decide +kernel, rfl⟩
theorem fc_X4_12 : FCL 4 12 false (.int) := ⟨RX4, TX4, 14, tyX4, rfl, tyX4_ok, nmX4, rfl, by decide +kernel, rfl⟩
theorem fc_X4_13 : FCL 4 13 false (.int) := ⟨RX4, TX4, 14, tyX4, rfl, tyX4_ok, nmX4, rfl, by decide +kernel, rfl⟩
theorem fc_X5_0 : FCL 5 0 true (.object "TideBoats$State") := ⟨RX5, TX5, 6, tyX5, rfl, tyX5_ok, nmX5, rfl, by decide +kernel, rfl⟩
theorem fc_X5_1 : FCL 5 1 true (.object "TideBoats$State") := ⟨RX5, TX5, 6, tyX5, rfl, tyX5_ok, nmX5, rfl, by decide +kernel, rfl⟩
theorem fc_X5_2 : FCL 5 2 true (.object "TideBoats$Rules") := ⟨RX5, TX5, 6, tyX5, rfl, tyX5_ok, nmX5, rfl, by decide +kernel, rfl⟩
theorem fc_X5_3 : FCL 5 3 true (.object "TideBoats$HomeSearch") := ⟨RX5, TX5, 6, tyX5, rfl, tyX5_ok, nmX5, rfl, by decide +kernel, rfl⟩
theorem fc_X5_4 : FCL 5 4 true (.object "TideBoats$History") := ⟨RX5, TX5, 6, tyX5, rfl, tyX5_ok, nmX5, rfl, by decide +kernel, rfl⟩
theorem fc_X5_5 : FCL 5 5 true (.object "TideBoats$Orders") := ⟨RX5, TX5, 6, tyX5, rfl, tyX5_ok, nmX5, rfl, by decide +kernel, rfl⟩
theorem q150 : (Jvm.Cond.fieldLink "TideBoats$History" (11 : Nat) "TideBoats$History" "past" "[LTideBoats$State;") ∈ lw_all := all_mem 150 (by decide +kernel) (by decide +kernel)
theorem fl_X0_11 : FLD RX0 11 0 0 := ⟨RX0, TX0, 4, rfl, Nat.le_of_ble_eq_true rfl, in_X0, q150⟩
theorem q20 : (Jvm.Cond.code ({ cls := "TideBoats$State", name := "<init>", desc := "()V" } : Jvm.MethodName) prog_6_method_1_code (2 : Nat) (Option.none : Option Jvm.ClassFile.FieldType)) ∈ lw_all := all_mem 20 (by decide +kernel) (by decide +kernel)
theorem q19 : (Jvm.Cond.instanceMethod ({ cls := "TideBoats$State", name := "<init>", desc := "()V" } : Jvm.MethodName)) ∈ lw_all := all_mem 19 (by decide +kernel) (by decide +kernel)
theorem q149 : (Jvm.Cond.methodLink "TideBoats$History" (17 : Nat) ({ cls := "TideBoats$State", name := "<init>", desc := "()V" } : Jvm.MethodName)) ∈ lw_all := all_mem 149 (by decide +kernel) (by decide +kernel)
theorem q2 : (Jvm.Cond.initialized "TideBoats$State") ∈ lw_all := all_mem 2 (by decide +kernel) (by decide +kernel)
theorem kI_X0_17 : CWI RX0 17 yX4_init cX4_init 2 0 := ⟨q149, q19, q2, q20, rfl, ⟨by decide +kernel, by decide +kernel, by decide +kernel⟩⟩
theorem q151 : (Jvm.Cond.fieldLink "TideBoats$History" (18 : Nat) "TideBoats$History" "snapshot" "LTideBoats$State;") ∈ lw_all := all_mem 151 (by decide +kernel) (by decide +kernel)
theorem fl_X0_18 : FLD RX0 18 0 1 := ⟨RX0, TX0, 4, rfl, Nat.le_of_ble_eq_true rfl, in_X0, q151⟩
theorem q152 : (Jvm.Cond.fieldLink "TideBoats$History" (22 : Nat) "TideBoats$History" "size" "I") ∈ lw_all := all_mem 152 (by decide +kernel) (by decide +kernel)
theorem fl_X0_22 : FLD RX0 22 0 2 := ⟨RX0, TX0, 4, rfl, Nat.le_of_ble_eq_true rfl, in_X0, q152⟩
theorem q231 : (Jvm.Cond.code ({ cls := "TideBoats$History", name := "dropOldest", desc := "()V" } : Jvm.MethodName) prog_2_method_7_code (3 : Nat) (Option.none : Option Jvm.ClassFile.FieldType)) ∈ lw_all := all_mem 231 (by decide +kernel) (by decide +kernel)
theorem q228 : (Jvm.Cond.methodLink "TideBoats$History" (26 : Nat) ({ cls := "TideBoats$History", name := "dropOldest", desc := "()V" } : Jvm.MethodName)) ∈ lw_all := all_mem 228 (by decide +kernel) (by decide +kernel)
theorem q230 : (Jvm.Cond.instanceMethod ({ cls := "TideBoats$History", name := "dropOldest", desc := "()V" } : Jvm.MethodName)) ∈ lw_all := all_mem 230 (by decide +kernel) (by decide +kernel)
theorem qs1 : (Jvm.Cond.selects "TideBoats$History" ({ cls := "TideBoats$History", name := "dropOldest", desc := "()V" } : Jvm.MethodName) ({ cls := "TideBoats$History", name := "dropOldest", desc := "()V" } : Jvm.MethodName)) ∈ lw_all := all_memS 1 (by decide +kernel) (by decide +kernel)
theorem q5 : (Jvm.Cond.initialized "TideBoats$History") ∈ lw_all := all_mem 5 (by decide +kernel) (by decide +kernel)
theorem kV_X0_26 : CWV RX0 26 RX0 yX0_dropOldest cX0_dropOldest 3 (none) 0 := cwv_mk q228 q230 qs1 q5 q231 ⟨rfl, ⟨by decide +kernel, by decide +kernel, by decide +kernel⟩⟩
theorem q235 : (Jvm.Cond.code ({ cls := "TideBoats$History", name := "slotAt", desc := "(I)LTideBoats$State;" } : Jvm.MethodName) prog_2_method_6_code (2 : Nat) (Option.some (Jvm.ClassFile.FieldType.object "TideBoats$State"))) ∈ lw_all := all_mem 235 (by decide +kernel) (by decide +kernel)
theorem q232 : (Jvm.Cond.methodLink "TideBoats$History" (29 : Nat) ({ cls := "TideBoats$History", name := "slotAt", desc := "(I)LTideBoats$State;" } : Jvm.MethodName)) ∈ lw_all := all_mem 232 (by decide +kernel) (by decide +kernel)
theorem q234 : (Jvm.Cond.instanceMethod ({ cls := "TideBoats$History", name := "slotAt", desc := "(I)LTideBoats$State;" } : Jvm.MethodName)) ∈ lw_all := all_mem 234 (by decide +kernel) (by decide +kernel)
theorem qs2 : (Jvm.Cond.selects "TideBoats$History" ({ cls := "TideBoats$History", name := "slotAt", desc := "(I)LTideBoats$State;" } : Jvm.MethodName) ({ cls := "TideBoats$History", name := "slotAt", desc := "(I)LTideBoats$State;" } : Jvm.MethodName)) ∈ lw_all := all_memS 2 (by decide +kernel) (by decide +kernel)
theorem kV_X0_29 : CWV RX0 29 RX0 yX0_slotAt cX0_slotAt 2 (some (.object "TideBoats$State")) 1 := cwv_mk q232 q234 qs2 q5 q235 ⟨rfl, ⟨by decide +kernel, by decide +kernel, by decide +kernel⟩⟩
theorem q204 : (Jvm.Cond.code ({ cls := "TideBoats$State", name := "copyFrom", desc := "(LTideBoats$State;)V" } : Jvm.MethodName) prog_6_method_2_code (2 : Nat) (Option.none : Option Jvm.ClassFile.FieldType)) ∈ lw_all := all_mem 204 (by decide +kernel) (by decide +kernel)
theorem q236 : (Jvm.Cond.methodLink "TideBoats$History" (33 : Nat) ({ cls := "TideBoats$State", name := "copyFrom", desc := "(LTideBoats$State;)V" } : Jvm.MethodName)) ∈ lw_all := all_mem 236 (by decide +kernel) (by decide +kernel)
theorem q202 : (Jvm.Cond.instanceMethod ({ cls := "TideBoats$State", name := "copyFrom", desc := "(LTideBoats$State;)V" } : Jvm.MethodName)) ∈ lw_all := all_mem 202 (by decide +kernel) (by decide +kernel)
theorem q203 : (Jvm.Cond.selects "TideBoats$State" ({ cls := "TideBoats$State", name := "copyFrom", desc := "(LTideBoats$State;)V" } : Jvm.MethodName) ({ cls := "TideBoats$State", name := "copyFrom", desc := "(LTideBoats$State;)V" } : Jvm.MethodName)) ∈ lw_all := all_mem 203 (by decide +kernel) (by decide +kernel)
theorem kV_X0_33 : CWV RX0 33 RX4 yX4_copyFrom cX4_copyFrom 2 (none) 1 := cwv_mk q236 q202 q203 q2 q204 ⟨rfl, ⟨by decide +kernel, by decide +kernel, by decide +kernel⟩⟩
theorem q154 : (Jvm.Cond.fieldLink "TideBoats$History" (37 : Nat) "TideBoats$History" "hasSnapshot" "Z") ∈ lw_all := all_mem 154 (by decide +kernel) (by decide +kernel)
theorem fl_X0_37 : FLD RX0 37 0 3 := ⟨RX0, TX0, 4, rfl, Nat.le_of_ble_eq_true rfl, in_X0, q154⟩
theorem q61 : (Jvm.Cond.fieldLinkNest "TideBoats$History" (41 : Nat) "TideBoats$State" "turn" "I" "TideBoats") ∈ lw_nst := nst_mem 61 (by decide +kernel) (by decide +kernel)
theorem fl_X0_41 : FLN RX0 41 4 9 := ⟨RX4, TX4, 14, rfl, Nat.le_of_ble_eq_true rfl, in_X4, _, q61⟩
theorem q119 : (Jvm.Cond.fieldLink "TideBoats$HomeSearch" (9 : Nat) "TideBoats$HomeSearch" "cellsUpTo" "[J") ∈ lw_all := all_mem 119 (by decide +kernel) (by decide +kernel)
theorem fl_X1_9 : FLD RX1 9 1 1 := ⟨RX1, TX1, 7, rfl, Nat.le_of_ble_eq_true rfl, in_X1, q119⟩
theorem q118 : (Jvm.Cond.fieldLink "TideBoats$HomeSearch" (15 : Nat) "TideBoats$HomeSearch" "sea" "LTideBoats$State;") ∈ lw_all := all_mem 118 (by decide +kernel) (by decide +kernel)
theorem fl_X1_15 : FLD RX1 15 1 0 := ⟨RX1, TX1, 7, rfl, Nat.le_of_ble_eq_true rfl, in_X1, q118⟩
theorem q37 : (Jvm.Cond.fieldLinkNest "TideBoats$HomeSearch" (19 : Nat) "TideBoats$State" "owners" "[I" "TideBoats") ∈ lw_nst := nst_mem 37 (by decide +kernel) (by decide +kernel)
theorem fl_X1_19 : FLN RX1 19 4 2 := ⟨RX4, TX4, 14, rfl, Nat.le_of_ble_eq_true rfl, in_X4, _, q37⟩
theorem q218 : (Jvm.Cond.code ({ cls := "TideBoats", name := "read", desc := "([II)I" } : Jvm.MethodName) prog_1_method_35_code (2 : Nat) (Option.some Jvm.ClassFile.FieldType.int)) ∈ lw_all := all_mem 218 (by decide +kernel) (by decide +kernel)
theorem q217 : (Jvm.Cond.static ({ cls := "TideBoats", name := "read", desc := "([II)I" } : Jvm.MethodName)) ∈ lw_all := all_mem 217 (by decide +kernel) (by decide +kernel)
theorem q428 : (Jvm.Cond.methodLinkNest "TideBoats$HomeSearch" (25 : Nat) ({ cls := "TideBoats", name := "read", desc := "([II)I" } : Jvm.MethodName) "TideBoats") ∈ lw_nst := nst_mem 428 (by decide +kernel) (by decide +kernel)
theorem q1 : (Jvm.Cond.initialized "TideBoats") ∈ lw_all := all_mem 1 (by decide +kernel) (by decide +kernel)
theorem kN_X1_25 : CWN RX1 25 yX5_read cX5_read 2 (some .int) 2 := ⟨⟨_, q428⟩, q217, q1, q218, ⟨by decide +kernel, by decide +kernel, by decide +kernel⟩⟩
theorem q123 : (Jvm.Cond.fieldLink "TideBoats$HomeSearch" (29 : Nat) "TideBoats$HomeSearch" "player" "I") ∈ lw_all := all_mem 123 (by decide +kernel) (by decide +kernel)
theorem fl_X1_29 : FLD RX1 29 1 5 := ⟨RX1, TX1, 7, rfl, Nat.le_of_ble_eq_true rfl, in_X1, q123⟩
theorem q41 : (Jvm.Cond.fieldLinkNest "TideBoats$HomeSearch" (33 : Nat) "TideBoats$State" "drafts" "[I" "TideBoats") ∈ lw_nst := nst_mem 41 (by decide +kernel) (by decide +kernel)
theorem fl_X1_33 : FLN RX1 33 4 3 := ⟨RX4, TX4, 14, rfl, Nat.le_of_ble_eq_true rfl, in_X4, _, q41⟩
theorem q124 : (Jvm.Cond.fieldLink "TideBoats$HomeSearch" (36 : Nat) "TideBoats$HomeSearch" "draft" "I") ∈ lw_all := all_mem 124 (by decide +kernel) (by decide +kernel)
theorem fl_X1_36 : FLD RX1 36 1 6 := ⟨RX1, TX1, 7, rfl, Nat.le_of_ble_eq_true rfl, in_X1, q124⟩
theorem q382 : (Jvm.Cond.code ({ cls := "TideBoats", name := "harbourOf", desc := "(I)I" } : Jvm.MethodName) prog_1_method_32_code (1 : Nat) (Option.some Jvm.ClassFile.FieldType.int)) ∈ lw_all := all_mem 382 (by decide +kernel) (by decide +kernel)
theorem q381 : (Jvm.Cond.static ({ cls := "TideBoats", name := "harbourOf", desc := "(I)I" } : Jvm.MethodName)) ∈ lw_all := all_mem 381 (by decide +kernel) (by decide +kernel)
theorem q429 : (Jvm.Cond.methodLinkNest "TideBoats$HomeSearch" (39 : Nat) ({ cls := "TideBoats", name := "harbourOf", desc := "(I)I" } : Jvm.MethodName) "TideBoats") ∈ lw_nst := nst_mem 429 (by decide +kernel) (by decide +kernel)
theorem kN_X1_39 : CWN RX1 39 yX5_harbourOf cX5_harbourOf 1 (some .int) 1 := ⟨⟨_, q429⟩, q381, q1, q382, ⟨by decide +kernel, by decide +kernel, by decide +kernel⟩⟩
theorem q432 : (Jvm.Cond.code ({ cls := "TideBoats$HomeSearch", name := "setOf", desc := "(I)J" } : Jvm.MethodName) prog_3_method_11_code (1 : Nat) (Option.some Jvm.ClassFile.FieldType.long)) ∈ lw_all := all_mem 432 (by decide +kernel) (by decide +kernel)
theorem q431 : (Jvm.Cond.static ({ cls := "TideBoats$HomeSearch", name := "setOf", desc := "(I)J" } : Jvm.MethodName)) ∈ lw_all := all_mem 431 (by decide +kernel) (by decide +kernel)
theorem q430 : (Jvm.Cond.methodLink "TideBoats$HomeSearch" (43 : Nat) ({ cls := "TideBoats$HomeSearch", name := "setOf", desc := "(I)J" } : Jvm.MethodName)) ∈ lw_all := all_mem 430 (by decide +kernel) (by decide +kernel)
theorem q4 : (Jvm.Cond.initialized "TideBoats$HomeSearch") ∈ lw_all := all_mem 4 (by decide +kernel) (by decide +kernel)
theorem kS_X1_43 : CWS RX1 43 yX1_setOf cX1_setOf 1 (some .long) 1 := cws_mk q430 q431 q4 q432 ⟨by decide +kernel, by decide +kernel, by decide +kernel⟩
theorem q121 : (Jvm.Cond.fieldLink "TideBoats$HomeSearch" (47 : Nat) "TideBoats$HomeSearch" "ownHarbour" "J") ∈ lw_all := all_mem 121 (by decide +kernel) (by decide +kernel)
theorem fl_X1_47 : FLD RX1 47 1 3 := ⟨RX1, TX1, 7, rfl, Nat.le_of_ble_eq_true rfl, in_X1, q121⟩
theorem q122 : (Jvm.Cond.fieldLink "TideBoats$HomeSearch" (51 : Nat) "TideBoats$HomeSearch" "otherHarbour" "J") ∈ lw_all := all_mem 122 (by decide +kernel) (by decide +kernel)
theorem fl_X1_51 : FLD RX1 51 1 4 := ⟨RX1, TX1, 7, rfl, Nat.le_of_ble_eq_true rfl, in_X1, q122⟩
theorem q120 : (Jvm.Cond.fieldLink "TideBoats$HomeSearch" (54 : Nat) "TideBoats$HomeSearch" "rockCells" "J") ∈ lw_all := all_mem 120 (by decide +kernel) (by decide +kernel)
theorem fl_X1_54 : FLD RX1 54 1 2 := ⟨RX1, TX1, 7, rfl, Nat.le_of_ble_eq_true rfl, in_X1, q120⟩
theorem q34 : (Jvm.Cond.fieldLinkNest "TideBoats$HomeSearch" (57 : Nat) "TideBoats$State" "rocks" "[I" "TideBoats") ∈ lw_nst := nst_mem 34 (by decide +kernel) (by decide +kernel)
theorem fl_X1_57 : FLN RX1 57 4 1 := ⟨RX4, TX4, 14, rfl, Nat.le_of_ble_eq_true rfl, in_X4, _, q34⟩
theorem q30 : (Jvm.Cond.fieldLinkNest "TideBoats$HomeSearch" (60 : Nat) "TideBoats$State" "heights" "[I" "TideBoats") ∈ lw_nst := nst_mem 30 (by decide +kernel) (by decide +kernel)
theorem fl_X1_60 : FLN RX1 60 4 0 := ⟨RX4, TX4, 14, rfl, Nat.le_of_ble_eq_true rfl, in_X4, _, q30⟩
theorem q436 : (Jvm.Cond.code ({ cls := "java/lang/Math", name := "max", desc := "(II)I" } : Jvm.MethodName) prog_9_method_65_code (2 : Nat) (Option.some Jvm.ClassFile.FieldType.int)) ∈ lw_all := all_mem 436 (by decide +kernel) (by decide +kernel)
theorem q435 : (Jvm.Cond.static ({ cls := "java/lang/Math", name := "max", desc := "(II)I" } : Jvm.MethodName)) ∈ lw_all := all_mem 435 (by decide +kernel) (by decide +kernel)
theorem q434 : (Jvm.Cond.methodLink "TideBoats$HomeSearch" (63 : Nat) ({ cls := "java/lang/Math", name := "max", desc := "(II)I" } : Jvm.MethodName)) ∈ lw_all := all_mem 434 (by decide +kernel) (by decide +kernel)
theorem q7 : (Jvm.Cond.initialized "java/lang/Math") ∈ lw_all := all_mem 7 (by decide +kernel) (by decide +kernel)
theorem kS_X1_63 : CWS RX1 63 yJ9_max_7cf53 cJ9_max_7cf53 2 (some .int) 2 := cws_mk q434 q435 q7 q436 ⟨by decide +kernel, by decide +kernel, by decide +kernel⟩
theorem q70 : (Jvm.Cond.fieldLinkNest "TideBoats$HomeSearch" (69 : Nat) "TideBoats$State" "lastTurn" "I" "TideBoats") ∈ lw_nst := nst_mem 70 (by decide +kernel) (by decide +kernel)
theorem fl_X1_69 : FLN RX1 69 4 13 := ⟨RX4, TX4, 14, rfl, Nat.le_of_ble_eq_true rfl, in_X4, _, q70⟩
theorem q448 : (Jvm.Cond.code ({ cls := "TideBoats$HomeSearch", name := "wetCells", desc := "(I)J" } : Jvm.MethodName) prog_3_method_9_code (3 : Nat) (Option.some Jvm.ClassFile.FieldType.long)) ∈ lw_all := all_mem 448 (by decide +kernel) (by decide +kernel)
theorem q445 : (Jvm.Cond.methodLink "TideBoats$HomeSearch" (72 : Nat) ({ cls := "TideBoats$HomeSearch", name := "wetCells", desc := "(I)J" } : Jvm.MethodName)) ∈ lw_all := all_mem 445 (by decide +kernel) (by decide +kernel)
theorem q447 : (Jvm.Cond.instanceMethod ({ cls := "TideBoats$HomeSearch", name := "wetCells", desc := "(I)J" } : Jvm.MethodName)) ∈ lw_all := all_mem 447 (by decide +kernel) (by decide +kernel)
theorem qs9 : (Jvm.Cond.selects "TideBoats$HomeSearch" ({ cls := "TideBoats$HomeSearch", name := "wetCells", desc := "(I)J" } : Jvm.MethodName) ({ cls := "TideBoats$HomeSearch", name := "wetCells", desc := "(I)J" } : Jvm.MethodName)) ∈ lw_all := all_memS 9 (by decide +kernel) (by decide +kernel)
theorem kV_X1_72 : CWV RX1 72 RX1 yX1_wetCells cX1_wetCells 3 (some .long) 1 := cwv_mk q445 q447 qs9 q4 q448 ⟨rfl, ⟨by decide +kernel, by decide +kernel, by decide +kernel⟩⟩
theorem q461 : (Jvm.Cond.code ({ cls := "TideBoats$HomeSearch", name := "goalsOf", desc := "(JJ)J" } : Jvm.MethodName) prog_3_method_7_code (11 : Nat) (Option.some Jvm.ClassFile.FieldType.long)) ∈ lw_all := all_mem 461 (by decide +kernel) (by decide +kernel)
theorem q458 : (Jvm.Cond.methodLink "TideBoats$HomeSearch" (75 : Nat) ({ cls := "TideBoats$HomeSearch", name := "goalsOf", desc := "(JJ)J" } : Jvm.MethodName)) ∈ lw_all := all_mem 458 (by decide +kernel) (by decide +kernel)
theorem q460 : (Jvm.Cond.instanceMethod ({ cls := "TideBoats$HomeSearch", name := "goalsOf", desc := "(JJ)J" } : Jvm.MethodName)) ∈ lw_all := all_mem 460 (by decide +kernel) (by decide +kernel)
theorem qs10 : (Jvm.Cond.selects "TideBoats$HomeSearch" ({ cls := "TideBoats$HomeSearch", name := "goalsOf", desc := "(JJ)J" } : Jvm.MethodName) ({ cls := "TideBoats$HomeSearch", name := "goalsOf", desc := "(JJ)J" } : Jvm.MethodName)) ∈ lw_all := all_memS 10 (by decide +kernel) (by decide +kernel)
theorem kV_X1_75 : CWV RX1 75 RX1 yX1_goalsOf cX1_goalsOf 11 (some .long) 2 := cwv_mk q458 q460 qs10 q4 q461 ⟨rfl, ⟨by decide +kernel, by decide +kernel, by decide +kernel⟩⟩
theorem q444 : (Jvm.Cond.code ({ cls := "TideBoats$HomeSearch", name := "wreckingCells", desc := "(I)J" } : Jvm.MethodName) prog_3_method_10_code (2 : Nat) (Option.some Jvm.ClassFile.FieldType.long)) ∈ lw_all := all_mem 444 (by decide +kernel) (by decide +kernel)
theorem q441 : (Jvm.Cond.methodLink "TideBoats$HomeSearch" (79 : Nat) ({ cls := "TideBoats$HomeSearch", name := "wreckingCells", desc := "(I)J" } : Jvm.MethodName)) ∈ lw_all := all_mem 441 (by decide +kernel) (by decide +kernel)
theorem q443 : (Jvm.Cond.instanceMethod ({ cls := "TideBoats$HomeSearch", name := "wreckingCells", desc := "(I)J" } : Jvm.MethodName)) ∈ lw_all := all_mem 443 (by decide +kernel) (by decide +kernel)
theorem qs8 : (Jvm.Cond.selects "TideBoats$HomeSearch" ({ cls := "TideBoats$HomeSearch", name := "wreckingCells", desc := "(I)J" } : Jvm.MethodName) ({ cls := "TideBoats$HomeSearch", name := "wreckingCells", desc := "(I)J" } : Jvm.MethodName)) ∈ lw_all := all_memS 8 (by decide +kernel) (by decide +kernel)
theorem kV_X1_79 : CWV RX1 79 RX1 yX1_wreckingCells cX1_wreckingCells 2 (some .long) 1 := cwv_mk q441 q443 qs8 q4 q444 ⟨rfl, ⟨by decide +kernel, by decide +kernel, by decide +kernel⟩⟩
theorem q521 : (Jvm.Cond.code ({ cls := "TideBoats$HomeSearch", name := "cellsThatLeadHome", desc := "(II)J" } : Jvm.MethodName) prog_3_method_6_code (6 : Nat) (Option.some Jvm.ClassFile.FieldType.long)) ∈ lw_all := all_mem 521 (by decide +kernel) (by decide +kernel)
theorem q518 : (Jvm.Cond.methodLink "TideBoats$HomeSearch" (84 : Nat) ({ cls := "TideBoats$HomeSearch", name := "cellsThatLeadHome", desc := "(II)J" } : Jvm.MethodName)) ∈ lw_all := all_mem 518 (by decide +kernel) (by decide +kernel)
theorem q520 : (Jvm.Cond.instanceMethod ({ cls := "TideBoats$HomeSearch", name := "cellsThatLeadHome", desc := "(II)J" } : Jvm.MethodName)) ∈ lw_all := all_mem 520 (by decide +kernel) (by decide +kernel)
theorem qs11 : (Jvm.Cond.selects "TideBoats$HomeSearch" ({ cls := "TideBoats$HomeSearch", name := "cellsThatLeadHome", desc := "(II)J" } : Jvm.MethodName) ({ cls := "TideBoats$HomeSearch", name := "cellsThatLeadHome", desc := "(II)J" } : Jvm.MethodName)) ∈ lw_all := all_memS 11 (by decide +kernel) (by decide +kernel)
theorem kV_X1_84 : CWV RX1 84 RX1 yX1_cellsThatLeadHome cX1_cellsThatLeadHome 6 (some .long) 2 := cwv_mk q518 q520 qs11 q4 q521 ⟨rfl, ⟨by decide +kernel, by decide +kernel, by decide +kernel⟩⟩
theorem q457 : (Jvm.Cond.code ({ cls := "TideBoats$HomeSearch", name := "turnsForwards", desc := "(II)I" } : Jvm.MethodName) prog_3_method_3_code (6 : Nat) (Option.some Jvm.ClassFile.FieldType.int)) ∈ lw_all := all_mem 457 (by decide +kernel) (by decide +kernel)
theorem q454 : (Jvm.Cond.methodLink "TideBoats$HomeSearch" (88 : Nat) ({ cls := "TideBoats$HomeSearch", name := "turnsForwards", desc := "(II)I" } : Jvm.MethodName)) ∈ lw_all := all_mem 454 (by decide +kernel) (by decide +kernel)
theorem q455 : (Jvm.Cond.instanceMethod ({ cls := "TideBoats$HomeSearch", name := "turnsForwards", desc := "(II)I" } : Jvm.MethodName)) ∈ lw_all := all_mem 455 (by decide +kernel) (by decide +kernel)
theorem q456 : (Jvm.Cond.selects "TideBoats$HomeSearch" ({ cls := "TideBoats$HomeSearch", name := "turnsForwards", desc := "(II)I" } : Jvm.MethodName) ({ cls := "TideBoats$HomeSearch", name := "turnsForwards", desc := "(II)I" } : Jvm.MethodName)) ∈ lw_all := all_mem 456 (by decide +kernel) (by decide +kernel)
theorem kV_X1_88 : CWV RX1 88 RX1 yX1_turnsForwards cX1_turnsForwards 6 (some .int) 2 := cwv_mk q454 q455 q456 q4 q457 ⟨rfl, ⟨by decide +kernel, by decide +kernel, by decide +kernel⟩⟩
theorem q525 : (Jvm.Cond.code ({ cls := "TideBoats$HomeSearch", name := "startsFor", desc := "(JJ)J" } : Jvm.MethodName) prog_3_method_8_code (13 : Nat) (Option.some Jvm.ClassFile.FieldType.long)) ∈ lw_all := all_mem 525 (by decide +kernel) (by decide +kernel)
theorem q522 : (Jvm.Cond.methodLink "TideBoats$HomeSearch" (91 : Nat) ({ cls := "TideBoats$HomeSearch", name := "startsFor", desc := "(JJ)J" } : Jvm.MethodName)) ∈ lw_all := all_mem 522 (by decide +kernel) (by decide +kernel)
theorem q524 : (Jvm.Cond.instanceMethod ({ cls := "TideBoats$HomeSearch", name := "startsFor", desc := "(JJ)J" } : Jvm.MethodName)) ∈ lw_all := all_mem 524 (by decide +kernel) (by decide +kernel)
theorem qs12 : (Jvm.Cond.selects "TideBoats$HomeSearch" ({ cls := "TideBoats$HomeSearch", name := "startsFor", desc := "(JJ)J" } : Jvm.MethodName) ({ cls := "TideBoats$HomeSearch", name := "startsFor", desc := "(JJ)J" } : Jvm.MethodName)) ∈ lw_all := all_memS 12 (by decide +kernel) (by decide +kernel)
theorem kV_X1_91 : CWV RX1 91 RX1 yX1_startsFor cX1_startsFor 13 (some .long) 2 := cwv_mk q522 q524 qs12 q4 q525 ⟨rfl, ⟨by decide +kernel, by decide +kernel, by decide +kernel⟩⟩
theorem q464 : (Jvm.Cond.code ({ cls := "TideBoats$HomeSearch", name := "beside", desc := "(JI)J" } : Jvm.MethodName) prog_3_method_12_code (3 : Nat) (Option.some Jvm.ClassFile.FieldType.long)) ∈ lw_all := all_mem 464 (by decide +kernel) (by decide +kernel)
theorem q463 : (Jvm.Cond.static ({ cls := "TideBoats$HomeSearch", name := "beside", desc := "(JI)J" } : Jvm.MethodName)) ∈ lw_all := all_mem 463 (by decide +kernel) (by decide +kernel)
theorem q462 : (Jvm.Cond.methodLink "TideBoats$HomeSearch" (94 : Nat) ({ cls := "TideBoats$HomeSearch", name := "beside", desc := "(JI)J" } : Jvm.MethodName)) ∈ lw_all := all_mem 462 (by decide +kernel) (by decide +kernel)
theorem kS_X1_94 : CWS RX1 94 yX1_beside cX1_beside 3 (some .long) 2 := cws_mk q462 q463 q4 q464 ⟨by decide +kernel, by decide +kernel, by decide +kernel⟩
theorem q315 : (Jvm.Cond.code ({ cls := "TideBoats$State", name := "tideIn", desc := "(I)I" } : Jvm.MethodName) prog_6_method_6_code (4 : Nat) (Option.some Jvm.ClassFile.FieldType.int)) ∈ lw_all := all_mem 315 (by decide +kernel) (by decide +kernel)
theorem q449 : (Jvm.Cond.methodLink "TideBoats$HomeSearch" (98 : Nat) ({ cls := "TideBoats$State", name := "tideIn", desc := "(I)I" } : Jvm.MethodName)) ∈ lw_all := all_mem 449 (by decide +kernel) (by decide +kernel)
theorem q313 : (Jvm.Cond.instanceMethod ({ cls := "TideBoats$State", name := "tideIn", desc := "(I)I" } : Jvm.MethodName)) ∈ lw_all := all_mem 313 (by decide +kernel) (by decide +kernel)
theorem q314 : (Jvm.Cond.selects "TideBoats$State" ({ cls := "TideBoats$State", name := "tideIn", desc := "(I)I" } : Jvm.MethodName) ({ cls := "TideBoats$State", name := "tideIn", desc := "(I)I" } : Jvm.MethodName)) ∈ lw_all := all_mem 314 (by decide +kernel) (by decide +kernel)
theorem kV_X1_98 : CWV RX1 98 RX4 yX4_tideIn cX4_tideIn 4 (some .int) 1 := cwv_mk q449 q313 q314 q2 q315 ⟨rfl, ⟨by decide +kernel, by decide +kernel, by decide +kernel⟩⟩
theorem q452 : (Jvm.Cond.code ({ cls := "java/lang/Math", name := "min", desc := "(II)I" } : Jvm.MethodName) prog_9_method_69_code (2 : Nat) (Option.some Jvm.ClassFile.FieldType.int)) ∈ lw_all := all_mem 452 (by decide +kernel) (by decide +kernel)
theorem q451 : (Jvm.Cond.static ({ cls := "java/lang/Math", name := "min", desc := "(II)I" } : Jvm.MethodName)) ∈ lw_all := all_mem 451 (by decide +kernel) (by decide +kernel)
theorem q450 : (Jvm.Cond.methodLink "TideBoats$HomeSearch" (101 : Nat) ({ cls := "java/lang/Math", name := "min", desc := "(II)I" } : Jvm.MethodName)) ∈ lw_all := all_mem 450 (by decide +kernel) (by decide +kernel)
theorem kS_X1_101 : CWS RX1 101 yJ9_min_7cf53 cJ9_min_7cf53 2 (some .int) 2 := cws_mk q450 q451 q7 q452 ⟨by decide +kernel, by decide +kernel, by decide +kernel⟩
theorem q214 : (Jvm.Cond.code ({ cls := "TideBoats", name := "isCell", desc := "(I)Z" } : Jvm.MethodName) prog_1_method_28_code (1 : Nat) (Option.some Jvm.ClassFile.FieldType.boolean)) ∈ lw_all := all_mem 214 (by decide +kernel) (by decide +kernel)
theorem q213 : (Jvm.Cond.static ({ cls := "TideBoats", name := "isCell", desc := "(I)Z" } : Jvm.MethodName)) ∈ lw_all := all_mem 213 (by decide +kernel) (by decide +kernel)
theorem q433 : (Jvm.Cond.methodLinkNest "TideBoats$HomeSearch" (104 : Nat) ({ cls := "TideBoats", name := "isCell", desc := "(I)Z" } : Jvm.MethodName) "TideBoats") ∈ lw_nst := nst_mem 433 (by decide +kernel) (by decide +kernel)
theorem kN_X1_104 : CWN RX1 104 yX5_isCell cX5_isCell 1 (some .boolean) 1 := ⟨⟨_, q433⟩, q213, q1, q214, ⟨by decide +kernel, by decide +kernel, by decide +kernel⟩⟩
theorem q170 : (Jvm.Cond.fieldLink "TideBoats$Orders" (9 : Nat) "TideBoats$Orders" "signs" "[C") ∈ lw_all := all_mem 170 (by decide +kernel) (by decide +kernel)
theorem fl_X2_9 : FLD RX2 9 2 0 := ⟨RX2, TX2, 2, rfl, Nat.le_of_ble_eq_true rfl, in_X2, q170⟩
theorem q108 : (Jvm.Cond.fieldLink "TideBoats$Rules" (9 : Nat) "TideBoats$Rules" "sea" "LTideBoats$State;") ∈ lw_all := all_mem 108 (by decide +kernel) (by decide +kernel)
theorem fl_X3_9 : FLD RX3 9 3 0 := ⟨RX3, TX3, 1, rfl, Nat.le_of_ble_eq_true rfl, in_X3, q108⟩
theorem q212 : (Jvm.Cond.methodLinkNest "TideBoats$Rules" (15 : Nat) ({ cls := "TideBoats", name := "isCell", desc := "(I)Z" } : Jvm.MethodName) "TideBoats") ∈ lw_nst := nst_mem 212 (by decide +kernel) (by decide +kernel)
theorem kN_X3_15 : CWN RX3 15 yX5_isCell cX5_isCell 1 (some .boolean) 1 := ⟨⟨_, q212⟩, q213, q1, q214, ⟨by decide +kernel, by decide +kernel, by decide +kernel⟩⟩
theorem q24 : (Jvm.Cond.code ({ cls := "TideBoats", name := "isHarbour", desc := "(I)Z" } : Jvm.MethodName) prog_1_method_31_code (1 : Nat) (Option.some Jvm.ClassFile.FieldType.boolean)) ∈ lw_all := all_mem 24 (by decide +kernel) (by decide +kernel)
theorem q23 : (Jvm.Cond.static ({ cls := "TideBoats", name := "isHarbour", desc := "(I)Z" } : Jvm.MethodName)) ∈ lw_all := all_mem 23 (by decide +kernel) (by decide +kernel)
theorem q215 : (Jvm.Cond.methodLinkNest "TideBoats$Rules" (19 : Nat) ({ cls := "TideBoats", name := "isHarbour", desc := "(I)Z" } : Jvm.MethodName) "TideBoats") ∈ lw_nst := nst_mem 215 (by decide +kernel) (by decide +kernel)
theorem kN_X3_19 : CWN RX3 19 yX5_isHarbour cX5_isHarbour 1 (some .boolean) 1 := ⟨⟨_, q215⟩, q23, q1, q24, ⟨by decide +kernel, by decide +kernel, by decide +kernel⟩⟩
theorem q59 : (Jvm.Cond.fieldLinkNest "TideBoats$Rules" (22 : Nat) "TideBoats$State" "turn" "I" "TideBoats") ∈ lw_nst := nst_mem 59 (by decide +kernel) (by decide +kernel)
theorem fl_X3_22 : FLN RX3 22 4 9 := ⟨RX4, TX4, 14, rfl, Nat.le_of_ble_eq_true rfl, in_X4, _, q59⟩
theorem q29 : (Jvm.Cond.fieldLinkNest "TideBoats$Rules" (28 : Nat) "TideBoats$State" "heights" "[I" "TideBoats") ∈ lw_nst := nst_mem 29 (by decide +kernel) (by decide +kernel)
theorem fl_X3_28 : FLN RX3 28 4 0 := ⟨RX4, TX4, 14, rfl, Nat.le_of_ble_eq_true rfl, in_X4, _, q29⟩
theorem q216 : (Jvm.Cond.methodLinkNest "TideBoats$Rules" (32 : Nat) ({ cls := "TideBoats", name := "read", desc := "([II)I" } : Jvm.MethodName) "TideBoats") ∈ lw_nst := nst_mem 216 (by decide +kernel) (by decide +kernel)
theorem kN_X3_32 : CWN RX3 32 yX5_read cX5_read 2 (some .int) 2 := ⟨⟨_, q216⟩, q217, q1, q218, ⟨by decide +kernel, by decide +kernel, by decide +kernel⟩⟩
theorem q33 : (Jvm.Cond.fieldLinkNest "TideBoats$Rules" (36 : Nat) "TideBoats$State" "rocks" "[I" "TideBoats") ∈ lw_nst := nst_mem 33 (by decide +kernel) (by decide +kernel)
theorem fl_X3_36 : FLN RX3 36 4 1 := ⟨RX4, TX4, 14, rfl, Nat.le_of_ble_eq_true rfl, in_X4, _, q33⟩
theorem q27 : (Jvm.Cond.code ({ cls := "TideBoats", name := "write", desc := "([III)V" } : Jvm.MethodName) prog_1_method_36_code (3 : Nat) (Option.none : Option Jvm.ClassFile.FieldType)) ∈ lw_all := all_mem 27 (by decide +kernel) (by decide +kernel)
theorem q26 : (Jvm.Cond.static ({ cls := "TideBoats", name := "write", desc := "([III)V" } : Jvm.MethodName)) ∈ lw_all := all_mem 26 (by decide +kernel) (by decide +kernel)
theorem q219 : (Jvm.Cond.methodLinkNest "TideBoats$Rules" (39 : Nat) ({ cls := "TideBoats", name := "write", desc := "([III)V" } : Jvm.MethodName) "TideBoats") ∈ lw_nst := nst_mem 219 (by decide +kernel) (by decide +kernel)
theorem kN_X3_39 : CWN RX3 39 yX5_write cX5_write 3 (none) 3 := ⟨⟨_, q219⟩, q26, q1, q27, ⟨by decide +kernel, by decide +kernel, by decide +kernel⟩⟩
theorem q247 : (Jvm.Cond.code ({ cls := "TideBoats", name := "isPlayer", desc := "(I)Z" } : Jvm.MethodName) prog_1_method_29_code (1 : Nat) (Option.some Jvm.ClassFile.FieldType.boolean)) ∈ lw_all := all_mem 247 (by decide +kernel) (by decide +kernel)
theorem q246 : (Jvm.Cond.static ({ cls := "TideBoats", name := "isPlayer", desc := "(I)Z" } : Jvm.MethodName)) ∈ lw_all := all_mem 246 (by decide +kernel) (by decide +kernel)
theorem q245 : (Jvm.Cond.methodLinkNest "TideBoats$Rules" (43 : Nat) ({ cls := "TideBoats", name := "isPlayer", desc := "(I)Z" } : Jvm.MethodName) "TideBoats") ∈ lw_nst := nst_mem 245 (by decide +kernel) (by decide +kernel)
theorem kN_X3_43 : CWN RX3 43 yX5_isPlayer cX5_isPlayer 1 (some .boolean) 1 := ⟨⟨_, q245⟩, q246, q1, q247, ⟨by decide +kernel, by decide +kernel, by decide +kernel⟩⟩
theorem q250 : (Jvm.Cond.code ({ cls := "TideBoats", name := "isDraft", desc := "(I)Z" } : Jvm.MethodName) prog_1_method_30_code (1 : Nat) (Option.some Jvm.ClassFile.FieldType.boolean)) ∈ lw_all := all_mem 250 (by decide +kernel) (by decide +kernel)
theorem q249 : (Jvm.Cond.static ({ cls := "TideBoats", name := "isDraft", desc := "(I)Z" } : Jvm.MethodName)) ∈ lw_all := all_mem 249 (by decide +kernel) (by decide +kernel)
theorem q248 : (Jvm.Cond.methodLinkNest "TideBoats$Rules" (46 : Nat) ({ cls := "TideBoats", name := "isDraft", desc := "(I)Z" } : Jvm.MethodName) "TideBoats") ∈ lw_nst := nst_mem 248 (by decide +kernel) (by decide +kernel)
theorem kN_X3_46 : CWN RX3 46 yX5_isDraft cX5_isDraft 1 (some .boolean) 1 := ⟨⟨_, q248⟩, q249, q1, q250, ⟨by decide +kernel, by decide +kernel, by decide +kernel⟩⟩
theorem q254 : (Jvm.Cond.code ({ cls := "TideBoats$State", name := "boatAt", desc := "(I)I" } : Jvm.MethodName) prog_6_method_13_code (3 : Nat) (Option.some Jvm.ClassFile.FieldType.int)) ∈ lw_all := all_mem 254 (by decide +kernel) (by decide +kernel)
theorem q251 : (Jvm.Cond.methodLink "TideBoats$Rules" (49 : Nat) ({ cls := "TideBoats$State", name := "boatAt", desc := "(I)I" } : Jvm.MethodName)) ∈ lw_all := all_mem 251 (by decide +kernel) (by decide +kernel)
theorem q252 : (Jvm.Cond.instanceMethod ({ cls := "TideBoats$State", name := "boatAt", desc := "(I)I" } : Jvm.MethodName)) ∈ lw_all := all_mem 252 (by decide +kernel) (by decide +kernel)
theorem q253 : (Jvm.Cond.selects "TideBoats$State" ({ cls := "TideBoats$State", name := "boatAt", desc := "(I)I" } : Jvm.MethodName) ({ cls := "TideBoats$State", name := "boatAt", desc := "(I)I" } : Jvm.MethodName)) ∈ lw_all := all_mem 253 (by decide +kernel) (by decide +kernel)
theorem kV_X3_49 : CWV RX3 49 RX4 yX4_boatAt cX4_boatAt 3 (some .int) 1 := cwv_mk q251 q252 q253 q2 q254 ⟨rfl, ⟨by decide +kernel, by decide +kernel, by decide +kernel⟩⟩
theorem q54 : (Jvm.Cond.fieldLinkNest "TideBoats$Rules" (53 : Nat) "TideBoats$State" "boats" "I" "TideBoats") ∈ lw_nst := nst_mem 54 (by decide +kernel) (by decide +kernel)
theorem fl_X3_53 : FLN RX3 53 4 7 := ⟨RX4, TX4, 14, rfl, Nat.le_of_ble_eq_true rfl, in_X4, _, q54⟩
theorem q38 : (Jvm.Cond.fieldLinkNest "TideBoats$Rules" (56 : Nat) "TideBoats$State" "owners" "[I" "TideBoats") ∈ lw_nst := nst_mem 38 (by decide +kernel) (by decide +kernel)
theorem fl_X3_56 : FLN RX3 56 4 2 := ⟨RX4, TX4, 14, rfl, Nat.le_of_ble_eq_true rfl, in_X4, _, q38⟩
theorem q42 : (Jvm.Cond.fieldLinkNest "TideBoats$Rules" (59 : Nat) "TideBoats$State" "drafts" "[I" "TideBoats") ∈ lw_nst := nst_mem 42 (by decide +kernel) (by decide +kernel)
theorem fl_X3_59 : FLN RX3 59 4 3 := ⟨RX4, TX4, 14, rfl, Nat.le_of_ble_eq_true rfl, in_X4, _, q42⟩
theorem q45 : (Jvm.Cond.fieldLinkNest "TideBoats$Rules" (62 : Nat) "TideBoats$State" "conditions" "[I" "TideBoats") ∈ lw_nst := nst_mem 45 (by decide +kernel) (by decide +kernel)
theorem fl_X3_62 : FLN RX3 62 4 4 := ⟨RX4, TX4, 14, rfl, Nat.le_of_ble_eq_true rfl, in_X4, _, q45⟩
theorem q48 : (Jvm.Cond.fieldLinkNest "TideBoats$Rules" (65 : Nat) "TideBoats$State" "places" "[I" "TideBoats") ∈ lw_nst := nst_mem 48 (by decide +kernel) (by decide +kernel)
theorem fl_X3_65 : FLN RX3 65 4 5 := ⟨RX4, TX4, 14, rfl, Nat.le_of_ble_eq_true rfl, in_X4, _, q48⟩
theorem q51 : (Jvm.Cond.fieldLinkNest "TideBoats$Rules" (68 : Nat) "TideBoats$State" "stepsGone" "[I" "TideBoats") ∈ lw_nst := nst_mem 51 (by decide +kernel) (by decide +kernel)
theorem fl_X3_68 : FLN RX3 68 4 6 := ⟨RX4, TX4, 14, rfl, Nat.le_of_ble_eq_true rfl, in_X4, _, q51⟩
theorem q271 : (Jvm.Cond.code ({ cls := "TideBoats$State", name := "settingOf", desc := "(I)I" } : Jvm.MethodName) prog_6_method_3_code (2 : Nat) (Option.some Jvm.ClassFile.FieldType.int)) ∈ lw_all := all_mem 271 (by decide +kernel) (by decide +kernel)
theorem q268 : (Jvm.Cond.methodLink "TideBoats$Rules" (77 : Nat) ({ cls := "TideBoats$State", name := "settingOf", desc := "(I)I" } : Jvm.MethodName)) ∈ lw_all := all_mem 268 (by decide +kernel) (by decide +kernel)
theorem q269 : (Jvm.Cond.instanceMethod ({ cls := "TideBoats$State", name := "settingOf", desc := "(I)I" } : Jvm.MethodName)) ∈ lw_all := all_mem 269 (by decide +kernel) (by decide +kernel)
theorem q270 : (Jvm.Cond.selects "TideBoats$State" ({ cls := "TideBoats$State", name := "settingOf", desc := "(I)I" } : Jvm.MethodName) ({ cls := "TideBoats$State", name := "settingOf", desc := "(I)I" } : Jvm.MethodName)) ∈ lw_all := all_mem 270 (by decide +kernel) (by decide +kernel)
theorem kV_X3_77 : CWV RX3 77 RX4 yX4_settingOf cX4_settingOf 2 (some .int) 1 := cwv_mk q268 q269 q270 q2 q271 ⟨rfl, ⟨by decide +kernel, by decide +kernel, by decide +kernel⟩⟩
theorem q275 : (Jvm.Cond.code ({ cls := "TideBoats$State", name := "changeSetting", desc := "(II)V" } : Jvm.MethodName) prog_6_method_4_code (3 : Nat) (Option.none : Option Jvm.ClassFile.FieldType)) ∈ lw_all := all_mem 275 (by decide +kernel) (by decide +kernel)
theorem q272 : (Jvm.Cond.methodLink "TideBoats$Rules" (80 : Nat) ({ cls := "TideBoats$State", name := "changeSetting", desc := "(II)V" } : Jvm.MethodName)) ∈ lw_all := all_mem 272 (by decide +kernel) (by decide +kernel)
theorem q273 : (Jvm.Cond.instanceMethod ({ cls := "TideBoats$State", name := "changeSetting", desc := "(II)V" } : Jvm.MethodName)) ∈ lw_all := all_mem 273 (by decide +kernel) (by decide +kernel)
theorem q274 : (Jvm.Cond.selects "TideBoats$State" ({ cls := "TideBoats$State", name := "changeSetting", desc := "(II)V" } : Jvm.MethodName) ({ cls := "TideBoats$State", name := "changeSetting", desc := "(II)V" } : Jvm.MethodName)) ∈ lw_all := all_mem 274 (by decide +kernel) (by decide +kernel)
theorem kV_X3_80 : CWV RX3 80 RX4 yX4_changeSetting cX4_changeSetting 3 (none) 2 := cwv_mk q272 q273 q274 q2 q275 ⟨rfl, ⟨by decide +kernel, by decide +kernel, by decide +kernel⟩⟩
theorem q501 : (Jvm.Cond.code ({ cls := "TideBoats$Rules", name := "errorOfMove", desc := "(III)I" } : Jvm.MethodName) prog_5_method_7_code (4 : Nat) (Option.some Jvm.ClassFile.FieldType.int)) ∈ lw_all := all_mem 501 (by decide +kernel) (by decide +kernel)
theorem q541 : (Jvm.Cond.methodLink "TideBoats$Rules" (84 : Nat) ({ cls := "TideBoats$Rules", name := "errorOfMove", desc := "(III)I" } : Jvm.MethodName)) ∈ lw_all := all_mem 541 (by decide +kernel) (by decide +kernel)
theorem q499 : (Jvm.Cond.instanceMethod ({ cls := "TideBoats$Rules", name := "errorOfMove", desc := "(III)I" } : Jvm.MethodName)) ∈ lw_all := all_mem 499 (by decide +kernel) (by decide +kernel)
theorem q500 : (Jvm.Cond.selects "TideBoats$Rules" ({ cls := "TideBoats$Rules", name := "errorOfMove", desc := "(III)I" } : Jvm.MethodName) ({ cls := "TideBoats$Rules", name := "errorOfMove", desc := "(III)I" } : Jvm.MethodName)) ∈ lw_all := all_mem 500 (by decide +kernel) (by decide +kernel)
theorem q3 : (Jvm.Cond.initialized "TideBoats$Rules") ∈ lw_all := all_mem 3 (by decide +kernel) (by decide +kernel)
theorem kV_X3_84 : CWV RX3 84 RX3 yX3_errorOfMove cX3_errorOfMove 4 (some .int) 3 := cwv_mk q541 q499 q500 q3 q501 ⟨rfl, ⟨by decide +kernel, by decide +kernel, by decide +kernel⟩⟩
theorem q372 : (Jvm.Cond.code ({ cls := "TideBoats$Rules", name := "reasonAgainst", desc := "(IIIZ)I" } : Jvm.MethodName) prog_5_method_8_code (5 : Nat) (Option.some Jvm.ClassFile.FieldType.int)) ∈ lw_all := all_mem 372 (by decide +kernel) (by decide +kernel)
theorem q369 : (Jvm.Cond.methodLink "TideBoats$Rules" (88 : Nat) ({ cls := "TideBoats$Rules", name := "reasonAgainst", desc := "(IIIZ)I" } : Jvm.MethodName)) ∈ lw_all := all_mem 369 (by decide +kernel) (by decide +kernel)
theorem q370 : (Jvm.Cond.instanceMethod ({ cls := "TideBoats$Rules", name := "reasonAgainst", desc := "(IIIZ)I" } : Jvm.MethodName)) ∈ lw_all := all_mem 370 (by decide +kernel) (by decide +kernel)
theorem q371 : (Jvm.Cond.selects "TideBoats$Rules" ({ cls := "TideBoats$Rules", name := "reasonAgainst", desc := "(IIIZ)I" } : Jvm.MethodName) ({ cls := "TideBoats$Rules", name := "reasonAgainst", desc := "(IIIZ)I" } : Jvm.MethodName)) ∈ lw_all := all_mem 371 (by decide +kernel) (by decide +kernel)
theorem kV_X3_88 : CWV RX3 88 RX3 yX3_reasonAgainst cX3_reasonAgainst 5 (some .int) 4 := cwv_mk q369 q370 q371 q3 q372 ⟨rfl, ⟨by decide +kernel, by decide +kernel, by decide +kernel⟩⟩
theorem q420 : (Jvm.Cond.code ({ cls := "TideBoats", name := "cellFrom", desc := "(III)I" } : Jvm.MethodName) prog_1_method_34_code (5 : Nat) (Option.some Jvm.ClassFile.FieldType.int)) ∈ lw_all := all_mem 420 (by decide +kernel) (by decide +kernel)
theorem q419 : (Jvm.Cond.static ({ cls := "TideBoats", name := "cellFrom", desc := "(III)I" } : Jvm.MethodName)) ∈ lw_all := all_mem 419 (by decide +kernel) (by decide +kernel)
theorem q542 : (Jvm.Cond.methodLinkNest "TideBoats$Rules" (92 : Nat) ({ cls := "TideBoats", name := "cellFrom", desc := "(III)I" } : Jvm.MethodName) "TideBoats") ∈ lw_nst := nst_mem 542 (by decide +kernel) (by decide +kernel)
theorem kN_X3_92 : CWN RX3 92 yX5_cellFrom cX5_cellFrom 5 (some .int) 3 := ⟨⟨_, q542⟩, q419, q1, q420, ⟨by decide +kernel, by decide +kernel, by decide +kernel⟩⟩
theorem q546 : (Jvm.Cond.code ({ cls := "TideBoats$Rules", name := "ram", desc := "(I)I" } : Jvm.MethodName) prog_5_method_12_code (2 : Nat) (Option.some Jvm.ClassFile.FieldType.int)) ∈ lw_all := all_mem 546 (by decide +kernel) (by decide +kernel)
theorem q543 : (Jvm.Cond.methodLink "TideBoats$Rules" (95 : Nat) ({ cls := "TideBoats$Rules", name := "ram", desc := "(I)I" } : Jvm.MethodName)) ∈ lw_all := all_mem 543 (by decide +kernel) (by decide +kernel)
theorem q545 : (Jvm.Cond.instanceMethod ({ cls := "TideBoats$Rules", name := "ram", desc := "(I)I" } : Jvm.MethodName)) ∈ lw_all := all_mem 545 (by decide +kernel) (by decide +kernel)
theorem qs13 : (Jvm.Cond.selects "TideBoats$Rules" ({ cls := "TideBoats$Rules", name := "ram", desc := "(I)I" } : Jvm.MethodName) ({ cls := "TideBoats$Rules", name := "ram", desc := "(I)I" } : Jvm.MethodName)) ∈ lw_all := all_memS 13 (by decide +kernel) (by decide +kernel)
theorem kV_X3_95 : CWV RX3 95 RX3 yX3_ram cX3_ram 2 (some .int) 1 := cwv_mk q543 q545 qs13 q3 q546 ⟨rfl, ⟨by decide +kernel, by decide +kernel, by decide +kernel⟩⟩
theorem q380 : (Jvm.Cond.methodLinkNest "TideBoats$Rules" (98 : Nat) ({ cls := "TideBoats", name := "harbourOf", desc := "(I)I" } : Jvm.MethodName) "TideBoats") ∈ lw_nst := nst_mem 380 (by decide +kernel) (by decide +kernel)
theorem kN_X3_98 : CWN RX3 98 yX5_harbourOf cX5_harbourOf 1 (some .int) 1 := ⟨⟨_, q380⟩, q381, q1, q382, ⟨by decide +kernel, by decide +kernel, by decide +kernel⟩⟩
theorem q295 : (Jvm.Cond.code ({ cls := "TideBoats$Rules", name := "endTurn", desc := "()V" } : Jvm.MethodName) prog_5_method_13_code (2 : Nat) (Option.none : Option Jvm.ClassFile.FieldType)) ∈ lw_all := all_mem 295 (by decide +kernel) (by decide +kernel)
theorem q292 : (Jvm.Cond.methodLink "TideBoats$Rules" (101 : Nat) ({ cls := "TideBoats$Rules", name := "endTurn", desc := "()V" } : Jvm.MethodName)) ∈ lw_all := all_mem 292 (by decide +kernel) (by decide +kernel)
theorem q294 : (Jvm.Cond.instanceMethod ({ cls := "TideBoats$Rules", name := "endTurn", desc := "()V" } : Jvm.MethodName)) ∈ lw_all := all_mem 294 (by decide +kernel) (by decide +kernel)
theorem qs3 : (Jvm.Cond.selects "TideBoats$Rules" ({ cls := "TideBoats$Rules", name := "endTurn", desc := "()V" } : Jvm.MethodName) ({ cls := "TideBoats$Rules", name := "endTurn", desc := "()V" } : Jvm.MethodName)) ∈ lw_all := all_memS 3 (by decide +kernel) (by decide +kernel)
theorem kV_X3_101 : CWV RX3 101 RX3 yX3_endTurn cX3_endTurn 2 (none) 0 := cwv_mk q292 q294 qs3 q3 q295 ⟨rfl, ⟨by decide +kernel, by decide +kernel, by decide +kernel⟩⟩
theorem q287 : (Jvm.Cond.code ({ cls := "TideBoats$State", name := "isOver", desc := "()Z" } : Jvm.MethodName) prog_6_method_18_code (1 : Nat) (Option.some Jvm.ClassFile.FieldType.boolean)) ∈ lw_all := all_mem 287 (by decide +kernel) (by decide +kernel)
theorem q284 : (Jvm.Cond.methodLink "TideBoats$Rules" (104 : Nat) ({ cls := "TideBoats$State", name := "isOver", desc := "()Z" } : Jvm.MethodName)) ∈ lw_all := all_mem 284 (by decide +kernel) (by decide +kernel)
theorem q285 : (Jvm.Cond.instanceMethod ({ cls := "TideBoats$State", name := "isOver", desc := "()Z" } : Jvm.MethodName)) ∈ lw_all := all_mem 285 (by decide +kernel) (by decide +kernel)
theorem q286 : (Jvm.Cond.selects "TideBoats$State" ({ cls := "TideBoats$State", name := "isOver", desc := "()Z" } : Jvm.MethodName) ({ cls := "TideBoats$State", name := "isOver", desc := "()Z" } : Jvm.MethodName)) ∈ lw_all := all_mem 286 (by decide +kernel) (by decide +kernel)
theorem kV_X3_104 : CWV RX3 104 RX4 yX4_isOver cX4_isOver 1 (some .boolean) 0 := cwv_mk q284 q285 q286 q2 q287 ⟨rfl, ⟨by decide +kernel, by decide +kernel, by decide +kernel⟩⟩
theorem q316 : (Jvm.Cond.methodLink "TideBoats$Rules" (108 : Nat) ({ cls := "TideBoats$State", name := "tideIn", desc := "(I)I" } : Jvm.MethodName)) ∈ lw_all := all_mem 316 (by decide +kernel) (by decide +kernel)
theorem kV_X3_108 : CWV RX3 108 RX4 yX4_tideIn cX4_tideIn 4 (some .int) 1 := cwv_mk q316 q313 q314 q2 q315 ⟨rfl, ⟨by decide +kernel, by decide +kernel, by decide +kernel⟩⟩
theorem q307 : (Jvm.Cond.code ({ cls := "TideBoats$State", name := "isBoat", desc := "(I)Z" } : Jvm.MethodName) prog_6_method_9_code (2 : Nat) (Option.some Jvm.ClassFile.FieldType.boolean)) ∈ lw_all := all_mem 307 (by decide +kernel) (by decide +kernel)
theorem q502 : (Jvm.Cond.methodLink "TideBoats$Rules" (111 : Nat) ({ cls := "TideBoats$State", name := "isBoat", desc := "(I)Z" } : Jvm.MethodName)) ∈ lw_all := all_mem 502 (by decide +kernel) (by decide +kernel)
theorem q305 : (Jvm.Cond.instanceMethod ({ cls := "TideBoats$State", name := "isBoat", desc := "(I)Z" } : Jvm.MethodName)) ∈ lw_all := all_mem 305 (by decide +kernel) (by decide +kernel)
theorem q306 : (Jvm.Cond.selects "TideBoats$State" ({ cls := "TideBoats$State", name := "isBoat", desc := "(I)Z" } : Jvm.MethodName) ({ cls := "TideBoats$State", name := "isBoat", desc := "(I)Z" } : Jvm.MethodName)) ∈ lw_all := all_mem 306 (by decide +kernel) (by decide +kernel)
theorem kV_X3_111 : CWV RX3 111 RX4 yX4_isBoat cX4_isBoat 2 (some .boolean) 1 := cwv_mk q502 q305 q306 q2 q307 ⟨rfl, ⟨by decide +kernel, by decide +kernel, by decide +kernel⟩⟩
theorem q303 : (Jvm.Cond.code ({ cls := "TideBoats$State", name := "isOnBoard", desc := "(I)Z" } : Jvm.MethodName) prog_6_method_10_code (2 : Nat) (Option.some Jvm.ClassFile.FieldType.boolean)) ∈ lw_all := all_mem 303 (by decide +kernel) (by decide +kernel)
theorem q373 : (Jvm.Cond.methodLink "TideBoats$Rules" (114 : Nat) ({ cls := "TideBoats$State", name := "isOnBoard", desc := "(I)Z" } : Jvm.MethodName)) ∈ lw_all := all_mem 373 (by decide +kernel) (by decide +kernel)
theorem q301 : (Jvm.Cond.instanceMethod ({ cls := "TideBoats$State", name := "isOnBoard", desc := "(I)Z" } : Jvm.MethodName)) ∈ lw_all := all_mem 301 (by decide +kernel) (by decide +kernel)
theorem q302 : (Jvm.Cond.selects "TideBoats$State" ({ cls := "TideBoats$State", name := "isOnBoard", desc := "(I)Z" } : Jvm.MethodName) ({ cls := "TideBoats$State", name := "isOnBoard", desc := "(I)Z" } : Jvm.MethodName)) ∈ lw_all := all_mem 302 (by decide +kernel) (by decide +kernel)
theorem kV_X3_114 : CWV RX3 114 RX4 yX4_isOnBoard cX4_isOnBoard 2 (some .boolean) 1 := cwv_mk q373 q301 q302 q2 q303 ⟨rfl, ⟨by decide +kernel, by decide +kernel, by decide +kernel⟩⟩
theorem q345 : (Jvm.Cond.code ({ cls := "TideBoats$State", name := "mover", desc := "()I" } : Jvm.MethodName) prog_6_method_17_code (1 : Nat) (Option.some Jvm.ClassFile.FieldType.int)) ∈ lw_all := all_mem 345 (by decide +kernel) (by decide +kernel)
theorem q374 : (Jvm.Cond.methodLink "TideBoats$Rules" (117 : Nat) ({ cls := "TideBoats$State", name := "mover", desc := "()I" } : Jvm.MethodName)) ∈ lw_all := all_mem 374 (by decide +kernel) (by decide +kernel)
theorem q343 : (Jvm.Cond.instanceMethod ({ cls := "TideBoats$State", name := "mover", desc := "()I" } : Jvm.MethodName)) ∈ lw_all := all_mem 343 (by decide +kernel) (by decide +kernel)
theorem q344 : (Jvm.Cond.selects "TideBoats$State" ({ cls := "TideBoats$State", name := "mover", desc := "()I" } : Jvm.MethodName) ({ cls := "TideBoats$State", name := "mover", desc := "()I" } : Jvm.MethodName)) ∈ lw_all := all_mem 344 (by decide +kernel) (by decide +kernel)
theorem kV_X3_117 : CWV RX3 117 RX4 yX4_mover cX4_mover 1 (some .int) 0 := cwv_mk q374 q343 q344 q2 q345 ⟨rfl, ⟨by decide +kernel, by decide +kernel, by decide +kernel⟩⟩
theorem q358 : (Jvm.Cond.code ({ cls := "TideBoats$State", name := "floats", desc := "(I)Z" } : Jvm.MethodName) prog_6_method_11_code (2 : Nat) (Option.some Jvm.ClassFile.FieldType.boolean)) ∈ lw_all := all_mem 358 (by decide +kernel) (by decide +kernel)
theorem q375 : (Jvm.Cond.methodLink "TideBoats$Rules" (121 : Nat) ({ cls := "TideBoats$State", name := "floats", desc := "(I)Z" } : Jvm.MethodName)) ∈ lw_all := all_mem 375 (by decide +kernel) (by decide +kernel)
theorem q356 : (Jvm.Cond.instanceMethod ({ cls := "TideBoats$State", name := "floats", desc := "(I)Z" } : Jvm.MethodName)) ∈ lw_all := all_mem 356 (by decide +kernel) (by decide +kernel)
theorem q357 : (Jvm.Cond.selects "TideBoats$State" ({ cls := "TideBoats$State", name := "floats", desc := "(I)Z" } : Jvm.MethodName) ({ cls := "TideBoats$State", name := "floats", desc := "(I)Z" } : Jvm.MethodName)) ∈ lw_all := all_mem 357 (by decide +kernel) (by decide +kernel)
theorem kV_X3_121 : CWV RX3 121 RX4 yX4_floats cX4_floats 2 (some .boolean) 1 := cwv_mk q375 q356 q357 q2 q358 ⟨rfl, ⟨by decide +kernel, by decide +kernel, by decide +kernel⟩⟩
theorem q379 : (Jvm.Cond.code ({ cls := "TideBoats$Rules", name := "isWayOpen", desc := "(III)Z" } : Jvm.MethodName) prog_5_method_10_code (9 : Nat) (Option.some Jvm.ClassFile.FieldType.boolean)) ∈ lw_all := all_mem 379 (by decide +kernel) (by decide +kernel)
theorem q376 : (Jvm.Cond.methodLink "TideBoats$Rules" (124 : Nat) ({ cls := "TideBoats$Rules", name := "isWayOpen", desc := "(III)Z" } : Jvm.MethodName)) ∈ lw_all := all_mem 376 (by decide +kernel) (by decide +kernel)
theorem q378 : (Jvm.Cond.instanceMethod ({ cls := "TideBoats$Rules", name := "isWayOpen", desc := "(III)Z" } : Jvm.MethodName)) ∈ lw_all := all_mem 378 (by decide +kernel) (by decide +kernel)
theorem qs5 : (Jvm.Cond.selects "TideBoats$Rules" ({ cls := "TideBoats$Rules", name := "isWayOpen", desc := "(III)Z" } : Jvm.MethodName) ({ cls := "TideBoats$Rules", name := "isWayOpen", desc := "(III)Z" } : Jvm.MethodName)) ∈ lw_all := all_memS 5 (by decide +kernel) (by decide +kernel)
theorem kV_X3_124 : CWV RX3 124 RX3 yX3_isWayOpen cX3_isWayOpen 9 (some .boolean) 3 := cwv_mk q376 q378 qs5 q3 q379 ⟨rfl, ⟨by decide +kernel, by decide +kernel, by decide +kernel⟩⟩
theorem q391 : (Jvm.Cond.code ({ cls := "TideBoats$Rules", name := "isBoatInWay", desc := "(III)Z" } : Jvm.MethodName) prog_5_method_11_code (8 : Nat) (Option.some Jvm.ClassFile.FieldType.boolean)) ∈ lw_all := all_mem 391 (by decide +kernel) (by decide +kernel)
theorem q388 : (Jvm.Cond.methodLink "TideBoats$Rules" (128 : Nat) ({ cls := "TideBoats$Rules", name := "isBoatInWay", desc := "(III)Z" } : Jvm.MethodName)) ∈ lw_all := all_mem 388 (by decide +kernel) (by decide +kernel)
theorem q390 : (Jvm.Cond.instanceMethod ({ cls := "TideBoats$Rules", name := "isBoatInWay", desc := "(III)Z" } : Jvm.MethodName)) ∈ lw_all := all_mem 390 (by decide +kernel) (by decide +kernel)
theorem qs6 : (Jvm.Cond.selects "TideBoats$Rules" ({ cls := "TideBoats$Rules", name := "isBoatInWay", desc := "(III)Z" } : Jvm.MethodName) ({ cls := "TideBoats$Rules", name := "isBoatInWay", desc := "(III)Z" } : Jvm.MethodName)) ∈ lw_all := all_memS 6 (by decide +kernel) (by decide +kernel)
theorem kV_X3_128 : CWV RX3 128 RX3 yX3_isBoatInWay cX3_isBoatInWay 8 (some .boolean) 3 := cwv_mk q388 q390 qs6 q3 q391 ⟨rfl, ⟨by decide +kernel, by decide +kernel, by decide +kernel⟩⟩
theorem q385 : (Jvm.Cond.code ({ cls := "TideBoats", name := "cellBeside", desc := "(II)I" } : Jvm.MethodName) prog_1_method_33_code (3 : Nat) (Option.some Jvm.ClassFile.FieldType.int)) ∈ lw_all := all_mem 385 (by decide +kernel) (by decide +kernel)
theorem q384 : (Jvm.Cond.static ({ cls := "TideBoats", name := "cellBeside", desc := "(II)I" } : Jvm.MethodName)) ∈ lw_all := all_mem 384 (by decide +kernel) (by decide +kernel)
theorem q383 : (Jvm.Cond.methodLinkNest "TideBoats$Rules" (131 : Nat) ({ cls := "TideBoats", name := "cellBeside", desc := "(II)I" } : Jvm.MethodName) "TideBoats") ∈ lw_nst := nst_mem 383 (by decide +kernel) (by decide +kernel)
theorem kN_X3_131 : CWN RX3 131 yX5_cellBeside cX5_cellBeside 3 (some .int) 2 := ⟨⟨_, q383⟩, q384, q1, q385, ⟨by decide +kernel, by decide +kernel, by decide +kernel⟩⟩
theorem q311 : (Jvm.Cond.code ({ cls := "TideBoats$State", name := "isWet", desc := "(III)Z" } : Jvm.MethodName) prog_6_method_8_code (4 : Nat) (Option.some Jvm.ClassFile.FieldType.boolean)) ∈ lw_all := all_mem 311 (by decide +kernel) (by decide +kernel)
theorem q387 : (Jvm.Cond.methodLink "TideBoats$Rules" (135 : Nat) ({ cls := "TideBoats$State", name := "isWet", desc := "(III)Z" } : Jvm.MethodName)) ∈ lw_all := all_mem 387 (by decide +kernel) (by decide +kernel)
theorem q309 : (Jvm.Cond.instanceMethod ({ cls := "TideBoats$State", name := "isWet", desc := "(III)Z" } : Jvm.MethodName)) ∈ lw_all := all_mem 309 (by decide +kernel) (by decide +kernel)
theorem q310 : (Jvm.Cond.selects "TideBoats$State" ({ cls := "TideBoats$State", name := "isWet", desc := "(III)Z" } : Jvm.MethodName) ({ cls := "TideBoats$State", name := "isWet", desc := "(III)Z" } : Jvm.MethodName)) ∈ lw_all := all_mem 310 (by decide +kernel) (by decide +kernel)
theorem kV_X3_135 : CWV RX3 135 RX4 yX4_isWet cX4_isWet 4 (some .boolean) 3 := cwv_mk q387 q309 q310 q2 q311 ⟨rfl, ⟨by decide +kernel, by decide +kernel, by decide +kernel⟩⟩
theorem q57 : (Jvm.Cond.fieldLinkNest "TideBoats$Rules" (138 : Nat) "TideBoats$State" "boatsRammed" "I" "TideBoats") ∈ lw_nst := nst_mem 57 (by decide +kernel) (by decide +kernel)
theorem fl_X3_138 : FLN RX3 138 4 8 := ⟨RX4, TX4, 14, rfl, Nat.le_of_ble_eq_true rfl, in_X4, _, q57⟩
theorem q299 : (Jvm.Cond.code ({ cls := "TideBoats$State", name := "isWreckedAhead", desc := "(I)Z" } : Jvm.MethodName) prog_6_method_12_code (3 : Nat) (Option.some Jvm.ClassFile.FieldType.boolean)) ∈ lw_all := all_mem 299 (by decide +kernel) (by decide +kernel)
theorem q296 : (Jvm.Cond.methodLink "TideBoats$Rules" (141 : Nat) ({ cls := "TideBoats$State", name := "isWreckedAhead", desc := "(I)Z" } : Jvm.MethodName)) ∈ lw_all := all_mem 296 (by decide +kernel) (by decide +kernel)
theorem q297 : (Jvm.Cond.instanceMethod ({ cls := "TideBoats$State", name := "isWreckedAhead", desc := "(I)Z" } : Jvm.MethodName)) ∈ lw_all := all_mem 297 (by decide +kernel) (by decide +kernel)
theorem q298 : (Jvm.Cond.selects "TideBoats$State" ({ cls := "TideBoats$State", name := "isWreckedAhead", desc := "(I)Z" } : Jvm.MethodName) ({ cls := "TideBoats$State", name := "isWreckedAhead", desc := "(I)Z" } : Jvm.MethodName)) ∈ lw_all := all_mem 298 (by decide +kernel) (by decide +kernel)
theorem kV_X3_141 : CWV RX3 141 RX4 yX4_isWreckedAhead cX4_isWreckedAhead 3 (some .boolean) 1 := cwv_mk q296 q297 q298 q2 q299 ⟨rfl, ⟨by decide +kernel, by decide +kernel, by decide +kernel⟩⟩
theorem q28 : (Jvm.Cond.fieldLink "TideBoats$State" (9 : Nat) "TideBoats$State" "heights" "[I") ∈ lw_all := all_mem 28 (by decide +kernel) (by decide +kernel)
theorem fl_X4_9 : FLD RX4 9 4 0 := ⟨RX4, TX4, 14, rfl, Nat.le_of_ble_eq_true rfl, in_X4, q28⟩
theorem q32 : (Jvm.Cond.fieldLink "TideBoats$State" (15 : Nat) "TideBoats$State" "rocks" "[I") ∈ lw_all := all_mem 32 (by decide +kernel) (by decide +kernel)
theorem fl_X4_15 : FLD RX4 15 4 1 := ⟨RX4, TX4, 14, rfl, Nat.le_of_ble_eq_true rfl, in_X4, q32⟩
theorem q36 : (Jvm.Cond.fieldLink "TideBoats$State" (18 : Nat) "TideBoats$State" "owners" "[I") ∈ lw_all := all_mem 36 (by decide +kernel) (by decide +kernel)
theorem fl_X4_18 : FLD RX4 18 4 2 := ⟨RX4, TX4, 14, rfl, Nat.le_of_ble_eq_true rfl, in_X4, q36⟩
theorem q40 : (Jvm.Cond.fieldLink "TideBoats$State" (21 : Nat) "TideBoats$State" "drafts" "[I") ∈ lw_all := all_mem 40 (by decide +kernel) (by decide +kernel)
theorem fl_X4_21 : FLD RX4 21 4 3 := ⟨RX4, TX4, 14, rfl, Nat.le_of_ble_eq_true rfl, in_X4, q40⟩
theorem q44 : (Jvm.Cond.fieldLink "TideBoats$State" (24 : Nat) "TideBoats$State" "conditions" "[I") ∈ lw_all := all_mem 44 (by decide +kernel) (by decide +kernel)
theorem fl_X4_24 : FLD RX4 24 4 4 := ⟨RX4, TX4, 14, rfl, Nat.le_of_ble_eq_true rfl, in_X4, q44⟩
theorem q47 : (Jvm.Cond.fieldLink "TideBoats$State" (27 : Nat) "TideBoats$State" "places" "[I") ∈ lw_all := all_mem 47 (by decide +kernel) (by decide +kernel)
theorem fl_X4_27 : FLD RX4 27 4 5 := ⟨RX4, TX4, 14, rfl, Nat.le_of_ble_eq_true rfl, in_X4, q47⟩
theorem q50 : (Jvm.Cond.fieldLink "TideBoats$State" (30 : Nat) "TideBoats$State" "stepsGone" "[I") ∈ lw_all := all_mem 50 (by decide +kernel) (by decide +kernel)
theorem fl_X4_30 : FLD RX4 30 4 6 := ⟨RX4, TX4, 14, rfl, Nat.le_of_ble_eq_true rfl, in_X4, q50⟩
theorem q63 : (Jvm.Cond.fieldLink "TideBoats$State" (33 : Nat) "TideBoats$State" "lowWater" "I") ∈ lw_all := all_mem 63 (by decide +kernel) (by decide +kernel)
theorem fl_X4_33 : FLD RX4 33 4 10 := ⟨RX4, TX4, 14, rfl, Nat.le_of_ble_eq_true rfl, in_X4, q63⟩
theorem q65 : (Jvm.Cond.fieldLink "TideBoats$State" (37 : Nat) "TideBoats$State" "riseSteps" "I") ∈ lw_all := all_mem 65 (by decide +kernel) (by decide +kernel)
theorem fl_X4_37 : FLD RX4 37 4 11 := ⟨RX4, TX4, 14, rfl, Nat.le_of_ble_eq_true rfl, in_X4, q65⟩
theorem q67 : (Jvm.Cond.fieldLink "TideBoats$State" (40 : Nat) "TideBoats$State" "stepTurns" "I") ∈ lw_all := all_mem 67 (by decide +kernel) (by decide +kernel)
theorem fl_X4_40 : FLD RX4 40 4 12 := ⟨RX4, TX4, 14, rfl, Nat.le_of_ble_eq_true rfl, in_X4, q67⟩
theorem q69 : (Jvm.Cond.fieldLink "TideBoats$State" (43 : Nat) "TideBoats$State" "lastTurn" "I") ∈ lw_all := all_mem 69 (by decide +kernel) (by decide +kernel)
theorem fl_X4_43 : FLD RX4 43 4 13 := ⟨RX4, TX4, 14, rfl, Nat.le_of_ble_eq_true rfl, in_X4, q69⟩
theorem q22 : (Jvm.Cond.methodLinkNest "TideBoats$State" (46 : Nat) ({ cls := "TideBoats", name := "isHarbour", desc := "(I)Z" } : Jvm.MethodName) "TideBoats") ∈ lw_nst := nst_mem 22 (by decide +kernel) (by decide +kernel)
theorem kN_X4_46 : CWN RX4 46 yX5_isHarbour cX5_isHarbour 1 (some .boolean) 1 := ⟨⟨_, q22⟩, q23, q1, q24, ⟨by decide +kernel, by decide +kernel, by decide +kernel⟩⟩
theorem q25 : (Jvm.Cond.methodLinkNest "TideBoats$State" (50 : Nat) ({ cls := "TideBoats", name := "write", desc := "([III)V" } : Jvm.MethodName) "TideBoats") ∈ lw_nst := nst_mem 25 (by decide +kernel) (by decide +kernel)
theorem kN_X4_50 : CWN RX4 50 yX5_write cX5_write 3 (none) 3 := ⟨⟨_, q25⟩, q26, q1, q27, ⟨by decide +kernel, by decide +kernel, by decide +kernel⟩⟩
theorem q207 : (Jvm.Cond.code ({ cls := "TideBoats", name := "copy", desc := "([I[I)V" } : Jvm.MethodName) prog_1_method_37_code (3 : Nat) (Option.none : Option Jvm.ClassFile.FieldType)) ∈ lw_all := all_mem 207 (by decide +kernel) (by decide +kernel)
theorem q206 : (Jvm.Cond.static ({ cls := "TideBoats", name := "copy", desc := "([I[I)V" } : Jvm.MethodName)) ∈ lw_all := all_mem 206 (by decide +kernel) (by decide +kernel)
theorem q205 : (Jvm.Cond.methodLinkNest "TideBoats$State" (54 : Nat) ({ cls := "TideBoats", name := "copy", desc := "([I[I)V" } : Jvm.MethodName) "TideBoats") ∈ lw_nst := nst_mem 205 (by decide +kernel) (by decide +kernel)
theorem kN_X4_54 : CWN RX4 54 yX5_copy cX5_copy 3 (none) 2 := ⟨⟨_, q205⟩, q206, q1, q207, ⟨by decide +kernel, by decide +kernel, by decide +kernel⟩⟩
theorem q53 : (Jvm.Cond.fieldLink "TideBoats$State" (58 : Nat) "TideBoats$State" "boats" "I") ∈ lw_all := all_mem 53 (by decide +kernel) (by decide +kernel)
theorem fl_X4_58 : FLD RX4 58 4 7 := ⟨RX4, TX4, 14, rfl, Nat.le_of_ble_eq_true rfl, in_X4, q53⟩
theorem q56 : (Jvm.Cond.fieldLink "TideBoats$State" (61 : Nat) "TideBoats$State" "boatsRammed" "I") ∈ lw_all := all_mem 56 (by decide +kernel) (by decide +kernel)
theorem fl_X4_61 : FLD RX4 61 4 8 := ⟨RX4, TX4, 14, rfl, Nat.le_of_ble_eq_true rfl, in_X4, q56⟩
theorem q60 : (Jvm.Cond.fieldLink "TideBoats$State" (64 : Nat) "TideBoats$State" "turn" "I") ∈ lw_all := all_mem 60 (by decide +kernel) (by decide +kernel)
theorem fl_X4_64 : FLD RX4 64 4 9 := ⟨RX4, TX4, 14, rfl, Nat.le_of_ble_eq_true rfl, in_X4, q60⟩
theorem q312 : (Jvm.Cond.methodLink "TideBoats$State" (67 : Nat) ({ cls := "TideBoats$State", name := "tideIn", desc := "(I)I" } : Jvm.MethodName)) ∈ lw_all := all_mem 312 (by decide +kernel) (by decide +kernel)
theorem kV_X4_67 : CWV RX4 67 RX4 yX4_tideIn cX4_tideIn 4 (some .int) 1 := cwv_mk q312 q313 q314 q2 q315 ⟨rfl, ⟨by decide +kernel, by decide +kernel, by decide +kernel⟩⟩
theorem q255 : (Jvm.Cond.methodLinkNest "TideBoats$State" (71 : Nat) ({ cls := "TideBoats", name := "read", desc := "([II)I" } : Jvm.MethodName) "TideBoats") ∈ lw_nst := nst_mem 255 (by decide +kernel) (by decide +kernel)
theorem kN_X4_71 : CWN RX4 71 yX5_read cX5_read 2 (some .int) 2 := ⟨⟨_, q255⟩, q217, q1, q218, ⟨by decide +kernel, by decide +kernel, by decide +kernel⟩⟩
theorem q493 : (Jvm.Cond.methodLink "TideBoats$State" (75 : Nat) ({ cls := "java/lang/Math", name := "max", desc := "(II)I" } : Jvm.MethodName)) ∈ lw_all := all_mem 493 (by decide +kernel) (by decide +kernel)
theorem kS_X4_75 : CWS RX4 75 yJ9_max_7cf53 cJ9_max_7cf53 2 (some .int) 2 := cws_mk q493 q435 q7 q436 ⟨by decide +kernel, by decide +kernel, by decide +kernel⟩
theorem q304 : (Jvm.Cond.methodLink "TideBoats$State" (81 : Nat) ({ cls := "TideBoats$State", name := "isBoat", desc := "(I)Z" } : Jvm.MethodName)) ∈ lw_all := all_mem 304 (by decide +kernel) (by decide +kernel)
theorem kV_X4_81 : CWV RX4 81 RX4 yX4_isBoat cX4_isBoat 2 (some .boolean) 1 := cwv_mk q304 q305 q306 q2 q307 ⟨rfl, ⟨by decide +kernel, by decide +kernel, by decide +kernel⟩⟩
theorem q308 : (Jvm.Cond.methodLink "TideBoats$State" (84 : Nat) ({ cls := "TideBoats$State", name := "isWet", desc := "(III)Z" } : Jvm.MethodName)) ∈ lw_all := all_mem 308 (by decide +kernel) (by decide +kernel)
theorem kV_X4_84 : CWV RX4 84 RX4 yX4_isWet cX4_isWet 4 (some .boolean) 3 := cwv_mk q308 q309 q310 q2 q311 ⟨rfl, ⟨by decide +kernel, by decide +kernel, by decide +kernel⟩⟩
theorem q300 : (Jvm.Cond.methodLink "TideBoats$State" (88 : Nat) ({ cls := "TideBoats$State", name := "isOnBoard", desc := "(I)Z" } : Jvm.MethodName)) ∈ lw_all := all_mem 300 (by decide +kernel) (by decide +kernel)
theorem kV_X4_88 : CWV RX4 88 RX4 yX4_isOnBoard cX4_isOnBoard 2 (some .boolean) 1 := cwv_mk q300 q301 q302 q2 q303 ⟨rfl, ⟨by decide +kernel, by decide +kernel, by decide +kernel⟩⟩
theorem q355 : (Jvm.Cond.methodLink "TideBoats$State" (91 : Nat) ({ cls := "TideBoats$State", name := "floats", desc := "(I)Z" } : Jvm.MethodName)) ∈ lw_all := all_mem 355 (by decide +kernel) (by decide +kernel)
theorem kV_X4_91 : CWV RX4 91 RX4 yX4_floats cX4_floats 2 (some .boolean) 1 := cwv_mk q355 q356 q357 q2 q358 ⟨rfl, ⟨by decide +kernel, by decide +kernel, by decide +kernel⟩⟩
theorem q291 : (Jvm.Cond.code ({ cls := "TideBoats$State", name := "boatsThatAre", desc := "(I)I" } : Jvm.MethodName) prog_6_method_14_code (4 : Nat) (Option.some Jvm.ClassFile.FieldType.int)) ∈ lw_all := all_mem 291 (by decide +kernel) (by decide +kernel)
theorem q288 : (Jvm.Cond.methodLink "TideBoats$State" (94 : Nat) ({ cls := "TideBoats$State", name := "boatsThatAre", desc := "(I)I" } : Jvm.MethodName)) ∈ lw_all := all_mem 288 (by decide +kernel) (by decide +kernel)
theorem q289 : (Jvm.Cond.instanceMethod ({ cls := "TideBoats$State", name := "boatsThatAre", desc := "(I)I" } : Jvm.MethodName)) ∈ lw_all := all_mem 289 (by decide +kernel) (by decide +kernel)
theorem q290 : (Jvm.Cond.selects "TideBoats$State" ({ cls := "TideBoats$State", name := "boatsThatAre", desc := "(I)I" } : Jvm.MethodName) ({ cls := "TideBoats$State", name := "boatsThatAre", desc := "(I)I" } : Jvm.MethodName)) ∈ lw_all := all_mem 290 (by decide +kernel) (by decide +kernel)
theorem kV_X4_94 : CWV RX4 94 RX4 yX4_boatsThatAre cX4_boatsThatAre 4 (some .int) 1 := cwv_mk q288 q289 q290 q2 q291 ⟨rfl, ⟨by decide +kernel, by decide +kernel, by decide +kernel⟩⟩
theorem q18 : (Jvm.Cond.methodLink "TideBoats" (9 : Nat) ({ cls := "TideBoats$State", name := "<init>", desc := "()V" } : Jvm.MethodName)) ∈ lw_all := all_mem 18 (by decide +kernel) (by decide +kernel)
theorem kI_X5_9 : CWI RX5 9 yX4_init cX4_init 2 0 := ⟨q18, q19, q2, q20, rfl, ⟨by decide +kernel, by decide +kernel, by decide +kernel⟩⟩
theorem q178 : (Jvm.Cond.fieldLink "TideBoats" (10 : Nat) "TideBoats" "now" "LTideBoats$State;") ∈ lw_all := all_mem 178 (by decide +kernel) (by decide +kernel)
theorem fl_X5_10 : FLD RX5 10 5 0 := ⟨RX5, TX5, 6, rfl, Nat.le_of_ble_eq_true rfl, in_X5, q178⟩
theorem q179 : (Jvm.Cond.fieldLink "TideBoats" (16 : Nat) "TideBoats" "before" "LTideBoats$State;") ∈ lw_all := all_mem 179 (by decide +kernel) (by decide +kernel)
theorem fl_X5_16 : FLD RX5 16 5 1 := ⟨RX5, TX5, 6, rfl, Nat.le_of_ble_eq_true rfl, in_X5, q179⟩
theorem q106 : (Jvm.Cond.code ({ cls := "TideBoats$Rules", name := "<init>", desc := "(LTideBoats$State;)V" } : Jvm.MethodName) prog_5_method_1_code (2 : Nat) (Option.none : Option Jvm.ClassFile.FieldType)) ∈ lw_all := all_mem 106 (by decide +kernel) (by decide +kernel)
theorem q105 : (Jvm.Cond.instanceMethod ({ cls := "TideBoats$Rules", name := "<init>", desc := "(LTideBoats$State;)V" } : Jvm.MethodName)) ∈ lw_all := all_mem 105 (by decide +kernel) (by decide +kernel)
theorem q104 : (Jvm.Cond.methodLink "TideBoats" (21 : Nat) ({ cls := "TideBoats$Rules", name := "<init>", desc := "(LTideBoats$State;)V" } : Jvm.MethodName)) ∈ lw_all := all_mem 104 (by decide +kernel) (by decide +kernel)
theorem kI_X5_21 : CWI RX5 21 yX3_init cX3_init 2 1 := ⟨q104, q105, q3, q106, rfl, ⟨by decide +kernel, by decide +kernel, by decide +kernel⟩⟩
theorem q180 : (Jvm.Cond.fieldLink "TideBoats" (24 : Nat) "TideBoats" "rules" "LTideBoats$Rules;") ∈ lw_all := all_mem 180 (by decide +kernel) (by decide +kernel)
theorem fl_X5_24 : FLD RX5 24 5 2 := ⟨RX5, TX5, 6, rfl, Nat.le_of_ble_eq_true rfl, in_X5, q180⟩
theorem q116 : (Jvm.Cond.code ({ cls := "TideBoats$HomeSearch", name := "<init>", desc := "(LTideBoats$State;)V" } : Jvm.MethodName) prog_3_method_1_code (2 : Nat) (Option.none : Option Jvm.ClassFile.FieldType)) ∈ lw_all := all_mem 116 (by decide +kernel) (by decide +kernel)
theorem q115 : (Jvm.Cond.instanceMethod ({ cls := "TideBoats$HomeSearch", name := "<init>", desc := "(LTideBoats$State;)V" } : Jvm.MethodName)) ∈ lw_all := all_mem 115 (by decide +kernel) (by decide +kernel)
theorem q114 : (Jvm.Cond.methodLink "TideBoats" (30 : Nat) ({ cls := "TideBoats$HomeSearch", name := "<init>", desc := "(LTideBoats$State;)V" } : Jvm.MethodName)) ∈ lw_all := all_mem 114 (by decide +kernel) (by decide +kernel)
theorem kI_X5_30 : CWI RX5 30 yX1_init cX1_init 2 1 := ⟨q114, q115, q4, q116, rfl, ⟨by decide +kernel, by decide +kernel, by decide +kernel⟩⟩
theorem q181 : (Jvm.Cond.fieldLink "TideBoats" (31 : Nat) "TideBoats" "search" "LTideBoats$HomeSearch;") ∈ lw_all := all_mem 181 (by decide +kernel) (by decide +kernel)
theorem fl_X5_31 : FLD RX5 31 5 3 := ⟨RX5, TX5, 6, rfl, Nat.le_of_ble_eq_true rfl, in_X5, q181⟩
theorem q145 : (Jvm.Cond.code ({ cls := "TideBoats$History", name := "<init>", desc := "()V" } : Jvm.MethodName) prog_2_method_1_code (2 : Nat) (Option.none : Option Jvm.ClassFile.FieldType)) ∈ lw_all := all_mem 145 (by decide +kernel) (by decide +kernel)
theorem q144 : (Jvm.Cond.instanceMethod ({ cls := "TideBoats$History", name := "<init>", desc := "()V" } : Jvm.MethodName)) ∈ lw_all := all_mem 144 (by decide +kernel) (by decide +kernel)
theorem q143 : (Jvm.Cond.methodLink "TideBoats" (37 : Nat) ({ cls := "TideBoats$History", name := "<init>", desc := "()V" } : Jvm.MethodName)) ∈ lw_all := all_mem 143 (by decide +kernel) (by decide +kernel)
theorem kI_X5_37 : CWI RX5 37 yX0_init cX0_init 2 0 := ⟨q143, q144, q5, q145, rfl, ⟨by decide +kernel, by decide +kernel, by decide +kernel⟩⟩
theorem q182 : (Jvm.Cond.fieldLink "TideBoats" (38 : Nat) "TideBoats" "history" "LTideBoats$History;") ∈ lw_all := all_mem 182 (by decide +kernel) (by decide +kernel)
theorem fl_X5_38 : FLD RX5 38 5 4 := ⟨RX5, TX5, 6, rfl, Nat.le_of_ble_eq_true rfl, in_X5, q182⟩
theorem q168 : (Jvm.Cond.code ({ cls := "TideBoats$Orders", name := "<init>", desc := "()V" } : Jvm.MethodName) prog_4_method_1_code (1 : Nat) (Option.none : Option Jvm.ClassFile.FieldType)) ∈ lw_all := all_mem 168 (by decide +kernel) (by decide +kernel)
theorem q167 : (Jvm.Cond.instanceMethod ({ cls := "TideBoats$Orders", name := "<init>", desc := "()V" } : Jvm.MethodName)) ∈ lw_all := all_mem 167 (by decide +kernel) (by decide +kernel)
theorem q166 : (Jvm.Cond.methodLinkNest "TideBoats" (44 : Nat) ({ cls := "TideBoats$Orders", name := "<init>", desc := "()V" } : Jvm.MethodName) "TideBoats") ∈ lw_nst := nst_mem 166 (by decide +kernel) (by decide +kernel)
theorem q6 : (Jvm.Cond.initialized "TideBoats$Orders") ∈ lw_all := all_mem 6 (by decide +kernel) (by decide +kernel)
theorem kIN_X5_44 : CWIN RX5 44 yX2_init cX2_init 1 0 := ⟨⟨_, q166⟩, q167, q6, q168, rfl, ⟨by decide +kernel, by decide +kernel, by decide +kernel⟩⟩
theorem q183 : (Jvm.Cond.fieldLink "TideBoats" (45 : Nat) "TideBoats" "text" "LTideBoats$Orders;") ∈ lw_all := all_mem 183 (by decide +kernel) (by decide +kernel)
theorem fl_X5_45 : FLD RX5 45 5 5 := ⟨RX5, TX5, 6, rfl, Nat.le_of_ble_eq_true rfl, in_X5, q183⟩
theorem q201 : (Jvm.Cond.methodLink "TideBoats" (49 : Nat) ({ cls := "TideBoats$State", name := "copyFrom", desc := "(LTideBoats$State;)V" } : Jvm.MethodName)) ∈ lw_all := all_mem 201 (by decide +kernel) (by decide +kernel)
theorem kV_X5_49 : CWV RX5 49 RX4 yX4_copyFrom cX4_copyFrom 2 (none) 1 := cwv_mk q201 q202 q203 q2 q204 ⟨rfl, ⟨by decide +kernel, by decide +kernel, by decide +kernel⟩⟩
theorem q211 : (Jvm.Cond.code ({ cls := "TideBoats$Rules", name := "laySand", desc := "(IIZ)I" } : Jvm.MethodName) prog_5_method_2_code (6 : Nat) (Option.some Jvm.ClassFile.FieldType.int)) ∈ lw_all := all_mem 211 (by decide +kernel) (by decide +kernel)
theorem q208 : (Jvm.Cond.methodLink "TideBoats" (52 : Nat) ({ cls := "TideBoats$Rules", name := "laySand", desc := "(IIZ)I" } : Jvm.MethodName)) ∈ lw_all := all_mem 208 (by decide +kernel) (by decide +kernel)
theorem q209 : (Jvm.Cond.instanceMethod ({ cls := "TideBoats$Rules", name := "laySand", desc := "(IIZ)I" } : Jvm.MethodName)) ∈ lw_all := all_mem 209 (by decide +kernel) (by decide +kernel)
theorem q210 : (Jvm.Cond.selects "TideBoats$Rules" ({ cls := "TideBoats$Rules", name := "laySand", desc := "(IIZ)I" } : Jvm.MethodName) ({ cls := "TideBoats$Rules", name := "laySand", desc := "(IIZ)I" } : Jvm.MethodName)) ∈ lw_all := all_mem 210 (by decide +kernel) (by decide +kernel)
theorem kV_X5_52 : CWV RX5 52 RX3 yX3_laySand cX3_laySand 6 (some .int) 3 := cwv_mk q208 q209 q210 q3 q211 ⟨rfl, ⟨by decide +kernel, by decide +kernel, by decide +kernel⟩⟩
theorem q223 : (Jvm.Cond.code ({ cls := "TideBoats", name := "recorded", desc := "(I)I" } : Jvm.MethodName) prog_1_method_24_code (2 : Nat) (Option.some Jvm.ClassFile.FieldType.int)) ∈ lw_all := all_mem 223 (by decide +kernel) (by decide +kernel)
theorem q220 : (Jvm.Cond.methodLink "TideBoats" (56 : Nat) ({ cls := "TideBoats", name := "recorded", desc := "(I)I" } : Jvm.MethodName)) ∈ lw_all := all_mem 220 (by decide +kernel) (by decide +kernel)
theorem q222 : (Jvm.Cond.instanceMethod ({ cls := "TideBoats", name := "recorded", desc := "(I)I" } : Jvm.MethodName)) ∈ lw_all := all_mem 222 (by decide +kernel) (by decide +kernel)
theorem qs0 : (Jvm.Cond.selects "TideBoats" ({ cls := "TideBoats", name := "recorded", desc := "(I)I" } : Jvm.MethodName) ({ cls := "TideBoats", name := "recorded", desc := "(I)I" } : Jvm.MethodName)) ∈ lw_all := all_memS 0 (by decide +kernel) (by decide +kernel)
theorem kV_X5_56 : CWV RX5 56 RX5 yX5_recorded cX5_recorded 2 (some .int) 1 := cwv_mk q220 q222 qs0 q1 q223 ⟨rfl, ⟨by decide +kernel, by decide +kernel, by decide +kernel⟩⟩
theorem q244 : (Jvm.Cond.code ({ cls := "TideBoats$Rules", name := "addBoat", desc := "(III)I" } : Jvm.MethodName) prog_5_method_3_code (5 : Nat) (Option.some Jvm.ClassFile.FieldType.int)) ∈ lw_all := all_mem 244 (by decide +kernel) (by decide +kernel)
theorem q241 : (Jvm.Cond.methodLink "TideBoats" (60 : Nat) ({ cls := "TideBoats$Rules", name := "addBoat", desc := "(III)I" } : Jvm.MethodName)) ∈ lw_all := all_mem 241 (by decide +kernel) (by decide +kernel)
theorem q242 : (Jvm.Cond.instanceMethod ({ cls := "TideBoats$Rules", name := "addBoat", desc := "(III)I" } : Jvm.MethodName)) ∈ lw_all := all_mem 242 (by decide +kernel) (by decide +kernel)
theorem q243 : (Jvm.Cond.selects "TideBoats$Rules" ({ cls := "TideBoats$Rules", name := "addBoat", desc := "(III)I" } : Jvm.MethodName) ({ cls := "TideBoats$Rules", name := "addBoat", desc := "(III)I" } : Jvm.MethodName)) ∈ lw_all := all_mem 243 (by decide +kernel) (by decide +kernel)
theorem kV_X5_60 : CWV RX5 60 RX3 yX3_addBoat cX3_addBoat 5 (some .int) 3 := cwv_mk q241 q242 q243 q3 q244 ⟨rfl, ⟨by decide +kernel, by decide +kernel, by decide +kernel⟩⟩
theorem q263 : (Jvm.Cond.code ({ cls := "TideBoats$Rules", name := "changeSetting", desc := "(II)I" } : Jvm.MethodName) prog_5_method_4_code (4 : Nat) (Option.some Jvm.ClassFile.FieldType.int)) ∈ lw_all := all_mem 263 (by decide +kernel) (by decide +kernel)
theorem q260 : (Jvm.Cond.methodLink "TideBoats" (64 : Nat) ({ cls := "TideBoats$Rules", name := "changeSetting", desc := "(II)I" } : Jvm.MethodName)) ∈ lw_all := all_mem 260 (by decide +kernel) (by decide +kernel)
theorem q261 : (Jvm.Cond.instanceMethod ({ cls := "TideBoats$Rules", name := "changeSetting", desc := "(II)I" } : Jvm.MethodName)) ∈ lw_all := all_mem 261 (by decide +kernel) (by decide +kernel)
theorem q262 : (Jvm.Cond.selects "TideBoats$Rules" ({ cls := "TideBoats$Rules", name := "changeSetting", desc := "(II)I" } : Jvm.MethodName) ({ cls := "TideBoats$Rules", name := "changeSetting", desc := "(II)I" } : Jvm.MethodName)) ∈ lw_all := all_mem 262 (by decide +kernel) (by decide +kernel)
theorem kV_X5_64 : CWV RX5 64 RX3 yX3_changeSetting cX3_changeSetting 4 (some .int) 2 := cwv_mk q260 q261 q262 q3 q263 ⟨rfl, ⟨by decide +kernel, by decide +kernel, by decide +kernel⟩⟩
theorem q540 : (Jvm.Cond.code ({ cls := "TideBoats$Rules", name := "sail", desc := "(III)I" } : Jvm.MethodName) prog_5_method_5_code (8 : Nat) (Option.some Jvm.ClassFile.FieldType.int)) ∈ lw_all := all_mem 540 (by decide +kernel) (by decide +kernel)
theorem q537 : (Jvm.Cond.methodLink "TideBoats" (68 : Nat) ({ cls := "TideBoats$Rules", name := "sail", desc := "(III)I" } : Jvm.MethodName)) ∈ lw_all := all_mem 537 (by decide +kernel) (by decide +kernel)
theorem q538 : (Jvm.Cond.instanceMethod ({ cls := "TideBoats$Rules", name := "sail", desc := "(III)I" } : Jvm.MethodName)) ∈ lw_all := all_mem 538 (by decide +kernel) (by decide +kernel)
theorem q539 : (Jvm.Cond.selects "TideBoats$Rules" ({ cls := "TideBoats$Rules", name := "sail", desc := "(III)I" } : Jvm.MethodName) ({ cls := "TideBoats$Rules", name := "sail", desc := "(III)I" } : Jvm.MethodName)) ∈ lw_all := all_mem 539 (by decide +kernel) (by decide +kernel)
theorem kV_X5_68 : CWV RX5 68 RX3 yX3_sail cX3_sail 8 (some .int) 3 := cwv_mk q537 q538 q539 q3 q540 ⟨rfl, ⟨by decide +kernel, by decide +kernel, by decide +kernel⟩⟩
theorem q283 : (Jvm.Cond.code ({ cls := "TideBoats$Rules", name := "waitATurn", desc := "()I" } : Jvm.MethodName) prog_5_method_6_code (1 : Nat) (Option.some Jvm.ClassFile.FieldType.int)) ∈ lw_all := all_mem 283 (by decide +kernel) (by decide +kernel)
theorem q280 : (Jvm.Cond.methodLink "TideBoats" (71 : Nat) ({ cls := "TideBoats$Rules", name := "waitATurn", desc := "()I" } : Jvm.MethodName)) ∈ lw_all := all_mem 280 (by decide +kernel) (by decide +kernel)
theorem q281 : (Jvm.Cond.instanceMethod ({ cls := "TideBoats$Rules", name := "waitATurn", desc := "()I" } : Jvm.MethodName)) ∈ lw_all := all_mem 281 (by decide +kernel) (by decide +kernel)
theorem q282 : (Jvm.Cond.selects "TideBoats$Rules" ({ cls := "TideBoats$Rules", name := "waitATurn", desc := "()I" } : Jvm.MethodName) ({ cls := "TideBoats$Rules", name := "waitATurn", desc := "()I" } : Jvm.MethodName)) ∈ lw_all := all_mem 282 (by decide +kernel) (by decide +kernel)
theorem kV_X5_71 : CWV RX5 71 RX3 yX3_waitATurn cX3_waitATurn 1 (some .int) 0 := cwv_mk q280 q281 q282 q3 q283 ⟨rfl, ⟨by decide +kernel, by decide +kernel, by decide +kernel⟩⟩
theorem q324 : (Jvm.Cond.code ({ cls := "TideBoats$History", name := "takeLatest", desc := "(LTideBoats$State;)I" } : Jvm.MethodName) prog_2_method_3_code (3 : Nat) (Option.some Jvm.ClassFile.FieldType.int)) ∈ lw_all := all_mem 324 (by decide +kernel) (by decide +kernel)
theorem q321 : (Jvm.Cond.methodLink "TideBoats" (95 : Nat) ({ cls := "TideBoats$History", name := "takeLatest", desc := "(LTideBoats$State;)I" } : Jvm.MethodName)) ∈ lw_all := all_mem 321 (by decide +kernel) (by decide +kernel)
theorem q322 : (Jvm.Cond.instanceMethod ({ cls := "TideBoats$History", name := "takeLatest", desc := "(LTideBoats$State;)I" } : Jvm.MethodName)) ∈ lw_all := all_mem 322 (by decide +kernel) (by decide +kernel)
theorem q323 : (Jvm.Cond.selects "TideBoats$History" ({ cls := "TideBoats$History", name := "takeLatest", desc := "(LTideBoats$State;)I" } : Jvm.MethodName) ({ cls := "TideBoats$History", name := "takeLatest", desc := "(LTideBoats$State;)I" } : Jvm.MethodName)) ∈ lw_all := all_mem 323 (by decide +kernel) (by decide +kernel)
theorem kV_X5_95 : CWV RX5 95 RX0 yX0_takeLatest cX0_takeLatest 3 (some .int) 1 := cwv_mk q321 q322 q323 q5 q324 ⟨rfl, ⟨by decide +kernel, by decide +kernel, by decide +kernel⟩⟩
theorem q332 : (Jvm.Cond.code ({ cls := "TideBoats$History", name := "giveSnapshot", desc := "(LTideBoats$State;)I" } : Jvm.MethodName) prog_2_method_5_code (2 : Nat) (Option.some Jvm.ClassFile.FieldType.int)) ∈ lw_all := all_mem 332 (by decide +kernel) (by decide +kernel)
theorem q329 : (Jvm.Cond.methodLink "TideBoats" (105 : Nat) ({ cls := "TideBoats$History", name := "giveSnapshot", desc := "(LTideBoats$State;)I" } : Jvm.MethodName)) ∈ lw_all := all_mem 329 (by decide +kernel) (by decide +kernel)
theorem q330 : (Jvm.Cond.instanceMethod ({ cls := "TideBoats$History", name := "giveSnapshot", desc := "(LTideBoats$State;)I" } : Jvm.MethodName)) ∈ lw_all := all_mem 330 (by decide +kernel) (by decide +kernel)
theorem q331 : (Jvm.Cond.selects "TideBoats$History" ({ cls := "TideBoats$History", name := "giveSnapshot", desc := "(LTideBoats$State;)I" } : Jvm.MethodName) ({ cls := "TideBoats$History", name := "giveSnapshot", desc := "(LTideBoats$State;)I" } : Jvm.MethodName)) ∈ lw_all := all_mem 331 (by decide +kernel) (by decide +kernel)
theorem kV_X5_105 : CWV RX5 105 RX0 yX0_giveSnapshot cX0_giveSnapshot 2 (some .int) 1 := cwv_mk q329 q330 q331 q5 q332 ⟨rfl, ⟨by decide +kernel, by decide +kernel, by decide +kernel⟩⟩
theorem q386 : (Jvm.Cond.methodLink "TideBoats" (108 : Nat) ({ cls := "TideBoats", name := "isCell", desc := "(I)Z" } : Jvm.MethodName)) ∈ lw_all := all_mem 386 (by decide +kernel) (by decide +kernel)
theorem kS_X5_108 : CWS RX5 108 yX5_isCell cX5_isCell 1 (some .boolean) 1 := cws_mk q386 q213 q1 q214 ⟨by decide +kernel, by decide +kernel, by decide +kernel⟩
theorem q31 : (Jvm.Cond.fieldLinkNest "TideBoats" (112 : Nat) "TideBoats$State" "heights" "[I" "TideBoats") ∈ lw_nst := nst_mem 31 (by decide +kernel) (by decide +kernel)
theorem fl_X5_112 : FLN RX5 112 4 0 := ⟨RX4, TX4, 14, rfl, Nat.le_of_ble_eq_true rfl, in_X4, _, q31⟩
theorem q364 : (Jvm.Cond.methodLink "TideBoats" (116 : Nat) ({ cls := "TideBoats", name := "read", desc := "([II)I" } : Jvm.MethodName)) ∈ lw_all := all_mem 364 (by decide +kernel) (by decide +kernel)
theorem kS_X5_116 : CWS RX5 116 yX5_read cX5_read 2 (some .int) 2 := cws_mk q364 q217 q1 q218 ⟨by decide +kernel, by decide +kernel, by decide +kernel⟩
theorem q35 : (Jvm.Cond.fieldLinkNest "TideBoats" (120 : Nat) "TideBoats$State" "rocks" "[I" "TideBoats") ∈ lw_nst := nst_mem 35 (by decide +kernel) (by decide +kernel)
theorem fl_X5_120 : FLN RX5 120 4 1 := ⟨RX4, TX4, 14, rfl, Nat.le_of_ble_eq_true rfl, in_X4, _, q35⟩
theorem q492 : (Jvm.Cond.code ({ cls := "TideBoats$State", name := "waterOver", desc := "(I)I" } : Jvm.MethodName) prog_6_method_7_code (2 : Nat) (Option.some Jvm.ClassFile.FieldType.int)) ∈ lw_all := all_mem 492 (by decide +kernel) (by decide +kernel)
theorem q489 : (Jvm.Cond.methodLink "TideBoats" (123 : Nat) ({ cls := "TideBoats$State", name := "waterOver", desc := "(I)I" } : Jvm.MethodName)) ∈ lw_all := all_mem 489 (by decide +kernel) (by decide +kernel)
theorem q490 : (Jvm.Cond.instanceMethod ({ cls := "TideBoats$State", name := "waterOver", desc := "(I)I" } : Jvm.MethodName)) ∈ lw_all := all_mem 490 (by decide +kernel) (by decide +kernel)
theorem q491 : (Jvm.Cond.selects "TideBoats$State" ({ cls := "TideBoats$State", name := "waterOver", desc := "(I)I" } : Jvm.MethodName) ({ cls := "TideBoats$State", name := "waterOver", desc := "(I)I" } : Jvm.MethodName)) ∈ lw_all := all_mem 491 (by decide +kernel) (by decide +kernel)
theorem kV_X5_123 : CWV RX5 123 RX4 yX4_waterOver cX4_waterOver 2 (some .int) 1 := cwv_mk q489 q490 q491 q2 q492 ⟨rfl, ⟨by decide +kernel, by decide +kernel, by decide +kernel⟩⟩
theorem q423 : (Jvm.Cond.methodLink "TideBoats" (126 : Nat) ({ cls := "TideBoats$State", name := "boatAt", desc := "(I)I" } : Jvm.MethodName)) ∈ lw_all := all_mem 423 (by decide +kernel) (by decide +kernel)
theorem kV_X5_126 : CWV RX5 126 RX4 yX4_boatAt cX4_boatAt 3 (some .int) 1 := cwv_mk q423 q252 q253 q2 q254 ⟨rfl, ⟨by decide +kernel, by decide +kernel, by decide +kernel⟩⟩
theorem q482 : (Jvm.Cond.methodLink "TideBoats" (129 : Nat) ({ cls := "TideBoats$State", name := "isBoat", desc := "(I)Z" } : Jvm.MethodName)) ∈ lw_all := all_mem 482 (by decide +kernel) (by decide +kernel)
theorem kV_X5_129 : CWV RX5 129 RX4 yX4_isBoat cX4_isBoat 2 (some .boolean) 1 := cwv_mk q482 q305 q306 q2 q307 ⟨rfl, ⟨by decide +kernel, by decide +kernel, by decide +kernel⟩⟩
theorem q39 : (Jvm.Cond.fieldLinkNest "TideBoats" (132 : Nat) "TideBoats$State" "owners" "[I" "TideBoats") ∈ lw_nst := nst_mem 39 (by decide +kernel) (by decide +kernel)
theorem fl_X5_132 : FLN RX5 132 4 2 := ⟨RX4, TX4, 14, rfl, Nat.le_of_ble_eq_true rfl, in_X4, _, q39⟩
theorem q43 : (Jvm.Cond.fieldLinkNest "TideBoats" (135 : Nat) "TideBoats$State" "drafts" "[I" "TideBoats") ∈ lw_nst := nst_mem 43 (by decide +kernel) (by decide +kernel)
theorem fl_X5_135 : FLN RX5 135 4 3 := ⟨RX4, TX4, 14, rfl, Nat.le_of_ble_eq_true rfl, in_X4, _, q43⟩
theorem q46 : (Jvm.Cond.fieldLinkNest "TideBoats" (138 : Nat) "TideBoats$State" "conditions" "[I" "TideBoats") ∈ lw_nst := nst_mem 46 (by decide +kernel) (by decide +kernel)
theorem fl_X5_138 : FLN RX5 138 4 4 := ⟨RX4, TX4, 14, rfl, Nat.le_of_ble_eq_true rfl, in_X4, _, q46⟩
theorem q483 : (Jvm.Cond.methodLink "TideBoats" (141 : Nat) ({ cls := "TideBoats$State", name := "isOnBoard", desc := "(I)Z" } : Jvm.MethodName)) ∈ lw_all := all_mem 483 (by decide +kernel) (by decide +kernel)
theorem kV_X5_141 : CWV RX5 141 RX4 yX4_isOnBoard cX4_isOnBoard 2 (some .boolean) 1 := cwv_mk q483 q301 q302 q2 q303 ⟨rfl, ⟨by decide +kernel, by decide +kernel, by decide +kernel⟩⟩
theorem q49 : (Jvm.Cond.fieldLinkNest "TideBoats" (144 : Nat) "TideBoats$State" "places" "[I" "TideBoats") ∈ lw_nst := nst_mem 49 (by decide +kernel) (by decide +kernel)
theorem fl_X5_144 : FLN RX5 144 4 5 := ⟨RX4, TX4, 14, rfl, Nat.le_of_ble_eq_true rfl, in_X4, _, q49⟩
theorem q484 : (Jvm.Cond.methodLink "TideBoats" (147 : Nat) ({ cls := "TideBoats$State", name := "floats", desc := "(I)Z" } : Jvm.MethodName)) ∈ lw_all := all_mem 484 (by decide +kernel) (by decide +kernel)
theorem kV_X5_147 : CWV RX5 147 RX4 yX4_floats cX4_floats 2 (some .boolean) 1 := cwv_mk q484 q356 q357 q2 q358 ⟨rfl, ⟨by decide +kernel, by decide +kernel, by decide +kernel⟩⟩
theorem q52 : (Jvm.Cond.fieldLinkNest "TideBoats" (150 : Nat) "TideBoats$State" "stepsGone" "[I" "TideBoats") ∈ lw_nst := nst_mem 52 (by decide +kernel) (by decide +kernel)
theorem fl_X5_150 : FLN RX5 150 4 6 := ⟨RX4, TX4, 14, rfl, Nat.le_of_ble_eq_true rfl, in_X4, _, q52⟩
theorem q368 : (Jvm.Cond.code ({ cls := "TideBoats$Rules", name := "movesOf", desc := "(I)I" } : Jvm.MethodName) prog_5_method_9_code (5 : Nat) (Option.some Jvm.ClassFile.FieldType.int)) ∈ lw_all := all_mem 368 (by decide +kernel) (by decide +kernel)
theorem q365 : (Jvm.Cond.methodLink "TideBoats" (153 : Nat) ({ cls := "TideBoats$Rules", name := "movesOf", desc := "(I)I" } : Jvm.MethodName)) ∈ lw_all := all_mem 365 (by decide +kernel) (by decide +kernel)
theorem q366 : (Jvm.Cond.instanceMethod ({ cls := "TideBoats$Rules", name := "movesOf", desc := "(I)I" } : Jvm.MethodName)) ∈ lw_all := all_mem 366 (by decide +kernel) (by decide +kernel)
theorem q367 : (Jvm.Cond.selects "TideBoats$Rules" ({ cls := "TideBoats$Rules", name := "movesOf", desc := "(I)I" } : Jvm.MethodName) ({ cls := "TideBoats$Rules", name := "movesOf", desc := "(I)I" } : Jvm.MethodName)) ∈ lw_all := all_mem 367 (by decide +kernel) (by decide +kernel)
theorem kV_X5_153 : CWV RX5 153 RX3 yX3_movesOf cX3_movesOf 5 (some .int) 1 := cwv_mk q365 q366 q367 q3 q368 ⟨rfl, ⟨by decide +kernel, by decide +kernel, by decide +kernel⟩⟩
theorem q337 : (Jvm.Cond.methodLink "TideBoats" (156 : Nat) ({ cls := "TideBoats$State", name := "tideIn", desc := "(I)I" } : Jvm.MethodName)) ∈ lw_all := all_mem 337 (by decide +kernel) (by decide +kernel)
theorem kV_X5_156 : CWV RX5 156 RX4 yX4_tideIn cX4_tideIn 4 (some .int) 1 := cwv_mk q337 q313 q314 q2 q315 ⟨rfl, ⟨by decide +kernel, by decide +kernel, by decide +kernel⟩⟩
theorem q498 : (Jvm.Cond.methodLink "TideBoats" (159 : Nat) ({ cls := "TideBoats$Rules", name := "errorOfMove", desc := "(III)I" } : Jvm.MethodName)) ∈ lw_all := all_mem 498 (by decide +kernel) (by decide +kernel)
theorem kV_X5_159 : CWV RX5 159 RX3 yX3_errorOfMove cX3_errorOfMove 4 (some .int) 3 := cwv_mk q498 q499 q500 q3 q501 ⟨rfl, ⟨by decide +kernel, by decide +kernel, by decide +kernel⟩⟩
theorem q417 : (Jvm.Cond.methodLink "TideBoats" (162 : Nat) ({ cls := "TideBoats$Rules", name := "reasonAgainst", desc := "(IIIZ)I" } : Jvm.MethodName)) ∈ lw_all := all_mem 417 (by decide +kernel) (by decide +kernel)
theorem kV_X5_162 : CWV RX5 162 RX3 yX3_reasonAgainst cX3_reasonAgainst 5 (some .int) 4 := cwv_mk q417 q370 q371 q3 q372 ⟨rfl, ⟨by decide +kernel, by decide +kernel, by decide +kernel⟩⟩
theorem q62 : (Jvm.Cond.fieldLinkNest "TideBoats" (102 : Nat) "TideBoats$State" "turn" "I" "TideBoats") ∈ lw_nst := nst_mem 62 (by decide +kernel) (by decide +kernel)
theorem fl_X5_102 : FLN RX5 102 4 9 := ⟨RX4, TX4, 14, rfl, Nat.le_of_ble_eq_true rfl, in_X4, _, q62⟩
theorem q342 : (Jvm.Cond.methodLink "TideBoats" (166 : Nat) ({ cls := "TideBoats$State", name := "mover", desc := "()I" } : Jvm.MethodName)) ∈ lw_all := all_mem 342 (by decide +kernel) (by decide +kernel)
theorem kV_X5_166 : CWV RX5 166 RX4 yX4_mover cX4_mover 1 (some .int) 0 := cwv_mk q342 q343 q344 q2 q345 ⟨rfl, ⟨by decide +kernel, by decide +kernel, by decide +kernel⟩⟩
theorem q349 : (Jvm.Cond.code ({ cls := "TideBoats$State", name := "scoreOf", desc := "(I)I" } : Jvm.MethodName) prog_6_method_16_code (4 : Nat) (Option.some Jvm.ClassFile.FieldType.int)) ∈ lw_all := all_mem 349 (by decide +kernel) (by decide +kernel)
theorem q346 : (Jvm.Cond.methodLink "TideBoats" (169 : Nat) ({ cls := "TideBoats$State", name := "scoreOf", desc := "(I)I" } : Jvm.MethodName)) ∈ lw_all := all_mem 346 (by decide +kernel) (by decide +kernel)
theorem q347 : (Jvm.Cond.instanceMethod ({ cls := "TideBoats$State", name := "scoreOf", desc := "(I)I" } : Jvm.MethodName)) ∈ lw_all := all_mem 347 (by decide +kernel) (by decide +kernel)
theorem q348 : (Jvm.Cond.selects "TideBoats$State" ({ cls := "TideBoats$State", name := "scoreOf", desc := "(I)I" } : Jvm.MethodName) ({ cls := "TideBoats$State", name := "scoreOf", desc := "(I)I" } : Jvm.MethodName)) ∈ lw_all := all_mem 348 (by decide +kernel) (by decide +kernel)
theorem kV_X5_169 : CWV RX5 169 RX4 yX4_scoreOf cX4_scoreOf 4 (some .int) 1 := cwv_mk q346 q347 q348 q2 q349 ⟨rfl, ⟨by decide +kernel, by decide +kernel, by decide +kernel⟩⟩
theorem q55 : (Jvm.Cond.fieldLinkNest "TideBoats" (172 : Nat) "TideBoats$State" "boats" "I" "TideBoats") ∈ lw_nst := nst_mem 55 (by decide +kernel) (by decide +kernel)
theorem fl_X5_172 : FLN RX5 172 4 7 := ⟨RX4, TX4, 14, rfl, Nat.le_of_ble_eq_true rfl, in_X4, _, q55⟩
theorem q350 : (Jvm.Cond.methodLink "TideBoats" (175 : Nat) ({ cls := "TideBoats$State", name := "boatsThatAre", desc := "(I)I" } : Jvm.MethodName)) ∈ lw_all := all_mem 350 (by decide +kernel) (by decide +kernel)
theorem kV_X5_175 : CWV RX5 175 RX4 yX4_boatsThatAre cX4_boatsThatAre 4 (some .int) 1 := cwv_mk q350 q289 q290 q2 q291 ⟨rfl, ⟨by decide +kernel, by decide +kernel, by decide +kernel⟩⟩
theorem q354 : (Jvm.Cond.code ({ cls := "TideBoats$State", name := "boatsAground", desc := "()I" } : Jvm.MethodName) prog_6_method_15_code (3 : Nat) (Option.some Jvm.ClassFile.FieldType.int)) ∈ lw_all := all_mem 354 (by decide +kernel) (by decide +kernel)
theorem q351 : (Jvm.Cond.methodLink "TideBoats" (178 : Nat) ({ cls := "TideBoats$State", name := "boatsAground", desc := "()I" } : Jvm.MethodName)) ∈ lw_all := all_mem 351 (by decide +kernel) (by decide +kernel)
theorem q352 : (Jvm.Cond.instanceMethod ({ cls := "TideBoats$State", name := "boatsAground", desc := "()I" } : Jvm.MethodName)) ∈ lw_all := all_mem 352 (by decide +kernel) (by decide +kernel)
theorem q353 : (Jvm.Cond.selects "TideBoats$State" ({ cls := "TideBoats$State", name := "boatsAground", desc := "()I" } : Jvm.MethodName) ({ cls := "TideBoats$State", name := "boatsAground", desc := "()I" } : Jvm.MethodName)) ∈ lw_all := all_mem 353 (by decide +kernel) (by decide +kernel)
theorem kV_X5_178 : CWV RX5 178 RX4 yX4_boatsAground cX4_boatsAground 3 (some .int) 0 := cwv_mk q351 q352 q353 q2 q354 ⟨rfl, ⟨by decide +kernel, by decide +kernel, by decide +kernel⟩⟩
theorem q58 : (Jvm.Cond.fieldLinkNest "TideBoats" (181 : Nat) "TideBoats$State" "boatsRammed" "I" "TideBoats") ∈ lw_nst := nst_mem 58 (by decide +kernel) (by decide +kernel)
theorem fl_X5_181 : FLN RX5 181 4 8 := ⟨RX4, TX4, 14, rfl, Nat.le_of_ble_eq_true rfl, in_X4, _, q58⟩
theorem q359 : (Jvm.Cond.methodLink "TideBoats" (184 : Nat) ({ cls := "TideBoats$State", name := "isOver", desc := "()Z" } : Jvm.MethodName)) ∈ lw_all := all_mem 359 (by decide +kernel) (by decide +kernel)
theorem kV_X5_184 : CWV RX5 184 RX4 yX4_isOver cX4_isOver 1 (some .boolean) 0 := cwv_mk q359 q285 q286 q2 q287 ⟨rfl, ⟨by decide +kernel, by decide +kernel, by decide +kernel⟩⟩
theorem q363 : (Jvm.Cond.code ({ cls := "TideBoats", name := "movesOfMover", desc := "()I" } : Jvm.MethodName) prog_1_method_26_code (3 : Nat) (Option.some Jvm.ClassFile.FieldType.int)) ∈ lw_all := all_mem 363 (by decide +kernel) (by decide +kernel)
theorem q360 : (Jvm.Cond.methodLink "TideBoats" (188 : Nat) ({ cls := "TideBoats", name := "movesOfMover", desc := "()I" } : Jvm.MethodName)) ∈ lw_all := all_mem 360 (by decide +kernel) (by decide +kernel)
theorem q362 : (Jvm.Cond.instanceMethod ({ cls := "TideBoats", name := "movesOfMover", desc := "()I" } : Jvm.MethodName)) ∈ lw_all := all_mem 362 (by decide +kernel) (by decide +kernel)
theorem qs4 : (Jvm.Cond.selects "TideBoats" ({ cls := "TideBoats", name := "movesOfMover", desc := "()I" } : Jvm.MethodName) ({ cls := "TideBoats", name := "movesOfMover", desc := "()I" } : Jvm.MethodName)) ∈ lw_all := all_memS 4 (by decide +kernel) (by decide +kernel)
theorem kV_X5_188 : CWV RX5 188 RX5 yX5_movesOfMover cX5_movesOfMover 3 (some .int) 0 := cwv_mk q360 q362 qs4 q1 q363 ⟨rfl, ⟨by decide +kernel, by decide +kernel, by decide +kernel⟩⟩
theorem q153 : (Jvm.Cond.fieldLinkNest "TideBoats" (191 : Nat) "TideBoats$History" "size" "I" "TideBoats") ∈ lw_nst := nst_mem 153 (by decide +kernel) (by decide +kernel)
theorem fl_X5_191 : FLN RX5 191 0 2 := ⟨RX0, TX0, 4, rfl, Nat.le_of_ble_eq_true rfl, in_X0, _, q153⟩
theorem q171 : (Jvm.Cond.fieldLinkNest "TideBoats" (85 : Nat) "TideBoats$Orders" "length" "I" "TideBoats") ∈ lw_nst := nst_mem 171 (by decide +kernel) (by decide +kernel)
theorem fl_X5_85 : FLN RX5 85 2 1 := ⟨RX2, TX2, 2, rfl, Nat.le_of_ble_eq_true rfl, in_X2, _, q171⟩
theorem q64 : (Jvm.Cond.fieldLinkNest "TideBoats" (194 : Nat) "TideBoats$State" "lowWater" "I" "TideBoats") ∈ lw_nst := nst_mem 64 (by decide +kernel) (by decide +kernel)
theorem fl_X5_194 : FLN RX5 194 4 10 := ⟨RX4, TX4, 14, rfl, Nat.le_of_ble_eq_true rfl, in_X4, _, q64⟩
theorem q66 : (Jvm.Cond.fieldLinkNest "TideBoats" (197 : Nat) "TideBoats$State" "riseSteps" "I" "TideBoats") ∈ lw_nst := nst_mem 66 (by decide +kernel) (by decide +kernel)
theorem fl_X5_197 : FLN RX5 197 4 11 := ⟨RX4, TX4, 14, rfl, Nat.le_of_ble_eq_true rfl, in_X4, _, q66⟩
theorem q68 : (Jvm.Cond.fieldLinkNest "TideBoats" (200 : Nat) "TideBoats$State" "stepTurns" "I" "TideBoats") ∈ lw_nst := nst_mem 68 (by decide +kernel) (by decide +kernel)
theorem fl_X5_200 : FLN RX5 200 4 12 := ⟨RX4, TX4, 14, rfl, Nat.le_of_ble_eq_true rfl, in_X4, _, q68⟩
theorem q71 : (Jvm.Cond.fieldLinkNest "TideBoats" (203 : Nat) "TideBoats$State" "lastTurn" "I" "TideBoats") ∈ lw_nst := nst_mem 71 (by decide +kernel) (by decide +kernel)
theorem fl_X5_203 : FLN RX5 203 4 13 := ⟨RX4, TX4, 14, rfl, Nat.le_of_ble_eq_true rfl, in_X4, _, q71⟩
theorem q399 : (Jvm.Cond.code ({ cls := "TideBoats$State", name := "turnsOfTide", desc := "()I" } : Jvm.MethodName) prog_6_method_5_code (1 : Nat) (Option.some Jvm.ClassFile.FieldType.int)) ∈ lw_all := all_mem 399 (by decide +kernel) (by decide +kernel)
theorem q396 : (Jvm.Cond.methodLink "TideBoats" (206 : Nat) ({ cls := "TideBoats$State", name := "turnsOfTide", desc := "()I" } : Jvm.MethodName)) ∈ lw_all := all_mem 396 (by decide +kernel) (by decide +kernel)
theorem q397 : (Jvm.Cond.instanceMethod ({ cls := "TideBoats$State", name := "turnsOfTide", desc := "()I" } : Jvm.MethodName)) ∈ lw_all := all_mem 397 (by decide +kernel) (by decide +kernel)
theorem q398 : (Jvm.Cond.selects "TideBoats$State" ({ cls := "TideBoats$State", name := "turnsOfTide", desc := "()I" } : Jvm.MethodName) ({ cls := "TideBoats$State", name := "turnsOfTide", desc := "()I" } : Jvm.MethodName)) ∈ lw_all := all_mem 398 (by decide +kernel) (by decide +kernel)
theorem kV_X5_206 : CWV RX5 206 RX4 yX4_turnsOfTide cX4_turnsOfTide 1 (some .int) 0 := cwv_mk q396 q397 q398 q2 q399 ⟨rfl, ⟨by decide +kernel, by decide +kernel, by decide +kernel⟩⟩
theorem q400 : (Jvm.Cond.methodLink "TideBoats" (209 : Nat) ({ cls := "TideBoats", name := "isDraft", desc := "(I)Z" } : Jvm.MethodName)) ∈ lw_all := all_mem 400 (by decide +kernel) (by decide +kernel)
theorem kS_X5_209 : CWS RX5 209 yX5_isDraft cX5_isDraft 1 (some .boolean) 1 := cws_mk q400 q249 q1 q250 ⟨by decide +kernel, by decide +kernel, by decide +kernel⟩
theorem q402 : (Jvm.Cond.methodLink "TideBoats" (213 : Nat) ({ cls := "TideBoats$State", name := "isWet", desc := "(III)Z" } : Jvm.MethodName)) ∈ lw_all := all_mem 402 (by decide +kernel) (by decide +kernel)
theorem kV_X5_213 : CWV RX5 213 RX4 yX4_isWet cX4_isWet 4 (some .boolean) 3 := cwv_mk q402 q309 q310 q2 q311 ⟨rfl, ⟨by decide +kernel, by decide +kernel, by decide +kernel⟩⟩
theorem q427 : (Jvm.Cond.code ({ cls := "TideBoats$HomeSearch", name := "prepare", desc := "(I)V" } : Jvm.MethodName) prog_3_method_2_code (4 : Nat) (Option.none : Option Jvm.ClassFile.FieldType)) ∈ lw_all := all_mem 427 (by decide +kernel) (by decide +kernel)
theorem q424 : (Jvm.Cond.methodLink "TideBoats" (217 : Nat) ({ cls := "TideBoats$HomeSearch", name := "prepare", desc := "(I)V" } : Jvm.MethodName)) ∈ lw_all := all_mem 424 (by decide +kernel) (by decide +kernel)
theorem q425 : (Jvm.Cond.instanceMethod ({ cls := "TideBoats$HomeSearch", name := "prepare", desc := "(I)V" } : Jvm.MethodName)) ∈ lw_all := all_mem 425 (by decide +kernel) (by decide +kernel)
theorem q426 : (Jvm.Cond.selects "TideBoats$HomeSearch" ({ cls := "TideBoats$HomeSearch", name := "prepare", desc := "(I)V" } : Jvm.MethodName) ({ cls := "TideBoats$HomeSearch", name := "prepare", desc := "(I)V" } : Jvm.MethodName)) ∈ lw_all := all_mem 426 (by decide +kernel) (by decide +kernel)
theorem kV_X5_217 : CWV RX5 217 RX1 yX1_prepare cX1_prepare 4 (none) 1 := cwv_mk q424 q425 q426 q4 q427 ⟨rfl, ⟨by decide +kernel, by decide +kernel, by decide +kernel⟩⟩
theorem q513 : (Jvm.Cond.methodLink "TideBoats" (221 : Nat) ({ cls := "TideBoats$HomeSearch", name := "turnsForwards", desc := "(II)I" } : Jvm.MethodName)) ∈ lw_all := all_mem 513 (by decide +kernel) (by decide +kernel)
theorem kV_X5_221 : CWV RX5 221 RX1 yX1_turnsForwards cX1_turnsForwards 6 (some .int) 2 := cwv_mk q513 q455 q456 q4 q457 ⟨rfl, ⟨by decide +kernel, by decide +kernel, by decide +kernel⟩⟩
theorem q517 : (Jvm.Cond.code ({ cls := "TideBoats$HomeSearch", name := "turnsBackwards", desc := "(II)I" } : Jvm.MethodName) prog_3_method_4_code (4 : Nat) (Option.some Jvm.ClassFile.FieldType.int)) ∈ lw_all := all_mem 517 (by decide +kernel) (by decide +kernel)
theorem q514 : (Jvm.Cond.methodLink "TideBoats" (224 : Nat) ({ cls := "TideBoats$HomeSearch", name := "turnsBackwards", desc := "(II)I" } : Jvm.MethodName)) ∈ lw_all := all_mem 514 (by decide +kernel) (by decide +kernel)
theorem q515 : (Jvm.Cond.instanceMethod ({ cls := "TideBoats$HomeSearch", name := "turnsBackwards", desc := "(II)I" } : Jvm.MethodName)) ∈ lw_all := all_mem 515 (by decide +kernel) (by decide +kernel)
theorem q516 : (Jvm.Cond.selects "TideBoats$HomeSearch" ({ cls := "TideBoats$HomeSearch", name := "turnsBackwards", desc := "(II)I" } : Jvm.MethodName) ({ cls := "TideBoats$HomeSearch", name := "turnsBackwards", desc := "(II)I" } : Jvm.MethodName)) ∈ lw_all := all_mem 516 (by decide +kernel) (by decide +kernel)
theorem kV_X5_224 : CWV RX5 224 RX1 yX1_turnsBackwards cX1_turnsBackwards 4 (some .int) 2 := cwv_mk q514 q515 q516 q4 q517 ⟨rfl, ⟨by decide +kernel, by decide +kernel, by decide +kernel⟩⟩
theorem q407 : (Jvm.Cond.methodLink "TideBoats" (227 : Nat) ({ cls := "TideBoats", name := "isPlayer", desc := "(I)Z" } : Jvm.MethodName)) ∈ lw_all := all_mem 407 (by decide +kernel) (by decide +kernel)
theorem kS_X5_227 : CWS RX5 227 yX5_isPlayer cX5_isPlayer 1 (some .boolean) 1 := cws_mk q407 q246 q1 q247 ⟨by decide +kernel, by decide +kernel, by decide +kernel⟩
theorem q408 : (Jvm.Cond.methodLink "TideBoats" (230 : Nat) ({ cls := "TideBoats$State", name := "isWreckedAhead", desc := "(I)Z" } : Jvm.MethodName)) ∈ lw_all := all_mem 408 (by decide +kernel) (by decide +kernel)
theorem kV_X5_230 : CWV RX5 230 RX4 yX4_isWreckedAhead cX4_isWreckedAhead 3 (some .boolean) 1 := cwv_mk q408 q297 q298 q2 q299 ⟨rfl, ⟨by decide +kernel, by decide +kernel, by decide +kernel⟩⟩
theorem q416 : (Jvm.Cond.code ({ cls := "TideBoats", name := "worthOf", desc := "(III)I" } : Jvm.MethodName) prog_1_method_27_code (7 : Nat) (Option.some Jvm.ClassFile.FieldType.int)) ∈ lw_all := all_mem 416 (by decide +kernel) (by decide +kernel)
theorem q413 : (Jvm.Cond.methodLink "TideBoats" (233 : Nat) ({ cls := "TideBoats", name := "worthOf", desc := "(III)I" } : Jvm.MethodName)) ∈ lw_all := all_mem 413 (by decide +kernel) (by decide +kernel)
theorem q415 : (Jvm.Cond.instanceMethod ({ cls := "TideBoats", name := "worthOf", desc := "(III)I" } : Jvm.MethodName)) ∈ lw_all := all_mem 415 (by decide +kernel) (by decide +kernel)
theorem qs7 : (Jvm.Cond.selects "TideBoats" ({ cls := "TideBoats", name := "worthOf", desc := "(III)I" } : Jvm.MethodName) ({ cls := "TideBoats", name := "worthOf", desc := "(III)I" } : Jvm.MethodName)) ∈ lw_all := all_memS 7 (by decide +kernel) (by decide +kernel)
theorem kV_X5_233 : CWV RX5 233 RX5 yX5_worthOf cX5_worthOf 7 (some .int) 3 := cwv_mk q413 q415 qs7 q1 q416 ⟨rfl, ⟨by decide +kernel, by decide +kernel, by decide +kernel⟩⟩
theorem q227 : (Jvm.Cond.code ({ cls := "TideBoats$History", name := "record", desc := "(LTideBoats$State;)V" } : Jvm.MethodName) prog_2_method_2_code (3 : Nat) (Option.none : Option Jvm.ClassFile.FieldType)) ∈ lw_all := all_mem 227 (by decide +kernel) (by decide +kernel)
theorem q224 : (Jvm.Cond.methodLink "TideBoats" (236 : Nat) ({ cls := "TideBoats$History", name := "record", desc := "(LTideBoats$State;)V" } : Jvm.MethodName)) ∈ lw_all := all_mem 224 (by decide +kernel) (by decide +kernel)
theorem q225 : (Jvm.Cond.instanceMethod ({ cls := "TideBoats$History", name := "record", desc := "(LTideBoats$State;)V" } : Jvm.MethodName)) ∈ lw_all := all_mem 225 (by decide +kernel) (by decide +kernel)
theorem q226 : (Jvm.Cond.selects "TideBoats$History" ({ cls := "TideBoats$History", name := "record", desc := "(LTideBoats$State;)V" } : Jvm.MethodName) ({ cls := "TideBoats$History", name := "record", desc := "(LTideBoats$State;)V" } : Jvm.MethodName)) ∈ lw_all := all_mem 226 (by decide +kernel) (by decide +kernel)
theorem kV_X5_236 : CWV RX5 236 RX0 yX0_record cX0_record 3 (none) 1 := cwv_mk q224 q225 q226 q5 q227 ⟨rfl, ⟨by decide +kernel, by decide +kernel, by decide +kernel⟩⟩
theorem q418 : (Jvm.Cond.methodLink "TideBoats" (269 : Nat) ({ cls := "TideBoats", name := "cellFrom", desc := "(III)I" } : Jvm.MethodName)) ∈ lw_all := all_mem 418 (by decide +kernel) (by decide +kernel)
theorem kS_X5_269 : CWS RX5 269 yX5_cellFrom cX5_cellFrom 5 (some .int) 3 := cws_mk q418 q419 q1 q420 ⟨by decide +kernel, by decide +kernel, by decide +kernel⟩
theorem q422 : (Jvm.Cond.methodLink "TideBoats" (272 : Nat) ({ cls := "TideBoats", name := "harbourOf", desc := "(I)I" } : Jvm.MethodName)) ∈ lw_all := all_mem 422 (by decide +kernel) (by decide +kernel)
theorem kS_X5_272 : CWS RX5 272 yX5_harbourOf cX5_harbourOf 1 (some .int) 1 := cws_mk q422 q381 q1 q382 ⟨by decide +kernel, by decide +kernel, by decide +kernel⟩
theorem q440 : (Jvm.Cond.code ({ cls := "TideBoats$HomeSearch", name := "turnsBehind", desc := "(II)I" } : Jvm.MethodName) prog_3_method_5_code (4 : Nat) (Option.some Jvm.ClassFile.FieldType.int)) ∈ lw_all := all_mem 440 (by decide +kernel) (by decide +kernel)
theorem q437 : (Jvm.Cond.methodLink "TideBoats" (275 : Nat) ({ cls := "TideBoats$HomeSearch", name := "turnsBehind", desc := "(II)I" } : Jvm.MethodName)) ∈ lw_all := all_mem 437 (by decide +kernel) (by decide +kernel)
theorem q438 : (Jvm.Cond.instanceMethod ({ cls := "TideBoats$HomeSearch", name := "turnsBehind", desc := "(II)I" } : Jvm.MethodName)) ∈ lw_all := all_mem 438 (by decide +kernel) (by decide +kernel)
theorem q439 : (Jvm.Cond.selects "TideBoats$HomeSearch" ({ cls := "TideBoats$HomeSearch", name := "turnsBehind", desc := "(II)I" } : Jvm.MethodName) ({ cls := "TideBoats$HomeSearch", name := "turnsBehind", desc := "(II)I" } : Jvm.MethodName)) ∈ lw_all := all_mem 439 (by decide +kernel) (by decide +kernel)
theorem kV_X5_275 : CWV RX5 275 RX1 yX1_turnsBehind cX1_turnsBehind 4 (some .int) 2 := cwv_mk q437 q438 q439 q4 q440 ⟨rfl, ⟨by decide +kernel, by decide +kernel, by decide +kernel⟩⟩
theorem q421 : (Jvm.Cond.methodLink "TideBoats" (278 : Nat) ({ cls := "TideBoats", name := "cellBeside", desc := "(II)I" } : Jvm.MethodName)) ∈ lw_all := all_mem 421 (by decide +kernel) (by decide +kernel)
theorem kS_X5_278 : CWS RX5 278 yX5_cellBeside cX5_cellBeside 3 (some .int) 2 := cws_mk q421 q384 q1 q385 ⟨by decide +kernel, by decide +kernel, by decide +kernel⟩
theorem q341 : (Jvm.Cond.code ({ cls := "TideBoats", name := "count", desc := "(I)I" } : Jvm.MethodName) prog_1_method_18_code (2 : Nat) (Option.some Jvm.ClassFile.FieldType.int)) ∈ lw_all := all_mem 341 (by decide +kernel) (by decide +kernel)
theorem q338 : (Jvm.Cond.methodLink "TideBoatsLaw" (8 : Nat) ({ cls := "TideBoats", name := "count", desc := "(I)I" } : Jvm.MethodName)) ∈ lw_all := all_mem 338 (by decide +kernel) (by decide +kernel)
theorem q339 : (Jvm.Cond.instanceMethod ({ cls := "TideBoats", name := "count", desc := "(I)I" } : Jvm.MethodName)) ∈ lw_all := all_mem 339 (by decide +kernel) (by decide +kernel)
theorem q340 : (Jvm.Cond.selects "TideBoats" ({ cls := "TideBoats", name := "count", desc := "(I)I" } : Jvm.MethodName) ({ cls := "TideBoats", name := "count", desc := "(I)I" } : Jvm.MethodName)) ∈ lw_all := all_mem 340 (by decide +kernel) (by decide +kernel)
theorem kV_L_8 : CWV RL 8 RX5 yX5_count cX5_count 2 (some .int) 1 := cwv_mk q338 q339 q340 q1 q341 ⟨rfl, ⟨by decide +kernel, by decide +kernel, by decide +kernel⟩⟩
theorem q481 : (Jvm.Cond.code ({ cls := "TideBoats", name := "boatOf", desc := "(II)I" } : Jvm.MethodName) prog_1_method_15_code (3 : Nat) (Option.some Jvm.ClassFile.FieldType.int)) ∈ lw_all := all_mem 481 (by decide +kernel) (by decide +kernel)
theorem q478 : (Jvm.Cond.methodLink "TideBoatsLaw" (14 : Nat) ({ cls := "TideBoats", name := "boatOf", desc := "(II)I" } : Jvm.MethodName)) ∈ lw_all := all_mem 478 (by decide +kernel) (by decide +kernel)
theorem q479 : (Jvm.Cond.instanceMethod ({ cls := "TideBoats", name := "boatOf", desc := "(II)I" } : Jvm.MethodName)) ∈ lw_all := all_mem 479 (by decide +kernel) (by decide +kernel)
theorem q480 : (Jvm.Cond.selects "TideBoats" ({ cls := "TideBoats", name := "boatOf", desc := "(II)I" } : Jvm.MethodName) ({ cls := "TideBoats", name := "boatOf", desc := "(II)I" } : Jvm.MethodName)) ∈ lw_all := all_mem 480 (by decide +kernel) (by decide +kernel)
theorem kV_L_14 : CWV RL 14 RX5 yX5_boatOf cX5_boatOf 3 (some .int) 2 := cwv_mk q478 q479 q480 q1 q481 ⟨rfl, ⟨by decide +kernel, by decide +kernel, by decide +kernel⟩⟩
theorem q488 : (Jvm.Cond.code ({ cls := "TideBoats", name := "cellOf", desc := "(II)I" } : Jvm.MethodName) prog_1_method_14_code (3 : Nat) (Option.some Jvm.ClassFile.FieldType.int)) ∈ lw_all := all_mem 488 (by decide +kernel) (by decide +kernel)
theorem q485 : (Jvm.Cond.methodLink "TideBoatsLaw" (18 : Nat) ({ cls := "TideBoats", name := "cellOf", desc := "(II)I" } : Jvm.MethodName)) ∈ lw_all := all_mem 485 (by decide +kernel) (by decide +kernel)
theorem q486 : (Jvm.Cond.instanceMethod ({ cls := "TideBoats", name := "cellOf", desc := "(II)I" } : Jvm.MethodName)) ∈ lw_all := all_mem 486 (by decide +kernel) (by decide +kernel)
theorem q487 : (Jvm.Cond.selects "TideBoats" ({ cls := "TideBoats", name := "cellOf", desc := "(II)I" } : Jvm.MethodName) ({ cls := "TideBoats", name := "cellOf", desc := "(II)I" } : Jvm.MethodName)) ∈ lw_all := all_mem 487 (by decide +kernel) (by decide +kernel)
theorem kV_L_18 : CWV RL 18 RX5 yX5_cellOf cX5_cellOf 3 (some .int) 2 := cwv_mk q485 q486 q487 q1 q488 ⟨rfl, ⟨by decide +kernel, by decide +kernel, by decide +kernel⟩⟩
theorem q497 : (Jvm.Cond.code ({ cls := "TideBoats", name := "why", desc := "(III)I" } : Jvm.MethodName) prog_1_method_17_code (5 : Nat) (Option.some Jvm.ClassFile.FieldType.int)) ∈ lw_all := all_mem 497 (by decide +kernel) (by decide +kernel)
theorem q494 : (Jvm.Cond.methodLink "TideBoatsLaw" (21 : Nat) ({ cls := "TideBoats", name := "why", desc := "(III)I" } : Jvm.MethodName)) ∈ lw_all := all_mem 494 (by decide +kernel) (by decide +kernel)
theorem q495 : (Jvm.Cond.instanceMethod ({ cls := "TideBoats", name := "why", desc := "(III)I" } : Jvm.MethodName)) ∈ lw_all := all_mem 495 (by decide +kernel) (by decide +kernel)
theorem q496 : (Jvm.Cond.selects "TideBoats" ({ cls := "TideBoats", name := "why", desc := "(III)I" } : Jvm.MethodName) ({ cls := "TideBoats", name := "why", desc := "(III)I" } : Jvm.MethodName)) ∈ lw_all := all_mem 496 (by decide +kernel) (by decide +kernel)
theorem kV_L_21 : CWV RL 21 RX5 yX5_why cX5_why 5 (some .int) 3 := cwv_mk q494 q495 q496 q1 q497 ⟨rfl, ⟨by decide +kernel, by decide +kernel, by decide +kernel⟩⟩
theorem q336 : (Jvm.Cond.code ({ cls := "TideBoats", name := "tide", desc := "(I)I" } : Jvm.MethodName) prog_1_method_16_code (2 : Nat) (Option.some Jvm.ClassFile.FieldType.int)) ∈ lw_all := all_mem 336 (by decide +kernel) (by decide +kernel)
theorem q333 : (Jvm.Cond.methodLink "TideBoatsLaw" (25 : Nat) ({ cls := "TideBoats", name := "tide", desc := "(I)I" } : Jvm.MethodName)) ∈ lw_all := all_mem 333 (by decide +kernel) (by decide +kernel)
theorem q334 : (Jvm.Cond.instanceMethod ({ cls := "TideBoats", name := "tide", desc := "(I)I" } : Jvm.MethodName)) ∈ lw_all := all_mem 334 (by decide +kernel) (by decide +kernel)
theorem q335 : (Jvm.Cond.selects "TideBoats" ({ cls := "TideBoats", name := "tide", desc := "(I)I" } : Jvm.MethodName) ({ cls := "TideBoats", name := "tide", desc := "(I)I" } : Jvm.MethodName)) ∈ lw_all := all_mem 335 (by decide +kernel) (by decide +kernel)
theorem kV_L_25 : CWV RL 25 RX5 yX5_tide cX5_tide 2 (some .int) 1 := cwv_mk q333 q334 q335 q1 q336 ⟨rfl, ⟨by decide +kernel, by decide +kernel, by decide +kernel⟩⟩
theorem q395 : (Jvm.Cond.code ({ cls := "TideBoats", name := "afloat", desc := "(II)F" } : Jvm.MethodName) prog_1_method_19_code (6 : Nat) (Option.some Jvm.ClassFile.FieldType.float)) ∈ lw_all := all_mem 395 (by decide +kernel) (by decide +kernel)
theorem q392 : (Jvm.Cond.methodLink "TideBoatsLaw" (28 : Nat) ({ cls := "TideBoats", name := "afloat", desc := "(II)F" } : Jvm.MethodName)) ∈ lw_all := all_mem 392 (by decide +kernel) (by decide +kernel)
theorem q393 : (Jvm.Cond.instanceMethod ({ cls := "TideBoats", name := "afloat", desc := "(II)F" } : Jvm.MethodName)) ∈ lw_all := all_mem 393 (by decide +kernel) (by decide +kernel)
theorem q394 : (Jvm.Cond.selects "TideBoats" ({ cls := "TideBoats", name := "afloat", desc := "(II)F" } : Jvm.MethodName) ({ cls := "TideBoats", name := "afloat", desc := "(II)F" } : Jvm.MethodName)) ∈ lw_all := all_mem 394 (by decide +kernel) (by decide +kernel)
theorem kV_L_28 : CWV RL 28 RX5 yX5_afloat cX5_afloat 6 (some .float) 2 := cwv_mk q392 q393 q394 q1 q395 ⟨rfl, ⟨by decide +kernel, by decide +kernel, by decide +kernel⟩⟩
theorem q512 : (Jvm.Cond.code ({ cls := "TideBoats", name := "homeIn", desc := "(II)I" } : Jvm.MethodName) prog_1_method_21_code (4 : Nat) (Option.some Jvm.ClassFile.FieldType.int)) ∈ lw_all := all_mem 512 (by decide +kernel) (by decide +kernel)
theorem q509 : (Jvm.Cond.methodLink "TideBoatsLaw" (32 : Nat) ({ cls := "TideBoats", name := "homeIn", desc := "(II)I" } : Jvm.MethodName)) ∈ lw_all := all_mem 509 (by decide +kernel) (by decide +kernel)
theorem q510 : (Jvm.Cond.instanceMethod ({ cls := "TideBoats", name := "homeIn", desc := "(II)I" } : Jvm.MethodName)) ∈ lw_all := all_mem 510 (by decide +kernel) (by decide +kernel)
theorem q511 : (Jvm.Cond.selects "TideBoats" ({ cls := "TideBoats", name := "homeIn", desc := "(II)I" } : Jvm.MethodName) ({ cls := "TideBoats", name := "homeIn", desc := "(II)I" } : Jvm.MethodName)) ∈ lw_all := all_mem 511 (by decide +kernel) (by decide +kernel)
theorem kV_L_32 : CWV RL 32 RX5 yX5_homeIn cX5_homeIn 4 (some .int) 2 := cwv_mk q509 q510 q511 q1 q512 ⟨rfl, ⟨by decide +kernel, by decide +kernel, by decide +kernel⟩⟩
theorem q529 : (Jvm.Cond.code ({ cls := "TideBoats", name := "floatsIn", desc := "(I)I" } : Jvm.MethodName) prog_1_method_20_code (6 : Nat) (Option.some Jvm.ClassFile.FieldType.int)) ∈ lw_all := all_mem 529 (by decide +kernel) (by decide +kernel)
theorem q526 : (Jvm.Cond.methodLink "TideBoatsLaw" (35 : Nat) ({ cls := "TideBoats", name := "floatsIn", desc := "(I)I" } : Jvm.MethodName)) ∈ lw_all := all_mem 526 (by decide +kernel) (by decide +kernel)
theorem q527 : (Jvm.Cond.instanceMethod ({ cls := "TideBoats", name := "floatsIn", desc := "(I)I" } : Jvm.MethodName)) ∈ lw_all := all_mem 527 (by decide +kernel) (by decide +kernel)
theorem q528 : (Jvm.Cond.selects "TideBoats" ({ cls := "TideBoats", name := "floatsIn", desc := "(I)I" } : Jvm.MethodName) ({ cls := "TideBoats", name := "floatsIn", desc := "(I)I" } : Jvm.MethodName)) ∈ lw_all := all_mem 528 (by decide +kernel) (by decide +kernel)
theorem kV_L_35 : CWV RL 35 RX5 yX5_floatsIn cX5_floatsIn 6 (some .int) 1 := cwv_mk q526 q527 q528 q1 q529 ⟨rfl, ⟨by decide +kernel, by decide +kernel, by decide +kernel⟩⟩
theorem q406 : (Jvm.Cond.code ({ cls := "TideBoats", name := "inDanger", desc := "(I)I" } : Jvm.MethodName) prog_1_method_22_code (4 : Nat) (Option.some Jvm.ClassFile.FieldType.int)) ∈ lw_all := all_mem 406 (by decide +kernel) (by decide +kernel)
theorem q403 : (Jvm.Cond.methodLink "TideBoatsLaw" (38 : Nat) ({ cls := "TideBoats", name := "inDanger", desc := "(I)I" } : Jvm.MethodName)) ∈ lw_all := all_mem 403 (by decide +kernel) (by decide +kernel)
theorem q404 : (Jvm.Cond.instanceMethod ({ cls := "TideBoats", name := "inDanger", desc := "(I)I" } : Jvm.MethodName)) ∈ lw_all := all_mem 404 (by decide +kernel) (by decide +kernel)
theorem q405 : (Jvm.Cond.selects "TideBoats" ({ cls := "TideBoats", name := "inDanger", desc := "(I)I" } : Jvm.MethodName) ({ cls := "TideBoats", name := "inDanger", desc := "(I)I" } : Jvm.MethodName)) ∈ lw_all := all_mem 405 (by decide +kernel) (by decide +kernel)
theorem kV_L_38 : CWV RL 38 RX5 yX5_inDanger cX5_inDanger 4 (some .int) 1 := cwv_mk q403 q404 q405 q1 q406 ⟨rfl, ⟨by decide +kernel, by decide +kernel, by decide +kernel⟩⟩
theorem q279 : (Jvm.Cond.code ({ cls := "TideBoats", name := "pause", desc := "()I" } : Jvm.MethodName) prog_1_method_6_code (1 : Nat) (Option.some Jvm.ClassFile.FieldType.int)) ∈ lw_all := all_mem 279 (by decide +kernel) (by decide +kernel)
theorem q276 : (Jvm.Cond.methodLink "TideBoatsLaw" (41 : Nat) ({ cls := "TideBoats", name := "pause", desc := "()I" } : Jvm.MethodName)) ∈ lw_all := all_mem 276 (by decide +kernel) (by decide +kernel)
theorem q277 : (Jvm.Cond.instanceMethod ({ cls := "TideBoats", name := "pause", desc := "()I" } : Jvm.MethodName)) ∈ lw_all := all_mem 277 (by decide +kernel) (by decide +kernel)
theorem q278 : (Jvm.Cond.selects "TideBoats" ({ cls := "TideBoats", name := "pause", desc := "()I" } : Jvm.MethodName) ({ cls := "TideBoats", name := "pause", desc := "()I" } : Jvm.MethodName)) ∈ lw_all := all_mem 278 (by decide +kernel) (by decide +kernel)
theorem kV_L_41 : CWV RL 41 RX5 yX5_pause cX5_pause 1 (some .int) 0 := cwv_mk q276 q277 q278 q1 q279 ⟨rfl, ⟨by decide +kernel, by decide +kernel, by decide +kernel⟩⟩
theorem q536 : (Jvm.Cond.code ({ cls := "TideBoats", name := "move", desc := "(III)I" } : Jvm.MethodName) prog_1_method_5_code (4 : Nat) (Option.some Jvm.ClassFile.FieldType.int)) ∈ lw_all := all_mem 536 (by decide +kernel) (by decide +kernel)
theorem q533 : (Jvm.Cond.methodLink "TideBoatsLaw" (45 : Nat) ({ cls := "TideBoats", name := "move", desc := "(III)I" } : Jvm.MethodName)) ∈ lw_all := all_mem 533 (by decide +kernel) (by decide +kernel)
theorem q534 : (Jvm.Cond.instanceMethod ({ cls := "TideBoats", name := "move", desc := "(III)I" } : Jvm.MethodName)) ∈ lw_all := all_mem 534 (by decide +kernel) (by decide +kernel)
theorem q535 : (Jvm.Cond.selects "TideBoats" ({ cls := "TideBoats", name := "move", desc := "(III)I" } : Jvm.MethodName) ({ cls := "TideBoats", name := "move", desc := "(III)I" } : Jvm.MethodName)) ∈ lw_all := all_mem 535 (by decide +kernel) (by decide +kernel)
theorem kV_L_45 : CWV RL 45 RX5 yX5_move cX5_move 4 (some .int) 3 := cwv_mk q533 q534 q535 q1 q536 ⟨rfl, ⟨by decide +kernel, by decide +kernel, by decide +kernel⟩⟩
theorem q549 : (Jvm.Cond.code ({ cls := "TideBoatsLaw", name := "ones", desc := "(I)I" } : Jvm.MethodName) method_8_code (3 : Nat) (Option.some Jvm.ClassFile.FieldType.int)) ∈ lw_all := all_mem 549 (by decide +kernel) (by decide +kernel)
theorem q548 : (Jvm.Cond.static ({ cls := "TideBoatsLaw", name := "ones", desc := "(I)I" } : Jvm.MethodName)) ∈ lw_all := all_mem 548 (by decide +kernel) (by decide +kernel)
theorem q547 : (Jvm.Cond.methodLink "TideBoatsLaw" (48 : Nat) ({ cls := "TideBoatsLaw", name := "ones", desc := "(I)I" } : Jvm.MethodName)) ∈ lw_all := all_mem 547 (by decide +kernel) (by decide +kernel)
theorem q0 : (Jvm.Cond.initialized "TideBoatsLaw") ∈ lw_all := all_mem 0 (by decide +kernel) (by decide +kernel)
theorem kS_L_48 : CWS RL 48 yL_ones cL_ones 3 (some .int) 1 := cws_mk q547 q548 q0 q549 ⟨by decide +kernel, by decide +kernel, by decide +kernel⟩
theorem q412 : (Jvm.Cond.code ({ cls := "TideBoats", name := "best", desc := "()I" } : Jvm.MethodName) prog_1_method_23_code (7 : Nat) (Option.some Jvm.ClassFile.FieldType.int)) ∈ lw_all := all_mem 412 (by decide +kernel) (by decide +kernel)
theorem q409 : (Jvm.Cond.methodLink "TideBoatsLaw" (53 : Nat) ({ cls := "TideBoats", name := "best", desc := "()I" } : Jvm.MethodName)) ∈ lw_all := all_mem 409 (by decide +kernel) (by decide +kernel)
theorem q410 : (Jvm.Cond.instanceMethod ({ cls := "TideBoats", name := "best", desc := "()I" } : Jvm.MethodName)) ∈ lw_all := all_mem 410 (by decide +kernel) (by decide +kernel)
theorem q411 : (Jvm.Cond.selects "TideBoats" ({ cls := "TideBoats", name := "best", desc := "()I" } : Jvm.MethodName) ({ cls := "TideBoats", name := "best", desc := "()I" } : Jvm.MethodName)) ∈ lw_all := all_mem 411 (by decide +kernel) (by decide +kernel)
theorem kV_L_53 : CWV RL 53 RX5 yX5_best cX5_best 7 (some .int) 0 := cwv_mk q409 q410 q411 q1 q412 ⟨rfl, ⟨by decide +kernel, by decide +kernel, by decide +kernel⟩⟩
theorem q320 : (Jvm.Cond.code ({ cls := "TideBoats", name := "undo", desc := "()I" } : Jvm.MethodName) prog_1_method_11_code (1 : Nat) (Option.some Jvm.ClassFile.FieldType.int)) ∈ lw_all := all_mem 320 (by decide +kernel) (by decide +kernel)
theorem q317 : (Jvm.Cond.methodLink "TideBoatsLaw" (56 : Nat) ({ cls := "TideBoats", name := "undo", desc := "()I" } : Jvm.MethodName)) ∈ lw_all := all_mem 317 (by decide +kernel) (by decide +kernel)
theorem q318 : (Jvm.Cond.instanceMethod ({ cls := "TideBoats", name := "undo", desc := "()I" } : Jvm.MethodName)) ∈ lw_all := all_mem 318 (by decide +kernel) (by decide +kernel)
theorem q319 : (Jvm.Cond.selects "TideBoats" ({ cls := "TideBoats", name := "undo", desc := "()I" } : Jvm.MethodName) ({ cls := "TideBoats", name := "undo", desc := "()I" } : Jvm.MethodName)) ∈ lw_all := all_mem 319 (by decide +kernel) (by decide +kernel)
theorem kV_L_56 : CWV RL 56 RX5 yX5_undo cX5_undo 1 (some .int) 0 := cwv_mk q317 q318 q319 q1 q320 ⟨rfl, ⟨by decide +kernel, by decide +kernel, by decide +kernel⟩⟩
theorem q473 : (Jvm.Cond.code ({ cls := "TideBoatsLaw", name := "low", desc := "(II)I" } : Jvm.MethodName) method_3_code (2 : Nat) (Option.some Jvm.ClassFile.FieldType.int)) ∈ lw_all := all_mem 473 (by decide +kernel) (by decide +kernel)
theorem q472 : (Jvm.Cond.static ({ cls := "TideBoatsLaw", name := "low", desc := "(II)I" } : Jvm.MethodName)) ∈ lw_all := all_mem 472 (by decide +kernel) (by decide +kernel)
theorem q471 : (Jvm.Cond.methodLink "TideBoatsLaw" (59 : Nat) ({ cls := "TideBoatsLaw", name := "low", desc := "(II)I" } : Jvm.MethodName)) ∈ lw_all := all_mem 471 (by decide +kernel) (by decide +kernel)
theorem kS_L_59 : CWS RL 59 yL_low cL_low 2 (some .int) 2 := cws_mk q471 q472 q0 q473 ⟨by decide +kernel, by decide +kernel, by decide +kernel⟩
theorem q200 : (Jvm.Cond.code ({ cls := "TideBoats", name := "sand", desc := "(IIZ)I" } : Jvm.MethodName) prog_1_method_2_code (4 : Nat) (Option.some Jvm.ClassFile.FieldType.int)) ∈ lw_all := all_mem 200 (by decide +kernel) (by decide +kernel)
theorem q197 : (Jvm.Cond.methodLink "TideBoatsLaw" (62 : Nat) ({ cls := "TideBoats", name := "sand", desc := "(IIZ)I" } : Jvm.MethodName)) ∈ lw_all := all_mem 197 (by decide +kernel) (by decide +kernel)
theorem q198 : (Jvm.Cond.instanceMethod ({ cls := "TideBoats", name := "sand", desc := "(IIZ)I" } : Jvm.MethodName)) ∈ lw_all := all_mem 198 (by decide +kernel) (by decide +kernel)
theorem q199 : (Jvm.Cond.selects "TideBoats" ({ cls := "TideBoats", name := "sand", desc := "(IIZ)I" } : Jvm.MethodName) ({ cls := "TideBoats", name := "sand", desc := "(IIZ)I" } : Jvm.MethodName)) ∈ lw_all := all_mem 199 (by decide +kernel) (by decide +kernel)
theorem kV_L_62 : CWV RL 62 RX5 yX5_sand cX5_sand 4 (some .int) 3 := cwv_mk q197 q198 q199 q1 q200 ⟨rfl, ⟨by decide +kernel, by decide +kernel, by decide +kernel⟩⟩
theorem q240 : (Jvm.Cond.code ({ cls := "TideBoats", name := "boat", desc := "(III)I" } : Jvm.MethodName) prog_1_method_3_code (4 : Nat) (Option.some Jvm.ClassFile.FieldType.int)) ∈ lw_all := all_mem 240 (by decide +kernel) (by decide +kernel)
theorem q237 : (Jvm.Cond.methodLink "TideBoatsLaw" (66 : Nat) ({ cls := "TideBoats", name := "boat", desc := "(III)I" } : Jvm.MethodName)) ∈ lw_all := all_mem 237 (by decide +kernel) (by decide +kernel)
theorem q238 : (Jvm.Cond.instanceMethod ({ cls := "TideBoats", name := "boat", desc := "(III)I" } : Jvm.MethodName)) ∈ lw_all := all_mem 238 (by decide +kernel) (by decide +kernel)
theorem q239 : (Jvm.Cond.selects "TideBoats" ({ cls := "TideBoats", name := "boat", desc := "(III)I" } : Jvm.MethodName) ({ cls := "TideBoats", name := "boat", desc := "(III)I" } : Jvm.MethodName)) ∈ lw_all := all_mem 239 (by decide +kernel) (by decide +kernel)
theorem kV_L_66 : CWV RL 66 RX5 yX5_boat cX5_boat 4 (some .int) 3 := cwv_mk q237 q238 q239 q1 q240 ⟨rfl, ⟨by decide +kernel, by decide +kernel, by decide +kernel⟩⟩
theorem q259 : (Jvm.Cond.code ({ cls := "TideBoats", name := "set", desc := "(II)I" } : Jvm.MethodName) prog_1_method_4_code (3 : Nat) (Option.some Jvm.ClassFile.FieldType.int)) ∈ lw_all := all_mem 259 (by decide +kernel) (by decide +kernel)
theorem q256 : (Jvm.Cond.methodLink "TideBoatsLaw" (69 : Nat) ({ cls := "TideBoats", name := "set", desc := "(II)I" } : Jvm.MethodName)) ∈ lw_all := all_mem 256 (by decide +kernel) (by decide +kernel)
theorem q257 : (Jvm.Cond.instanceMethod ({ cls := "TideBoats", name := "set", desc := "(II)I" } : Jvm.MethodName)) ∈ lw_all := all_mem 257 (by decide +kernel) (by decide +kernel)
theorem q258 : (Jvm.Cond.selects "TideBoats" ({ cls := "TideBoats", name := "set", desc := "(II)I" } : Jvm.MethodName) ({ cls := "TideBoats", name := "set", desc := "(II)I" } : Jvm.MethodName)) ∈ lw_all := all_mem 258 (by decide +kernel) (by decide +kernel)
theorem kV_L_69 : CWV RL 69 RX5 yX5_set cX5_set 3 (some .int) 2 := cwv_mk q256 q257 q258 q1 q259 ⟨rfl, ⟨by decide +kernel, by decide +kernel, by decide +kernel⟩⟩
theorem q12 : (Jvm.Cond.code ({ cls := "TideBoats", name := "<init>", desc := "()V" } : Jvm.MethodName) prog_1_method_1_code (1 : Nat) (Option.none : Option Jvm.ClassFile.FieldType)) ∈ lw_all := all_mem 12 (by decide +kernel) (by decide +kernel)
theorem q11 : (Jvm.Cond.instanceMethod ({ cls := "TideBoats", name := "<init>", desc := "()V" } : Jvm.MethodName)) ∈ lw_all := all_mem 11 (by decide +kernel) (by decide +kernel)
theorem q10 : (Jvm.Cond.methodLink "TideBoatsLaw" (72 : Nat) ({ cls := "TideBoats", name := "<init>", desc := "()V" } : Jvm.MethodName)) ∈ lw_all := all_mem 10 (by decide +kernel) (by decide +kernel)
theorem kI_L_72 : CWI RL 72 yX5_init cX5_init 1 0 := ⟨q10, q11, q1, q12, rfl, ⟨by decide +kernel, by decide +kernel, by decide +kernel⟩⟩
theorem q328 : (Jvm.Cond.code ({ cls := "TideBoats", name := "restore", desc := "()I" } : Jvm.MethodName) prog_1_method_13_code (1 : Nat) (Option.some Jvm.ClassFile.FieldType.int)) ∈ lw_all := all_mem 328 (by decide +kernel) (by decide +kernel)
theorem q325 : (Jvm.Cond.methodLink "TideBoatsLaw" (73 : Nat) ({ cls := "TideBoats", name := "restore", desc := "()I" } : Jvm.MethodName)) ∈ lw_all := all_mem 325 (by decide +kernel) (by decide +kernel)
theorem q326 : (Jvm.Cond.instanceMethod ({ cls := "TideBoats", name := "restore", desc := "()I" } : Jvm.MethodName)) ∈ lw_all := all_mem 326 (by decide +kernel) (by decide +kernel)
theorem q327 : (Jvm.Cond.selects "TideBoats" ({ cls := "TideBoats", name := "restore", desc := "()I" } : Jvm.MethodName) ({ cls := "TideBoats", name := "restore", desc := "()I" } : Jvm.MethodName)) ∈ lw_all := all_mem 327 (by decide +kernel) (by decide +kernel)
theorem kV_L_73 : CWV RL 73 RX5 yX5_restore cX5_restore 1 (some .int) 0 := cwv_mk q325 q326 q327 q1 q328 ⟨rfl, ⟨by decide +kernel, by decide +kernel, by decide +kernel⟩⟩
theorem q505 : (Jvm.Cond.code ({ cls := "TideBoatsLaw", name := "areCells", desc := "(LTideBoats;)Z" } : Jvm.MethodName) method_5_code (10 : Nat) (Option.some Jvm.ClassFile.FieldType.boolean)) ∈ lw_all := all_mem 505 (by decide +kernel) (by decide +kernel)
theorem q504 : (Jvm.Cond.static ({ cls := "TideBoatsLaw", name := "areCells", desc := "(LTideBoats;)Z" } : Jvm.MethodName)) ∈ lw_all := all_mem 504 (by decide +kernel) (by decide +kernel)
theorem q503 : (Jvm.Cond.methodLink "TideBoatsLaw" (76 : Nat) ({ cls := "TideBoatsLaw", name := "areCells", desc := "(LTideBoats;)Z" } : Jvm.MethodName)) ∈ lw_all := all_mem 503 (by decide +kernel) (by decide +kernel)
theorem kS_L_76 : CWS RL 76 yL_areCells cL_areCells 10 (some .boolean) 1 := cws_mk q503 q504 q0 q505 ⟨by decide +kernel, by decide +kernel, by decide +kernel⟩
theorem q470 : (Jvm.Cond.code ({ cls := "TideBoatsLaw", name := "cell", desc := "([II)I" } : Jvm.MethodName) method_2_code (2 : Nat) (Option.some Jvm.ClassFile.FieldType.int)) ∈ lw_all := all_mem 470 (by decide +kernel) (by decide +kernel)
theorem q469 : (Jvm.Cond.static ({ cls := "TideBoatsLaw", name := "cell", desc := "([II)I" } : Jvm.MethodName)) ∈ lw_all := all_mem 469 (by decide +kernel) (by decide +kernel)
theorem q468 : (Jvm.Cond.methodLink "TideBoatsLaw" (80 : Nat) ({ cls := "TideBoatsLaw", name := "cell", desc := "([II)I" } : Jvm.MethodName)) ∈ lw_all := all_mem 468 (by decide +kernel) (by decide +kernel)
theorem kS_L_80 : CWS RL 80 yL_cell cL_cell 2 (some .int) 2 := cws_mk q468 q469 q0 q470 ⟨by decide +kernel, by decide +kernel, by decide +kernel⟩
theorem q555 : (Jvm.Cond.code ({ cls := "TideBoatsLaw", name := "lays", desc := "(LTideBoats;II)Z" } : Jvm.MethodName) method_10_code (14 : Nat) (Option.some Jvm.ClassFile.FieldType.boolean)) ∈ lw_all := all_mem 555 (by decide +kernel) (by decide +kernel)
theorem q554 : (Jvm.Cond.static ({ cls := "TideBoatsLaw", name := "lays", desc := "(LTideBoats;II)Z" } : Jvm.MethodName)) ∈ lw_all := all_mem 554 (by decide +kernel) (by decide +kernel)
theorem q553 : (Jvm.Cond.methodLink "TideBoatsLaw" (84 : Nat) ({ cls := "TideBoatsLaw", name := "lays", desc := "(LTideBoats;II)Z" } : Jvm.MethodName)) ∈ lw_all := all_mem 553 (by decide +kernel) (by decide +kernel)
theorem kS_L_84 : CWS RL 84 yL_lays cL_lays 14 (some .boolean) 3 := cws_mk q553 q554 q0 q555 ⟨by decide +kernel, by decide +kernel, by decide +kernel⟩
