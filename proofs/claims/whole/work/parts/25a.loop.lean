/-! the law's loop and its body -/
set_option maxHeartbeats 4000000 in
set_option maxRecDepth 100000 in
theorem law_loop (l : Launch) {p : Program} {e : Env} {s : State} {m : MethodId} {below : List Frame} {meth : Method} {c : Code} {G : gT} {b tb r x cu h pa o sg : Nat} {qn qb sn X : Nat → Nat} {L : Nat} {xs : Nat → Int32} {E : eT} (C : CX p s m #[Value.ref b] meth c RL cL_law 8 ret) (hK : gK G s) (hE : EV E (fun q => s.heap.size ≤ q) s s.heap) (hX : va_X b L xs s s.heap) (hbl : b < s.heap.size) (hL : L ≤ 2048) : ∀ (fu : Nat) (i : Int), 0 ≤ i → i ≤ L → (L : Int) - i < fu → LK p l e s m below meth c (lw_Z below #[Value.ref b] s) G b tb r x cu h pa o sg qn qb sn X i 18 := by
  intro fu
  induction fu with
  | zero => intro i h0 h1 h2; exfalso; omega
  | succ fu ih =>
    intro i h0 h1 h2 S v u y sv sv' g g' n ln has tx k S1 T1 L1 A1 H locs ls hI hW hl
    refine z_il_n C hl dL_law_18 0 rfl 19 rfl ?_
    refine z_al_n C hl dL_law_19 3 rfl 20 rfl ?_
    refine z_slenL C hX hbl hW dL_law_20 21 rfl ?_
    refine z_iconst C dL_law_21 22 rfl ?_
    refine z_isub C dL_law_22 23 rfl ((L : Int) - 4) rfl ?_
    refine z_icmp_gt C dL_law_23 746 26 (by decide) rfl (by omega) (fun c1 => ?_) (fun c1 => ?_)
    · refine z_iconst C dL_law_746 747 rfl ?_
      refine z_top (b := .int 1) rfl ?_
      refine va_forget (fun q hq => hW.2.2.2.2.2 q hq) ?_
      refine W.widen (k := 600000) (n := 7302250) (Nat.le_of_ble_eq_true rfl) (Nat.le_of_ble_eq_true rfl) ?_
      refine W.base ?_
      exact lw_ret (Drawn.sameBut.refl s.drawn lw_cs) C.1.1 C.1.2.1 C.2.1 C.2.2 dL_law_747
    · have hi : 0 ≤ i ∧ i + 4 ≤ L := by omega
      exact law_26 l C hK hE hX hbl hL hi (law_740 l C hK hE hX hbl hL hi (ih (i + 4) (by omega) (by omega) (by omega))) S v u y sv sv' g g' n ln has tx k S1 T1 L1 A1 H locs ls hI hW hl
theorem lwI.zero : lwI v0Z v0Z (fun _ => 0) (fun _ => v0Z) (fun _ _ => 0) 0 0 false (fun _ => 0) :=
  ⟨by omega, Wf.v0, ⟨by omega, fun _ => ⟨Int.le_refl 0, (by decide : (0 : Int) < 65536)⟩⟩, fun i hi => by omega, Wf.v0, fun z => by cases z⟩
set_option maxHeartbeats 4000000 in
set_option maxRecDepth 100000 in
theorem law_body (l : Launch) {p : Program} {e : Env} {s : State} {m : MethodId} {below : List Frame} {meth : Method} {c : Code} {G : gT} {b : Nat} {L : Nat} {xs : Nat → Int32} {E : eT} (C : CX p s m #[Value.ref b] meth c RL cL_law 8 ret) (hK : gK G s) (hE : EV E (fun q => s.heap.size ≤ q) s s.heap) (hZO : ZO s) (hX : va_X b L xs s s.heap) (hbl : b < s.heap.size) (hL : L ≤ 2048) (ls : Array Slot) (hl : lv_has ls 8 (lv_args 0 [Value.ref b])) :
    W p l e room_1 s m #[Value.ref b] below meth c s.heap [] 0 0 (lw_Z below #[Value.ref b] s) (F0 m 0 ls []) := by
  have hl : lv_has ls 8 [(0, .ref b)] := hl
  have hA : ∀ q, s.heap.size ≤ q → (fun q => s.heap.size ≤ q) q := fun _ h => h
  have hW : Wd G (fun q => s.heap.size ≤ q) [] s.heap s.heap [] := ⟨gP_nil, List.nodup_nil, fun q hq => (List.not_mem_nil hq).elim, va_S.rf⟩
  refine z_new C hK hW hA nw_L_7 (Nat.le_of_ble_eq_true rfl) (Nat.le_of_ble_eq_true rfl) dL_law_0 3 rfl (fun tb H hW => ?_)
  have hW := hW.re (rs' := [[(tb, .inr (5, [.null, .null, .null, .null, .null, .null]))]]) rfl
  refine z_dup C dL_law_3 rfl 4 rfl ?_
  refine z_I (rs := []) (rest := [.ref tb]) C hW hA hK (n_TideBoats l G H.size tb) zo_blind (zo_of hZO) kI_L_9 ⟨Nat.le_of_ble_eq_true rfl, Nat.le_of_ble_eq_true rfl⟩ rfl hl.1 rfl (Nat.le_of_ble_eq_true rfl) dL_law_4 ⟨Nat.le_of_ble_eq_true rfl, Nat.le_of_ble_eq_true rfl⟩ 7 rfl (fun x9 H locs hx hW => ?_)
  obtain ⟨r, x, h, o, cu, sg, qn, qb, pa, sn, S⟩ := x9
  have hW := hW.re (rs' := [[tbO tb qn qb r x h o], stW G qn v0Z, stW G qb v0Z, [(r, .inr (3, [.ref (qn 0)]))], [sxA x cu qn (0, 0, 0, 0, 0)], [arL G cu 5 (fun _ => 0)], hiW G h pa sn 0 S (fun _ => v0Z) false, stW G sn v0Z, [orO G o sg 0], [arC G sg 60 (fun _ => 0)]]) rfl
  refine z_as_n C hl dL_law_7 8 rfl (by decide) (lv' := [(1, .ref tb), (0, .ref b)]) rfl (fun ls hl => ?_)
  refine z_new C hK hW hA nw_L_10 (Nat.le_of_ble_eq_true rfl) (Nat.le_of_ble_eq_true rfl) dL_law_8 11 rfl (fun hm H hW => ?_)
  refine z_dup C dL_law_11 rfl 12 rfl ?_
  refine z_I (rs := [[tbO tb qn qb r x h o], stW G qn v0Z, stW G qb v0Z, [(r, .inr (3, [.ref (qn 0)]))], [sxA x cu qn (0, 0, 0, 0, 0)], [arL G cu 5 (fun _ => 0)], hiW G h pa sn 0 S (fun _ => v0Z) false, stW G sn v0Z, [orO G o sg 0], [arC G sg 60 (fun _ => 0)]]) (rest := [.ref hm]) C hW hA hK (n_Model l G H.size hm) zt_blind zt_of kI_L_12 ⟨Nat.le_of_ble_eq_true rfl, Nat.le_of_ble_eq_true rfl⟩ rfl hl.1 rfl (Nat.le_of_ble_eq_true rfl) dL_law_12 ⟨Nat.le_of_ble_eq_true rfl, Nat.le_of_ble_eq_true rfl⟩ 15 rfl (fun X H locs hXm hW => ?_)
  have hW9 := hW
  subst hXm
  have hW : Wd G (fun q => s.heap.size ≤ q) (lwRs G tb r x cu h pa o sg qn qb sn X S v0Z v0Z (fun _ => 0) v0Z (fun _ => 0) (fun _ => v0Z) (fun _ _ => 0) 0 0 false (fun _ => 0) ((0, 0, 0, 0, 0), fun _ => 0) (fun _ => false) (fun _ => false) (fun _ => 0) (fun _ => 0)) s.heap H locs := hW9.re rfl
  refine z_as_n C hl dL_law_15 16 rfl (by decide) (lv' := [(2, .ref (X 0)), (1, .ref tb), (0, .ref b)]) rfl (fun ls hl => ?_)
  refine z_iconst C dL_law_16 17 rfl ?_
  refine z_is_n C hl dL_law_17 18 rfl (by decide) (lv' := [(3, .int (iI 0)), (2, .ref (X 0)), (1, .ref tb), (0, .ref b)]) rfl (fun ls hl => ?_)
  refine W.widen (k := 73) (n := 2159) (Nat.le_of_ble_eq_true rfl) (Nat.le_of_ble_eq_true rfl) ?_
  exact law_loop l C hK hE hX hbl hL (L + 1) 0 (by omega) (by omega) (by omega) S v0Z v0Z (fun _ => 0) v0Z (fun _ => 0) (fun _ => v0Z) (fun _ _ => 0) 0 0 false (fun _ => 0) ((0, 0, 0, 0, 0), fun _ => 0) (fun _ => false) (fun _ => false) (fun _ => 0) (fun _ => 0) H _ ls lwI.zero hW hl
/-- from the entry, for every script of at most 2048 ints, the law comes to its end with true -/
theorem whole_start {p : Program} {e : Env} {s : State} {m : MethodId} {below : List Frame} {meth : Method} {c : Code} (l : Launch) (hflags : l.flags = flags0) {b L : Nat} {xs : Nat → Int32} (hL : L ≤ 2048) (C0 : lw_At p s m meth c b L xs) : W p l e room_1 s m #[Value.ref b] below meth c s.heap [] 0 0 (lw_Z below #[Value.ref b] s) (entryFrame m ([Value.ref b] : List Value).toArray 8) := by
  obtain ⟨hx, hb, hr, hml, hown, hts, hX, hbl, hlk, hgv⟩ := C0
  obtain ⟨E, hE⟩ := law_env hts hgv
  obtain ⟨G, hK⟩ := law_known hts
  have hZO := zo_law hts
  have C : CX p s m #[Value.ref b] meth c RL cL_law 8 ret := ⟨⟨hx, hb, hml, hown, fun w hw => hts w (all_tbl hw)⟩, hr, hlk⟩
  have hl := lv_entry [Value.ref b] (n := 8) (Nat.le_of_ble_eq_true rfl)
  rw [lg_entry_eq]
  exact law_body l C hK hE hZO hX hbl hL _ hl
