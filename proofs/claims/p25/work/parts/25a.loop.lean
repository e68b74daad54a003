/-! the law's loops and its body -/
set_option maxHeartbeats 4000000 in
set_option maxRecDepth 100000 in
theorem law_121 (l : Launch) {p : Program} {e : Env} {s : State} {m : MethodId} {below : List Frame} {meth : Method} {c : Code} {G : gT} {b tb r x cu h pa o sg : Nat} {qn qb sn : Nat → Nat} {L : Nat} {xs : Nat → Int32} {E : eT} (C : CX p s m #[Value.ref b] meth c RL cL_law 10 ret) (hK : gK G s) (hE : EV E (fun q => s.heap.size ≤ q) s s.heap) (hX : va_X b L xs s s.heap) (hbl : b < s.heap.size) (hL : L ≤ 260) : ∀ (fu : Nat) (ee : Int), 80 ≤ ee → ee ≤ 140 → 140 - ee < fu → LQ p l e s m below meth c G b tb r x cu h pa o sg qn qb sn (fun _ => True) ee 121 := by
  intro fu
  induction fu with
  | zero => intro ee h0 h1 h2; exfalso; omega
  | succ fu ih =>
    intro ee h0 h1 h2 S v u g n k H locs ls i hn9 hP9 hW hl
    refine z_il_n C hl dL_law_121 0 rfl 122 rfl ?_
    refine z_sipush C dL_law_122 (by decide) 125 rfl ?_
    refine z_icmp_ge C dL_law_125 356 128 (by decide) rfl (by omega) (fun c1 => ?_) (fun c1 => ?_)
    · exact law_356 l C hK hE hX hbl hL S v u g n k H locs ls i hn9 trivial hW hl
    · refine law_128 l C hK hE hX hbl hL (by omega) ?_ S v u g n k H locs ls i hn9 trivial hW hl
      intro S v u g n k H locs ls i hn9 hP9 hW hl
      refine z_iinc C hl dL_law_350 353 rfl 0 rfl (z := ee + 1) rfl (by decide) (lv' := [(2, .int (iI (ee + 1))), (1, .ref tb), (0, .ref b)]) rfl (fun ls hl => ?_)
      refine z_goto C dL_law_353 121 (by decide) ?_
      exact ih (ee + 1) (by omega) (by omega) (by omega) S v u g n k H locs ls i hn9 trivial hW hl
set_option maxHeartbeats 4000000 in
set_option maxRecDepth 100000 in
theorem law_65 (l : Launch) {p : Program} {e : Env} {s : State} {m : MethodId} {below : List Frame} {meth : Method} {c : Code} {G : gT} {b tb r x cu h pa o sg : Nat} {qn qb sn : Nat → Nat} {L : Nat} {xs : Nat → Int32} {E : eT} (C : CX p s m #[Value.ref b] meth c RL cL_law 10 ret) (hK : gK G s) (hE : EV E (fun q => s.heap.size ≤ q) s s.heap) (hX : va_X b L xs s s.heap) (hbl : b < s.heap.size) (hL : L ≤ 260) : ∀ (fu : Nat) (ee : Int), 0 ≤ ee → ee ≤ 40 → 40 - ee < fu → LQ p l e s m below meth c G b tb r x cu h pa o sg qn qb sn (fun v => v 126 = 0) ee 65 := by
  intro fu
  induction fu with
  | zero => intro ee h0 h1 h2; exfalso; omega
  | succ fu ih =>
    intro ee h0 h1 h2 S v u g n k H locs ls i hn9 hP9 hW hl
    refine z_il_n C hl dL_law_65 0 rfl 66 rfl ?_
    refine z_bipush C dL_law_66 (by decide) 68 rfl ?_
    refine z_icmp_ge C dL_law_68 102 71 (by decide) rfl (by omega) (fun c1 => ?_) (fun c1 => ?_)
    · exact law_102 l C hK hE hX hbl hL (law_121 l C hK hE hX hbl hL 100 80 (by omega) (by omega) (by omega)) S v u g n k H locs ls i hn9 trivial hW hl
    · refine law_71 l C hK hE hX hbl hL (by omega) ?_ S v u g n k H locs ls i hn9 hP9 hW hl
      intro S v u g n k H locs ls i hn9 hP9 hW hl
      refine z_iinc C hl dL_law_96 99 rfl 0 rfl (z := ee + 1) rfl (by decide) (lv' := [(2, .int (iI (ee + 1))), (1, .ref tb), (0, .ref b)]) rfl (fun ls hl => ?_)
      refine z_goto C dL_law_99 65 (by decide) ?_
      exact ih (ee + 1) (by omega) (by omega) (by omega) S v u g n k H locs ls i hn9 hP9 hW hl
set_option maxHeartbeats 4000000 in
set_option maxRecDepth 100000 in
theorem law_body (l : Launch) {p : Program} {e : Env} {s : State} {m : MethodId} {below : List Frame} {meth : Method} {c : Code} {G : gT} {b : Nat} {L : Nat} {xs : Nat → Int32} {E : eT} (C : CX p s m #[Value.ref b] meth c RL cL_law 10 ret) (hK : gK G s) (hE : EV E (fun q => s.heap.size ≤ q) s s.heap) (hZO : ZO s) (hX : va_X b L xs s s.heap) (hbl : b < s.heap.size) (hL : L ≤ 260) (ls : Array Slot) (hl : lv_has ls 10 (lv_args 0 [Value.ref b])) :
    W p l e room_1 s m #[Value.ref b] below meth c s.heap [] 0 0 (lw_Z below #[Value.ref b] s) (F0 m 0 ls []) := by
  have hl : lv_has ls 10 [(0, .ref b)] := hl
  have hA : ∀ q, s.heap.size ≤ q → (fun q => s.heap.size ≤ q) q := fun _ h => h
  have hW : Wd G (fun q => s.heap.size ≤ q) [] s.heap s.heap [] := ⟨gP_nil, List.nodup_nil, fun q hq => (List.not_mem_nil hq).elim, va_S.rf⟩
  refine z_new C hK hW hA nw_L_9 (Nat.le_of_ble_eq_true rfl) (Nat.le_of_ble_eq_true rfl) dL_law_0 3 rfl (fun tb H hW => ?_)
  have hW := hW.re (rs' := [[(tb, .inr (5, [.null, .null, .null, .null, .null, .null]))]]) rfl
  refine z_dup C dL_law_3 rfl 4 rfl ?_
  refine z_I (rs := []) (rest := [.ref tb]) C hW hA hK (n_TideBoats l G H.size tb) zo_blind (zo_of hZO) kI_L_72 ⟨Nat.le_of_ble_eq_true rfl, Nat.le_of_ble_eq_true rfl⟩ rfl hl.1 rfl (Nat.le_of_ble_eq_true rfl) dL_law_4 ⟨Nat.le_of_ble_eq_true rfl, Nat.le_of_ble_eq_true rfl⟩ 7 rfl (fun x9 H locs hx hW => ?_)
  obtain ⟨r, x, h, o, cu, sg, qn, qb, pa, sn, S⟩ := x9
  have hW := hW.re (rs' := [[tbO tb qn qb r x h o], stW G qn v0Z, stW G qb v0Z, [(r, .inr (3, [.ref (qn 0)]))], [sxA x cu qn (0, 0, 0, 0, 0)], [arL G cu 5 (fun _ => 0)], hiW G h pa sn 0 S (fun _ => v0Z) false, stW G sn v0Z, [orO G o sg 0], [arC G sg 60 (fun _ => 0)]]) rfl
  refine z_as_n C hl dL_law_7 8 rfl (by decide) (lv' := [(1, .ref tb), (0, .ref b)]) rfl (fun ls hl => ?_)
  refine W.widen (k := 64) (n := 1041) (Nat.le_of_ble_eq_true rfl) (Nat.le_of_ble_eq_true rfl) ?_
  exact law_8 l C hK hE hX hbl hL (law_65 l C hK hE hX hbl hL 100 0 (by omega) (by omega) (by omega)) S H _ ls hW hl
/-- from the entry, for every script of at most 260 ints, the law comes to its end with true -/
theorem whole_start {p : Program} {e : Env} {s : State} {m : MethodId} {below : List Frame} {meth : Method} {c : Code} (l : Launch) (hflags : l.flags = flags0) {b L : Nat} {xs : Nat → Int32} (hL : L ≤ 260) (C0 : lw_At p s m meth c b L xs) : W p l e room_1 s m #[Value.ref b] below meth c s.heap [] 0 0 (lw_Z below #[Value.ref b] s) (entryFrame m ([Value.ref b] : List Value).toArray 10) := by
  obtain ⟨hx, hb, hr, hml, hown, hts, hX, hbl, hlk, hgv⟩ := C0
  obtain ⟨E, hE⟩ := law_env hts hgv
  obtain ⟨G, hK⟩ := law_known hts
  have hZO := zo_law hts
  have C : CX p s m #[Value.ref b] meth c RL cL_law 10 ret := ⟨⟨hx, hb, hml, hown, fun w hw => hts w (all_tbl hw)⟩, hr, hlk⟩
  have hl := lv_entry [Value.ref b] (n := 10) (Nat.le_of_ble_eq_true rfl)
  rw [lg_entry_eq]
  exact law_body l C hK hE hZO hX hbl hL _ hl
