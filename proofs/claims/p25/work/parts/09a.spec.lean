/-! the history: slots by number; S i: the addresses of the State in slot i, g i: its row -/
abbrev arQ (G : gT) (a n : Nat) (f : Nat → Option Nat) : Nat × va_E := (a, .inl (G.2 4, n, .inr (.inr (.inr (.inr f)))))
theorem ceq.Q {G : gT} {a n : Nat} {f f' : Nat → Option Nat} (h : ∀ k : Nat, k < n → f k = f' k) : ceq (arQ G a n f) (arQ G a n f') := by
  refine ⟨rfl, fun D H hx => ?_⟩
  refine (hx : H[a]? = some (vp_cell (G.2 4) (n, .inr (.inr (.inr (.inr f)))))).trans (congrArg some ?_)
  show vp_cell (G.2 4) (n, .inr (.inr (.inr (.inr f)))) = vp_cell (G.2 4) (n, .inr (.inr (.inr (.inr f'))))
  rw [vp_cell_q, vp_cell_q]
  exact arrV_congr fun j hj => by rw [h j hj]
def slF (S : Nat → Nat → Nat) : Nat → Option Nat := fun i => some (S i 0)
def rotS (S : Nat → Nat → Nat) : Nat → Nat → Nat := fun i => if i = 0 then S 1 else if i = 1 then S 2 else if i = 2 then S 3 else S 0
abbrev hiO (G : gT) (h pa : Nat) (sn : Nat → Nat) (n : Int) (has : Bool) : Nat × va_E := (h, .inr (0, [.ref pa, .ref (sn 0), .int (iI n), .int (iI (bZ has))]))
def hiC (G : gT) (h pa : Nat) (sn : Nat → Nat) (n : Int) (S : Nat → Nat → Nat) (g : Nat → Int → Int) (has : Bool) : List va_W := [[hiO G h pa sn n has], [arQ G pa 4 (slF S)], stW G (S 0) (g 0), stW G (S 1) (g 1), stW G (S 2) (g 2), stW G (S 3) (g 3)]
def hiW (G : gT) (h pa : Nat) (sn : Nat → Nat) (n : Int) (S : Nat → Nat → Nat) (g : Nat → Int → Int) (has : Bool) : va_W := (hiC G h pa sn n S g has).flatten
def recN (n : Int) : Int := if n = 4 then 4 else n + 1
def recS (n : Int) (S : Nat → Nat → Nat) : Nat → Nat → Nat := if n = 4 then rotS S else S
def recG (n : Int) (g : Nat → Int → Int) (v : Int → Int) : Nat → Int → Int := if n = 4 then (fun i => if i = 3 then v else g (i + 1)) else (fun i => if (i : Int) = n then v else g i)
def actN (r n : Int) : Int := if 0 ≤ r then recN n else n
def actS (r n : Int) (S : Nat → Nat → Nat) : Nat → Nat → Nat := if 0 ≤ r then recS n S else S
def actG (r n : Int) (g : Nat → Int → Int) (v : Int → Int) : Nat → Int → Int := if 0 ≤ r then recG n g v else g
theorem stW_fst {G : gT} {q : Nat → Nat} {v : Int → Int} : (stW G q v).map Prod.fst = [q 0, q 1, q 2, q 3, q 4, q 5, q 6, q 7] := rfl
theorem hiW_fst {G : gT} {h pa : Nat} {sn : Nat → Nat} {n : Int} {S : Nat → Nat → Nat} {g : Nat → Int → Int} {has : Bool} : (hiW G h pa sn n S g has).map Prod.fst = h :: pa :: ((List.range 8).map (S 0) ++ ((List.range 8).map (S 1) ++ ((List.range 8).map (S 2) ++ (List.range 8).map (S 3)))) := rfl
theorem hi_rot {a b c d : List Nat} : (a ++ (b ++ (c ++ d))).Perm (b ++ (c ++ (d ++ a))) := by
  have := List.perm_append_comm (l₁ := a) (l₂ := b ++ (c ++ d))
  simpa [List.append_assoc] using this
theorem hi_perm {G : gT} {h pa : Nat} {sn : Nat → Nat} {n n' : Int} {S : Nat → Nat → Nat} {g g' : Nat → Int → Int} {has has' : Bool} (m : Int) : ((hiW G h pa sn n S g has).map Prod.fst).Perm ((hiW G h pa sn n' (recS m S) g' has').map Prod.fst) := by
  rw [hiW_fst, hiW_fst]
  unfold recS
  split
  · exact ((hi_rot.cons pa).cons h)
  · exact List.Perm.refl _
theorem hi_permA {G : gT} {h pa : Nat} {sn : Nat → Nat} {n n' : Int} {S : Nat → Nat → Nat} {g g' : Nat → Int → Int} {has has' : Bool} (r m : Int) : ((hiW G h pa sn n S g has).map Prod.fst).Perm ((hiW G h pa sn n' (actS r m S) g' has').map Prod.fst) := by
  unfold actS
  split
  · exact hi_perm m
  · exact List.Perm.refl _
theorem sameA_nil : sameA [] [] := ⟨rfl, fun k w w' h => by simp at h⟩
theorem sameA_cons {w w' : va_W} {ss ss' : List va_W} (h : (w.map Prod.fst).Perm (w'.map Prod.fst)) (h2 : sameA ss ss') : sameA (w :: ss) (w' :: ss') := by
  refine ⟨by simp [h2.1], fun k x x' h3 h4 => ?_⟩
  cases k with
  | zero => cases h3; cases h4; exact h
  | succ k => exact h2.2 k x x' h3 h4
theorem sameA_eq {w w' : va_W} {ss ss' : List va_W} (h : w.map Prod.fst = w'.map Prod.fst) (h2 : sameA ss ss') : sameA (w :: ss) (w' :: ss') := sameA_cons (by rw [h]) h2
def undR (n : Int) : Int := if n = 0 then -5 else n - 1
def undN (n : Int) : Int := if n = 0 then 0 else n - 1
def undV (n : Int) (g : Nat → Int → Int) (v : Int → Int) : Int → Int := if n = 0 then v else g (n - 1).toNat
def rstR (has : Bool) (sv : Int → Int) : Int := if has = true then sv 126 else -5
def rstV (has : Bool) (sv v : Int → Int) : Int → Int := if has = true then sv else v
theorem perm_rot {a b c d e f x : va_W} : ([a, b, x, c, d, e, f] : List va_W).flatten.Perm ([a, b, c, d, e, x, f] : List va_W).flatten := by
  have h : ([x, c, d, e, f] : List va_W).flatten.Perm ([c, d, e, x, f] : List va_W).flatten := by
    simp only [List.flatten_cons, List.flatten_nil, List.append_nil]
    have := (List.perm_append_comm (l₁ := x) (l₂ := c ++ (d ++ e))).append_right f
    simpa [List.append_assoc] using this
  simp only [List.flatten_cons] at h ⊢
  exact List.Perm.append_left a (List.Perm.append_left b h)
theorem z_as_nN {p : Program} {l : Launch} {e : Env} {R : Room} {s : State} {m : MethodId} {args : Array Value} {below : List Frame} {meth : Method} {c : Code} {H : Heap} {locs : List Loc} {cells slots : Nat} {Q : State → Prop} {own : String} {cc : ByteArray} {nL : Nat} {ret : Option FieldType} {pc : Nat} {ls : Array Slot} {rest : List Value} {lv lv' : List (Nat × Value)} (C : CX p s m args meth c own cc nL ret) {j : Fin 4} (hl : lv_has ls nL lv) (d : decode cc pc = .ok (.astore_n j, 1)) (q : Nat) (hq : pc + 1 = q) (hn : (j : Nat) < nL) (he : ((j : Nat), Value.null) :: lv.filter (fun q => !(q.1 == (j : Nat)) && !(q.1 + 1 == (j : Nat) && q.2.category == 2)) = lv') (k : ∀ ls' : Array Slot, lv_has ls' nL lv' → W p l e R s m args below meth c H locs cells slots Q (F0 m q ls' (rest))) : W p l e R s m args below meth c H locs cells slots Q (F0 m pc ls (.null :: rest)) := by
  subst hq
  exact lv_astore_nN C.1.1 C.1.2.1 d rfl hl hn he k
