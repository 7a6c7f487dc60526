/-! both worlds as one; the static array of first signs -/
def n_ad (ad aM : Nat → Nat) (b : Nat) : Nat → Nat := fun k => if k < 27 then ad k else if k < 47 then aM (k - 27) else b
theorem n_she (ad aM : Nat → Nat) (b : Nat) : (fun j : Nat => (([17, 19, 21, 23] : List Nat)[j]?).map (n_ad ad aM b)) = fun j : Nat => (([17, 19, 21, 23] : List Nat)[j]?).map ad := by
  funext j
  match j with
  | 0 => rfl
  | 1 => rfl
  | 2 => rfl
  | 3 => rfl
  | n + 4 => rfl
def n_lit (ad aM : Nat → Nat) (cI cB cS : ClassId) (f : Nat → Int32) (M : qW) (g : Nat → Option Nat) : va_W := [(ad 0, .inr (4, [.ref (ad 1), .ref (ad 3), .ref (ad 8), .ref (ad 12), .ref (ad 13), .int (0), .int (1), .int (2), .ref (ad 14), .ref (ad 15), .ref (ad 16), .int (0), .ref (ad 25), .ref (ad 26)])), (ad 1, .inr (2, [.ref (ad 2), .int (0)])), (ad 2, .inl (cI, 24, .inl (fun _ => 0))), (ad 3, .inr (3, [.ref (ad 4), .ref (ad 6), .ref (ad 7), .int (0), .int (-1)])), (ad 4, .inr (2, [.ref (ad 5), .int (0)])), (ad 5, .inl (cI, 60, .inl (fun _ => 0))), (ad 6, .inl (cI, 48, .inl (fun _ => 0))), (ad 7, .inl (cI, 8, .inl (fun _ => 0))), (ad 8, .inr (1, [.ref (ad 9), .ref (ad 10), .ref (ad 11), .int (0)])), (ad 9, .inl (cI, 12, .inl (fun _ => 0))), (ad 10, .inl (cI, 12, .inl (fun _ => 0))), (ad 11, .inl (cI, 12, .inl (fun _ => 0))), (ad 12, .inl (cI, 10, .inl (fun j => nI (n_sg j)))), (ad 13, .inl (cI, 24, .inl (fun _ => 0))), (ad 14, .inl (cI, 8, .inl (f))), (ad 15, .inl (cI, 18, .inl (fun _ => 0))), (ad 16, .inl (cS, 4, .inr (.inr (.inr (.inr (g)))))), (ad 17, .inr (0, [.ref (ad 18), .int (-1), .int (0)])), (ad 18, .inl (cI, 48, .inl (fun _ => 0))), (ad 19, .inr (0, [.ref (ad 20), .int (-1), .int (0)])), (ad 20, .inl (cI, 48, .inl (fun _ => 0))), (ad 21, .inr (0, [.ref (ad 22), .int (-1), .int (0)])), (ad 22, .inl (cI, 48, .inl (fun _ => 0))), (ad 23, .inr (0, [.ref (ad 24), .int (-1), .int (0)])), (ad 24, .inl (cI, 48, .inl (fun _ => 0))), (ad 25, .inl (cI, 24, .inl (fun _ => 0))), (ad 26, .inl (cI, 25, .inl (fun _ => 0))), (aM 0, .inr (5, [.ref (aM 1), .ref (aM 2), .ref (aM 3), .int (M 0 3), .ref (aM 4), .int (M 0 5), .ref (aM 5), .ref (aM 6), .int (M 0 8), .int (M 0 9), .ref (aM 7), .int (M 0 11), .ref (aM 8), .ref (aM 9), .ref (aM 10), .ref (aM 11), .ref (aM 12), .ref (aM 13), .ref (aM 14), .ref (aM 15), .ref (aM 16), .ref (aM 17), .ref (aM 18), .ref (aM 19), .int (M 0 24)])), (aM 1, .inl (cI, 10, .inl (M 1))), (aM 2, .inl (cI, 2, .inl (M 2))), (aM 3, .inl (cI, 120, .inl (M 3))), (aM 4, .inl (cI, 24, .inl (M 4))), (aM 5, .inl (cI, 54, .inl (M 5))), (aM 6, .inl (cI, 9, .inl (M 6))), (aM 7, .inl (cI, 8, .inl (M 7))), (aM 8, .inl (cI, 12, .inl (M 8))), (aM 9, .inl (cI, 12, .inl (M 9))), (aM 10, .inl (cI, 12, .inl (M 10))), (aM 11, .inl (cI, 26, .inl (M 11))), (aM 12, .inl (cI, 26, .inl (M 12))), (aM 13, .inl (cI, 18, .inl (M 13))), (aM 14, .inl (cI, 24, .inl (M 14))), (aM 15, .inl (cB, 4, .inl (M 15))), (aM 16, .inl (cI, 4, .inl (M 16))), (aM 17, .inl (cI, 4, .inl (M 17))), (aM 18, .inl (cI, 192, .inl (M 18))), (aM 19, .inl (cI, 48, .inl (M 19)))]
set_option maxRecDepth 100000 in
set_option maxHeartbeats 4000000 in
theorem n_gl1 (ad aM : Nat → Nat) (b : Nat) (cI cB cS : ClassId) (f : Nat → Int32) (M : qW) : q_ws (n_ad ad aM b) (n_cA cI cB cS) q_sA (n_w0 f M) = n_lit ad aM cI cB cS f M (fun j => (([17, 19, 21, 23] : List Nat)[j]?).map (n_ad ad aM b)) := by
  rw [n_ws_eq]
  rfl
set_option maxRecDepth 100000 in
set_option maxHeartbeats 4000000 in
theorem n_gl2 (ad aM : Nat → Nat) (cI cB cS : ClassId) (f : Nat → Int32) (M : qW) : q_ws ad (n_cA cI cB cS) n_sX (n_wX f) ++ q_ws aM (n_cA cI cB cS) q_sM M = n_lit ad aM cI cB cS f M (fun j => (([17, 19, 21, 23] : List Nat)[j]?).map ad) := by
  rw [n_ws_eq, n_ws_eq]
  rfl
theorem n_glue (ad aM : Nat → Nat) (b : Nat) (cI cB cS : ClassId) (f : Nat → Int32) (M : qW) : q_ws (n_ad ad aM b) (n_cA cI cB cS) q_sA (n_w0 f M) = q_ws ad (n_cA cI cB cS) n_sX (n_wX f) ++ q_ws aM (n_cA cI cB cS) q_sM M := by
  rw [n_gl1, n_gl2, n_she]
theorem n_hR (u r : va_W) : (List.range u.length).map (fun i => (u ++ r)[i]?) = u.map some := by
  apply List.ext_getElem?
  intro i
  rw [List.getElem?_map, List.getElem?_map]
  by_cases hi : i < u.length
  · rw [List.getElem?_range hi, Option.map_some, List.getElem?_append_left hi]
    cases h : u[i]? with
    | none => exact absurd (List.getElem?_eq_none_iff.mp h) (Nat.not_le.mpr hi)
    | some y => rfl
  · rw [List.getElem?_eq_none_iff.mpr (by simp; omega), List.getElem?_eq_none_iff.mpr (Nat.not_lt.mp hi)]
    rfl
theorem n_len {args : Array Value} {s : State} {t : Term} {v : Value} (h : (Term.length t).eval args s none [] s = some v) : ∃ a cell, t.eval args s none [] s = some (.ref a) ∧ s.arrayAt? a = some cell ∧ cell.slots.size < 2 ^ 31 := by
  simp only [Term.eval, Option.bind_eq_bind] at h
  cases ht : t.eval args s none [] s with
  | none => simp [ht] at h
  | some x =>
    cases x <;> simp only [ht, Option.bind_some] at h <;> try cases h
    rename_i a
    cases ha : s.arrayAt? a with
    | none => simp [ha] at h
    | some cell =>
      simp only [ha, Option.bind_some] at h
      by_cases hs : cell.slots.size < 2 ^ 31
      · exact ⟨a, cell, rfl, ha, hs⟩
      · rw [if_neg hs] at h; cases h
set_option maxRecDepth 100000 in
theorem n_first {args : Array Value} {s : State} {cI : ClassId} {A : Nat → Prop} (hlay : (Cond.laysStatic RX4 "FIRST_SIGNS" "[I").before args s = true) (hini : (Cond.initialized RX4).before args s = true) (hg : (Jvm.Cond.and given_1 narrow_1).before args s = true) (hfc : s.vm.findClass "[I" = some cI) (hA : ∀ a : Nat, a < s.heap.size → ¬ A a) : ∃ t : Nat, va_Z RX4 "FIRST_SIGNS" "[I" (.ref t) A s s.heap ∧ n_TC cI 10 (fun j => nI (n_sg j)) t s.heap ∧ ¬ A t := by
  have hs := flat_of_before _ hg
  have harr : (Cond.arrayOf (.static "PrickedPages" "FIRST_SIGNS" "[I") .int).before args s = true := hs _ (by decide +kernel)
  have hlen : (Term.length (.static "PrickedPages" "FIRST_SIGNS" "[I")).eval args s none [] s = some (.int 10) := va_eqt (hs _ (by decide +kernel))
  have hel : ∀ j : Nat, j < 10 → (Term.elem (.static "PrickedPages" "FIRST_SIGNS" "[I") (.int (Int32.ofNat j))).eval args s none [] s = some (.int (nI (n_sg j))) := by
    intro j hj
    match j, hj with
    | 0, _ => exact va_eqt (t := .elem (.static "PrickedPages" "FIRST_SIGNS" "[I") (.int 0)) (z := 1) (hs _ (by decide +kernel))
    | 1, _ => exact va_eqt (t := .elem (.static "PrickedPages" "FIRST_SIGNS" "[I") (.int 1)) (z := 3) (hs _ (by decide +kernel))
    | 2, _ => exact va_eqt (t := .elem (.static "PrickedPages" "FIRST_SIGNS" "[I") (.int 2)) (z := 9) (hs _ (by decide +kernel))
    | 3, _ => exact va_eqt (t := .elem (.static "PrickedPages" "FIRST_SIGNS" "[I") (.int 3)) (z := 25) (hs _ (by decide +kernel))
    | 4, _ => exact va_eqt (t := .elem (.static "PrickedPages" "FIRST_SIGNS" "[I") (.int 4)) (z := 17) (hs _ (by decide +kernel))
    | 5, _ => exact va_eqt (t := .elem (.static "PrickedPages" "FIRST_SIGNS" "[I") (.int 5)) (z := 11) (hs _ (by decide +kernel))
    | 6, _ => exact va_eqt (t := .elem (.static "PrickedPages" "FIRST_SIGNS" "[I") (.int 6)) (z := 27) (hs _ (by decide +kernel))
    | 7, _ => exact va_eqt (t := .elem (.static "PrickedPages" "FIRST_SIGNS" "[I") (.int 7)) (z := 19) (hs _ (by decide +kernel))
    | 8, _ => exact va_eqt (t := .elem (.static "PrickedPages" "FIRST_SIGNS" "[I") (.int 8)) (z := 10) (hs _ (by decide +kernel))
    | 9, _ => exact va_eqt (t := .elem (.static "PrickedPages" "FIRST_SIGNS" "[I") (.int 9)) (z := 26) (hs _ (by decide +kernel))
    | n + 10, h => exact absurd h (by omega)
  have hex : (Cond.exactly (.static "PrickedPages" "FIRST_SIGNS" "[I") "[I").before args s = true := hs _ (by decide +kernel)
  obtain ⟨t, ht, cell, h1, h2, h3, h4, h5, h6, h7⟩ := va_Tof (N := 10) (f := fun j => .int (nI (n_sg j))) (by decide) harr hlen hel hA
  obtain ⟨a, cell', q1, q2, q3⟩ := n_len hlen
  cases ht.symm.trans q1
  cases h1.symm.trans (State.arrayAt?_spec q2).1
  obtain ⟨a2, c, cell2, k, e1, e2, e3, -, -, e6, -⟩ := Cond.exactly_spec (args := args) (first := s) (o := none) (s := s) (idx := []) hex
  cases ht.symm.trans e1
  cases h1.symm.trans e3
  cases hfc.symm.trans e2
  have hsz : cell.slots.size = 10 := by
    have z1 : (Int32.ofNat cell.slots.size).toNatClampNeg = cell.slots.size := Int32.toNatClampNeg_ofNat_of_lt q3
    have z2 : (Int32.ofNat cell.slots.size) = Int32.ofNat 10 := h5
    rw [z2] at z1
    rw [← z1]
    decide
  refine ⟨t, va_Zof hlay hini ht hA, ⟨cell, h1, e6, h2.1, h3, ?_⟩, h7⟩
  apply Array.ext
  · rw [hsz]; exact (arrV_size _ _ _).symm
  · intro i hi1 hi2
    have hi : i < 10 := by rw [← hsz]; exact hi1
    have z1 : cell.slots[i]? = some (.int (nI (n_sg i))) := h6 i hi
    have z2 : (vp_cell cI (10, .inl (fun j => nI (n_sg j)))).slots[i]? = some (.int (nI (n_sg i))) := arrV_read cI (fun j => .int (nI (n_sg j))) hi
    have z3 := z1.trans z2.symm
    rw [Array.getElem?_eq_getElem hi1, Array.getElem?_eq_getElem hi2] at z3
    exact Option.some.inj z3
