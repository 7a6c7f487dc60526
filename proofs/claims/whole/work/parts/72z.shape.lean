/-! the pure machine's lists of cells, written out -/
def n_mi {α β : Type} (f : Nat → α → β) : Nat → List α → List β
  | _, [] => []
  | i, x :: r => f i x :: n_mi f (i + 1) r
theorem n_mi_at {α β : Type} (f : Nat → α → β) : ∀ (l : List α) (i j : Nat), (n_mi f i l)[j]? = (l[j]?).map (f (i + j)) := by
  intro l
  induction l with
  | nil => intro i j; simp [n_mi]
  | cons x r ih =>
    intro i j
    cases j with
    | zero => simp [n_mi]
    | succ j => simp only [n_mi, List.getElem?_cons_succ]; rw [ih, show i + 1 + j = i + (j + 1) by omega]
theorem n_mi_eq {α β : Type} (f : Nat → α → β) (l : List α) : l.mapIdx f = n_mi f 0 l := by
  apply List.ext_getElem?
  intro j
  rw [n_mi_at, List.getElem?_mapIdx, Nat.zero_add]
def n_f1 (ad : Nat → Nat) (v : Nat → Int32) (j : Nat) (x : Option Nat) : Value := match x with
  | none => .int (v j)
  | some r => .ref (ad r)
def n_e1 (ad : Nat → Nat) (cA : Nat → ClassId) (w : qW) (k : Nat) (x : qS) : Nat × va_E := match x with
  | .inl (t, n) => (ad k, .inl (cA t, n, .inl (w k)))
  | .inr (.inl (t, ks)) => (ad k, .inl (cA t, ks.length, .inr (.inr (.inr (.inr (fun j => (ks[j]?).map ad))))))
  | .inr (.inr (ci, fs)) => (ad k, .inr (ci, n_mi (n_f1 ad (w k)) 0 fs))
theorem n_e1_eq (ad : Nat → Nat) (cA : Nat → ClassId) (w : qW) (k : Nat) (x : qS) : (ad k, q_en1 ad cA w k x) = n_e1 ad cA w k x := by
  rcases x with ⟨t, n⟩ | ⟨t, ks⟩ | ⟨ci, fs⟩
  · rfl
  · rfl
  · have h : q_fs ad w k fs = n_mi (n_f1 ad (w k)) 0 fs := by
      rw [← n_mi_eq]
      apply List.ext_getElem?
      intro j
      simp only [q_fs, List.getElem?_mapIdx]
      cases fs[j]? with
      | none => rfl
      | some y => cases y <;> rfl
    simp only [q_en1, n_e1, h]
theorem n_ws_eq (ad : Nat → Nat) (cA : Nat → ClassId) (sh : List qS) (w : qW) : q_ws ad cA sh w = n_mi (n_e1 ad cA w) 0 sh := by
  rw [← n_mi_eq]
  unfold q_ws
  congr 1
  funext k x
  exact n_e1_eq ad cA w k x
def n_sX : List qS := [.inr (.inr (4, [some 1, some 3, some 8, some 12, some 13, none, none, none, some 14, some 15, some 16, none, some 25, some 26])),
  .inr (.inr (2, [some 2, none])), .inl (0, 24), .inr (.inr (3, [some 4, some 6, some 7, none, none])), .inr (.inr (2, [some 5, none])), .inl (0, 60), .inl (0, 48), .inl (0, 8),
  .inr (.inr (1, [some 9, some 10, some 11, none])), .inl (0, 12), .inl (0, 12), .inl (0, 12), .inl (0, 10), .inl (0, 24), .inl (0, 8), .inl (0, 18),
  .inr (.inl (2, [17, 19, 21, 23])), .inr (.inr (0, [some 18, none, none])), .inl (0, 48), .inr (.inr (0, [some 20, none, none])), .inl (0, 48), .inr (.inr (0, [some 22, none, none])), .inl (0, 48), .inr (.inr (0, [some 24, none, none])), .inl (0, 48),
  .inl (0, 24), .inl (0, 25)]
/-- what the class's constructor leaves -/
def n_wX (f : Nat → Int32) : qW := fun k => match k with
  | 0 => fun j => match j with
    | 6 => 1
    | 7 => 2
    | _ => 0
  | 3 => fun j => match j with
    | 4 => -1
    | _ => 0
  | 12 => fun j => nI (n_sg j)
  | 14 => f
  | 17 => fun j => match j with
    | 1 => -1
    | _ => 0
  | 19 => fun j => match j with
    | 1 => -1
    | _ => 0
  | 21 => fun j => match j with
    | 1 => -1
    | _ => 0
  | 23 => fun j => match j with
    | 1 => -1
    | _ => 0
  | _ => fun _ => 0
set_option maxRecDepth 100000 in
theorem n_eqX (ad : Nat → Nat) (cI cB cS : ClassId) (f : Nat → Int32) : q_ws ad (n_cA cI cB cS) n_sX (n_wX f) = [(ad 0, .inr (4, [.ref (ad 1), .ref (ad 3), .ref (ad 8), .ref (ad 12), .ref (ad 13), .int (0), .int (1), .int (2), .ref (ad 14), .ref (ad 15), .ref (ad 16), .int (0), .ref (ad 25), .ref (ad 26)])), (ad 1, .inr (2, [.ref (ad 2), .int (0)])), (ad 2, .inl (cI, 24, .inl (fun _ => 0))), (ad 3, .inr (3, [.ref (ad 4), .ref (ad 6), .ref (ad 7), .int (0), .int (-1)])), (ad 4, .inr (2, [.ref (ad 5), .int (0)])), (ad 5, .inl (cI, 60, .inl (fun _ => 0))), (ad 6, .inl (cI, 48, .inl (fun _ => 0))), (ad 7, .inl (cI, 8, .inl (fun _ => 0))), (ad 8, .inr (1, [.ref (ad 9), .ref (ad 10), .ref (ad 11), .int (0)])), (ad 9, .inl (cI, 12, .inl (fun _ => 0))), (ad 10, .inl (cI, 12, .inl (fun _ => 0))), (ad 11, .inl (cI, 12, .inl (fun _ => 0))), (ad 12, .inl (cI, 10, .inl (fun j => nI (n_sg j)))), (ad 13, .inl (cI, 24, .inl (fun _ => 0))), (ad 14, .inl (cI, 8, .inl (f))), (ad 15, .inl (cI, 18, .inl (fun _ => 0))), (ad 16, .inl (cS, 4, .inr (.inr (.inr (.inr (fun j => (([17, 19, 21, 23] : List Nat)[j]?).map ad)))))), (ad 17, .inr (0, [.ref (ad 18), .int (-1), .int (0)])), (ad 18, .inl (cI, 48, .inl (fun _ => 0))), (ad 19, .inr (0, [.ref (ad 20), .int (-1), .int (0)])), (ad 20, .inl (cI, 48, .inl (fun _ => 0))), (ad 21, .inr (0, [.ref (ad 22), .int (-1), .int (0)])), (ad 22, .inl (cI, 48, .inl (fun _ => 0))), (ad 23, .inr (0, [.ref (ad 24), .int (-1), .int (0)])), (ad 24, .inl (cI, 48, .inl (fun _ => 0))), (ad 25, .inl (cI, 24, .inl (fun _ => 0))), (ad 26, .inl (cI, 25, .inl (fun _ => 0)))] := by
  rw [n_ws_eq]
  rfl
set_option maxRecDepth 100000 in
theorem n_eqM (ad : Nat → Nat) (cI cB cS : ClassId) : q_ws ad (n_cA cI cB cS) q_sM (fun _ _ => 0) = [(ad 0, .inr (5, [.ref (ad 1), .ref (ad 2), .ref (ad 3), .int (0), .ref (ad 4), .int (0), .ref (ad 5), .ref (ad 6), .int (0), .int (0), .ref (ad 7), .int (0), .ref (ad 8), .ref (ad 9), .ref (ad 10), .ref (ad 11), .ref (ad 12), .ref (ad 13), .ref (ad 14), .ref (ad 15), .ref (ad 16), .ref (ad 17), .ref (ad 18), .ref (ad 19), .int (0)])), (ad 1, .inl (cI, 10, .inl (fun _ => 0))), (ad 2, .inl (cI, 2, .inl (fun _ => 0))), (ad 3, .inl (cI, 120, .inl (fun _ => 0))), (ad 4, .inl (cI, 24, .inl (fun _ => 0))), (ad 5, .inl (cI, 54, .inl (fun _ => 0))), (ad 6, .inl (cI, 9, .inl (fun _ => 0))), (ad 7, .inl (cI, 8, .inl (fun _ => 0))), (ad 8, .inl (cI, 12, .inl (fun _ => 0))), (ad 9, .inl (cI, 12, .inl (fun _ => 0))), (ad 10, .inl (cI, 12, .inl (fun _ => 0))), (ad 11, .inl (cI, 26, .inl (fun _ => 0))), (ad 12, .inl (cI, 26, .inl (fun _ => 0))), (ad 13, .inl (cI, 18, .inl (fun _ => 0))), (ad 14, .inl (cI, 24, .inl (fun _ => 0))), (ad 15, .inl (cB, 4, .inl (fun _ => 0))), (ad 16, .inl (cI, 4, .inl (fun _ => 0))), (ad 17, .inl (cI, 4, .inl (fun _ => 0))), (ad 18, .inl (cI, 192, .inl (fun _ => 0))), (ad 19, .inl (cI, 48, .inl (fun _ => 0)))] := by
  rw [n_ws_eq]
  rfl
