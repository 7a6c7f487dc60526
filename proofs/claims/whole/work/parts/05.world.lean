/-! the pure machine's cells in the heap, its locals in the frame -/
def q_iv (ad : Nat → Nat) (v : Value) : Value := match v with
  | .ref k => .ref (ad k)
  | v => v
theorem q_iv_cat (ad : Nat → Nat) (v : Value) : (q_iv ad v).category = v.category := by cases v <;> rfl
theorem q_iv_cats (ad : Nat → Nat) (r : List Value) : ((r.map (q_iv ad)).map fun v => v.category).sum = q_cat r := by
  unfold q_cat
  rw [List.map_map]
  congr 1
  apply List.map_congr_left
  intro v _
  exact q_iv_cat ad v
def q_fs (ad : Nat → Nat) (w : qW) (k : Nat) (fs : List (Option Nat)) : List Value := fs.mapIdx (fun j x => match x with
  | none => .int (w k j)
  | some r => .ref (ad r))
def q_en1 (ad : Nat → Nat) (cA : Nat → ClassId) (w : qW) (k : Nat) (x : qS) : va_E := match x with
  | .inl (t, n) => .inl (cA t, n, .inl (w k))
  | .inr (.inl (t, ks)) => .inl (cA t, ks.length, .inr (.inr (.inr (.inr (fun j => (ks[j]?).map ad)))))
  | .inr (.inr (ci, fs)) => .inr (ci, q_fs ad w k fs)
def q_ws (ad : Nat → Nat) (cA : Nat → ClassId) (sh : List qS) (w : qW) : va_W := sh.mapIdx (fun k x => (ad k, q_en1 ad cA w k x))
section QW
variable {ad : Nat → Nat} {cA : Nat → ClassId} {sh : List qS} {w w' : qW} {k : Nat} {x : qS}
theorem q_ws_at (h : sh[k]? = some x) : (q_ws ad cA sh w)[k]? = some (ad k, q_en1 ad cA w k x) := by
  simp [q_ws, List.getElem?_mapIdx, h]
theorem q_en1_eq (h : w' k = w k) : q_en1 ad cA w' k x = q_en1 ad cA w k x := by
  rcases x with ⟨t, n⟩ | ⟨t, ks⟩ | ⟨ci, fs⟩
  · simp only [q_en1, h]
  · rfl
  · simp only [q_en1, q_fs, h]
theorem q_ws_set {v : va_E} (hx : sh[k]? = some x) (hw : ∀ a, a ≠ k → w' a = w a) (hv : q_en1 ad cA w' k x = v) : (q_ws ad cA sh w).set k (ad k, v) = q_ws ad cA sh w' := by
  subst hv
  apply List.ext_getElem?
  intro i
  have hk : k < sh.length := (List.getElem?_eq_some_iff.mp hx).1
  by_cases hi : k = i
  · subst hi
    rw [List.getElem?_set_self (by simp [q_ws, hk]), q_ws_at hx]
  · rw [List.getElem?_set_ne hi]
    simp only [q_ws, List.getElem?_mapIdx]
    cases sh[i]? with
    | none => rfl
    | some y => simp only [Option.map_some]; rw [q_en1_eq (hw i (fun q => hi q.symm))]
theorem q_ws_D {A : Nat → Prop} (h : va_D A (q_ws ad cA sh w)) : va_D A (q_ws ad cA sh w') := by
  have key : ∀ (i : Nat) (q : Nat × va_E), (q_ws ad cA sh w')[i]? = some q → ∃ q', (q_ws ad cA sh w)[i]? = some q' ∧ q'.1 = q.1 := by
    intro i q hq
    simp only [q_ws, List.getElem?_mapIdx] at hq ⊢
    cases hs : sh[i]? with
    | none => rw [hs] at hq; simp at hq
    | some y =>
      rw [hs] at hq
      simp only [Option.map_some, Option.some.injEq] at hq
      subst hq
      exact ⟨_, rfl, rfl⟩
  refine ⟨fun i j p q hp hq hpq => ?_, fun i q hq => ?_⟩
  · obtain ⟨p', hp', e1⟩ := key i p hp
    obtain ⟨q', hq', e2⟩ := key j q hq
    exact h.1 i j p' q' hp' hq' (by rw [e1, e2, hpq])
  · obtain ⟨q', hq', e1⟩ := key i q hq
    rw [← e1]
    exact h.2 i q' hq'
theorem q_fs_at {fs : List (Option Nat)} {j : Nat} {o : Option Nat} (h : fs[j]? = some o) : (q_fs ad w k fs)[j]? = some (match o with
  | none => .int (w k j)
  | some r => .ref (ad r)) := by
  simp [q_fs, List.getElem?_mapIdx, h]
  cases o <;> rfl
theorem q_up_at (w : qW) (k j : Nat) (v : Int32) : q_up w k j v k = upd (w k) j v := by simp [q_up]
theorem q_up_ne (w : qW) {a k : Nat} (j : Nat) (v : Int32) (h : a ≠ k) : q_up w k j v a = w a := by simp [q_up, h]
theorem q_row_at (w : qW) (k : Nat) (f : Nat → Int32) : q_row w k f k = f := by simp [q_row]
theorem q_row_ne (w : qW) {a k : Nat} (f : Nat → Int32) (h : a ≠ k) : q_row w k f a = w a := by simp [q_row, h]
theorem q_fs_set {fs : List (Option Nat)} {j : Nat} {v : Int32} (h : fs[j]? = some none) : q_fs ad (q_up w k j v) k fs = (q_fs ad w k fs).set j (.int v) := by
  apply List.ext_getElem?
  intro i
  have hj : j < fs.length := (List.getElem?_eq_some_iff.mp h).1
  by_cases hi : j = i
  · subst hi
    rw [List.getElem?_set_self (by simp [q_fs, hj])]
    simp [q_fs, List.getElem?_mapIdx, h, q_up_at, upd]
  · rw [List.getElem?_set_ne hi]
    simp only [q_fs, List.getElem?_mapIdx, q_up_at]
    cases fs[i]? with
    | none => rfl
    | some y =>
      cases y with
      | none => simp only [Option.map_some, upd, if_neg (fun q => hi (Eq.symm q))]
      | some r => rfl
end QW
def q_ty (t : Nat) : FieldType := match t with
  | 0 => .int
  | 1 => .boolean
  | _ => .object RX0
def q_TY (cA : Nat → ClassId) (tys : List (ClassId × FieldType)) (sh : List qS) : Prop := ∀ k t : Nat, ((∃ n, sh[k]? = some (.inl (t, n))) ∨ ∃ ks, sh[k]? = some (.inr (.inl (t, ks)))) → tys[t]? = some (cA t, q_ty t)
def q_lv (ad : Nat → Nat) (L : qL) : List (Nat × Value) := (List.range L.length).filterMap (fun i => match L[i]? with
  | some (some v) => some (i, q_iv ad v)
  | _ => none)
theorem q_lv_mem {ad : Nat → Nat} {L : qL} {i : Nat} {u : Value} : (i, u) ∈ q_lv ad L ↔ ∃ v, L[i]? = some (some v) ∧ u = q_iv ad v := by
  unfold q_lv
  rw [List.mem_filterMap]
  constructor
  · rintro ⟨a, -, h⟩
    split at h
    · rename_i v hv
      simp only [Option.some.injEq, Prod.mk.injEq] at h
      obtain ⟨rfl, rfl⟩ := h
      exact ⟨v, hv, rfl⟩
    · cases h
  · rintro ⟨v, hv, rfl⟩
    refine ⟨i, List.mem_range.mpr (List.getElem?_eq_some_iff.mp hv).1, ?_⟩
    rw [hv]
theorem lv_mono {ls : Array Slot} {n : Nat} {l l' : List (Nat × Value)} (h : lv_has ls n l) (hm : ∀ q ∈ l', q ∈ l) : lv_has ls n l' := ⟨h.1, h.2.1, fun q hq => h.2.2 q (hm q hq)⟩
theorem q_lv_get {ls : Array Slot} {n i : Nat} {ad : Nat → Nat} {L : qL} {v : Value} (h : lv_has ls n (q_lv ad L)) (hi : L[i]? = some (some v)) : ls[i]? = some (.val (q_iv ad v)) := h.2.2 (i, q_iv ad v) (q_lv_mem.mpr ⟨v, hi, rfl⟩)
theorem q_fr_cat {L : qL} {i j : Nat} {v : Value} (h : q_fr L i = true) (hj : j + 1 = i) (hv : L[j]? = some (some v)) : v.category = 1 := by
  subst hj
  simp only [q_fr, hv] at h
  simpa using h
theorem q_lv_set {ls : Array Slot} {n i : Nat} {ad : Nat → Nat} {L L' : qL} {v : Value} (h : q_st L i v = some L') (hl : lv_has ls n ((i, q_iv ad v) :: (q_lv ad L).filter (fun q => !(q.1 == i) && !(q.1 + 1 == i && q.2.category == 2)))) : lv_has ls n (q_lv ad L') ∧ L'.length = L.length := by
  unfold q_st at h
  split at h
  · rename_i hc
    cases h
    refine ⟨lv_mono hl fun q hq => ?_, by simp⟩
    obtain ⟨j, u⟩ := q
    obtain ⟨v', hv', rfl⟩ := q_lv_mem.mp hq
    by_cases hj : i = j
    · subst hj
      rw [List.getElem?_set_self hc.1] at hv'
      cases hv'
      exact List.mem_cons_self
    · rw [List.getElem?_set_ne hj] at hv'
      refine List.mem_cons_of_mem _ (List.mem_filter.mpr ⟨q_lv_mem.mpr ⟨v', hv', rfl⟩, ?_⟩)
      have hji : ¬ j = i := fun q => hj q.symm
      by_cases h1 : j + 1 = i
      · have h2 := q_fr_cat hc.2 h1 hv'
        simp [hji, q_iv_cat, h2]
      · simp [hji, h1]
  · cases h
theorem q_lv_set2 {ls : Array Slot} {n i : Nat} {ad : Nat → Nat} {L L' : qL} {v : Value} (h : q_st2 L i v = some L') (hl : lv_has ls n ((i, q_iv ad v) :: (q_lv ad L).filter (fun q => !(q.1 == i) && (!(q.1 == i + 1) && !(q.1 + 1 == i && q.2.category == 2))))) : lv_has ls n (q_lv ad L') ∧ L'.length = L.length := by
  unfold q_st2 at h
  split at h
  · rename_i hc
    cases h
    refine ⟨lv_mono hl fun q hq => ?_, by simp⟩
    obtain ⟨j, u⟩ := q
    obtain ⟨v', hv', rfl⟩ := q_lv_mem.mp hq
    by_cases hk : i + 1 = j
    · subst hk
      rw [List.getElem?_set_self (by simp; exact hc.1)] at hv'
      cases hv'
    rw [List.getElem?_set_ne hk] at hv'
    by_cases hj : i = j
    · subst hj
      rw [List.getElem?_set_self (by omega)] at hv'
      cases hv'
      exact List.mem_cons_self
    · rw [List.getElem?_set_ne hj] at hv'
      refine List.mem_cons_of_mem _ (List.mem_filter.mpr ⟨q_lv_mem.mpr ⟨v', hv', rfl⟩, ?_⟩)
      have hji : ¬ j = i := fun q => hj q.symm
      have hjk : ¬ j = i + 1 := fun q => hk q.symm
      by_cases h1 : j + 1 = i
      · have h2 := q_fr_cat hc.2 h1 hv'
        simp [hji, hjk, q_iv_cat, h2]
      · simp [hji, hjk, h1]
  · cases h
theorem q_st_lt {L L' : qL} {i : Nat} {v : Value} (h : q_st L i v = some L') : i < L.length := by
  unfold q_st at h
  split at h
  · rename_i hc; exact hc.1
  · cases h
theorem q_st2_lt {L L' : qL} {i : Nat} {v : Value} (h : q_st2 L i v = some L') : i + 1 < L.length := by
  unfold q_st2 at h
  split at h
  · rename_i hc; exact hc.1
  · cases h
theorem q_ic_nat (k : Nat) : Int32.ofInt (k : Int) = Int32.ofNat k := by
  rw [← Int32.toBitVec_inj]
  simp [Int32.ofInt, Int32.ofNat]
theorem q_ic_eq (n : Int) : Int32.ofInt n = q_ic n := by
  cases n with
  | ofNat k => exact q_ic_nat k
  | negSucc k =>
    simp only [q_ic, Int.negSucc_eq]
    rw [Int32.ofInt_neg]
    exact congrArg _ (q_ic_nat (k + 1))
theorem q_ic8 {n : Int} (h1 : -128 ≤ n) (h2 : n < 128) : (Int8.ofInt n).toInt32 = q_ic n := by
  rw [← q_ic_eq, ← Int32.toInt_inj, Int8.toInt_toInt32, Int8.toInt_ofInt_of_le (by simpa using h1) (by simpa using h2), Int32.toInt_ofInt_of_le (by simp; omega) (by simp; omega)]
