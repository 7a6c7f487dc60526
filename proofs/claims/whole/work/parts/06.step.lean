/-! ONE STEP of the pure machine is a step of the machine -/
def q_FX (p : Program) (R : Room) (s : State) (m : MethodId) (args : Array Value) (meth : Method) (c : Code) (D : va_G) (ad : Nat → Nat) (cA : Nat → ClassId) (tys : List (ClassId × FieldType)) (sh : List qS) (sc : qX) (I : qI) (A : Nat → Prop) (cells slots : Nat) : Prop :=
  p.tables.exec = Jvm.exec ∧ c.code = mB I ∧ c.maxLocals = mL I ∧ meth.sig.returnType = mR I ∧ s.vm.findClass (q_nm (mC I)) = some m.cls ∧ (∀ w ∈ q_tbl, w.before args s = true) ∧ q_NW s ∧ (mF I ≤ R.frames ∧ mK I ≤ R.locals ∧ cells ≤ R.cells ∧ slots ≤ R.slots) ∧ va_K D q_cl tys s ∧ q_TY cA tys sh ∧ (∀ q : Nat, s.heap.size ≤ q → A q) ∧ (∀ N xs, sc = some (N, xs) → sh[q_scr]? = none ∧ va_X (ad q_scr) N xs s s.heap ∧ ad q_scr < s.heap.size ∧ ¬ A (ad q_scr))
/-- the cells and the locals -/
def q_RL (s : State) (D : va_G) (ad : Nat → Nat) (cA : Nat → ClassId) (sh : List qS) (I : qI) (A : Nat → Prop) (H : Heap) (locs : List Loc) (L : qL) (w : qW) (ls : Array Slot) : Prop :=
  va_P D q_cl (q_ws ad cA sh w) H ∧ va_D A (q_ws ad cA sh w) ∧ va_S A s.heap H locs ∧ lv_has ls (mL I) (q_lv ad L) ∧ L.length = mL I
theorem q_go_eq {pc pc' : Nat} {L L' : qL} {S S' : List Value} {w w' : qW} (h : q_go pc L S w = some (.inl (pc', L', S', w'))) : pc = pc' ∧ L = L' ∧ S = S' ∧ w = w' := by
  simp only [q_go, Option.some.injEq, Sum.inl.injEq, Prod.mk.injEq] at h
  exact ⟨h.1, h.2.1, h.2.2.1, h.2.2.2⟩
theorem q_b1_eq {len pc pc' : Nat} {L L' : qL} {S S' : List Value} {w w' : qW} {f : Int32 → Int32 → Int32} (h : q_b1 len pc L S w f = some (.inl (pc', L', S', w'))) : ∃ x y r, len = 1 ∧ S = .int y :: .int x :: r ∧ pc + 1 = pc' ∧ L = L' ∧ .int (f x y) :: r = S' ∧ w = w' := by
  unfold q_b1 at h
  split at h
  · obtain ⟨h1, h2, h3, h4⟩ := q_go_eq h
    exact ⟨_, _, _, rfl, rfl, h1, h2, h3, h4⟩
  · cases h
theorem q_u1_eq {len pc pc' : Nat} {L L' : qL} {S S' : List Value} {w w' : qW} {f : Int32 → Value} (h : q_u1 len pc L S w f = some (.inl (pc', L', S', w'))) : ∃ x r, len = 1 ∧ S = .int x :: r ∧ pc + 1 = pc' ∧ L = L' ∧ f x :: r = S' ∧ w = w' := by
  unfold q_u1 at h
  split at h
  · obtain ⟨h1, h2, h3, h4⟩ := q_go_eq h
    exact ⟨_, _, rfl, rfl, h1, h2, h3, h4⟩
  · cases h
theorem q_ld_eq {len len0 pc i pc' : Nat} {L L' : qL} {S S' : List Value} {w w' : qW} {ok : Value → Bool} (h : q_ld len len0 pc L i S w ok = some (.inl (pc', L', S', w'))) : ∃ v, len = len0 ∧ L[i]? = some (some v) ∧ ok v = true ∧ pc + len0 = pc' ∧ L = L' ∧ v :: S = S' ∧ w = w' := by
  unfold q_ld at h
  split at h
  · rename_i hl
    split at h
    · rename_i v hv
      split at h
      · rename_i ho
        obtain ⟨h1, h2, h3, h4⟩ := q_go_eq h
        exact ⟨v, hl, hv, ho, h1, h2, h3, h4⟩
      · cases h
    · cases h
  · cases h
theorem q_sv_eq {len len0 pc i pc' : Nat} {L L' : qL} {S S' : List Value} {w w' : qW} {ok : Value → Bool} (h : q_sv len len0 pc L i S w ok = some (.inl (pc', L', S', w'))) : ∃ v r, len = len0 ∧ S = v :: r ∧ ok v = true ∧ q_st L i v = some L' ∧ pc + len0 = pc' ∧ r = S' ∧ w = w' := by
  unfold q_sv at h
  split at h
  · rename_i hl
    split at h
    · rename_i v r
      split at h
      · rename_i ho
        split at h
        · rename_i L1 hL1
          obtain ⟨h1, h2, h3, h4⟩ := q_go_eq h
          subst h2
          exact ⟨v, r, hl, rfl, ho, hL1, h1, h3, h4⟩
        · cases h
      · cases h
    · cases h
  · cases h
theorem q_to_eq {pc t : Nat} {off : Int} (h : q_to pc off = some t) : (pc : Int) + off = (t : Int) := by
  unfold q_to at h
  split at h
  · rename_i u hu
    cases h
    exact hu
  · cases h
theorem q_or_vp {i : Int32} {n : Nat} (h : ¬ (i < 0 ∨ n ≤ i.toNatClampNeg)) : vp_in i n := h
theorem q_room_rest {m : MethodId} {pc : Nat} {ls : Array Slot} {S : List Value} {ad : Nat → Nat} {r : List Value} (h : q_cat r ≤ 8) : 2 * (F0 m pc ls S).monitorRoom + ((r.map (q_iv ad)).map fun v => v.category).sum ≤ 8 := lv_room (by rw [q_iv_cats]; exact h)
section Q6
variable {p : Program} {l : Launch} {e : Env} {R : Room} {s : State} {m : MethodId} {args : Array Value} {below : List Frame} {meth : Method} {c : Code} {H : Heap} {locs : List Loc} {cells slots : Nat} {Q : State → Prop}
variable {D : va_G} {ad : Nat → Nat} {cA : Nat → ClassId} {tys : List (ClassId × FieldType)} {sh : List qS} {sc : qX} {I : qI} {A : Nat → Prop} {pc len pc' : Nat} {ins : Instr} {L L' : qL} {S S' : List Value} {w w' : qW} {ls : Array Slot}
set_option maxHeartbeats 4000000 in
theorem q_load1 (F : q_FX p R s m args meth c D ad cA tys sh sc I A cells slots) (rel : q_RL s D ad cA sh I A H locs L w ls)
    (kk : ∀ (H' : Heap) (locs' : List Loc) (ls' : Array Slot), q_RL s D ad cA sh I A H' locs' L' w' ls' → W p l e R s m args below meth c H' locs' cells slots Q (F0 m pc' ls' (S'.map (q_iv ad)))) :
    (∀ k, decode (mB I) pc = .ok (.iload_n k, len) → q_ld len 1 pc L k.val S w q_vi = some (.inl (pc', L', S', w')) → W p l e R s m args below meth c H locs cells slots Q (F0 m pc ls (S.map (q_iv ad)))) ∧
    (∀ k, decode (mB I) pc = .ok (.iload k, len) → q_ld len 2 pc L k S w q_vi = some (.inl (pc', L', S', w')) → W p l e R s m args below meth c H locs cells slots Q (F0 m pc ls (S.map (q_iv ad)))) ∧
    (∀ k, decode (mB I) pc = .ok (.lload_n k, len) → q_ld len 1 pc L k.val S w q_vl = some (.inl (pc', L', S', w')) → W p l e R s m args below meth c H locs cells slots Q (F0 m pc ls (S.map (q_iv ad)))) ∧
    (∀ k, decode (mB I) pc = .ok (.aload_n k, len) → q_ld len 1 pc L k.val S w q_va = some (.inl (pc', L', S', w')) → W p l e R s m args below meth c H locs cells slots Q (F0 m pc ls (S.map (q_iv ad)))) ∧
    (∀ k, decode (mB I) pc = .ok (.aload k, len) → q_ld len 2 pc L k S w q_va = some (.inl (pc', L', S', w')) → W p l e R s m args below meth c H locs cells slots Q (F0 m pc ls (S.map (q_iv ad)))) := by
  obtain ⟨hx, hb, -⟩ := F
  have hl := rel.2.2.2.1
  refine ⟨fun k hd h => ?_, fun k hd h => ?_, fun k hd h => ?_, fun k hd h => ?_, fun k hd h => ?_⟩
  all_goals
    obtain ⟨v, rfl, hv, ho, rfl, rfl, rfl, rfl⟩ := q_ld_eq h
    have hg := q_lv_get hl hv
  · cases v <;> first | (simp [q_vi] at ho; done) | exact lv_iload_n hx hb hd rfl hg (kk _ _ _ rel)
  · cases v <;> first | (simp [q_vi] at ho; done) | exact lv_iload hx hb hd hg (kk _ _ _ rel)
  · cases v <;> first | (simp [q_vl] at ho; done) | exact lv_lload_n hx hb hd rfl hg (kk _ _ _ rel)
  · cases v <;> first | (simp [q_va] at ho; done) | exact lv_aload_n hx hb hd rfl hg (kk _ _ _ rel) | exact lv_aload_nN hx hb hd rfl hg (kk _ _ _ rel)
  · cases v <;> first | (simp [q_va] at ho; done) | exact lv_aload hx hb hd hg (kk _ _ _ rel) | exact lv_aloadN hx hb hd hg (kk _ _ _ rel)
set_option maxHeartbeats 4000000 in
theorem q_store1 (F : q_FX p R s m args meth c D ad cA tys sh sc I A cells slots) (rel : q_RL s D ad cA sh I A H locs L w ls)
    (kk : ∀ (H' : Heap) (locs' : List Loc) (ls' : Array Slot), q_RL s D ad cA sh I A H' locs' L' w' ls' → W p l e R s m args below meth c H' locs' cells slots Q (F0 m pc' ls' (S'.map (q_iv ad)))) :
    (∀ k, decode (mB I) pc = .ok (.istore_n k, len) → q_sv len 1 pc L k.val S w q_vi = some (.inl (pc', L', S', w')) → W p l e R s m args below meth c H locs cells slots Q (F0 m pc ls (S.map (q_iv ad)))) ∧
    (∀ k, decode (mB I) pc = .ok (.istore k, len) → q_sv len 2 pc L k S w q_vi = some (.inl (pc', L', S', w')) → W p l e R s m args below meth c H locs cells slots Q (F0 m pc ls (S.map (q_iv ad)))) ∧
    (∀ k, decode (mB I) pc = .ok (.astore_n k, len) → q_sv len 1 pc L k.val S w q_va = some (.inl (pc', L', S', w')) → W p l e R s m args below meth c H locs cells slots Q (F0 m pc ls (S.map (q_iv ad)))) ∧
    (∀ k, decode (mB I) pc = .ok (.astore k, len) → q_sv len 2 pc L k S w q_va = some (.inl (pc', L', S', w')) → W p l e R s m args below meth c H locs cells slots Q (F0 m pc ls (S.map (q_iv ad)))) := by
  obtain ⟨hx, hb, -⟩ := F
  obtain ⟨hP, hD, hS, hl, hn⟩ := rel
  have go : ∀ (v : Value) (i : Nat) (ls' : Array Slot), q_st L i v = some L' → w = w' → lv_has ls' (mL I) ((i, q_iv ad v) :: (q_lv ad L).filter (fun q => !(q.1 == i) && !(q.1 + 1 == i && q.2.category == 2))) → W p l e R s m args below meth c H locs cells slots Q (F0 m pc' ls' (S'.map (q_iv ad))) := by
    intro v i ls' h1 h2 h3
    subst h2
    obtain ⟨h4, h5⟩ := q_lv_set h1 h3
    exact kk _ _ _ ⟨hP, hD, hS, h4, by rw [h5]; exact hn⟩
  refine ⟨fun k hd h => ?_, fun k hd h => ?_, fun k hd h => ?_, fun k hd h => ?_⟩
  all_goals
    obtain ⟨v, r, rfl, rfl, ho, hst, rfl, rfl, rfl⟩ := q_sv_eq h
    have hk := q_st_lt hst
    rw [hn] at hk
  · cases v <;> first | (simp [q_vi] at ho; done) | exact lv_istore_n hx hb hd rfl hl hk rfl (fun ls' h => go _ _ ls' hst rfl h)
  · cases v <;> first | (simp [q_vi] at ho; done) | exact lv_istore hx hb hd hl hk rfl (fun ls' h => go _ _ ls' hst rfl h)
  · cases v <;> first | (simp [q_va] at ho; done) | exact lv_astore_n hx hb hd rfl hl hk rfl (fun ls' h => go _ _ ls' hst rfl h) | exact lv_astore_nN hx hb hd rfl hl hk rfl (fun ls' h => go _ _ ls' hst rfl h)
  · cases v <;> first | (simp [q_va] at ho; done) | exact lv_astore hx hb hd hl hk rfl (fun ls' h => go _ _ ls' hst rfl h) | exact lv_astoreN hx hb hd hl hk rfl (fun ls' h => go _ _ ls' hst rfl h)
end Q6
