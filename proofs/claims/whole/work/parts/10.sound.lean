/-! THE RUN -/
section Q10
variable {p : Program} {e : Env} {R : Room} {s : State} {m : MethodId} {args : Array Value} {below : List Frame} {meth : Method} {c : Code} {H : Heap} {locs : List Loc} {cells slots : Nat} {Q : State → Prop}
variable {D : va_G} {ad : Nat → Nat} {cA : Nat → ClassId} {tys : List (ClassId × FieldType)} {sh : List qS}
def q_Ok (l : Launch) (D : va_G) (ad : Nat → Nat) (cA : Nat → ClassId) (tys : List (ClassId × FieldType)) (sh : List qS) (f : Nat) : Prop :=
  ∀ (sc : qX) (I : qI) (pc : Nat) (L : qL) (S : List Value) (w : qW) (r : Option Value × qW), q_ex q_tb sh f sc I pc L S w = some r →
    ∀ (p : Program) (e : Env) (R : Room) (s : State) (m : MethodId) (args : Array Value) (below : List Frame) (meth : Method) (c : Code) (H : Heap) (locs : List Loc) (cells slots : Nat) (Q : State → Prop) (A : Nat → Prop) (ls : Array Slot),
      q_FX p R s m args meth c D ad cA tys sh sc I A cells slots → q_RL s D ad cA sh I A H locs L w ls →
      (∀ (pc' : Nat) (ls' : Array Slot) (H' : Heap) (locs' : List Loc), va_P D q_cl (q_ws ad cA sh r.2) H' → va_S A s.heap H' locs' → q_RT I pc' r.1 → W p l e R s m args below meth c H' locs' cells slots Q (F0 m pc' ls' (r.1.toList.map (q_iv ad)))) →
      W p l e R s m args below meth c H locs cells slots Q (F0 m pc ls (S.map (q_iv ad)))
set_option maxHeartbeats 4000000 in
theorem q_met_of {l : Launch} {f : Nat} (ok : q_Ok l D ad cA tys sh f) (hTY : q_TY cA tys sh) {I : qI} {as : List Value} {w : qW} {L0 : qL} {r : Option Value × qW} (hc : Cond.code (mY I) (mB I) (mL I) (mR I) ∈ q_tbl) (hp : plainName (mY I).cls = true) (hn : (mY I).cls = q_nm (mC I))
    (he : q_ent (mL I) as = some L0) (h : q_ex q_tb sh f none I 0 L0 [] w = some r) : q_Mt l D ad cA tys sh I as w r := by
  intro sz
  refine Met.ofW (cc := mB I) (maxL := mL I) (ret := mR I) (ws' := q_tbl) hp rfl ?_
  intro p e s m args below meth c s₁ B hml hv
  obtain ⟨rfl, hsz, hP, hK, hD0, hNW⟩ := hv
  have hx := B.exec
  have hb := B.bytes
  have hr := B.returns
  have hts : ∀ w ∈ q_tbl, w.before (as.map (q_iv ad)).toArray s = true := fun w hw => atoms_spec (ws := q_wsm I) B.pre w (List.mem_cons_of_mem _ hw)
  have hown : s.vm.findClass (q_nm (mC I)) = some m.cls := by rw [← hn]; exact findClass_of_methodNamed B.named
  have hlocks := B.notSynchronized
  subst hsz
  obtain ⟨hL0, hl⟩ := q_entl (ad := ad) he
  rw [lg_entry_eq]
  generalize (lg_sl (as.map (q_iv ad)) ++ List.replicate (mL I - (lg_sl (as.map (q_iv ad))).length) Slot.unset).toArray = ls at hl ⊢
  have hA : ∀ q : Nat, s.heap.size ≤ q → va_A (q_ws ad cA sh w) s.heap.size q := fun q h => Or.inr h
  refine ok none I 0 L0 [] w r h p e (q_rm I) s m _ below meth c s.heap [] 0 0 _ (va_A (q_ws ad cA sh w) s.heap.size) ls ⟨hx, hb, hml, hr, hown, hts, hNW, ⟨Nat.le_refl _, Nat.le_refl _, Nat.le_refl _, Nat.le_refl _⟩, hK, hTY, hA, fun N xs h => by cases h⟩ ⟨hP, hD0.self, va_S.rf, hl, hL0⟩ ?_
  intro pc' ls' H' locs' g1 g2 g3
  obtain ⟨v, w'⟩ := r
  have post : ∀ (o : Outcome), o = .returned (v.map (q_iv ad)) → ∀ t : State, t.heap = H' → s.WarmedH t.vm → q_Qm D ad cA sh w s.heap.size (v, w') (as.map (q_iv ad)).toArray s o t := by
    intro o ho t ht _
    exact ⟨⟨ho, by rw [ht]; exact g1⟩, g2.F ht⟩
  cases v with
  | none => exact W.vret hx hb (hr.trans g3.2) (post _ rfl) g2.2.2 g3.1
  | some v =>
    cases v with
    | int x =>
      rcases g3.2 with h1 | ⟨h1, h2⟩
      · exact W.iret hx hb (hr.trans h1) (post _ rfl) g2.2.2 g3.1
      · exact W.zret hx hb (hr.trans h1) h2 (post _ rfl) g2.2.2 g3.1
    | long x => exact W.lret hx hb (hr.trans g3.2) (post _ rfl) g2.2.2 g3.1
    | null =>
      obtain ⟨h0, ⟨n, h1⟩, h2⟩ := g3
      exact W.aret hx hb (hr.trans h1) (Or.inl ⟨n, rfl⟩) (Or.inl rfl) (post _ rfl) g2.2.2 h0
    | ref a =>
      obtain ⟨h0, ⟨n, h1⟩, h2⟩ := g3
      exact W.aret hx hb (hr.trans h1) (Or.inl ⟨n, rfl⟩) (Or.inr ⟨_, rfl⟩) (post _ rfl) g2.2.2 h0
    | float x => obtain ⟨_, _, h2 | ⟨a, h2⟩⟩ := g3 <;> cases h2
    | double x => obtain ⟨_, _, h2 | ⟨a, h2⟩⟩ := g3 <;> cases h2
    | retAddr x => obtain ⟨_, _, h2 | ⟨a, h2⟩⟩ := g3 <;> cases h2
set_option maxHeartbeats 4000000 in
theorem q_sound (l : Launch) (hTY : q_TY cA tys sh) : ∀ f : Nat, q_Ok l D ad cA tys sh f := by
  intro f
  induction f with
  | zero => intro sc I pc L S w r h; simp [q_ex] at h
  | succ f ih =>
    intro sc I pc L S w r h p e R s m args below meth c H locs cells slots Q A ls F rel hQ
    rw [q_ex] at h
    cases hd : decode (mB I) pc with
    | error _ => rw [hd] at h; simp at h
    | ok il =>
      obtain ⟨ins, len⟩ := il
      rw [hd] at h
      dsimp only at h
      cases hs : q_step q_tb sh sc I pc len ins L S w with
      | none => rw [hs] at h; simp at h
      | some o =>
        rw [hs] at h
        rcases o with ⟨pc', L', S', w'⟩ | r' | ⟨I', as, pc', L', S', w'⟩
        · exact q_snd1 F rel (fun H' locs' ls' rel' => ih sc I pc' L' S' w' r h p e R s m args below meth c H' locs' cells slots Q A ls' F rel' hQ) hd hs
        · dsimp only at h
          cases h
          obtain ⟨g1, g2, g3⟩ := q_ret_eq hd hs
          subst g2
          exact hQ pc ls H locs (by rw [g3]; exact rel.1) rel.2.2.1 g1
        · dsimp only at h
          cases he : q_ent (mL I') as with
          | none => rw [he] at h; simp at h
          | some L0 =>
            rw [he] at h
            dsimp only at h
            cases hc : q_ex q_tb sh f none I' 0 L0 [] w' with
            | none => rw [hc] at h; simp at h
            | some vw =>
              obtain ⟨v, w2⟩ := vw
              rw [hc] at h
              dsimp only at h
              exact q_sndc (r := (v, w2)) F rel hd hs (fun g1 g2 g3 => q_met_of ih hTY g1 g2 g3 he hc) (fun H' locs' ls' rel' => ih sc I pc' L' (v.toList ++ S') w2 r h p e R s m args below meth c H' locs' cells slots Q A ls' F rel' hQ)
end Q10
