/-! what a run of the pure machine answers -/
theorem q_ex_mono (tb : qT) (sh : List qS) : ∀ (f : Nat) (sc : qX) (I : qI) (pc : Nat) (L : qL) (S : List Value) (w : qW) (r : Option Value × qW), q_ex tb sh f sc I pc L S w = some r → q_ex tb sh (f + 1) sc I pc L S w = some r := by
  intro f
  induction f with
  | zero => intro sc I pc L S w r h; simp [q_ex] at h
  | succ f ih =>
    intro sc I pc L S w r h
    rw [q_ex] at h
    rw [q_ex]
    cases hd : decode (mB I) pc with
    | error _ => rw [hd] at h; simp at h
    | ok il =>
      obtain ⟨ins, len⟩ := il
      rw [hd] at h
      dsimp only at h ⊢
      cases hs : q_step tb sh sc I pc len ins L S w with
      | none => rw [hs] at h; simp at h
      | some o =>
        rw [hs] at h
        rcases o with ⟨pc', L', S', w'⟩ | r' | ⟨I', as, pc', L', S', w'⟩
        · exact ih _ _ _ _ _ _ _ h
        · exact h
        · dsimp only at h ⊢
          cases he : q_ent (mL I') as with
          | none => rw [he] at h; simp at h
          | some L0 =>
            rw [he] at h
            dsimp only at h ⊢
            cases hc : q_ex tb sh f none I' 0 L0 [] w' with
            | none => rw [hc] at h; simp at h
            | some vw =>
              obtain ⟨v, w2⟩ := vw
              rw [hc] at h
              rw [ih _ _ _ _ _ _ _ hc]
              exact ih _ _ _ _ _ _ _ h
theorem q_ex_le (tb : qT) (sh : List qS) {f g : Nat} (hfg : f ≤ g) {sc : qX} {I : qI} {pc : Nat} {L : qL} {S : List Value} {w : qW} {r : Option Value × qW} (h : q_ex tb sh f sc I pc L S w = some r) : q_ex tb sh g sc I pc L S w = some r := by
  induction hfg with
  | refl => exact h
  | step _ ih => exact q_ex_mono tb sh _ _ _ _ _ _ _ _ ih
noncomputable def q_ev (tb : qT) (sh : List qS) (sc : qX) (I : qI) (pc : Nat) (L : qL) (S : List Value) (w : qW) : Option (Option Value × qW) :=
  @dite _ (∃ r f, q_ex tb sh f sc I pc L S w = some r) (Classical.propDecidable _) (fun h => some h.choose) (fun _ => none)
theorem q_ev_iff (tb : qT) (sh : List qS) (sc : qX) (I : qI) (pc : Nat) (L : qL) (S : List Value) (w : qW) (r : Option Value × qW) : q_ev tb sh sc I pc L S w = some r ↔ ∃ f, q_ex tb sh f sc I pc L S w = some r := by
  unfold q_ev
  by_cases h : ∃ r f, q_ex tb sh f sc I pc L S w = some r
  · rw [dif_pos h]
    obtain ⟨f, hf⟩ := h.choose_spec
    constructor
    · intro e
      exact ⟨f, by rw [hf]; exact e⟩
    · rintro ⟨g, hg⟩
      have h1 := q_ex_le tb sh (Nat.le_max_left f g) hf
      have h2 := q_ex_le tb sh (Nat.le_max_right f g) hg
      rw [h1] at h2
      exact h2
  · rw [dif_neg h]
    constructor
    · intro e; cases e
    · rintro ⟨f, hf⟩
      exact absurd ⟨r, f, hf⟩ h
section QE
variable {tb : qT} {sh : List qS} {sc : qX} {I : qI} {pc len : Nat} {ins : Instr} {L : qL} {S : List Value} {w : qW}
theorem ev_s {pc' : Nat} {L' : qL} {S' : List Value} {w' : qW} (hd : decode (mB I) pc = .ok (ins, len)) (h : q_step tb sh sc I pc len ins L S w = some (.inl (pc', L', S', w'))) : q_ev tb sh sc I pc L S w = q_ev tb sh sc I pc' L' S' w' := by
  apply Option.ext
  intro r
  rw [q_ev_iff, q_ev_iff]
  constructor
  · rintro ⟨f, hf⟩
    cases f with
    | zero => simp [q_ex] at hf
    | succ f => rw [q_ex, hd] at hf; dsimp only at hf; rw [h] at hf; exact ⟨f, hf⟩
  · rintro ⟨f, hf⟩
    refine ⟨f + 1, ?_⟩
    rw [q_ex, hd]; dsimp only; rw [h]; exact hf
theorem ev_if {c : Prop} [hc : Decidable c] {p1 p2 : Nat} {L1 L2 : qL} {S1 S2 : List Value} {w1 w2 : qW} (hd : decode (mB I) pc = .ok (ins, len)) (h : q_step tb sh sc I pc len ins L S w = if c then some (.inl (p1, L1, S1, w1)) else some (.inl (p2, L2, S2, w2))) : q_ev tb sh sc I pc L S w = if c then q_ev tb sh sc I p1 L1 S1 w1 else q_ev tb sh sc I p2 L2 S2 w2 := by
  by_cases hb : c
  · rw [if_pos hb]; rw [if_pos hb] at h; exact ev_s hd h
  · rw [if_neg hb]; rw [if_neg hb] at h; exact ev_s hd h
theorem ev_n (hd : decode (mB I) pc = .ok (ins, len)) (h : q_step tb sh sc I pc len ins L S w = none) : q_ev tb sh sc I pc L S w = none := by
  apply Option.ext
  intro r
  rw [q_ev_iff]
  constructor
  · rintro ⟨f, hf⟩
    cases f with
    | zero => simp [q_ex] at hf
    | succ f => rw [q_ex, hd] at hf; dsimp only at hf; rw [h] at hf; simp at hf
  · intro e; cases e
/-- a step that is taken only where a check holds -/
theorem ev_g {c : Prop} [hc : Decidable c] {p1 : Nat} {L1 : qL} {S1 : List Value} {w1 : qW} (hd : decode (mB I) pc = .ok (ins, len)) (h : q_step tb sh sc I pc len ins L S w = if c then none else some (.inl (p1, L1, S1, w1))) : q_ev tb sh sc I pc L S w = if c then none else q_ev tb sh sc I p1 L1 S1 w1 := by
  by_cases hb : c
  · rw [if_pos hb]; rw [if_pos hb] at h; exact ev_n hd h
  · rw [if_neg hb]; rw [if_neg hb] at h; exact ev_s hd h
theorem ev_r {r : Option Value × qW} (hd : decode (mB I) pc = .ok (ins, len)) (h : q_step tb sh sc I pc len ins L S w = some (.inr (.inl r))) : q_ev tb sh sc I pc L S w = some r := by
  rw [q_ev_iff]
  refine ⟨1, ?_⟩
  rw [q_ex, hd]; dsimp only; rw [h]
theorem ev_rb {c : Prop} [hc : Decidable c] {r : Option Value × qW} (hd : decode (mB I) pc = .ok (ins, len)) (h : q_step tb sh sc I pc len ins L S w = if c then some (.inr (.inl r)) else none) : q_ev tb sh sc I pc L S w = if c then some r else none := by
  by_cases hb : c
  · rw [if_pos hb]; rw [if_pos hb] at h; exact ev_r hd h
  · rw [if_neg hb]; rw [if_neg hb] at h; exact ev_n hd h
theorem ev_c {I' : qI} {as : List Value} {pc' : Nat} {L' L0 : qL} {S' : List Value} {w' : qW} (hd : decode (mB I) pc = .ok (ins, len)) (h : q_step tb sh sc I pc len ins L S w = some (.inr (.inr (I', as, pc', L', S', w')))) (he : q_ent (mL I') as = some L0) : q_ev tb sh sc I pc L S w = (q_ev tb sh none I' 0 L0 [] w').bind (fun r => q_ev tb sh sc I pc' L' (r.1.toList ++ S') r.2) := by
  apply Option.ext
  intro r
  rw [q_ev_iff, Option.bind_eq_some_iff]
  constructor
  · rintro ⟨f, hf⟩
    cases f with
    | zero => simp [q_ex] at hf
    | succ f =>
      rw [q_ex, hd] at hf; dsimp only at hf; rw [h] at hf; dsimp only at hf; rw [he] at hf; dsimp only at hf
      cases hc : q_ex tb sh f none I' 0 L0 [] w' with
      | none => rw [hc] at hf; simp at hf
      | some vw =>
        rw [hc] at hf
        exact ⟨vw, (q_ev_iff ..).mpr ⟨f, hc⟩, (q_ev_iff ..).mpr ⟨f, hf⟩⟩
  · rintro ⟨vw, h1, h2⟩
    obtain ⟨f1, h1⟩ := (q_ev_iff ..).mp h1
    obtain ⟨f2, h2⟩ := (q_ev_iff ..).mp h2
    refine ⟨max f1 f2 + 1, ?_⟩
    rw [q_ex, hd]; dsimp only; rw [h]; dsimp only; rw [he]; dsimp only
    rw [q_ex_le tb sh (Nat.le_max_left f1 f2) h1]
    exact q_ex_le tb sh (Nat.le_max_right f1 f2) h2
end QE
