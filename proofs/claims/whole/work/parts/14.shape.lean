/-! the cells of this program: 0 the class' object .. 26; 27 the reference's object .. 46; 47 the script -/
def q_sA : List qS := [.inr (.inr (4, [some 1, some 3, some 8, some 12, some 13, none, none, none, some 14, some 15, some 16, none, some 25, some 26])),
  .inr (.inr (2, [some 2, none])), .inl (0, 24), .inr (.inr (3, [some 4, some 6, some 7, none, none])), .inr (.inr (2, [some 5, none])), .inl (0, 60), .inl (0, 48), .inl (0, 8),
  .inr (.inr (1, [some 9, some 10, some 11, none])), .inl (0, 12), .inl (0, 12), .inl (0, 12), .inl (0, 10), .inl (0, 24), .inl (0, 8), .inl (0, 18),
  .inr (.inl (2, [17, 19, 21, 23])), .inr (.inr (0, [some 18, none, none])), .inl (0, 48), .inr (.inr (0, [some 20, none, none])), .inl (0, 48), .inr (.inr (0, [some 22, none, none])), .inl (0, 48), .inr (.inr (0, [some 24, none, none])), .inl (0, 48),
  .inl (0, 24), .inl (0, 25),
  .inr (.inr (5, [some 28, some 29, some 30, none, some 31, none, some 32, some 33, none, none, some 34, none, some 35, some 36, some 37, some 38, some 39, some 40, some 41, some 42, some 43, some 44, some 45, some 46, none])),
  .inl (0, 10), .inl (0, 2), .inl (0, 120), .inl (0, 24), .inl (0, 54), .inl (0, 9), .inl (0, 8), .inl (0, 12), .inl (0, 12), .inl (0, 12), .inl (0, 26), .inl (0, 26), .inl (0, 18), .inl (0, 24), .inl (1, 4), .inl (0, 4), .inl (0, 4), .inl (0, 192), .inl (0, 48)]
/-- the reference's cells alone (its constructor) -/
def q_sM : List qS := [.inr (.inr (5, [some 1, some 2, some 3, none, some 4, none, some 5, some 6, none, none, some 7, none, some 8, some 9, some 10, some 11, some 12, some 13, some 14, some 15, some 16, some 17, some 18, some 19, none])),
  .inl (0, 10), .inl (0, 2), .inl (0, 120), .inl (0, 24), .inl (0, 54), .inl (0, 9), .inl (0, 8), .inl (0, 12), .inl (0, 12), .inl (0, 12), .inl (0, 26), .inl (0, 26), .inl (0, 18), .inl (0, 24), .inl (1, 4), .inl (0, 4), .inl (0, 4), .inl (0, 192), .inl (0, 48)]
noncomputable def qe (I : qI) (pc : Nat) (L : qL) (S : List Value) (w : qW) : Option (Option Value × qW) := q_ev q_tb q_sA none I pc L S w
noncomputable def ql (N : Nat) (xs : Nat → Int32) (I : qI) (pc : Nat) (L : qL) (S : List Value) (w : qW) : Option (Option Value × qW) := q_ev q_tb q_sA (some (N, xs)) I pc L S w
noncomputable def qm (I : qI) (pc : Nat) (L : qL) (S : List Value) (w : qW) : Option (Option Value × qW) := q_ev q_tb q_sM none I pc L S w
/-- a sheet's cell -/
def q_isS (k : Nat) : Prop := k = 17 ∨ k = 19 ∨ k = 21 ∨ k = 23
theorem q_sS {k : Nat} (h : q_isS k) : q_sA[k]? = some (.inr (.inr (0, [some (k + 1), none, none]))) := by rcases h with rfl | rfl | rfl | rfl <;> rfl
theorem q_sS1 {k : Nat} (h : q_isS k) : q_sA[k + 1]? = some (.inl (0, 48)) := by rcases h with rfl | rfl | rfl | rfl <;> rfl
theorem q_getS0 {k : Nat} (h : q_isS k) (w : qW) : q_get q_sA k 0 0 w = some (.ref (k + 1)) := by rcases h with rfl | rfl | rfl | rfl <;> rfl
theorem q_getS1 {k : Nat} (h : q_isS k) (w : qW) : q_get q_sA k 0 1 w = some (.int (w k 1)) := by rcases h with rfl | rfl | rfl | rfl <;> rfl
theorem q_getS2 {k : Nat} (h : q_isS k) (w : qW) : q_get q_sA k 0 2 w = some (.int (w k 2)) := by rcases h with rfl | rfl | rfl | rfl <;> rfl
theorem q_intS1 {k : Nat} (h : q_isS k) : q_isint q_sA k 0 1 = true := by rcases h with rfl | rfl | rfl | rfl <;> rfl
theorem q_intS2 {k : Nat} (h : q_isS k) : q_isint q_sA k 0 2 = true := by rcases h with rfl | rfl | rfl | rfl <;> rfl
theorem q_objS {k : Nat} (h : q_isS k) : q_isobj q_sA k 0 = true := by rcases h with rfl | rfl | rfl | rfl <;> rfl
/-- a call, and what goes on behind it over the rest of the stack -/
def qc (o : Option (Option Value × qW)) (S : List Value) (k : List Value → qW → Option (Option Value × qW)) : Option (Option Value × qW) := o.bind (fun r => k (r.1.toList ++ S) r.2)
theorem qc_i (v : Value) (w : qW) (S : List Value) (k : List Value → qW → Option (Option Value × qW)) : qc (some (some v, w)) S k = k (v :: S) w := rfl
theorem qc_v (w : qW) (S : List Value) (k : List Value → qW → Option (Option Value × qW)) : qc (some (none, w)) S k = k S w := rfl
section Q14
variable {I : qI} {pc len : Nat} {ins : Instr} {L : qL} {S : List Value} {w : qW} {N : Nat} {xs : Nat → Int32}
theorem es {pc' : Nat} {L' : qL} {S' : List Value} {w' : qW} {cc : ByteArray} (hB : mB I = cc) (hd : decode cc pc = .ok (ins, len)) (h : q_step q_tb q_sA none I pc len ins L S w = some (.inl (pc', L', S', w'))) : qe I pc L S w = qe I pc' L' S' w' := ev_s (by rw [hB]; exact hd) h
theorem ei {c : Prop} {hc : Decidable c} {p1 p2 : Nat} {L1 L2 : qL} {S1 S2 : List Value} {w1 w2 : qW} {cc : ByteArray} (hB : mB I = cc) (hd : decode cc pc = .ok (ins, len)) (h : q_step q_tb q_sA none I pc len ins L S w = @ite _ c hc (some (.inl (p1, L1, S1, w1))) (some (.inl (p2, L2, S2, w2)))) : qe I pc L S w = @ite _ c hc (qe I p1 L1 S1 w1) (qe I p2 L2 S2 w2) := ev_if (by rw [hB]; exact hd) h
theorem eg {c : Prop} {hc : Decidable c} {p1 : Nat} {L1 : qL} {S1 : List Value} {w1 : qW} {cc : ByteArray} (hB : mB I = cc) (hd : decode cc pc = .ok (ins, len)) (h : q_step q_tb q_sA none I pc len ins L S w = @ite _ c hc none (some (.inl (p1, L1, S1, w1)))) : qe I pc L S w = @ite _ c hc none (qe I p1 L1 S1 w1) := ev_g (by rw [hB]; exact hd) h
theorem er {r : Option Value × qW} {cc : ByteArray} (hB : mB I = cc) (hd : decode cc pc = .ok (ins, len)) (h : q_step q_tb q_sA none I pc len ins L S w = some (.inr (.inl r))) : qe I pc L S w = some r := ev_r (by rw [hB]; exact hd) h
theorem eb {c : Prop} {hc : Decidable c} {r : Option Value × qW} {cc : ByteArray} (hB : mB I = cc) (hd : decode cc pc = .ok (ins, len)) (h : q_step q_tb q_sA none I pc len ins L S w = @ite _ c hc (some (.inr (.inl r))) none) : qe I pc L S w = @ite _ c hc (some r) none := ev_rb (by rw [hB]; exact hd) h
theorem ec {I' : qI} {as : List Value} {pc' : Nat} {L' L0 : qL} {S' : List Value} {w' : qW} {cc : ByteArray} (hB : mB I = cc) (hd : decode cc pc = .ok (ins, len)) (h : q_step q_tb q_sA none I pc len ins L S w = some (.inr (.inr (I', as, pc', L', S', w')))) (he : q_ent (mL I') as = some L0) : qe I pc L S w = qc (qe I' 0 L0 [] w') S' (qe I pc' L') := ev_c (by rw [hB]; exact hd) h he
theorem ls {pc' : Nat} {L' : qL} {S' : List Value} {w' : qW} {cc : ByteArray} (hB : mB I = cc) (hd : decode cc pc = .ok (ins, len)) (h : q_step q_tb q_sA (some (N, xs)) I pc len ins L S w = some (.inl (pc', L', S', w'))) : ql N xs I pc L S w = ql N xs I pc' L' S' w' := ev_s (by rw [hB]; exact hd) h
theorem li {c : Prop} {hc : Decidable c} {p1 p2 : Nat} {L1 L2 : qL} {S1 S2 : List Value} {w1 w2 : qW} {cc : ByteArray} (hB : mB I = cc) (hd : decode cc pc = .ok (ins, len)) (h : q_step q_tb q_sA (some (N, xs)) I pc len ins L S w = @ite _ c hc (some (.inl (p1, L1, S1, w1))) (some (.inl (p2, L2, S2, w2)))) : ql N xs I pc L S w = @ite _ c hc (ql N xs I p1 L1 S1 w1) (ql N xs I p2 L2 S2 w2) := ev_if (by rw [hB]; exact hd) h
theorem lg {c : Prop} {hc : Decidable c} {p1 : Nat} {L1 : qL} {S1 : List Value} {w1 : qW} {cc : ByteArray} (hB : mB I = cc) (hd : decode cc pc = .ok (ins, len)) (h : q_step q_tb q_sA (some (N, xs)) I pc len ins L S w = @ite _ c hc none (some (.inl (p1, L1, S1, w1)))) : ql N xs I pc L S w = @ite _ c hc none (ql N xs I p1 L1 S1 w1) := ev_g (by rw [hB]; exact hd) h
theorem lb {c : Prop} {hc : Decidable c} {r : Option Value × qW} {cc : ByteArray} (hB : mB I = cc) (hd : decode cc pc = .ok (ins, len)) (h : q_step q_tb q_sA (some (N, xs)) I pc len ins L S w = @ite _ c hc (some (.inr (.inl r))) none) : ql N xs I pc L S w = @ite _ c hc (some r) none := ev_rb (by rw [hB]; exact hd) h
theorem lc {I' : qI} {as : List Value} {pc' : Nat} {L' L0 : qL} {S' : List Value} {w' : qW} {cc : ByteArray} (hB : mB I = cc) (hd : decode cc pc = .ok (ins, len)) (h : q_step q_tb q_sA (some (N, xs)) I pc len ins L S w = some (.inr (.inr (I', as, pc', L', S', w')))) (he : q_ent (mL I') as = some L0) : ql N xs I pc L S w = qc (qe I' 0 L0 [] w') S' (ql N xs I pc' L') := ev_c (by rw [hB]; exact hd) h he
theorem ms {pc' : Nat} {L' : qL} {S' : List Value} {w' : qW} {cc : ByteArray} (hB : mB I = cc) (hd : decode cc pc = .ok (ins, len)) (h : q_step q_tb q_sM none I pc len ins L S w = some (.inl (pc', L', S', w'))) : qm I pc L S w = qm I pc' L' S' w' := ev_s (by rw [hB]; exact hd) h
theorem mi {c : Prop} {hc : Decidable c} {p1 p2 : Nat} {L1 L2 : qL} {S1 S2 : List Value} {w1 w2 : qW} {cc : ByteArray} (hB : mB I = cc) (hd : decode cc pc = .ok (ins, len)) (h : q_step q_tb q_sM none I pc len ins L S w = @ite _ c hc (some (.inl (p1, L1, S1, w1))) (some (.inl (p2, L2, S2, w2)))) : qm I pc L S w = @ite _ c hc (qm I p1 L1 S1 w1) (qm I p2 L2 S2 w2) := ev_if (by rw [hB]; exact hd) h
theorem mg {c : Prop} {hc : Decidable c} {p1 : Nat} {L1 : qL} {S1 : List Value} {w1 : qW} {cc : ByteArray} (hB : mB I = cc) (hd : decode cc pc = .ok (ins, len)) (h : q_step q_tb q_sM none I pc len ins L S w = @ite _ c hc none (some (.inl (p1, L1, S1, w1)))) : qm I pc L S w = @ite _ c hc none (qm I p1 L1 S1 w1) := ev_g (by rw [hB]; exact hd) h
theorem mr {r : Option Value × qW} {cc : ByteArray} (hB : mB I = cc) (hd : decode cc pc = .ok (ins, len)) (h : q_step q_tb q_sM none I pc len ins L S w = some (.inr (.inl r))) : qm I pc L S w = some r := ev_r (by rw [hB]; exact hd) h
end Q14
/-- fields of a sheet that is known by its place alone -/
theorem q_gf {tb : qT} {sh : List qS} {sc : qX} {I : qI} {pc k ne ci j i : Nat} {L : qL} {S : List Value} {w : qW} {v : Value} (hf : tb.2.1 (mC I) i = some (ne, ci, j)) (hg : q_get sh k ci j w = some v) : q_step tb sh sc I pc 3 (.getfield i) L (.ref k :: S) w = some (.inl (pc + 3, L, v :: S, w)) := by
  have h0 : q_step tb sh sc I pc 3 (.getfield i) L (.ref k :: S) w = (match tb.2.1 (mC I) i with
      | some (_, ci, j) => (match q_get sh k ci j w with
        | some v => q_go (pc + 3) L (v :: S) w
        | none => none)
      | none => none) := rfl
  rw [h0, hf]
  dsimp only
  rw [hg]
  rfl
theorem q_pf {tb : qT} {sh : List qS} {sc : qX} {I : qI} {pc k ne ci j i : Nat} {L : qL} {S : List Value} {w : qW} {v : Int32} (hf : tb.2.1 (mC I) i = some (ne, ci, j)) (hg : q_isint sh k ci j = true) (hw : tb.2.2.2.2 ci j = true) : q_step tb sh sc I pc 3 (.putfield i) L (.int v :: .ref k :: S) w = some (.inl (pc + 3, L, S, q_up w k j v)) := by
  have h0 : q_step tb sh sc I pc 3 (.putfield i) L (.int v :: .ref k :: S) w = (match tb.2.1 (mC I) i with
      | some (_, ci, j) => if q_isint sh k ci j = true ∧ tb.2.2.2.2 ci j = true then q_go (pc + 3) L S (q_up w k j v) else none
      | none => none) := rfl
  rw [h0, hf]
  dsimp only
  rw [if_pos ⟨hg, hw⟩]
  rfl
theorem q_lf {tb : qT} {sh : List qS} {sc : qX} {I : qI} {pc k n : Nat} {L : qL} {S : List Value} {w : qW} {i : Int32} (hs : sh[k]? = some (.inl (0, n))) : q_step tb sh sc I pc 1 .iaload L (.int i :: .ref k :: S) w = if i < 0 ∨ n ≤ i.toNatClampNeg then none else some (.inl (pc + 1, L, .int (w k i.toNatClampNeg) :: S, w)) := by
  have h0 : q_step tb sh sc I pc 1 .iaload L (.int i :: .ref k :: S) w = (match sh[k]? with
    | some (.inl (t', n)) => if t' = 0 then (if i < 0 ∨ n ≤ i.toNatClampNeg then none else q_go (pc + 1) L (.int (w k i.toNatClampNeg) :: S) w) else none
    | some _ => none
    | none => if k = q_scr ∧ (0 : Nat) = 0 then (match sc with
      | some (n, xs) => if i < 0 ∨ n ≤ i.toNatClampNeg then none else q_go (pc + 1) L (.int (xs i.toNatClampNeg) :: S) w
      | none => none) else none) := rfl
  rw [h0, hs]
  dsimp only
  rw [if_pos rfl]
  rfl
theorem q_sf {tb : qT} {sh : List qS} {sc : qX} {I : qI} {pc k n : Nat} {L : qL} {S : List Value} {w : qW} {i x : Int32} (hs : sh[k]? = some (.inl (0, n))) : q_step tb sh sc I pc 1 .iastore L (.int x :: .int i :: .ref k :: S) w = if i < 0 ∨ n ≤ i.toNatClampNeg then none else some (.inl (pc + 1, L, S, q_up w k i.toNatClampNeg x)) := by
  have h0 : q_step tb sh sc I pc 1 .iastore L (.int x :: .int i :: .ref k :: S) w = (match sh[k]? with
    | some (.inl (t', n)) => if t' = 0 then (if i < 0 ∨ n ≤ i.toNatClampNeg then none else q_go (pc + 1) L S (q_up w k i.toNatClampNeg x)) else none
    | _ => none) := rfl
  rw [h0, hs]
  dsimp only
  rw [if_pos rfl]
  rfl
theorem q_nf {tb : qT} {sh : List qS} {sc : qX} {I : qI} {pc k n t : Nat} {L : qL} {S : List Value} {w : qW} (hs : sh[k]? = some (.inl (t, n))) : q_step tb sh sc I pc 1 .arraylength L (.ref k :: S) w = some (.inl (pc + 1, L, .int (Int32.ofNat n) :: S, w)) := by
  have h0 : q_step tb sh sc I pc 1 .arraylength L (.ref k :: S) w = (match sh[k]? with
      | some (.inl (_, n)) => q_go (pc + 1) L (.int (Int32.ofNat n) :: S) w
      | some (.inr (.inl (_, ks))) => q_go (pc + 1) L (.int (Int32.ofNat ks.length) :: S) w
      | some (.inr (.inr _)) => none
      | none => if k = q_scr then (match sc with
        | some (n, _) => q_go (pc + 1) L (.int (Int32.ofNat n) :: S) w
        | none => none) else none) := rfl
  rw [h0, hs]
  rfl
theorem q_vf {tb : qT} {sh : List qS} {sc : qX} {I I' : qI} {pc k kd n i : Nat} {L : qL} {S A : List Value} {w : qW} (hc : tb.1 (mC I) i = some (kd, I', n)) (hA : A.length = n) (hk : 2 ≤ kd) (h1 : q_cl1 I I' S = true) (h2 : q_isobj sh k (mC I') = true) : q_step tb sh sc I pc 3 (.invokevirtual i) L (A ++ .ref k :: S) w = some (.inr (.inr (I', .ref k :: A.reverse, pc + 3, L, S, w))) := by
  subst hA
  unfold q_step
  dsimp only
  rw [if_pos rfl, hc]
  dsimp only
  rw [List.drop_left]
  dsimp only
  rw [if_pos ⟨hk, by simp, h1, h2⟩, List.take_left]
theorem q_af {tb : qT} {sh : List qS} {sc : qX} {I : qI} {pc ks kd : Nat} {L : qL} {S : List Value} {w : qW} {n dp sp : Int32} (h0 : sh[ks]? = some (.inl (0, 48))) (h1 : sh[kd]? = some (.inl (0, 48))) (hr : decide (1 ≤ mF I ∧ q_cat S + (nativeFrameWords "java/lang/System" "arraycopy" 5 + 11) ≤ mK I) = true) (hI : mC I = 4) : q_step tb sh sc I pc 3 (.invokestatic 242) L (.int n :: .int dp :: .ref kd :: .int sp :: .ref ks :: S) w = if sp < 0 ∨ dp < 0 ∨ n < 0 ∨ ¬ (sp.toNatClampNeg + n.toNatClampNeg ≤ 48) ∨ ¬ (dp.toNatClampNeg + n.toNatClampNeg ≤ 48) then none else some (.inl (pc + 3, L, S, q_row w kd (va_cpy (w ks) (w kd) sp.toNatClampNeg dp.toNatClampNeg n.toNatClampNeg))) := by
  have e0 : q_step tb sh sc I pc 3 (.invokestatic 242) L (.int n :: .int dp :: .ref kd :: .int sp :: .ref ks :: S) w = if mC I = 4 ∧ (242 : Nat) = 242 then (match sh[ks]?, sh[kd]? with
    | some (.inl (0, n0)), some (.inl (0, n1)) => if sp < 0 ∨ dp < 0 ∨ n < 0 ∨ ¬ (sp.toNatClampNeg + n.toNatClampNeg ≤ n0) ∨ ¬ (dp.toNatClampNeg + n.toNatClampNeg ≤ n1) then none
      else if 1 ≤ mF I ∧ q_cat S + (nativeFrameWords "java/lang/System" "arraycopy" 5 + 11) ≤ mK I then q_go (pc + 3) L S (q_row w kd (va_cpy (w ks) (w kd) sp.toNatClampNeg dp.toNatClampNeg n.toNatClampNeg)) else none
    | _, _ => none) else if mC I = 4 ∧ (242 : Nat) = 248 then q_mn I pc L (.int n :: .int dp :: .ref kd :: .int sp :: .ref ks :: S) w else (match tb.1 (mC I) 242 with
    | some (k, I', n') => if k ≤ 1 ∧ n' ≤ (Value.int n :: Value.int dp :: Value.ref kd :: Value.int sp :: Value.ref ks :: S).length ∧ q_cl1 I I' ((Value.int n :: Value.int dp :: Value.ref kd :: Value.int sp :: Value.ref ks :: S).drop n') = true then some (.inr (.inr (I', ((Value.int n :: Value.int dp :: Value.ref kd :: Value.int sp :: Value.ref ks :: S).take n').reverse, pc + 3, L, (Value.int n :: Value.int dp :: Value.ref kd :: Value.int sp :: Value.ref ks :: S).drop n', w))) else none
    | none => none) := rfl
  rw [e0, if_pos ⟨hI, rfl⟩, h0, h1]
  show (if sp < 0 ∨ dp < 0 ∨ n < 0 ∨ ¬ (sp.toNatClampNeg + n.toNatClampNeg ≤ 48) ∨ ¬ (dp.toNatClampNeg + n.toNatClampNeg ≤ 48) then none
      else if 1 ≤ mF I ∧ q_cat S + (nativeFrameWords "java/lang/System" "arraycopy" 5 + 11) ≤ mK I then q_go (pc + 3) L S (q_row w kd (va_cpy (w ks) (w kd) sp.toNatClampNeg dp.toNatClampNeg n.toNatClampNeg)) else none) = _
  rw [if_pos (of_decide_eq_true hr)]
  rfl
theorem q_ts {tb : qT} {sh : List qS} {sc : qX} {I : qI} {pc len t : Nat} {L : qL} {S : List Value} {w : qW} {x : Int32} {d lo hi off : Int} {offs : Array Int} (h1 : ¬ x.toInt < lo) (h2 : ¬ hi < x.toInt) (ho : offs[(x.toInt - lo).toNat]? = some off) (ht : q_to pc off = some t) : q_step tb sh sc I pc len (.tableswitch d lo hi offs) L (.int x :: S) w = some (.inl (t, L, S, w)) := by
  unfold q_step
  dsimp only
  rw [if_neg (fun h => h.elim h1 h2), ho]
  dsimp only
  rw [ht]
  rfl
theorem q_td {tb : qT} {sh : List qS} {sc : qX} {I : qI} {pc len t : Nat} {L : qL} {S : List Value} {w : qW} {x : Int32} {d lo hi : Int} {offs : Array Int} (h : x.toInt < lo ∨ hi < x.toInt) (ht : q_to pc d = some t) : q_step tb sh sc I pc len (.tableswitch d lo hi offs) L (.int x :: S) w = some (.inl (t, L, S, w)) := by
  unfold q_step
  dsimp only
  rw [if_pos h]
  rw [ht]
  rfl
