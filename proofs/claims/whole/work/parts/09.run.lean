/-! THE WHOLE RUN of the pure machine is a run of the machine; so each method's contract is what the pure machine answers -/
def q_wsm (I : qI) : List Cond := Cond.code (mY I) (mB I) (mL I) (mR I) :: q_tbl
def q_rm (I : qI) : Room := { frames := mF I, cells := 0, slots := 0, locals := mK I }
theorem q_tbl_good : ∀ w ∈ q_tbl, (w.onTables && w.keeps) = true ∨ ∃ ty, w = .arrayClass ty := fun _ h => good_of_word (List.mem_filter.mp h).2
theorem q_wsm_in {I : qI} (hc : Cond.code (mY I) (mB I) (mL I) (mR I) ∈ q_tbl) : GoodIn q_tbl (q_wsm I) := by
  intro w hw
  rcases List.mem_cons.mp hw with rfl | hw
  · exact ⟨hc, q_tbl_good _ hc⟩
  · exact ⟨hw, q_tbl_good _ hw⟩
/-- what is so where a method begins -/
def q_Bg (D : va_G) (ad : Nat → Nat) (cA : Nat → ClassId) (tys : List (ClassId × FieldType)) (sh : List qS) (w : qW) (sz : Nat) (U : State) : Prop :=
  U.heap.size = sz ∧ va_P D q_cl (q_ws ad cA sh w) U.heap ∧ va_K D q_cl tys U ∧ va_D (fun _ => True) (q_ws ad cA sh w) ∧ q_NW U
/-- and behind it -/
def q_Qm (D : va_G) (ad : Nat → Nat) (cA : Nat → ClassId) (sh : List qS) (w : qW) (sz : Nat) (r : Option Value × qW) : Array Value → State → Outcome → State → Prop := fun _ st oc t =>
  (oc = .returned (r.1.map (q_iv ad)) ∧ va_P D q_cl (q_ws ad cA sh r.2) t.heap) ∧ va_F (va_A (q_ws ad cA sh w) sz) st t
def q_Mt (l : Launch) (D : va_G) (ad : Nat → Nat) (cA : Nat → ClassId) (tys : List (ClassId × FieldType)) (sh : List qS) (I : qI) (as : List Value) (w : qW) (r : Option Value × qW) : Prop :=
  ∀ sz : Nat, Met l (mY I) (q_wsm I) (q_rm I) (va_Pc (as.map (q_iv ad)) (q_Bg D ad cA tys sh w sz)) (q_Qm D ad cA sh w sz r) 0 0 (va_A (q_ws ad cA sh w) sz)
/-- the pure machine's return, at pc -/
def q_RT (I : qI) (pc : Nat) (v : Option Value) : Prop := match v with
  | none => decode (mB I) pc = .ok (.return_, 1) ∧ mR I = none
  | some (.int x) => decode (mB I) pc = .ok (.ireturn, 1) ∧ (mR I = some .int ∨ (mR I = some .boolean ∧ narrow .boolean (.int x) = .int x))
  | some (.long _) => decode (mB I) pc = .ok (.lreturn, 1) ∧ mR I = some .long
  | some v => decode (mB I) pc = .ok (.areturn, 1) ∧ (∃ n, mR I = some (.object n)) ∧ (v = .null ∨ ∃ a, v = .ref a)
theorem q_ret_eq {tb : qT} {sh : List qS} {sc : qX} {I : qI} {pc len : Nat} {ins : Instr} {L : qL} {S : List Value} {w : qW} {r : Option Value × qW} (hd : decode (mB I) pc = .ok (ins, len)) (h : q_step tb sh sc I pc len ins L S w = some (.inr (.inl r))) : q_RT I pc r.1 ∧ S = r.1.toList ∧ r.2 = w := by
  cases ins with
  | ireturn =>
    unfold q_step at h; dsimp only at h
    split at h
    · rename_i hr
      simp only [Option.some.injEq, Sum.inr.injEq, Sum.inl.injEq] at h
      subst h
      exact ⟨⟨hd, Or.inl hr⟩, rfl, rfl⟩
    · rename_i hr
      split at h
      · rename_i hn
        simp only [Option.some.injEq, Sum.inr.injEq, Sum.inl.injEq] at h
        subst h
        exact ⟨⟨hd, Or.inr ⟨hr, hn⟩⟩, rfl, rfl⟩
      · cases h
    · cases h
  | lreturn =>
    unfold q_step at h; dsimp only at h
    split at h
    · rename_i hr
      simp only [Option.some.injEq, Sum.inr.injEq, Sum.inl.injEq] at h
      subst h
      exact ⟨⟨hd, hr⟩, rfl, rfl⟩
    · cases h
  | areturn =>
    unfold q_step at h; dsimp only at h
    split at h
    · rename_i v n hr
      split at h
      · rename_i hv
        simp only [Option.some.injEq, Sum.inr.injEq, Sum.inl.injEq] at h
        subst h
        cases v <;> first | (simp [q_va] at hv; done) | exact ⟨⟨hd, ⟨_, hr⟩, Or.inl rfl⟩, rfl, rfl⟩ | exact ⟨⟨hd, ⟨_, hr⟩, Or.inr ⟨_, rfl⟩⟩, rfl, rfl⟩
      · cases h
    · cases h
  | return_ =>
    unfold q_step at h; dsimp only at h
    split at h
    · rename_i hr
      simp only [Option.some.injEq, Sum.inr.injEq, Sum.inl.injEq] at h
      subst h
      exact ⟨⟨hd, hr⟩, rfl, rfl⟩
    · cases h
  | _ =>
    unfold q_step at h
    simp only [q_go, q_ld, q_sv, q_b1, q_u1, q_al, q_as, q_ac, q_mn, q_if] at h
    repeat' split at h
    all_goals first | (simp at h; done) | cases h
theorem q_entl {ad : Nat → Nat} {as : List Value} {n : Nat} {L0 : qL} (h : q_ent n as = some L0) : L0.length = n ∧ lv_has ((lg_sl (as.map (q_iv ad)) ++ List.replicate (n - (lg_sl (as.map (q_iv ad))).length) Slot.unset).toArray) n (q_lv ad L0) := by
  have hlen : ∀ (as : List Value), (lg_sl (as.map (q_iv ad))).length = (q_en as).length := by
    intro as
    induction as with
    | nil => rfl
    | cons v r ih =>
      have hc := q_iv_cat ad v
      have e1 : lg_sl ((v :: r).map (q_iv ad)) = (if (q_iv ad v).category = 2 then [.val (q_iv ad v), .second] else [.val (q_iv ad v)]) ++ lg_sl (r.map (q_iv ad)) := rfl
      rw [e1, List.length_append, ih, hc]
      by_cases h2 : v.category = 2
      · simp [q_en, h2]; omega
      · simp [q_en, h2]; omega
  unfold q_ent at h
  split at h
  · rename_i hle
    cases h
    refine ⟨by simp; omega, ?_⟩
    refine lv_mono (lv_entry (as.map (q_iv ad)) (by rw [hlen]; exact hle)) (fun q hq => ?_)
    obtain ⟨i, u⟩ := q
    obtain ⟨v, hv, rfl⟩ := q_lv_mem.mp hq
    have hv' : (q_en as)[i]? = some (some v) := by
      by_cases hi : i < (q_en as).length
      · rwa [List.getElem?_append_left hi] at hv
      · rw [List.getElem?_append_right (by omega)] at hv
        rw [List.getElem?_replicate] at hv
        split at hv <;> cases hv
    have gen : ∀ (as : List Value) (b i : Nat), (q_en as)[i]? = some (some v) → (b + i, q_iv ad v) ∈ lv_args b (as.map (q_iv ad)) := by
      intro as
      induction as with
      | nil => intro b i h; simp [q_en] at h
      | cons a r ih =>
        intro b i h
        have hc := q_iv_cat ad a
        by_cases h2 : a.category = 2
        · simp only [q_en, h2, if_true] at h
          simp only [List.map_cons, lv_args, hc, h2, if_true]
          match i, h with
          | 0, h => simp at h; subst h; exact List.mem_cons_self
          | 1, h => simp at h
          | i + 2, h =>
            have := ih (b + 2) i (by simpa using h)
            refine List.mem_cons_of_mem _ ?_
            rw [show b + (i + 2) = b + 2 + i by omega]
            exact this
        · simp only [q_en, h2, if_false] at h
          simp only [List.map_cons, lv_args, hc, h2, if_false]
          match i, h with
          | 0, h => simp at h; subst h; exact List.mem_cons_self
          | i + 1, h =>
            have := ih (b + 1) i (by simpa using h)
            refine List.mem_cons_of_mem _ ?_
            rw [show b + (i + 1) = b + 1 + i by omega]
            exact this
    have := gen as 0 i hv'
    simpa using this
  · cases h

section Q9
variable {p : Program} {l : Launch} {e : Env} {R : Room} {s : State} {m : MethodId} {args : Array Value} {below : List Frame} {meth : Method} {c : Code} {H : Heap} {locs : List Loc} {cells slots : Nat} {Q : State → Prop}
variable {D : va_G} {ad : Nat → Nat} {cA : Nat → ClassId} {tys : List (ClassId × FieldType)} {sh : List qS} {sc : qX} {I : qI} {A : Nat → Prop} {pc len pc' : Nat} {ins : Instr} {L L' : qL} {S S' : List Value} {w w' : qW} {ls : Array Slot}
/-- behind a call that answers v and leaves P1 -/
theorem q_behind {mc ms : Nat} {st0 rest : List Value} {v : Option Value} {P1 : Heap → Prop} {A0 A1 : Nat → Prop} {H0 : Heap} {free : Addr → Prop} (hr : va_Run p l e R s m args below meth c H locs cells slots mc ms (F0 m pc ls st0) rest (fun st oc t => (oc = .returned v ∧ P1 t.heap) ∧ va_F A1 st t) free) (hS : va_S A0 H0 H locs) (hA : ∀ q, q < H.size → A1 q → A0 q) (hf : ∀ q, free q → A0 q)
    (kk : ∀ (H1 : Heap) (locs1 : List Loc), P1 H1 → va_S A0 H0 H1 locs1 → W p l e R s m args below meth c H1 locs1 (cells + mc) (slots + ms) Q (F0 m (pc + 3) ls (v.toList ++ rest))) : W p l e R s m args below meth c H locs cells slots Q (F0 m pc ls st0) := by
  intro T hT X
  obtain ⟨v', st₀, t, T', L, h0, X', hL, e1, e2, ⟨⟨hv, hb⟩, hz, hk⟩, st⟩ := hr T hT X
  cases hv
  rw [h0] at hz hk
  obtain ⟨t2, a1, b1⟩ := kk T'.heap (locs ++ L) (by rw [e1]; exact hb)
    ⟨Nat.le_trans hS.1 (by rw [e1]; exact hz), fun q h1 h2 => by rw [e1, hk q (Nat.lt_of_lt_of_le h1 hS.1) (fun z => h2 (hA q (Nat.lt_of_lt_of_le h1 hS.1) z))]; exact hS.2.1 q h1 h2, fun q hq => by
      rcases List.mem_append.mp hq with h | h
      · exact hS.2.2 q h
      · exact hf _ (hL q h)⟩ T' rfl X'
  exact ⟨t2, st t2 a1, b1⟩
theorem q_Bg_blind {av : List Value} {sz : Nat} : FrameBlind (va_Pc av (q_Bg D ad cA tys sh w sz)) := by
  intro a U g mk q
  obtain ⟨q0, q1, q2, q3, q4, q5⟩ := q
  exact ⟨q0, q1, q2, va_K.moved (u := U) (U := U.calling g mk a) (Vm.Alike.refl U.vm) q3, q4, q_NW_same (s := U) (U := U.calling g mk a) rfl q5⟩
theorem q_Bg_at (F : q_FX p R s m args meth c D ad cA tys sh sc I A cells slots) (rel : q_RL s D ad cA sh I A H locs L w ls) {U : State} (hU : U.heap = H) (hW : s.WarmedH U.vm) : q_Bg D ad cA tys sh w H.size U :=
  ⟨by rw [hU], by rw [hU]; exact rel.1, va_K.moved hW.alike F.2.2.2.2.2.2.2.2.1, rel.2.1.weaken (fun _ _ _ _ => trivial), q_NW_warm hW F.2.2.2.2.2.2.1⟩
set_option maxHeartbeats 8000000 in
theorem q_sndc {I' : qI} {as : List Value} {r : Option Value × qW} (F : q_FX p R s m args meth c D ad cA tys sh sc I A cells slots) (rel : q_RL s D ad cA sh I A H locs L w ls)
    (hd : decode (mB I) pc = .ok (ins, len)) (h : q_step q_tb sh sc I pc len ins L S w = some (.inr (.inr (I', as, pc', L', S', w'))))
    (hM : Cond.code (mY I') (mB I') (mL I') (mR I') ∈ q_tbl → plainName (mY I').cls = true → (mY I').cls = q_nm (mC I') → q_Mt l D ad cA tys sh I' as w' r)
    (kk : ∀ (H' : Heap) (locs' : List Loc) (ls' : Array Slot), q_RL s D ad cA sh I A H' locs' L' r.2 ls' → W p l e R s m args below meth c H' locs' cells slots Q (F0 m pc' ls' ((r.1.toList ++ S').map (q_iv ad)))) : W p l e R s m args below meth c H locs cells slots Q (F0 m pc ls (S.map (q_iv ad))) := by
  have F' := F
  obtain ⟨hx, hb, hml, hr, hown, hts, hNW, hR, hK, hTY, hA, hsc⟩ := F
  have rel' := rel
  obtain ⟨hP, hD, hS, hl, hn⟩ := rel
  have fin : ∀ {rest : List Value}, L' = L → S' = rest → pc' = pc + 3 → va_Run p l e R s m args below meth c H locs cells slots 0 0 (F0 m pc ls (S.map (q_iv ad))) (rest.map (q_iv ad)) (q_Qm D ad cA sh w H.size r (as.map (q_iv ad)).toArray) (va_A (q_ws ad cA sh w) H.size) → W p l e R s m args below meth c H locs cells slots Q (F0 m pc ls (S.map (q_iv ad))) := by
    intro rest h1 h2 h3 hrun
    subst h1; subst h2; subst h3
    have hfree : ∀ q, va_A (q_ws ad cA sh w) H.size q → A q := by
      intro q hq
      rcases hq with ⟨k, x, hk⟩ | hq
      · exact hD.2 k _ hk
      · exact hA q (Nat.le_trans hS.1 hq)
    refine q_behind hrun hS (fun q _ h => hfree q h) hfree (fun H1 locs1 g1 g2 => ?_)
    have k1 := kk H1 locs1 ls ⟨g1, q_ws_D hD, g2, hl, hn⟩
    have e1 : (r.1.toList ++ S').map (q_iv ad) = (r.1.map (q_iv ad)).toList ++ S'.map (q_iv ad) := by
      rw [List.map_append]
      cases r.1 <;> rfl
    rw [e1] at k1
    exact k1
  have rest8 : ∀ {rest : List Value}, q_cat rest ≤ 8 → 2 * (F0 m pc ls (S.map (q_iv ad))).monitorRoom + ((rest.map (q_iv ad)).map fun v => v.category).sum ≤ 8 := fun h => q_room_rest h
  cases ins with
  | invokestatic i =>
    unfold q_step at h; dsimp only at h
    split at h
    · rename_i hlen; subst hlen
      split at h
      · unfold q_ac at h
        repeat' split at h
        all_goals first | (simp [q_go] at h; done) | cases h
      · split at h
        · unfold q_mn at h
          repeat' split at h
          all_goals first | (simp [q_go] at h; done) | cases h
        · split at h
          · rename_i k I1 n hc
            split at h
            · rename_i hcond
              obtain ⟨hk, hnS, hcl⟩ := hcond
              simp only [Option.some.injEq, Sum.inr.injEq, Prod.mk.injEq] at h
              obtain ⟨rfl, rfl, hpc', hL', hS', hw'⟩ := h
              subst hw'
              obtain ⟨⟨okc, oki, ⟨okd1, okd2, okd3⟩, okp, okn⟩, oks, -, okl, okn2⟩ := q_call_ok hc
              dsimp only at okc oki okd1 okd2 okd3 okp okn oks okl okn2
              have hMt := hM okc okp okn
              simp only [q_cl1, decide_eq_true_eq] at hcl
              obtain ⟨c1, c2, c3⟩ := hcl
              have hpre : PreS s H (va_Pc ((S.take n).reverse.map (q_iv ad)) (q_Bg D ad cA tys sh w H.size)) ((S.take n).reverse.map (q_iv ad)) := ⟨q_Bg_blind, fun U hU hW => ⟨rfl, q_Bg_at F' rel' hU hW⟩⟩
              have hlen' : ((S.take n).reverse.map (q_iv ad)).length = n := by simp; omega
              have hstack : S.map (q_iv ad) = ((S.take n).reverse.map (q_iv ad)).reverse ++ (S.drop n).map (q_iv ad) := by
                rw [← List.map_reverse, List.reverse_reverse, ← List.map_append, List.take_append_drop]
              have hfix : CallFix p m c (mB I) (mL I) s args q_tbl (q_nm (mC I)) := ⟨hx, hb, hml, hown, hts⟩
              have hroom : (q_rm I1).frames + 1 ≤ R.frames ∧ 8 + (mL I1 + 11) + (q_rm I1).locals ≤ R.locals := ⟨Nat.le_trans c1 hR.1, Nat.le_trans c2 hR.2.1⟩
              refine fin (rest := S.drop n) hL'.symm hS'.symm hpc'.symm ?_
              rcases okn2 with h0 | h0 | h0
              · exact va_runS hfix (hMt H.size) ⟨callB_of n hts (q_wsm_in okc) rfl rfl rfl (hts _ oki) (hts _ (okl (Or.inl h0))) ⟨okd1, okd2, okd3⟩ hroom, hts _ (oks hk)⟩ hpre rfl hlen' hl.1 hstack (rest8 c3) hd ⟨hR.2.2.1, hR.2.2.2⟩
              · omega
              · exact va_runSN (host := "PrickedPages") hfix (hMt H.size) ⟨va_cnB n hts (q_wsm_in okc) rfl rfl rfl (hNW.2 _ h0) (hts _ oki) ⟨okd1, okd2, okd3⟩ hroom, hts _ (oks hk), trivial⟩ hpre rfl hlen' hl.1 hstack (rest8 c3) hd ⟨hR.2.2.1, hR.2.2.2⟩
            · cases h
          · cases h
    · cases h
  | invokevirtual i =>
    unfold q_step at h; dsimp only at h
    split at h
    · rename_i hlen; subst hlen
      split at h
      · rename_i k I1 n hc
        split at h
        · rename_i b rst hdrop
          split at h
          · rename_i hcond
            obtain ⟨hk, hnS, hcl, hob⟩ := hcond
            simp only [Option.some.injEq, Sum.inr.injEq, Prod.mk.injEq] at h
            obtain ⟨rfl, rfl, hpc', hL', hS', hw'⟩ := h
            subst hw'
            obtain ⟨⟨okc, oki, ⟨okd1, okd2, okd3⟩, okp, okn⟩, -, oks, okl, okn2⟩ := q_call_ok hc
            dsimp only at okc oki okd1 okd2 okd3 okp okn oks okl okn2
            have hMt := hM okc okp okn
            obtain ⟨os1, os2, T, N, os3⟩ := oks hk
            simp only [q_cl1, decide_eq_true_eq] at hcl
            obtain ⟨c1, c2, c3⟩ := hcl
            have hrecv : ∃ cellB : Cell, H[ad b]? = some cellB ∧ cellB.vm.isStatics = false ∧ s.vm.findClass (mY I1).cls = some cellB.cls := by
              unfold q_isobj at hob
              split at hob
              · rename_i c' fs hsh
                simp only [beq_iff_eq] at hob
                subst hob
                exact va_recv hK hP os3 (q_ws_at hsh)
              · cases hob
            have hpre : PreV s H (mY I1).cls (ad b) (va_Pc ((Value.ref b :: (S.take n).reverse).map (q_iv ad)) (q_Bg D ad cA tys sh w H.size)) ((S.take n).reverse.map (q_iv ad)) := ⟨q_Bg_blind, hrecv, fun U hU hW => ⟨rfl, q_Bg_at F' rel' hU hW⟩⟩
            have hlen' : ((S.take n).reverse.map (q_iv ad)).length = n := by simp; omega
            have hstack : S.map (q_iv ad) = ((S.take n).reverse.map (q_iv ad)).reverse ++ Value.ref (ad b) :: rst.map (q_iv ad) := by
              have : Value.ref (ad b) :: rst.map (q_iv ad) = (S.drop n).map (q_iv ad) := by rw [hdrop]; rfl
              rw [this, ← List.map_reverse, List.reverse_reverse, ← List.map_append, List.take_append_drop]
            have hfix : CallFix p m c (mB I) (mL I) s args q_tbl (q_nm (mC I)) := ⟨hx, hb, hml, hown, hts⟩
            have hroom : (q_rm I1).frames + 1 ≤ R.frames ∧ 8 + (mL I1 + 11) + (q_rm I1).locals ≤ R.locals := ⟨Nat.le_trans c1 hR.1, Nat.le_trans c2 hR.2.1⟩
            refine fin (rest := rst) hL'.symm hS'.symm hpc'.symm ?_
            rcases okn2 with h0 | h0 | h0
            · omega
            · exact va_runV hfix (hMt H.size) ⟨callB_of n hts (q_wsm_in okc) rfl rfl rfl (hts _ oki) (hts _ (okl (Or.inr h0))) ⟨okd1, okd2, okd3⟩ hroom, hts _ os1, hts _ os2⟩ hpre rfl hlen' hl.1 hstack (rest8 c3) hd ⟨hR.2.2.1, hR.2.2.2⟩
            · exact va_runVN (host := "PrickedPages") hfix (hMt H.size) ⟨va_cnB n hts (q_wsm_in okc) rfl rfl rfl (hNW.2 _ h0) (hts _ oki) ⟨okd1, okd2, okd3⟩ hroom, hts _ os1, hts _ os2⟩ hpre rfl hlen' hl.1 hstack (rest8 c3) hd ⟨hR.2.2.1, hR.2.2.2⟩
          · cases h
        · cases h
      · cases h
    · cases h
  | _ =>
    unfold q_step at h
    simp only [q_go, q_ld, q_sv, q_b1, q_u1, q_al, q_as, q_ac, q_mn, q_if] at h
    repeat' split at h
    all_goals first | (simp at h; done) | cases h
end Q9
