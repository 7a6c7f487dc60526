/-! steps that look at cells -/
section Q7
variable {p : Program} {l : Launch} {e : Env} {R : Room} {s : State} {m : MethodId} {args : Array Value} {below : List Frame} {meth : Method} {c : Code} {H : Heap} {locs : List Loc} {cells slots : Nat} {Q : State → Prop}
variable {D : va_G} {ad : Nat → Nat} {cA : Nat → ClassId} {tys : List (ClassId × FieldType)} {sh : List qS} {sc : qX} {I : qI} {A : Nat → Prop} {pc len pc' : Nat} {ins : Instr} {L L' : qL} {S S' : List Value} {w w' : qW} {ls : Array Slot}
set_option maxHeartbeats 4000000 in
theorem q_getf {idx : Nat} (F : q_FX p R s m args meth c D ad cA tys sh sc I A cells slots) (rel : q_RL s D ad cA sh I A H locs L w ls)
    (kk : ∀ (H' : Heap) (locs' : List Loc) (ls' : Array Slot), q_RL s D ad cA sh I A H' locs' L' w' ls' → W p l e R s m args below meth c H' locs' cells slots Q (F0 m pc' ls' (S'.map (q_iv ad))))
    (hd : decode (mB I) pc = .ok (.getfield idx, len)) (h : q_step q_tb sh sc I pc len (.getfield idx) L S w = some (.inl (pc', L', S', w'))) : W p l e R s m args below meth c H locs cells slots Q (F0 m pc ls (S.map (q_iv ad))) := by
  obtain ⟨hx, hb, hml, hr, hown, hts, hNW, -, hK, -⟩ := F
  have hP := rel.1
  unfold q_step at h; dsimp only at h
  split at h
  · rename_i k r
    split at h
    · rename_i ne ci j hf
      split at h
      · rename_i v hv
        obtain ⟨rfl, rfl, rfl, rfl⟩ := q_go_eq h
        obtain ⟨C, T, N, hc, hj, hl0, hl1⟩ := q_fl_ok hf
        dsimp only at hc hj hl0 hl1
        obtain ⟨hin, -, -⟩ := q_cl_ok hc
        unfold q_get at hv
        split at hv
        · rename_i c' fs hsh
          split at hv
          · rename_i hcc
            subst hcc
            have he := q_ws_at (ad := ad) (cA := cA) (w := w) hsh
            have hget : ∀ u, (q_fs ad w k fs)[j]? = some u → u = q_iv ad v → W p l e R s m args below meth c H locs cells slots Q (F0 m pc ls ((Value.ref k :: r).map (q_iv ad))) := by
              intro u hu hv'
              subst hv'
              rcases hl1 with h0 | h1
              · exact va_get hx hb hts hin hown hK hP k he hc j hj (hts _ (hl0 h0)) (fun _ q => q) hu hd (kk _ _ _ rel)
              · exact va_getN hx hb hts hin hown hK hP k he hc j hj (va_Nw.use rfl (hNW.1 _ h1)) (fun _ q => q) hu hd (kk _ _ _ rel)
            split at hv
            · rename_i hfs
              cases hv
              exact hget _ (q_fs_at hfs) rfl
            · rename_i r' hfs
              cases hv
              exact hget _ (q_fs_at hfs) rfl
            · cases hv
          · cases hv
        · cases hv
      · cases h
    · cases h
  · cases h
set_option maxHeartbeats 4000000 in
theorem q_putf {idx : Nat} (F : q_FX p R s m args meth c D ad cA tys sh sc I A cells slots) (rel : q_RL s D ad cA sh I A H locs L w ls)
    (kk : ∀ (H' : Heap) (locs' : List Loc) (ls' : Array Slot), q_RL s D ad cA sh I A H' locs' L' w' ls' → W p l e R s m args below meth c H' locs' cells slots Q (F0 m pc' ls' (S'.map (q_iv ad))))
    (hd : decode (mB I) pc = .ok (.putfield idx, len)) (h : q_step q_tb sh sc I pc len (.putfield idx) L S w = some (.inl (pc', L', S', w'))) : W p l e R s m args below meth c H locs cells slots Q (F0 m pc ls (S.map (q_iv ad))) := by
  obtain ⟨hx, hb, hml, hr, hown, hts, hNW, -, hK, -⟩ := F
  obtain ⟨hP, hD, hS, hl, hn⟩ := rel
  unfold q_step at h; dsimp only at h
  split at h
  · rename_i v k r
    split at h
    · rename_i ne ci j hf
      split at h
      · rename_i hw
        obtain ⟨rfl, rfl, rfl, rfl⟩ := q_go_eq h
        obtain ⟨C, T, N, hc, hj, hl0, hl1⟩ := q_fl_ok hf
        dsimp only at hc hj hl0 hl1
        obtain ⟨hin, ⟨ty0, hty⟩, hnm⟩ := q_cl_ok hc
        obtain ⟨hfin, hI⟩ := q_wr_ok hw.2 C T N hc
        have hpd : parseFieldDescriptor (T j).2.2.1 = some .int := by rw [hI]; decide +kernel
        have hi := hw.1
        unfold q_isint at hi
        split at hi
        · rename_i c' fs hsh
          simp only [Bool.and_eq_true, beq_iff_eq] at hi
          obtain ⟨rfl, hi⟩ := hi
          split at hi
          · rename_i hfs
            have he := q_ws_at (ad := ad) (cA := cA) (w := w) hsh
            have hjl : j < (q_fs ad w k fs).length := by
              have := (List.getElem?_eq_some_iff.mp hfs).1
              simpa [q_fs] using this
            have hset : (q_ws ad cA sh w).set k (ad k, .inr (c', (q_fs ad w k fs).set j (.int v))) = q_ws ad cA sh (q_up w k j v) :=
              q_ws_set hsh (fun a h => q_up_ne w j v h) (by simp only [q_en1, q_fs_set hfs])
            have kk' : ∀ (H1 : Heap) (locs1 : List Loc), va_P D q_cl ((q_ws ad cA sh w).set k (ad k, .inr (c', (q_fs ad w k fs).set j (.int v)))) H1 → va_D A ((q_ws ad cA sh w).set k (ad k, .inr (c', (q_fs ad w k fs).set j (.int v)))) → va_S A s.heap H1 locs1 → W p l e R s m args below meth c H1 locs1 cells slots Q (F0 m (pc + 3) ls (r.map (q_iv ad))) := by
              intro H1 locs1 g1 g2 g3
              rw [hset] at g1 g2
              exact kk _ _ _ ⟨g1, g2, g3, hl, hn⟩
            rcases hl1 with h0 | h1
            · exact va_put hx hb hts hin ty0 hty hnm hown hK hP hD hS k he hc j hj (hts _ (hl0 h0)) (fun _ q => q) hfin hpd rfl rfl hjl hd kk'
            · exact va_putN hx hb hts hin ty0 hty hnm hown hK hP hD hS k he hc j hj (va_Nw.use rfl (hNW.1 _ h1)) (fun _ q => q) hfin hpd rfl rfl hjl hd kk'
          · cases hi
        · cases hi
      · cases h
    · cases h
  · cases h
set_option maxHeartbeats 4000000 in
theorem q_aload0 (F : q_FX p R s m args meth c D ad cA tys sh sc I A cells slots) (rel : q_RL s D ad cA sh I A H locs L w ls)
    (kk : ∀ (H' : Heap) (locs' : List Loc) (ls' : Array Slot), q_RL s D ad cA sh I A H' locs' L' w' ls' → W p l e R s m args below meth c H' locs' cells slots Q (F0 m pc' ls' (S'.map (q_iv ad))))
    (hd : decode (mB I) pc = .ok (.iaload, len)) (h : q_al sh sc 0 len pc L S w = some (.inl (pc', L', S', w'))) : W p l e R s m args below meth c H locs cells slots Q (F0 m pc ls (S.map (q_iv ad))) := by
  obtain ⟨hx, hb, hml, hr, hown, hts, hNW, -, hK, hTY, hA, hsc⟩ := F
  have hP := rel.1
  unfold q_al at h
  split at h
  · rename_i i k r
    split at h
    · rename_i t' n hsh
      split at h
      · rename_i ht
        subst ht
        split at h
        · cases h
        · rename_i hi
          obtain ⟨rfl, rfl, rfl, rfl⟩ := q_go_eq h
          exact va_iald hx hb hK hP k 0 (q_ws_at hsh) (hTY k 0 (Or.inl ⟨_, hsh⟩)) (q_or_vp hi) hd (kk _ _ _ rel)
      · cases h
    · cases h
    · split at h
      · rename_i hks
        obtain ⟨rfl, -⟩ := hks
        split at h
        · rename_i n xs
          split at h
          · cases h
          · rename_i hi
            obtain ⟨rfl, rfl, rfl, rfl⟩ := q_go_eq h
            obtain ⟨-, hX, hbl, hbA⟩ := hsc _ _ rfl
            exact va_sld hx hb hX hbl hbA rel.2.2.1 (q_or_vp hi) hd (kk _ _ _ rel)
        · cases h
      · cases h
  · cases h
set_option maxHeartbeats 4000000 in
theorem q_aload1 (F : q_FX p R s m args meth c D ad cA tys sh sc I A cells slots) (rel : q_RL s D ad cA sh I A H locs L w ls)
    (kk : ∀ (H' : Heap) (locs' : List Loc) (ls' : Array Slot), q_RL s D ad cA sh I A H' locs' L' w' ls' → W p l e R s m args below meth c H' locs' cells slots Q (F0 m pc' ls' (S'.map (q_iv ad))))
    (hd : decode (mB I) pc = .ok (.baload, len)) (h : q_al sh none 1 len pc L S w = some (.inl (pc', L', S', w'))) : W p l e R s m args below meth c H locs cells slots Q (F0 m pc ls (S.map (q_iv ad))) := by
  obtain ⟨hx, hb, hml, hr, hown, hts, hNW, -, hK, hTY, hA, hsc⟩ := F
  have hP := rel.1
  unfold q_al at h
  split at h
  · rename_i i k r
    split at h
    · rename_i t' n hsh
      split at h
      · rename_i ht
        subst ht
        split at h
        · cases h
        · rename_i hi
          obtain ⟨rfl, rfl, rfl, rfl⟩ := q_go_eq h
          exact va_zald hx hb hK hP k 1 (q_ws_at hsh) (hTY k 1 (Or.inl ⟨_, hsh⟩)) (q_or_vp hi) hd (kk _ _ _ rel)
      · cases h
    · cases h
    · split at h
      · rename_i hks
        exact absurd hks.2 (by decide)
      · cases h
  · cases h
set_option maxHeartbeats 4000000 in
theorem q_astore01 (F : q_FX p R s m args meth c D ad cA tys sh sc I A cells slots) (rel : q_RL s D ad cA sh I A H locs L w ls)
    (kk : ∀ (H' : Heap) (locs' : List Loc) (ls' : Array Slot), q_RL s D ad cA sh I A H' locs' L' w' ls' → W p l e R s m args below meth c H' locs' cells slots Q (F0 m pc' ls' (S'.map (q_iv ad)))) :
    (decode (mB I) pc = .ok (.iastore, len) → q_as sh 0 len pc L S w (fun x => x) = some (.inl (pc', L', S', w')) → W p l e R s m args below meth c H locs cells slots Q (F0 m pc ls (S.map (q_iv ad)))) ∧
    (decode (mB I) pc = .ok (.bastore, len) → q_as sh 1 len pc L S w (vp_nar .boolean) = some (.inl (pc', L', S', w')) → W p l e R s m args below meth c H locs cells slots Q (F0 m pc ls (S.map (q_iv ad)))) := by
  obtain ⟨hx, hb, hml, hr, hown, hts, hNW, -, hK, hTY, hA, hsc⟩ := F
  obtain ⟨hP, hD, hS, hl, hn⟩ := rel
  refine ⟨fun hd h => ?_, fun hd h => ?_⟩
  · unfold q_as at h
    split at h
    · rename_i x i k r
      split at h
      · rename_i t' n hsh
        split at h
        · rename_i ht
          subst ht
          split at h
          · cases h
          · rename_i hi
            obtain ⟨rfl, rfl, rfl, rfl⟩ := q_go_eq h
            refine va_iast hx hb hK hP hD hS k 0 (q_ws_at hsh) (hTY k 0 (Or.inl ⟨_, hsh⟩)) (q_or_vp hi) hd (fun H1 locs1 g1 g2 g3 => ?_)
            have hset := q_ws_set (ad := ad) (cA := cA) (v := .inl (cA 0, n, .inl (upd (w k) i.toNatClampNeg x))) hsh (fun a h => q_up_ne w i.toNatClampNeg x h) (by simp only [q_en1, q_up_at])
            rw [hset] at g1 g2
            exact kk _ _ _ ⟨g1, g2, g3, hl, hn⟩
        · cases h
      · cases h
    · cases h
  · unfold q_as at h
    split at h
    · rename_i x i k r
      split at h
      · rename_i t' n hsh
        split at h
        · rename_i ht
          subst ht
          split at h
          · cases h
          · rename_i hi
            obtain ⟨rfl, rfl, rfl, rfl⟩ := q_go_eq h
            refine va_zast hx hb hK hP hD hS k 1 (q_ws_at hsh) (hTY k 1 (Or.inl ⟨_, hsh⟩)) (q_or_vp hi) hd (fun H1 locs1 g1 g2 g3 => ?_)
            have hset := q_ws_set (ad := ad) (cA := cA) (v := .inl (cA 1, n, .inl (upd (w k) i.toNatClampNeg (vp_nar .boolean x)))) hsh (fun a h => q_up_ne w i.toNatClampNeg (vp_nar .boolean x) h) (by simp only [q_en1, q_up_at])
            rw [hset] at g1 g2
            exact kk _ _ _ ⟨g1, g2, g3, hl, hn⟩
        · cases h
      · cases h
    · cases h
set_option maxHeartbeats 4000000 in
theorem q_arr2 (F : q_FX p R s m args meth c D ad cA tys sh sc I A cells slots) (rel : q_RL s D ad cA sh I A H locs L w ls)
    (kk : ∀ (H' : Heap) (locs' : List Loc) (ls' : Array Slot), q_RL s D ad cA sh I A H' locs' L' w' ls' → W p l e R s m args below meth c H' locs' cells slots Q (F0 m pc' ls' (S'.map (q_iv ad)))) :
    (decode (mB I) pc = .ok (.aaload, len) → q_step q_tb sh sc I pc len .aaload L S w = some (.inl (pc', L', S', w')) → W p l e R s m args below meth c H locs cells slots Q (F0 m pc ls (S.map (q_iv ad)))) ∧
    (decode (mB I) pc = .ok (.arraylength, len) → q_step q_tb sh sc I pc len .arraylength L S w = some (.inl (pc', L', S', w')) → W p l e R s m args below meth c H locs cells slots Q (F0 m pc ls (S.map (q_iv ad)))) := by
  obtain ⟨hx, hb, hml, hr, hown, hts, hNW, -, hK, hTY, hA, hsc⟩ := F
  have hP := rel.1
  refine ⟨fun hd h => ?_, fun hd h => ?_⟩
  · unfold q_step at h; dsimp only at h
    split at h
    · rename_i i k r
      split at h
      · rename_i ks hsh
        split at h
        · cases h
        · rename_i hi
          obtain ⟨rfl, rfl, rfl, rfl⟩ := q_go_eq h
          refine va_aldq (C := RX0) hx hb hK hP k 2 (q_ws_at hsh) (hTY k 2 (Or.inr ⟨_, hsh⟩)) (q_or_vp hi) hd ?_
          have h1 := kk _ _ _ rel
          cases hq : ks[i.toNatClampNeg]? with
          | none => rw [hq] at h1; simp only [Option.map_none]; exact h1
          | some q => rw [hq] at h1; simp only [Option.map_some]; exact h1
      · cases h
    · cases h
  · unfold q_step at h; dsimp only at h
    split at h
    · rename_i k r
      split at h
      · rename_i t n hsh
        obtain ⟨rfl, rfl, rfl, rfl⟩ := q_go_eq h
        exact va_alen hx hb hK hP k t (q_ws_at hsh) (hTY k t (Or.inl ⟨_, hsh⟩)) rfl hd (kk _ _ _ rel)
      · rename_i t ks hsh
        obtain ⟨rfl, rfl, rfl, rfl⟩ := q_go_eq h
        exact va_alen hx hb hK hP k t (q_ws_at hsh) (hTY k t (Or.inr ⟨_, hsh⟩)) rfl hd (kk _ _ _ rel)
      · cases h
      · split at h
        · rename_i hks
          subst hks
          split at h
          · rename_i n xs
            obtain ⟨rfl, rfl, rfl, rfl⟩ := q_go_eq h
            obtain ⟨-, hX, hbl, hbA⟩ := hsc _ _ rfl
            exact va_slen hx hb hX hbl hbA rel.2.2.1 hd (kk _ _ _ rel)
          · cases h
        · cases h
    · cases h
set_option maxHeartbeats 4000000 in
theorem q_acopy {idx : Nat} (F : q_FX p R s m args meth c D ad cA tys sh sc I A cells slots) (rel : q_RL s D ad cA sh I A H locs L w ls)
    (kk : ∀ (H' : Heap) (locs' : List Loc) (ls' : Array Slot), q_RL s D ad cA sh I A H' locs' L' w' ls' → W p l e R s m args below meth c H' locs' cells slots Q (F0 m pc' ls' (S'.map (q_iv ad)))) (hI : mC I = 4) :
    (idx = 242 → decode (mB I) pc = .ok (.invokestatic idx, 3) → q_ac sh I pc L S w = some (.inl (pc', L', S', w')) → W p l e R s m args below meth c H locs cells slots Q (F0 m pc ls (S.map (q_iv ad)))) ∧
    (idx = 248 → decode (mB I) pc = .ok (.invokestatic idx, 3) → q_mn I pc L S w = some (.inl (pc', L', S', w')) → W p l e R s m args below meth c H locs cells slots Q (F0 m pc ls (S.map (q_iv ad)))) := by
  obtain ⟨hx, hb, hml, hr, hown, hts, hNW, hR, hK, hTY, hA, hsc⟩ := F
  obtain ⟨hP, hD, hS, hl, hn⟩ := rel
  rw [hI] at hown
  refine ⟨fun hi hd h => ?_, fun hi hd h => ?_⟩
  · subst hi
    unfold q_ac at h
    split at h
    · rename_i n dp kd sp ks r
      split at h
      · rename_i n0 n1 hs0 hs1
        split at h
        · cases h
        · rename_i hcond
          split at h
          · rename_i hrm
            obtain ⟨rfl, rfl, rfl, rfl⟩ := q_go_eq h
            simp only [not_or, Decidable.not_not] at hcond
            obtain ⟨h1, h2, h3, h4, h5⟩ := hcond
            refine va_copyi hx hb (hml.trans hl.1.symm) hown (hts _ q_acw.1) (hts _ q_acw.2.1) (hts _ q_acw.2.2.1) (hts _ q_acw.2.2.2) hK hP hD hS ks kd 0 0 (q_ws_at hs0) (q_ws_at hs1) (hTY ks 0 (Or.inl ⟨_, hs0⟩)) (hTY kd 0 (Or.inl ⟨_, hs1⟩)) rfl h1 h2 h3 h4 h5 (fun _ _ => rfl) (Nat.le_trans hrm.1 hR.1) (by rw [q_iv_cats]; exact Nat.le_trans hrm.2 hR.2.1) hd (fun H1 locs1 g1 g2 g3 => ?_)
            have hset := q_ws_set (ad := ad) (cA := cA) (v := .inl (cA 0, n1, .inl (va_cpy (w ks) (w kd) sp.toNatClampNeg dp.toNatClampNeg n.toNatClampNeg))) hs1 (fun a h => q_row_ne w (va_cpy (w ks) (w kd) sp.toNatClampNeg dp.toNatClampNeg n.toNatClampNeg) h) (by simp only [q_en1, q_row_at])
            rw [hset] at g1 g2
            exact kk _ _ _ ⟨g1, g2, g3, hl, hn⟩
          · cases h
      · cases h
    · cases h
  · subst hi
    unfold q_mn at h
    split at h
    · rename_i y x r
      split at h
      · rename_i hrm
        obtain ⟨rfl, rfl, rfl, rfl⟩ := q_go_eq h
        exact va_mmin hx hb (hml.trans hl.1.symm) hown (hts _ q_mnw.1) (hts _ q_mnw.2.1) (hts _ q_mnw.2.2.1) (hts _ q_mnw.2.2.2) (Nat.le_trans hrm.1 hR.1) (by rw [q_iv_cats]; exact Nat.le_trans hrm.2 hR.2.1) hR.2.2.1 hR.2.2.2 hd (kk _ _ _ ⟨hP, hD, hS, hl, hn⟩)
      · cases h
    · cases h
end Q7
