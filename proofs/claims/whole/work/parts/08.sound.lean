/-! every step of the pure machine, and the whole run -/
section Q8
variable {p : Program} {l : Launch} {e : Env} {R : Room} {s : State} {m : MethodId} {args : Array Value} {below : List Frame} {meth : Method} {c : Code} {H : Heap} {locs : List Loc} {cells slots : Nat} {Q : State → Prop}
variable {D : va_G} {ad : Nat → Nat} {cA : Nat → ClassId} {tys : List (ClassId × FieldType)} {sh : List qS} {sc : qX} {I : qI} {A : Nat → Prop} {pc len pc' : Nat} {ins : Instr} {L L' : qL} {S S' : List Value} {w w' : qW} {ls : Array Slot}
theorem q_if_eq {cd : Jvm.ClassFile.Cond} {x y : Int32} {a b : Option qO} {o : qO} (h : q_if cd x y a b = some o) : a = some o ∨ b = some o := by
  unfold q_if at h
  split at h <;> split at h <;> first | exact Or.inl h | exact Or.inr h
set_option maxHeartbeats 8000000 in
theorem q_br (F : q_FX p R s m args meth c D ad cA tys sh sc I A cells slots) (rel : q_RL s D ad cA sh I A H locs L w ls)
    (kk : ∀ (H' : Heap) (locs' : List Loc) (ls' : Array Slot), q_RL s D ad cA sh I A H' locs' L' w' ls' → W p l e R s m args below meth c H' locs' cells slots Q (F0 m pc' ls' (S'.map (q_iv ad)))) :
    (∀ cd off, decode (mB I) pc = .ok (.ifCond cd off, len) → q_step q_tb sh sc I pc len (.ifCond cd off) L S w = some (.inl (pc', L', S', w')) → W p l e R s m args below meth c H locs cells slots Q (F0 m pc ls (S.map (q_iv ad)))) ∧
    (∀ cd off, decode (mB I) pc = .ok (.if_icmp cd off, len) → q_step q_tb sh sc I pc len (.if_icmp cd off) L S w = some (.inl (pc', L', S', w')) → W p l e R s m args below meth c H locs cells slots Q (F0 m pc ls (S.map (q_iv ad)))) := by
  obtain ⟨hx, hb, -⟩ := F
  refine ⟨fun cd off hd h => ?_, fun cd off hd h => ?_⟩
  · unfold q_step at h
    dsimp only at h
    split at h
    · rename_i x r
      split at h
      · rename_i t ht
        have ht := q_to_eq ht
        have K : ∀ a, q_go a L r w = some (.inl (pc', L', S', w')) → W p l e R s m args below meth c H locs cells slots Q (F0 m a ls (r.map (q_iv ad))) := by
          intro a ha
          obtain ⟨rfl, rfl, rfl, rfl⟩ := q_go_eq ha
          exact kk _ _ _ rel
        unfold q_if at h
        split at h
        · exact lv_if_eq hx hb hd ht (fun g => K _ (by rw [if_pos g] at h; exact h)) (fun g => K _ (by rw [if_neg g] at h; exact h))
        · exact lv_if_ne hx hb hd ht (fun g => K _ (by rw [if_pos g] at h; exact h)) (fun g => K _ (by rw [if_neg (fun z => z g)] at h; exact h))
        · exact lv_if_lt hx hb hd ht (fun g => K _ (by rw [if_pos g] at h; exact h)) (fun g => K _ (by rw [if_neg g] at h; exact h))
        · exact lv_if_ge hx hb hd ht (fun g => K _ (by rw [if_pos g] at h; exact h)) (fun g => K _ (by rw [if_neg g] at h; exact h))
        · exact lv_if_gt hx hb hd ht (fun g => K _ (by rw [if_pos g] at h; exact h)) (fun g => K _ (by rw [if_neg g] at h; exact h))
        · exact lv_if_le hx hb hd ht (fun g => K _ (by rw [if_pos g] at h; exact h)) (fun g => K _ (by rw [if_neg g] at h; exact h))
      · cases h
    · cases h
  · unfold q_step at h
    dsimp only at h
    split at h
    · rename_i y x r
      split at h
      · rename_i t ht
        have ht := q_to_eq ht
        have K : ∀ a, q_go a L r w = some (.inl (pc', L', S', w')) → W p l e R s m args below meth c H locs cells slots Q (F0 m a ls (r.map (q_iv ad))) := by
          intro a ha
          obtain ⟨rfl, rfl, rfl, rfl⟩ := q_go_eq ha
          exact kk _ _ _ rel
        unfold q_if at h
        split at h
        · exact lv_icmp_eq hx hb hd ht (fun g => K _ (by rw [if_pos g] at h; exact h)) (fun g => K _ (by rw [if_neg g] at h; exact h))
        · exact lv_icmp_ne hx hb hd ht (fun g => K _ (by rw [if_pos g] at h; exact h)) (fun g => K _ (by rw [if_neg (fun z => z g)] at h; exact h))
        · exact lv_icmp_lt hx hb hd ht (fun g => K _ (by rw [if_pos g] at h; exact h)) (fun g => K _ (by rw [if_neg g] at h; exact h))
        · exact lv_icmp_ge hx hb hd ht (fun g => K _ (by rw [if_pos g] at h; exact h)) (fun g => K _ (by rw [if_neg g] at h; exact h))
        · exact lv_icmp_gt hx hb hd ht (fun g => K _ (by rw [if_pos g] at h; exact h)) (fun g => K _ (by rw [if_neg g] at h; exact h))
        · exact lv_icmp_le hx hb hd ht (fun g => K _ (by rw [if_pos g] at h; exact h)) (fun g => K _ (by rw [if_neg g] at h; exact h))
      · cases h
    · cases h
set_option maxHeartbeats 16000000 in
theorem q_snd1 (F : q_FX p R s m args meth c D ad cA tys sh sc I A cells slots) (rel : q_RL s D ad cA sh I A H locs L w ls)
    (kk : ∀ (H' : Heap) (locs' : List Loc) (ls' : Array Slot), q_RL s D ad cA sh I A H' locs' L' w' ls' → W p l e R s m args below meth c H' locs' cells slots Q (F0 m pc' ls' (S'.map (q_iv ad))))
    (hd : decode (mB I) pc = .ok (ins, len)) (h : q_step q_tb sh sc I pc len ins L S w = some (.inl (pc', L', S', w'))) : W p l e R s m args below meth c H locs cells slots Q (F0 m pc ls (S.map (q_iv ad))) := by
  have hx := F.1
  have hb := F.2.1
  have hown := F.2.2.2.2.1
  have hts := F.2.2.2.2.2.1
  have hl := rel.2.2.2.1
  have hn := rel.2.2.2.2
  have bin : ∀ {f : Int32 → Int32 → Int32}, q_b1 len pc L S w f = some (.inl (pc', L', S', w')) → (∀ (x y : Int32) (r : List Value), len = 1 → S = .int y :: .int x :: r → W p l e R s m args below meth c H locs cells slots Q (F0 m (pc + 1) ls (.int (f x y) :: r.map (q_iv ad))) → W p l e R s m args below meth c H locs cells slots Q (F0 m pc ls (S.map (q_iv ad)))) → W p l e R s m args below meth c H locs cells slots Q (F0 m pc ls (S.map (q_iv ad))) := by
    intro f hf k
    obtain ⟨x, y, r, h1, h2, rfl, rfl, rfl, rfl⟩ := q_b1_eq hf
    exact k x y r h1 h2 (kk _ _ _ rel)
  have gos : ∀ {n : Nat} {S1 : List Value}, q_go (pc + n) L S1 w = some (.inl (pc', L', S', w')) → W p l e R s m args below meth c H locs cells slots Q (F0 m (pc + n) ls (S1.map (q_iv ad))) := by
    intro n S1 hg
    obtain ⟨rfl, rfl, rfl, rfl⟩ := q_go_eq hg
    exact kk _ _ _ rel
  cases ins with
  | iconst n =>
    unfold q_step at h; dsimp only at h
    split at h
    · rename_i hlen; subst hlen
      exact lv_iconst hx hb hd (q_ic_eq n) (gos h)
    · cases h
  | bipush n =>
    unfold q_step at h; dsimp only at h
    split at h
    · rename_i hlen; obtain ⟨rfl, h1, h2⟩ := hlen
      exact lv_bipush hx hb hd (q_ic8 h1 h2) (gos h)
    · cases h
  | sipush n =>
    unfold q_step at h; dsimp only at h
    split at h
    · rename_i hlen; obtain ⟨rfl, h1⟩ := hlen
      exact lv_sipush hx hb hd h1 (gos h)
    · cases h
  | aconst_null =>
    unfold q_step at h; dsimp only at h
    split at h
    · rename_i hlen; subst hlen
      exact lv_null hx hb hd (gos h)
    · cases h
  | ldc i =>
    unfold q_step at h; dsimp only at h
    split at h
    · rename_i hlen; subst hlen
      split at h
      · rename_i v hv
        exact lv_ldc hx hb hown (hts _ (q_ldc_ok hv)) hd (gos h)
      · cases h
    · cases h
  | ldc_w i =>
    unfold q_step at h; dsimp only at h
    split at h
    · rename_i hlen; subst hlen
      split at h
      · rename_i v hv
        exact lv_ldcw hx hb hown (hts _ (q_ldc_ok hv)) hd (gos h)
      · cases h
    · cases h
  | ldc2_w i =>
    unfold q_step at h; dsimp only at h
    split at h
    · rename_i hlen; subst hlen
      split at h
      · rename_i v hv
        exact lv_ldc2 hx hb hown (hts _ (q_ldl_ok hv)) hd (gos h)
      · cases h
    · cases h
  | iload_n k => unfold q_step at h; exact (q_load1 F rel kk).1 k hd h
  | iload k => unfold q_step at h; exact (q_load1 F rel kk).2.1 k hd h
  | lload_n k => unfold q_step at h; exact (q_load1 F rel kk).2.2.1 k hd h
  | aload_n k => unfold q_step at h; exact (q_load1 F rel kk).2.2.2.1 k hd h
  | aload k => unfold q_step at h; exact (q_load1 F rel kk).2.2.2.2 k hd h
  | istore_n k => unfold q_step at h; exact (q_store1 F rel kk).1 k hd h
  | istore k => unfold q_step at h; exact (q_store1 F rel kk).2.1 k hd h
  | astore_n k => unfold q_step at h; exact (q_store1 F rel kk).2.2.1 k hd h
  | astore k => unfold q_step at h; exact (q_store1 F rel kk).2.2.2 k hd h
  | lstore_n k =>
    unfold q_step at h; dsimp only at h
    split at h
    · rename_i x r
      split at h
      · rename_i L1 hL1
        obtain ⟨rfl, rfl, rfl, rfl⟩ := q_go_eq h
        have hk := q_st2_lt hL1
        rw [hn] at hk
        refine lv_lstore_n hx hb hd rfl hl hk rfl (fun ls' h3 => ?_)
        obtain ⟨h4, h5⟩ := q_lv_set2 (v := .long x) hL1 h3
        exact kk _ _ _ ⟨rel.1, rel.2.1, rel.2.2.1, h4, by rw [h5]; exact hn⟩
      · cases h
    · cases h
  | iinc i n =>
    unfold q_step at h; dsimp only at h
    split at h
    · rename_i hlen; subst hlen
      split at h
      · rename_i x hx0
        split at h
        · rename_i L1 hL1
          obtain ⟨rfl, rfl, rfl, rfl⟩ := q_go_eq h
          have hk := q_st_lt hL1
          rw [hn] at hk
          obtain ⟨j, hj⟩ := List.getElem?_of_mem (q_lv_mem (ad := ad).mpr ⟨_, hx0, rfl⟩)
          refine lv_iinc (v := x + q_ic n) hx hb hd hl hj (by rw [q_ic_eq]) hk rfl (fun ls' h3 => ?_)
          obtain ⟨h4, h5⟩ := q_lv_set (v := .int (x + q_ic n)) hL1 h3
          exact kk _ _ _ ⟨rel.1, rel.2.1, rel.2.2.1, h4, by rw [h5]; exact hn⟩
        · cases h
      · cases h
    · cases h
  | dup =>
    unfold q_step at h; dsimp only at h
    split at h
    · rename_i v r
      split at h
      · rename_i hv
        exact lv_dup hx hb hd (by rw [q_iv_cat]; exact hv) (gos h)
      · cases h
    · cases h
  | dup2 =>
    unfold q_step at h; dsimp only at h
    split at h
    · rename_i a b r
      split at h
      · rename_i hv
        exact lv_dup2_11 hx hb hd (by rw [q_iv_cat]; exact hv.1) (by rw [q_iv_cat]; exact hv.2) (gos h)
      · cases h
    · cases h
  | iadd => unfold q_step at h; exact bin h (fun x y r h1 h2 k => by subst h1; subst h2; exact lv_iadd hx hb hd k)
  | isub => unfold q_step at h; exact bin h (fun x y r h1 h2 k => by subst h1; subst h2; exact lv_isub hx hb hd k)
  | imul => unfold q_step at h; exact bin h (fun x y r h1 h2 k => by subst h1; subst h2; exact lv_imul hx hb hd k)
  | iand => unfold q_step at h; exact bin h (fun x y r h1 h2 k => by subst h1; subst h2; exact lv_iand hx hb hd k)
  | ior => unfold q_step at h; exact bin h (fun x y r h1 h2 k => by subst h1; subst h2; exact lv_ior hx hb hd k)
  | ixor => unfold q_step at h; exact bin h (fun x y r h1 h2 k => by subst h1; subst h2; exact lv_ixor hx hb hd k)
  | ishl => unfold q_step at h; exact bin h (fun x y r h1 h2 k => by subst h1; subst h2; exact lv_ishl hx hb hd k)
  | ishr => unfold q_step at h; exact bin h (fun x y r h1 h2 k => by subst h1; subst h2; exact lv_ishr hx hb hd k)
  | iushr => unfold q_step at h; exact bin h (fun x y r h1 h2 k => by subst h1; subst h2; exact lv_iushr hx hb hd rfl k)
  | idiv =>
    unfold q_step at h; dsimp only at h
    split at h
    · split at h
      · cases h
      · rename_i hy
        exact lv_idiv hx hb hd hy (gos h)
    · cases h
  | irem =>
    unfold q_step at h; dsimp only at h
    split at h
    · split at h
      · cases h
      · rename_i hy
        exact lv_irem hx hb hd hy (gos h)
    · cases h
  | i2l =>
    unfold q_step at h
    obtain ⟨x, r, rfl, rfl, rfl, rfl, rfl, rfl⟩ := q_u1_eq h
    exact lv_i2l hx hb hd rfl (kk _ _ _ rel)
  | i2b =>
    unfold q_step at h
    obtain ⟨x, r, rfl, rfl, rfl, rfl, rfl, rfl⟩ := q_u1_eq h
    exact lv_i2b hx hb hd rfl (kk _ _ _ rel)
  | i2s =>
    unfold q_step at h
    obtain ⟨x, r, rfl, rfl, rfl, rfl, rfl, rfl⟩ := q_u1_eq h
    exact lv_i2s hx hb hd rfl (kk _ _ _ rel)
  | ladd =>
    unfold q_step at h; dsimp only at h
    split at h
    · exact lv_ladd hx hb hd (gos h)
    · cases h
  | lmul =>
    unfold q_step at h; dsimp only at h
    split at h
    · exact lv_lmul hx hb hd (gos h)
    · cases h
  | lcmp =>
    unfold q_step at h; dsimp only at h
    split at h
    · exact W.lcmp hx hb hd (gos h)
    · cases h
  | ifCond cd off => exact (q_br F rel kk).1 cd off hd h
  | if_icmp cd off => exact (q_br F rel kk).2 cd off hd h
  | ifnull off =>
    unfold q_step at h; dsimp only at h
    split at h
    · split at h
      · rename_i t ht
        obtain ⟨rfl, rfl, rfl, rfl⟩ := q_go_eq h
        exact lv_ifnullN hx hb hd (q_to_eq ht) (kk _ _ _ rel)
      · cases h
    · exact lv_ifnull hx hb hd (gos h)
    · cases h
  | ifnonnull off =>
    unfold q_step at h; dsimp only at h
    split at h
    · split at h
      · rename_i t ht
        obtain ⟨rfl, rfl, rfl, rfl⟩ := q_go_eq h
        exact lv_ifnonnull hx hb hd (q_to_eq ht) (kk _ _ _ rel)
      · cases h
    · exact lv_ifnonnullN hx hb hd (gos h)
    · cases h
  | goto off =>
    unfold q_step at h; dsimp only at h
    split at h
    · rename_i hlen; subst hlen
      split at h
      · rename_i t ht
        obtain ⟨rfl, rfl, rfl, rfl⟩ := q_go_eq h
        exact lv_goto hx hb hd (q_to_eq ht) (kk _ _ _ rel)
      · cases h
    · cases h
  | tableswitch d lo hi offs =>
    unfold q_step at h; dsimp only at h
    split at h
    · rename_i x r
      split at h
      · rename_i hc
        split at h
        · rename_i t ht
          obtain ⟨rfl, rfl, rfl, rfl⟩ := q_go_eq h
          exact lv_tableOut hx hb hd hc (q_to_eq ht) (kk _ _ _ rel)
        · cases h
      · rename_i hc
        split at h
        · rename_i o ho
          split at h
          · rename_i t ht
            obtain ⟨rfl, rfl, rfl, rfl⟩ := q_go_eq h
            exact lv_tableIn hx hb hd (fun g => hc (Or.inl g)) (fun g => hc (Or.inr g)) ho (q_to_eq ht) (kk _ _ _ rel)
          · cases h
        · cases h
    · cases h
  | getfield i => exact q_getf F rel kk hd h
  | putfield i => exact q_putf F rel kk hd h
  | arraylength => exact (q_arr2 F rel kk).2 hd h
  | aaload => exact (q_arr2 F rel kk).1 hd h
  | iaload => unfold q_step at h; exact q_aload0 F rel kk hd h
  | baload => unfold q_step at h; exact q_aload1 F rel kk hd h
  | iastore => unfold q_step at h; exact (q_astore01 F rel kk).1 hd h
  | bastore => unfold q_step at h; exact (q_astore01 F rel kk).2 hd h
  | invokestatic i =>
    unfold q_step at h; dsimp only at h
    split at h
    · rename_i hlen; subst hlen
      split at h
      · rename_i hc
        exact (q_acopy F rel kk hc.1).1 hc.2 hd h
      · split at h
        · rename_i hc
          exact (q_acopy F rel kk hc.1).2 hc.2 hd h
        · split at h
          · split at h
            · simp at h
            · cases h
          · cases h
    · cases h
  | invokevirtual i =>
    unfold q_step at h; dsimp only at h
    split at h
    · split at h
      · split at h
        · split at h
          · simp at h
          · cases h
        · cases h
      · cases h
    · cases h
  | ireturn =>
    unfold q_step at h; dsimp only at h
    split at h
    · simp at h
    · split at h
      · simp at h
      · cases h
    · cases h
  | lreturn =>
    unfold q_step at h; dsimp only at h
    split at h
    · simp at h
    · cases h
  | areturn =>
    unfold q_step at h; dsimp only at h
    split at h
    · split at h
      · simp at h
      · cases h
    · cases h
  | return_ =>
    unfold q_step at h; dsimp only at h
    split at h
    · simp at h
    · cases h
  | _ => unfold q_step at h; cases h
end Q8
