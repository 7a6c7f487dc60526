/-! THE CLAIM OUT OF ONE WALK OF THE LAW'S BODY. Your part is whole_start (and what it stands on); all else here is the same for every law, but numbers. -/
def R_law : String := "PrickedPagesLaw"
def lw_P (b : Addr) (xs : List Int32) (args : Array Value) (s : State) : Prop := args = #[.ref b] ∧ s.IntsAt b xs ∧ xs.length ≤ 384 ∧ (Jvm.Cond.and given_1 narrow_1).before args s = true
def lw_Q (_ : Array Value) (s : State) (o : Outcome) (t : State) : Prop := o = .returned (some (.int 1)) ∧ Framed s o t [] 600000 7302250
def lw_Z (below : List Frame) (a : Array Value) (s : State) : State → Prop := fun t => ∃ o, t.status = .running ∧ Ended t below o ∧ lw_Q a s o t
/-- the law's own end, with 1 on the stack, nothing written that was there before, its room as the claim has it -/
theorem lw_ret {p : Program} {l : Launch} {e : Env} {s : State} {m : MethodId} {below : List Frame} {meth : Method} {c : Code} {b : Nat} (hx : p.tables.exec = Jvm.exec) (hb : c.code = code) (hr : meth.sig.returnType = ret) (hlocks : meth.locks = false) {pc : Nat} {H : Heap} {ls : Array Slot} (hdg : decode code pc = .ok (.ireturn, 1)) : W p l e room_1 s m #[Value.ref b] below meth c H [] 600000 7302250 (lw_Z below #[Value.ref b] s) (F0 m pc ls [.int 1]) := by
  intro T hT X
  obtain ⟨fs, hret, hrun, hended, hW, hframe⟩ := X.leave (v := some (.int 1)) (hlocks := hlocks) (fun h => by rw [hr] at h; cases h)
  have hmeth' : T.vm.method? m = some meth := X.method'
  refine ⟨T.setFrames fs, ?_, .returned (some (.int 1)), hrun, hended, rfl, ⟨_, rfl⟩, hW, hframe⟩
  jvm_step X.here [X.here.top, hx, hb, hdg, hmeth', hr, ret, narrow_b1]
  (try refine ⟨rfl, ?_⟩); (try refine ⟨rfl, ?_⟩)
  first | (intro acts; rw [hret _ acts rfl rfl rfl]) | rw [hret _ _ rfl rfl rfl]
  exact Steps.refl _
/-- what holds at the law's entry: the machine, the code, the tables' words (any of lw_tbl by 'hts w (by decide +kernel)'), the script of L ints xs at the cell b, what the Statement gives of the start (any of its parts by flat_of_before) -/
def lw_At (p : Program) (s : State) (m : MethodId) (meth : Method) (c : Code) (b L : Nat) (xs : Nat → Int32) : Prop :=
  p.tables.exec = Jvm.exec ∧ c.code = code ∧ meth.sig.returnType = ret ∧ c.maxLocals = 4 ∧ s.vm.findClass R_law = some m.cls ∧ (∀ w ∈ lw_tbl, w.before #[Value.ref b] s = true) ∧ va_X b L xs s s.heap ∧ b < s.heap.size ∧ meth.locks = false ∧ (Jvm.Cond.and given_1 narrow_1).before #[Value.ref b] s = true
set_option maxRecDepth 100000 in
theorem nw_1 : (Jvm.Cond.initialized "PrickedPages") ∈ q_tbl := q_t 1 rfl rfl
set_option maxRecDepth 100000 in
theorem nw_8 : (Jvm.Cond.initialized "PrickedPagesModel") ∈ q_tbl := q_t 8 rfl rfl
set_option maxHeartbeats 1000000 in
set_option maxRecDepth 100000 in
/-- from the entry: both are made, then the pure machine runs -/
theorem whole_start {p : Program} {e : Env} {s : State} {m : MethodId} {below : List Frame} {meth : Method} {c : Code} (l : Launch) (hflags : l.flags = flags0) {b L : Nat} {xs : Nat → Int32} (hL : L ≤ 384) (C0 : lw_At p s m meth c b L xs) : W p l e room_1 s m #[Value.ref b] below meth c s.heap [] 0 0 (lw_Z below #[Value.ref b] s) (entryFrame m ([Value.ref b] : List Value).toArray 4) := by
  obtain ⟨hx, hb, hr, hml, hown, hts0, hX, hbl, hlocks, hgv⟩ := id C0
  have hown : s.vm.findClass RL = some m.cls := hown
  have hts : ∀ w ∈ q_tbl, w.before #[Value.ref b] s = true := fun w hw => hts0 w (List.mem_filter.mp hw).1
  have hNW : q_NW s := q_NW_of hts0
  obtain ⟨c0, i0, k0⟩ := u_known (C := RX0) (T := TX0) (N := 3) (n := 3) hts q_ws_0 (hts _ nw_101)
  obtain ⟨c1, i1, k1⟩ := u_known (C := RX1) (T := TX1) (N := 4) (n := 4) hts q_ws_1 (hts _ nw_68)
  obtain ⟨c2, i2, k2⟩ := u_known (C := RX2) (T := TX2) (N := 2) (n := 2) hts q_ws_2 (hts _ nw_20)
  obtain ⟨c3, i3, k3⟩ := u_known (C := RX3) (T := TX3) (N := 5) (n := 5) hts q_ws_3 (hts _ nw_41)
  obtain ⟨c4, i4, k4⟩ := u_known (C := RX4) (T := TX4) (N := 14) (n := 14) hts q_ws_4 (hts _ nw_12)
  obtain ⟨c5, i5, k5⟩ := u_known (C := RX5) (T := TX5) (N := 25) (n := 25) hts q_ws_5 (hts _ nw_562)
  obtain ⟨dC, dI, hKc⟩ : ∃ (dC : Nat → ClassId) (dI : Nat → Nat → Nat), ∀ (k : Nat) (q : vw_C), q_cl[k]? = some q → u_Kn s q.1 q.2.1 q.2.2 (dC k) (dI k) := by
    refine ⟨fun k => match k with | 0 => c0 | 1 => c1 | 2 => c2 | 3 => c3 | 4 => c4 | _ => c5, fun k => match k with | 0 => i0 | 1 => i1 | 2 => i2 | 3 => i3 | 4 => i4 | _ => i5, ?_⟩
    intro k q hq
    match k, hq with
    | 0, hq => cases hq; exact k0
    | 1, hq => cases hq; exact k1
    | 2, hq => cases hq; exact k2
    | 3, hq => cases hq; exact k3
    | 4, hq => cases hq; exact k4
    | 5, hq => cases hq; exact k5
    | k + 6, hq => simp [q_cl] at hq
  obtain ⟨cI, kI, pI, f1, f2, f3⟩ := Cond.arrayClass_spec (hts _ nw_39)
  obtain ⟨cB, kB, pB, g1, g2, g3⟩ := Cond.arrayClass_spec (hts _ nw_643)
  obtain ⟨pS, cS, kS, h1, -, h2, h3, h4⟩ := Cond.arrayOver_spec (hts0 _ (q_lt 100 rfl))
  have hK : va_K (dC, dI) q_cl (n_ty cI cB cS) s := ⟨hKc, fun k q hq => by
    match k, hq with
    | 0, hq => cases hq; exact ⟨fun n z => ⟨fun k h => (by cases h), kI, f2, pI, f3⟩, f1⟩
    | 1, hq => cases hq; exact ⟨fun n z => ⟨fun k h => (by cases h), kB, g2, pB, g3⟩, g1⟩
    | 2, hq => cases hq; exact ⟨fun n z => ⟨fun k h => (by cases h), kS, h2, pS, h3⟩, kS, pS, h2, h3, h1, h4⟩
    | k + 3, hq => simp [n_ty] at hq⟩
  obtain ⟨A, hAd⟩ : ∃ A : Nat → Prop, A = fun q => s.heap.size ≤ q := ⟨_, rfl⟩
  have hA : ∀ q : Nat, s.heap.size ≤ q → A q := fun q h => by rw [hAd]; exact h
  have hA' : ∀ q : Nat, A q → s.heap.size ≤ q := fun q h => by rw [hAd] at h; exact h
  have hbA : ¬ A b := fun h => Nat.not_le.mpr hbl (hA' b h)
  obtain ⟨t, hZ, hT, hTA⟩ := n_first (A := A) (hts0 _ (q_lt 88 rfl)) (hts _ nw_1) hgv (n_fI hK) (fun a h z => Nat.not_le.mpr h (hA' a z))
  have hCa : va_Nw (.castable "[I" "java/lang/Cloneable") s := va_Nw.of rfl (hts0 _ (q_lt 94 rfl))
  have hAO : va_AO RX0 s := va_AO.of (hts0 _ (q_lt 100 rfl))
  obtain ⟨wF, hF, hF1⟩ := n_gotF
  obtain ⟨M, hM, hMv⟩ := n_gotM
  have hS : va_S A s.heap s.heap [] := va_S.rf
  have hP : va_P (dC, dI) q_cl [] s.heap := fun k q h => by simp at h
  have hD : va_D A [] := ⟨fun i j p q h => by simp at h, fun k q h => by simp at h⟩
  have hl := lv_entry ([Value.ref b]) (n := 4) (Nat.le_of_ble_eq_true rfl)
  rw [lg_entry_eq]
  generalize (lg_sl ([Value.ref b]) ++ List.replicate (4 - (lg_sl ([Value.ref b])).length) Slot.unset).toArray = ls at hl ⊢
  have hl : lv_has ls 4 [(0, .ref b)] := hl
  refine va_new (ci := 4) (fs := [.null, .null, .null, .null, .null, .int 0, .int 0, .int 0, .null, .null, .null, .int 0, .null, .null]) (C := RX4) (T := TX4) (N := 14) hx hb hts q_ws_4 tyX4 tyX4_ok hown (hts _ nw_11) (hts _ nw_12) (hts _ nw_1) hK hP hD hS hA rfl (fun j hj => match j, hj with | 0, _ => rfl | 1, _ => rfl | 2, _ => rfl | 3, _ => rfl | 4, _ => rfl | 5, _ => rfl | 6, _ => rfl | 7, _ => rfl | 8, _ => rfl | 9, _ => rfl | 10, _ => rfl | 11, _ => rfl | 12, _ => rfl | 13, _ => rfl | n + 14, h => absurd h (by omega)) (Nat.le_of_ble_eq_true rfl) (Nat.le_of_ble_eq_true rfl) dL_law_0 (fun a0 H hP hD hS => ?_)
  have hP : va_P (dC, dI) q_cl [(a0, .inr (4, [.null, .null, .null, .null, .null, .int 0, .int 0, .int 0, .null, .null, .null, .int 0, .null, .null]))] H := hP
  have hD : va_D A [(a0, .inr (4, [.null, .null, .null, .null, .null, .int 0, .int 0, .int 0, .null, .null, .null, .int 0, .null, .null]))] := hD
  refine W.widen (k := 1) (n := 14) (Nat.le_of_ble_eq_true rfl) (Nat.le_of_ble_eq_true rfl) ?_
  refine lv_dup hx hb dL_law_3 rfl ?_
  have hFc := va_free (wc := [(a0, .inr (4, [.null, .null, .null, .null, .null, .int 0, .int 0, .int 0, .null, .null, .null, .int 0, .null, .null]))]) hD hS hA [0] rfl
  have hTU : n_TC cI 10 (fun j => nI (n_sg j)) t H := by
    obtain ⟨cell, r0, r1⟩ := hT
    exact ⟨cell, (hS.2.1 t (Array.getElem?_eq_some_iff.mp r0).1 hTA).trans r0, r1⟩
  refine va_callv (va_runI (As := []) (rest := [.ref a0]) ⟨hx, hb, hml, hown, hts⟩ (nc_4 l (dC, dI) cI cB cS a0 H.size t wF hF) (cwI 0 hts (n_ws_in nw_15) rfl rfl rfl (hts _ nw_1) (hts _ nw_13) (hts _ nw_14) rfl ⟨by decide +kernel, by decide +kernel, by decide +kernel⟩ ⟨(Nat.le_of_ble_eq_true rfl), (Nat.le_of_ble_eq_true rfl)⟩) ⟨n_BX_blind, fun U hU hW => ⟨rfl, ⟨by rw [hU], by rw [hU]; exact hP, va_K.moved hW.alike hK, hD.weaken (fun _ _ _ _ => trivial), q_NW_warm hW hNW⟩, by rw [hU]; exact ((hZ.kept (fun a h1 h2 => hS.2.1 a h1 h2)).narrow hFc).moved hW.alike, ⟨by rw [hU]; exact hTU, fun z => hTA (hFc t z)⟩, va_Nw.warmC hW hCa, va_AO.moved hW.alike hAO⟩⟩ rfl rfl hl.1 rfl (lv_room (Nat.le_of_ble_eq_true rfl)) dL_law_4 ⟨(Nat.le_of_ble_eq_true rfl), (Nat.le_of_ble_eq_true rfl)⟩) hS (fun q _ h => hFc q h) hFc (fun ad t1 H1 locs ht hvm hw hB hz1 hk1 hS => ?_)
  obtain ⟨hadX, hP1, hD1⟩ := hB
  rw [ht] at hP1
  obtain ⟨hP, hD⟩ := va_join (wr := []) (w1 := q_ws ad (n_cA cI cB cS) n_sX (n_wX (wF 0))) hP hD [0] [] rfl rfl (by decide) (by decide) hk1 hFc hP1 hD1
  rw [List.nil_append] at hP hD
  have hlenX : (q_ws ad (n_cA cI cB cS) n_sX (n_wX (wF 0))).length = 27 := by rw [n_eqX]; rfl
  obtain ⟨wX, hwX⟩ : ∃ wX : va_W, wX = q_ws ad (n_cA cI cB cS) n_sX (n_wX (wF 0)) := ⟨_, rfl⟩
  rw [← hwX] at hlenX
  have hP : va_P (dC, dI) q_cl wX H1 := by rw [hwX]; exact hP
  have hD : va_D A wX := by rw [hwX]; exact hD
  generalize H1 = H at hP hS ⊢
  refine W.widen (k := 27) (n := 520) (Nat.le_of_ble_eq_true rfl) (Nat.le_of_ble_eq_true rfl) ?_
  refine lv_astore_n (lv' := [(1, .ref a0), (0, .ref b)]) hx hb dL_law_7 rfl hl (by decide) rfl (fun ls hl => ?_)
  refine va_new (ci := 5) (fs := [.null, .null, .null, .int 0, .null, .int 0, .null, .null, .int 0, .int 0, .null, .int 0, .null, .null, .null, .null, .null, .null, .null, .null, .null, .null, .null, .null, .int 0]) (C := RX5) (T := TX5) (N := 25) hx hb hts q_ws_5 tyX5 tyX5_ok hown (hts _ nw_561) (hts _ nw_562) (hts _ nw_8) hK hP hD hS hA rfl (fun j hj => match j, hj with | 0, _ => rfl | 1, _ => rfl | 2, _ => rfl | 3, _ => rfl | 4, _ => rfl | 5, _ => rfl | 6, _ => rfl | 7, _ => rfl | 8, _ => rfl | 9, _ => rfl | 10, _ => rfl | 11, _ => rfl | 12, _ => rfl | 13, _ => rfl | 14, _ => rfl | 15, _ => rfl | 16, _ => rfl | 17, _ => rfl | 18, _ => rfl | 19, _ => rfl | 20, _ => rfl | 21, _ => rfl | 22, _ => rfl | 23, _ => rfl | 24, _ => rfl | n + 25, h => absurd h (by omega)) (Nat.le_of_ble_eq_true rfl) (Nat.le_of_ble_eq_true rfl) dL_law_8 (fun b0 H hP hD hS => ?_)
  refine W.widen (k := 28) (n := 545) (Nat.le_of_ble_eq_true rfl) (Nat.le_of_ble_eq_true rfl) ?_
  refine lv_dup hx hb dL_law_11 rfl ?_
  have iM : (wX ++ [(b0, (.inr (5, [.null, .null, .null, .int 0, .null, .int 0, .null, .null, .int 0, .int 0, .null, .int 0, .null, .null, .null, .null, .null, .null, .null, .null, .null, .null, .null, .null, .int 0]) : va_E))])[27]? = some (b0, .inr (5, [.null, .null, .null, .int 0, .null, .int 0, .null, .null, .int 0, .int 0, .null, .int 0, .null, .null, .null, .null, .null, .null, .null, .null, .null, .null, .null, .null, .int 0])) := by rw [List.getElem?_append_right (by omega), hlenX]; rfl
  have hPc : va_P (dC, dI) q_cl [(b0, .inr (5, [.null, .null, .null, .int 0, .null, .int 0, .null, .null, .int 0, .int 0, .null, .int 0, .null, .null, .null, .null, .null, .null, .null, .null, .null, .null, .null, .null, .int 0]))] H := n_Pmem hP (fun x hx => List.mem_append_right _ hx)
  have hDc : va_D A [(b0, .inr (5, [.null, .null, .null, .int 0, .null, .int 0, .null, .null, .int 0, .int 0, .null, .int 0, .null, .null, .null, .null, .null, .null, .null, .null, .null, .null, .null, .null, .int 0]))] := n_one (hD.2 27 _ iM)
  have hC27 : [27].map (fun i => (wX ++ [(b0, (.inr (5, [.null, .null, .null, .int 0, .null, .int 0, .null, .null, .int 0, .int 0, .null, .int 0, .null, .null, .null, .null, .null, .null, .null, .null, .null, .null, .null, .null, .int 0]) : va_E))])[i]?) = [(b0, .inr (5, [.null, .null, .null, .int 0, .null, .int 0, .null, .null, .int 0, .int 0, .null, .int 0, .null, .null, .null, .null, .null, .null, .null, .null, .null, .null, .null, .null, .int 0]))].map some := by
    rw [List.map_cons, List.map_nil, iM]
    rfl
  have hFc := va_free (wc := [(b0, .inr (5, [.null, .null, .null, .int 0, .null, .int 0, .null, .null, .int 0, .int 0, .null, .int 0, .null, .null, .null, .null, .null, .null, .null, .null, .null, .null, .null, .null, .int 0]))]) hD hS hA [27] hC27
  have hR27 := n_hR wX [(b0, (.inr (5, [.null, .null, .null, .int 0, .null, .int 0, .null, .null, .int 0, .int 0, .null, .int 0, .null, .null, .null, .null, .null, .null, .null, .null, .null, .null, .null, .null, .int 0]) : va_E))]
  rw [hlenX] at hR27
  refine va_callv (va_runI (As := []) (rest := [.ref b0]) ⟨hx, hb, hml, hown, hts⟩ (nc_5 l (dC, dI) cI cB cS b0 H.size M hM) (cwI 0 hts (n_ws_in nw_565) rfl rfl rfl (hts _ nw_8) (hts _ nw_563) (hts _ nw_564) rfl ⟨by decide +kernel, by decide +kernel, by decide +kernel⟩ ⟨(Nat.le_of_ble_eq_true rfl), (Nat.le_of_ble_eq_true rfl)⟩) (n_pre hPc hDc hK hNW) rfl rfl hl.1 rfl (lv_room (Nat.le_of_ble_eq_true rfl)) dL_law_12 ⟨(Nat.le_of_ble_eq_true rfl), (Nat.le_of_ble_eq_true rfl)⟩) hS (fun q _ h => hFc q h) hFc (fun aM t1 H1 locs ht hvm hw hB hz1 hk1 hS => ?_)
  obtain ⟨haM, hP1, hD1⟩ := hB
  rw [ht] at hP1
  obtain ⟨hP, hD⟩ := va_join (wr := wX) (w1 := q_ws aM (n_cA cI cB cS) q_sM M) hP hD [27] (List.range 27) hC27 hR27 (by decide) (by decide) hk1 hFc hP1 hD1
  generalize H1 = H at hP hS ⊢
  refine W.widen (k := 47) (n := 1154) (Nat.le_of_ble_eq_true rfl) (Nat.le_of_ble_eq_true rfl) ?_
  refine lv_astore_n (lv' := [(2, .ref b0), (1, .ref a0), (0, .ref b)]) hx hb dL_law_15 rfl hl (by decide) rfl (fun ls hl => ?_)
  have hPA : va_P (dC, dI) q_cl (q_ws (n_ad ad aM b) (n_cA cI cB cS) q_sA (n_w0 (wF 0) M)) H := by rw [n_glue, ← hwX]; exact hP
  have hDA : va_D A (q_ws (n_ad ad aM b) (n_cA cI cB cS) q_sA (n_w0 (wF 0) M)) := by rw [n_glue, ← hwX]; exact hD
  have hl9 : lv_has ls 4 (q_lv (n_ad ad aM b) [some (.ref 47), some (.ref 0), some (.ref 27), none]) := by
    refine lv_mono hl (fun q hq => ?_)
    obtain ⟨i, u⟩ := q
    obtain ⟨v, hv, rfl⟩ := q_lv_mem.mp hq
    match i, hv with
    | 0, hv => cases hv; exact List.mem_cons_of_mem _ (List.mem_cons_of_mem _ List.mem_cons_self)
    | 1, hv => cases hv; exact List.mem_cons_of_mem _ (by rw [show q_iv (n_ad ad aM b) (.ref 0) = .ref a0 from congrArg Value.ref hadX]; exact List.mem_cons_self)
    | 2, hv => cases hv; rw [show q_iv (n_ad ad aM b) (.ref 27) = .ref b0 from congrArg Value.ref haM]; exact List.mem_cons_self
    | 3, hv => cases hv
    | n + 4, hv => simp at hv
  obtain ⟨w', hrun⟩ := l_law (N := L) (xs := xs) (w := n_w0 (wF 0) M) (by omega) (n_rel0 hF1 hMv)
  obtain ⟨fu, hfu⟩ := (q_ev_iff _ _ _ _ _ _ _ _ _).mp hrun
  refine q_sound l (n_TY (by decide)) fu (some (L, xs)) iL_law 16 [some (.ref 47), some (.ref 0), some (.ref 27), none] [] (n_w0 (wF 0) M) (some (.int 1), w') hfu p e room_1 s m _ below meth c H locs 47 1154 _ A ls ⟨hx, hb, hml, hr, hown, hts, hNW, ⟨(Nat.le_of_ble_eq_true rfl), (Nat.le_of_ble_eq_true rfl), (Nat.le_of_ble_eq_true rfl), (Nat.le_of_ble_eq_true rfl)⟩, hK, n_TY (by decide), hA, fun N xs' h => ?_⟩ ⟨hPA, hDA, hS, hl9, rfl⟩ ?_
  · cases h
    exact ⟨rfl, hX, hbl, hbA⟩
  · intro pc' ls' H' locs' g1 g2 g3
    refine va_forget (fun q hq => hA' _ (g2.2.2 q hq)) ?_
    refine W.widen (k := 600000) (n := 7302250) (Nat.le_of_ble_eq_true rfl) (Nat.le_of_ble_eq_true rfl) ?_
    exact lw_ret hx hb hr hlocks g3.1
