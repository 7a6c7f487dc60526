/-! WHAT IS MADE: rows for new arrays whose classes are known beforehand, a clone of a static array, Arrays.fill -/
def n_ty (cI cB cS : ClassId) : List (ClassId × FieldType) := [(cI, .int), (cB, .boolean), (cS, .object RX0)]
def n_cA (cI cB cS : ClassId) : Nat → ClassId := fun t => match t with
  | 0 => cI
  | 1 => cB
  | _ => cS
def n_tyb (x : qS) : Bool := match x with
  | .inl (t, _) => decide (t < 3)
  | .inr (.inl (t, _)) => decide (t < 3)
  | .inr (.inr _) => true
theorem n_TY {cI cB cS : ClassId} {sh : List qS} (h : sh.all n_tyb = true) : q_TY (n_cA cI cB cS) (n_ty cI cB cS) sh := by
  intro k t hk
  have ht : t < 3 := by
    rcases hk with ⟨n, hn⟩ | ⟨ks, hn⟩
    · have h1 := List.all_eq_true.mp h _ (List.mem_of_getElem? hn)
      simpa [n_tyb] using h1
    · have h1 := List.all_eq_true.mp h _ (List.mem_of_getElem? hn)
      simpa [n_tyb] using h1
  match t, ht with
  | 0, _ => rfl
  | 1, _ => rfl
  | 2, _ => rfl
def n_ws (y : MethodName) (cc : ByteArray) (n : Nat) : List Cond := Cond.code y cc n none :: q_tbl
theorem n_ws_in {y : MethodName} {cc : ByteArray} {n : Nat} (h : Cond.code y cc n none ∈ q_tbl) : GoodIn q_tbl (n_ws y cc n) := by
  intro w hw
  rcases List.mem_cons.mp hw with rfl | hw
  · exact ⟨h, q_tbl_good _ h⟩
  · exact ⟨hw, q_tbl_good _ hw⟩
def n_B (D : va_G) (tys : List (ClassId × FieldType)) (ws : va_W) (sz : Nat) (U : State) : Prop :=
  U.heap.size = sz ∧ va_P D q_cl ws U.heap ∧ va_K D q_cl tys U ∧ va_D (fun _ => True) ws ∧ q_NW U
section N1
variable {p : Program} {l : Launch} {e : Env} {R : Room} {s : State} {m : MethodId} {args : Array Value} {below : List Frame} {meth : Method} {c : Code} {H H0 : Heap} {locs : List Loc} {cells slots : Nat} {Q : State → Prop}
variable {D : va_G} {cl : List vw_C} {tys : List (ClassId × FieldType)} {ws wc : va_W} {A : Nat → Prop} {cc : ByteArray} {pc : Nat} {ls : Array Slot} {rest : List Value} {cI cB cS : ClassId} {av : List Value} {sz : Nat}
theorem n_B_blind : FrameBlind (va_Pc av (n_B D tys ws sz)) := by
  intro a U g mk q
  obtain ⟨q0, q1, q2, q3, q4, q5⟩ := q
  exact ⟨q0, q1, q2, va_K.moved (u := U) (U := U.calling g mk a) (Vm.Alike.refl U.vm) q3, q4, q_NW_same (s := U) (U := U.calling g mk a) rfl q5⟩
theorem n_pre (hP : va_P D q_cl wc H) (hD : va_D A wc) (hK : va_K D q_cl tys s) (hNW : q_NW s) : PreS s H (va_Pc av (n_B D tys wc H.size)) av :=
  ⟨n_B_blind, fun U hU hW => ⟨rfl, by rw [hU], by rw [hU]; exact hP, va_K.moved hW.alike hK, hD.weaken (fun _ _ _ _ => trivial), q_NW_warm hW hNW⟩⟩
theorem n_fI (hK : va_K D cl (n_ty cI cB cS) s) : s.vm.findClass "[I" = some cI := (hK.2 0 _ rfl).2
theorem n_newi (hexec : p.tables.exec = Jvm.exec) (hb : c.code = cc) (harr : (Cond.arrayClass .int).before args s = true) (hK : va_K D cl (n_ty cI cB cS) s) (hP : va_P D cl ws H) (hD : va_D A ws) (hS : va_S A H0 H locs) (hA : ∀ q, H0.size ≤ q → A q)
    {n : Int32} {N : Nat} (hn : ¬ n < 0) (hN : n.toNatClampNeg = N) (hbytes : N * 4 ≤ 536870912) (hcells : cells + 1 ≤ R.cells) (hslots : slots + N ≤ R.slots) (hdg : decode cc pc = .ok (.newarray .int, 2))
    (kk : ∀ (q : Nat) (H1 : Heap), va_P D cl (ws ++ [(q, .inl (cI, N, .inl (fun _ => 0)))]) H1 → va_D A (ws ++ [(q, .inl (cI, N, .inl (fun _ => 0)))]) → va_S A H0 H1 locs →
      W p l e R s m args below meth c H1 locs (cells + 1) (slots + N) Q (F0 m (pc + 2) ls (.ref q :: rest))) : W p l e R s m args below meth c H locs cells slots Q (F0 m pc ls (.int n :: rest)) := by
  refine va_newa hexec hb (atype := .int) harr (ty := .int) rfl hK hP hD hS hA (N' := N) (a0 := (N, .inl (fun _ => 0))) (fun _ => rfl) hn hN hbytes hcells hslots hdg (fun q cA H1 hK1 hP1 hD1 hS1 => ?_)
  have e1 : s.vm.findClass "[I" = some cA := (hK1.2 3 (cA, .int) rfl).2
  have e2 : cA = cI := Option.some.inj (e1.symm.trans (n_fI hK))
  subst e2
  exact kk q H1 hP1 hD1 hS1
theorem n_newb (hexec : p.tables.exec = Jvm.exec) (hb : c.code = cc) (harr : (Cond.arrayClass .boolean).before args s = true) (hK : va_K D cl (n_ty cI cB cS) s) (hP : va_P D cl ws H) (hD : va_D A ws) (hS : va_S A H0 H locs) (hA : ∀ q, H0.size ≤ q → A q)
    {n : Int32} {N : Nat} (hn : ¬ n < 0) (hN : n.toNatClampNeg = N) (hbytes : N * 4 ≤ 536870912) (hcells : cells + 1 ≤ R.cells) (hslots : slots + N ≤ R.slots) (hdg : decode cc pc = .ok (.newarray .boolean, 2))
    (kk : ∀ (q : Nat) (H1 : Heap), va_P D cl (ws ++ [(q, .inl (cB, N, .inl (fun _ => 0)))]) H1 → va_D A (ws ++ [(q, .inl (cB, N, .inl (fun _ => 0)))]) → va_S A H0 H1 locs →
      W p l e R s m args below meth c H1 locs (cells + 1) (slots + N) Q (F0 m (pc + 2) ls (.ref q :: rest))) : W p l e R s m args below meth c H locs cells slots Q (F0 m pc ls (.int n :: rest)) := by
  refine va_newa hexec hb (atype := .boolean) harr (ty := .boolean) rfl hK hP hD hS hA (N' := N) (a0 := (N, .inl (fun _ => 0))) (fun _ => rfl) hn hN (Nat.le_trans (Nat.mul_le_mul_left N (show componentBytes .boolean ≤ 4 by decide)) hbytes) hcells hslots hdg (fun q cA H1 hK1 hP1 hD1 hS1 => ?_)
  have e1 : s.vm.findClass "[Z" = some cA := (hK1.2 3 (cA, .boolean) rfl).2
  have e3 : s.vm.findClass "[Z" = some cB := (hK.2 1 (cB, .boolean) rfl).2
  have e2 : cA = cB := Option.some.inj (e1.symm.trans e3)
  subst e2
  exact kk q H1 hP1 hD1 hS1
theorem n_newq (hexec : p.tables.exec = Jvm.exec) (hb : c.code = cc) {own : String} {index : Nat} (hown : s.vm.findClass own = some m.cls) (hclink : (Cond.classLink own index RX0).before args s = true) (hover : va_AO RX0 s) (hK : va_K D cl (n_ty cI cB cS) s) (hP : va_P D cl ws H) (hD : va_D A ws) (hS : va_S A H0 H locs) (hA : ∀ q, H0.size ≤ q → A q)
    {n : Int32} {N : Nat} (hn : ¬ n < 0) (hN : n.toNatClampNeg = N) (hbytes : N * 4 ≤ 536870912) (hcells : cells + 1 ≤ R.cells) (hslots : slots + N ≤ R.slots) (hdg : decode cc pc = .ok (.anewarray index, 3))
    (kk : ∀ (q : Nat) (H1 : Heap), va_P D cl (ws ++ [(q, .inl (cS, N, .inr (.inr (.inr (.inr (fun _ => none))))))]) H1 → va_D A (ws ++ [(q, .inl (cS, N, .inr (.inr (.inr (.inr (fun _ => none))))))]) → va_S A H0 H1 locs →
      W p l e R s m args below meth c H1 locs (cells + 1) (slots + N) Q (F0 m (pc + 3) ls (.ref q :: rest))) : W p l e R s m args below meth c H locs cells slots Q (F0 m pc ls (.int n :: rest)) := by
  refine va_newq hexec hb hown hclink hover hK hP hD hS hA hn hN hbytes hcells hslots hdg (fun q cA H1 hK1 hP1 hD1 hS1 => ?_)
  obtain ⟨_, _, _, _, _, e1⟩ := (hK1.2 3 (cA, .object RX0) rfl).2
  obtain ⟨_, _, _, _, _, e3⟩ := (hK.2 2 (cS, .object RX0) rfl).2
  have e2 : cA = cS := Option.some.inj (e1.symm.trans e3)
  subst e2
  exact kk q H1 hP1 hD1 hS1
theorem n_one {a : Nat} {x : va_E} (h : A a) : va_D A [(a, x)] := by
  have z : ∀ (i : Nat) (q : Nat × va_E), ([(a, x)] : va_W)[i]? = some q → i = 0 ∧ q = (a, x) := by
    intro i q hq
    cases i with
    | zero => simp at hq; exact ⟨rfl, hq.symm⟩
    | succ i => simp at hq
  refine ⟨fun i j p q hp hq _ => (z i p hp).1.trans (z j q hq).1.symm, fun k q hq => ?_⟩
  rw [(z k q hq).2]
  exact h
theorem n_Pmem {ws' : va_W} (hP : va_P D cl ws H) (h : ∀ x ∈ ws', x ∈ ws) : va_P D cl ws' H := by
  intro k q hq
  obtain ⟨i, hi⟩ := List.getElem?_of_mem (h q (List.mem_of_getElem? hq))
  exact hP i q hi
theorem n_Pone {a : Nat} {x : va_E} (h : va_at D cl (a, x) H) : va_P D cl [(a, x)] H := by
  intro k q hq
  cases k with
  | zero => simp at hq; rw [← hq]; exact h
  | succ i => simp at hq
/-- an array's picture, changed beyond its end -/
theorem n_chg {a k : Nat} {x y : ClassId × vp_A} (hP : va_P D cl ws H) (hk : ws[k]? = some (a, .inl x)) (h : vp_cell x.1 x.2 = vp_cell y.1 y.2) : va_P D cl (ws.set k (a, .inl y)) H := by
  intro i q hq
  by_cases hi : k = i
  · subst hi
    rw [List.getElem?_set_self (List.getElem?_eq_some_iff.mp hk).1] at hq
    cases hq
    have := hP k _ hk
    show H[a]? = some (vp_cell y.1 y.2)
    rw [← h]
    exact this
  · rw [List.getElem?_set_ne hi] at hq
    exact hP i q hq
theorem n_arrV {cA : ClassId} {N : Nat} {f g : Nat → Value} (h : ∀ j, j < N → f j = g j) : arrV cA N f = arrV cA N g := by
  have h1 : (Array.ofFn (n := N) fun j => f j.val) = Array.ofFn (n := N) fun j => g j.val := congrArg Array.ofFn (funext fun j => h j.val j.isLt)
  unfold arrV
  rw [h1]
/-- a clone of a static array that is none of the cells here -/
theorem n_clone (hexec : p.tables.exec = Jvm.exec) (hb : c.code = cc) (hml : c.maxLocals = ls.size) {own : String} {index : Nat} (hown : s.vm.findClass own = some m.cls)
    (hlink : (Cond.methodLink own index ⟨"[I", "clone", "()Ljava/lang/Object;"⟩).before args s = true) (hsame : (Cond.sameMethod "[I" "java/lang/Object" "clone" "()Ljava/lang/Object;").before args s = true)
    (hnat : (Cond.native ⟨"java/lang/Object", "clone", "()Ljava/lang/Object;"⟩).before args s = true) (hinst : (Cond.instanceMethod ⟨"java/lang/Object", "clone", "()Ljava/lang/Object;"⟩).before args s = true)
    (hsel : (Cond.selects "[I" ⟨"[I", "clone", "()Ljava/lang/Object;"⟩ ⟨"java/lang/Object", "clone", "()Ljava/lang/Object;"⟩).before args s = true) (hcl : va_Nw (.castable "[I" "java/lang/Cloneable") s)
    (hK : va_K D cl (n_ty cI cB cS) s) (hP : va_P D cl ws H) (hD : va_D A ws) (hS : va_S A H0 H locs) (hA : ∀ q, H0.size ≤ q → A q) {t N : Nat} {f : Nat → Int32} (hT : H0[t]? = some (vp_cell cI (N, .inl f))) (hTA : ¬ A t)
    (hframes : 1 ≤ R.frames) (hlocals : (rest.map fun v => v.category).sum + 14 ≤ R.locals) (hcells : cells + 1 ≤ R.cells) (hslots : slots + N ≤ R.slots) (hdg : decode cc pc = .ok (.invokevirtual index, 3))
    (kk : ∀ (q : Nat) (H1 : Heap), va_P D cl (ws ++ [(q, .inl (cI, N, .inl f))]) H1 → va_D A (ws ++ [(q, .inl (cI, N, .inl f))]) → va_S A H0 H1 locs →
      W p l e R s m args below meth c H1 locs (cells + 1) (slots + N) Q (F0 m (pc + 3) ls (.ref q :: rest))) : W p l e R s m args below meth c H locs cells slots Q (F0 m pc ls (.ref t :: rest)) := by
  have hlt : t < H0.size := (Array.getElem?_eq_some_iff.mp hT).1
  have hHt : H[t]? = some (vp_cell cI (N, .inl f)) := (hS.2.1 t hlt hTA).trans hT
  have hD' : va_D (fun q => A q ∨ q = t) (ws ++ [(t, .inl (cI, N, .inl f))]) := va_D.app (hD.weaken (fun _ _ _ h => Or.inl h)) (n_one (Or.inr rfl)) (fun i j x y hx hy hxy => by
    cases j with
    | zero => simp at hy; subst hy; exact hTA (by have h9 := hD.2 i x hx; rw [hxy] at h9; exact h9)
    | succ j => simp at hy)
  have hS' : va_S (fun q => A q ∨ q = t) H0 H locs := ⟨hS.1, fun q h1 h2 => hS.2.1 q h1 (fun z => h2 (Or.inl z)), fun x hx => Or.inl (hS.2.2 x hx)⟩
  have ix : (ws ++ [(t, (.inl (cI, N, .inl f) : va_E))])[ws.length]? = some (t, .inl (cI, N, .inl f)) := by simp
  refine va_clone hexec hb hml hown hlink hsame hnat hinst hsel hcl hK (va_P.app hP (n_Pone (show va_at D cl (t, .inl (cI, N, .inl f)) H from hHt))) hD' hS' (fun q h => Or.inl (hA q h)) ws.length 0 ix rfl (n_fI hK) (fun i v hv => ?_) hframes hlocals hcells hslots hdg (fun q H1 _ hP1 hD1 hS1 => ?_)
  · rw [vp_cell_i] at hv
    simp only [arrV, Array.getElem?_ofFn] at hv
    split at hv
    · cases hv; rfl
    · cases hv
  · have iq : ((ws ++ [(t, (.inl (cI, N, .inl f) : va_E))]) ++ [(q, (.inl (cI, N, .inl f) : va_E))])[ws.length + 1]? = some (q, .inl (cI, N, .inl f)) := by simp
    have it : ((ws ++ [(t, (.inl (cI, N, .inl f) : va_E))]) ++ [(q, (.inl (cI, N, .inl f) : va_E))])[ws.length]? = some (t, .inl (cI, N, .inl f)) := by simp
    have hAq : A q := by
      rcases hD1.2 _ _ iq with h | h
      · exact h
      · have := hD1.1 _ _ _ _ iq it h
        omega
    refine kk q H1 (n_Pmem hP1 (fun x hx => ?_)) (va_D.app hD (n_one hAq) (fun i j x y hx hy hxy => ?_)) ⟨hS1.1, fun z h1 h2 => ?_, hS.2.2⟩
    · rcases List.mem_append.mp hx with h | h
      · exact List.mem_append_left _ (List.mem_append_left _ h)
      · exact List.mem_append_right _ h
    · cases j with
      | zero =>
        simp at hy; subst hy
        have hi : i < ws.length := (List.getElem?_eq_some_iff.mp hx).1
        have hx' : ((ws ++ [(t, (.inl (cI, N, .inl f) : va_E))]) ++ [(q, (.inl (cI, N, .inl f) : va_E))])[i]? = some x := by
          rw [List.append_assoc, List.getElem?_append_left hi]; exact hx
        have := hD1.1 _ _ _ _ hx' iq hxy
        omega
      | succ j => simp at hy
    · by_cases hz : z = t
      · subst hz
        exact (hP1 _ _ it).trans hT.symm
      · exact hS1.2.1 z h1 (fun h => h.elim h2 hz)
theorem n_runmap {mc ms : Nat} {g : JFrame} {Qa Qb : State → Outcome → State → Prop} {free : Addr → Prop} (h : va_Run p l e R s m args below meth c H locs cells slots mc ms g rest Qa free) (hq : ∀ st oc t, Qa st oc t → Qb st oc t) : va_Run p l e R s m args below meth c H locs cells slots mc ms g rest Qb free := by
  intro T hT X
  obtain ⟨v, st₀, t, T', L, h0, X', hL, e1, e2, h3, st⟩ := h T hT X
  exact ⟨v, st₀, t, T', L, h0, X', hL, e1, e2, hq _ _ _ h3, st⟩
end N1
