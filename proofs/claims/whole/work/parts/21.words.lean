/-! the class' words and costs -/
def q_SG (w : qW) (sg : Nat → Nat) : Prop := ∀ j, j < 10 → w 12 j = nI (sg j) ∧ 1 ≤ sg j ∧ sg j < 64
def q_WD (w : qW) (nw : Nat) (ln : Nat → Nat) (lt : Nat → Nat → Nat) : Prop := w 3 3 = nI nw ∧ nw ≤ 8 ∧ ∀ k, k < nw → w 7 k = nI (ln k) ∧ 1 ≤ ln k ∧ ln k ≤ 6 ∧ ∀ i, i < ln k → w 6 (k * 6 + i) = nI (lt k i) ∧ lt k i < 10
def q_CL (w : qW) (cc : Nat) (cl : Nat → Nat) : Prop := w 0 5 = nI cc ∧ cc ≤ 24 ∧ ∀ j, j < cc → w 13 j = nI (cl j) ∧ cl j < 64
def q_CO (w : qW) (mi ex : Nat) : Prop := w 0 6 = nI mi ∧ mi ≤ 9 ∧ w 0 7 = nI ex ∧ ex ≤ 9
def q_an (a b : Nat) : Nat := a &&& (b ^^^ 63)
theorem q_an_lt {a : Nat} (b : Nat) (ha : a < 64) : q_an a b < 64 := Nat.lt_of_le_of_lt Nat.and_le_left ha
theorem q_an_all : ∀ a b : Fin 64, nI a.val &&& (nI b.val ^^^ (-1)) = nI (q_an a.val b.val) := by decide +kernel
theorem q_an_I {a b : Nat} (ha : a < 64) (hb : b < 64) : nI a &&& (nI b ^^^ (-1)) = nI (q_an a b) := q_an_all ⟨a, ha⟩ ⟨b, hb⟩
def q_cs (mi ex : Nat) (du th : Nat → Nat) : Nat → Nat
  | 0 => 0
  | i + 1 => q_cs mi ex du th i + (mi * q_pop (q_an (du i) (th i)) + ex * q_pop (q_an (th i) (du i)))
def q_oi : Option Nat → Int32
  | none => -1
  | some n => nI n
theorem q_oi_s (n : Nat) : q_oi (some n) = nI n := rfl
theorem q_oi_n : q_oi none = -1 := rfl
/-- what a word costs from a place on -/
def q_fit (mi ex : Nat) (sg : Nat → Nat) (cc : Nat) (cl : Nat → Nat) (ln : Nat → Nat) (lt : Nat → Nat → Nat) (f k : Nat) : Option Nat :=
  if f + ln k ≤ cc then some (q_cs mi ex (fun i => sg (lt k i)) (fun i => cl (f + i)) (ln k)) else none
section W21
variable {w : qW} {sg cl ln : Nat → Nat} {lt : Nat → Nat → Nat} {nw cc mi ex k f i : Nat}
theorem e_lettersOf (hW : q_WD w nw ln lt) (hk : k < nw) : qe iX3_lettersOf 0 [some (.ref 3), some (.int (nI k))] [] w = some (some (.int (nI (ln k))), w) := by
  obtain ⟨h1, h2, h3⟩ := hW
  obtain ⟨h4, -⟩ := h3 k hk
  rw [zX3_lettersOf_0, if_neg (c_ge0 k (by omega)), zX3_lettersOf_4, h1, if_neg (nI_ge hk (by omega)), zX3_lettersOf_12, if_neg (show ¬ Int32.ofNat 8 ≤ nI k from nI_ge (b := 8) (by omega) (by omega)), zX3_lettersOf_21, if_neg (c_ok (by omega) (by omega)), zX3_lettersOf_27, zX3_lettersOf_31, nI_clamp (by omega), h4]
theorem e_lettersOf_m (w : qW) : qe iX3_lettersOf 0 [some (.ref 3), some (.int (-1))] [] w = some (some (.int 0), w) := by
  rw [zX3_lettersOf_0, if_pos (by decide), zX3_lettersOf_30, zX3_lettersOf_31]
theorem e_letterOf (hW : q_WD w nw ln lt) (hk : k < nw) (hi : i < ln k) : qe iX3_letterOf 0 [some (.ref 3), some (.int (nI k)), some (.int (nI i)), none] [] w = some (some (.int (nI (lt k i))), w) := by
  obtain ⟨h1, h2, h3⟩ := hW
  obtain ⟨h4, h5, h6, h7⟩ := h3 k hk
  have hp : nI k * 6 + nI i = nI (k * 6 + i) := by rw [show (6 : Int32) = nI 6 from rfl, pk_mul, nI_add]
  rw [zX3_letterOf_0, hp, if_neg (c_ge0 _ (by omega)), zX3_letterOf_11, if_neg (show ¬ Int32.ofNat 48 ≤ nI _ from nI_ge (b := 48) (by omega) (by omega)), zX3_letterOf_20, if_neg (c_ok (by omega) (by omega)), zX3_letterOf_26, zX3_letterOf_30, nI_clamp (by omega), (h7 i hi).1]
theorem e_signOf (hW : q_WD w nw ln lt) (hS : q_SG w sg) (hk : k < nw) (hi : i < ln k) : qe iX4_signOf 0 [some (.ref 0), some (.int (nI k)), some (.int (nI i))] [] w = some (some (.int (nI (sg (lt k i)))), w) := by
  have h7 := ((hW.2.2 k hk).2.2.2 i hi).2
  rw [zX4_signOf_0, e_letterOf hW hk hi, qc_i, zX4_signOf_13, e_at (n := 10) w rfl h7 (by omega), qc_i, zX4_signOf_16, (hS _ h7).1]
theorem e_hasCells (hW : q_WD w nw ln lt) (hC : q_CL w cc cl) (hk : k < nw) (hf : f < 2 ^ 31) : qe iX4_hasCellsFor 0 [some (.ref 0), some (.int (nI k)), some (.int (nI f))] [] w = some (some (.int (q_bo (decide (f + ln k ≤ cc)))), w) := by
  obtain ⟨h4, h5, h6, h7⟩ := hW.2.2 k hk
  rw [zX4_hasCellsFor_0, if_neg (c_ge0 f hf), zX4_hasCellsFor_4, e_lettersOf hW hk, qc_i, hC.1, zX4_hasCellsFor_17]
  have hc := hC.2.1
  have key : (nI cc - nI (ln k)) < nI f ↔ ¬ (f + ln k ≤ cc) := by
    rw [Int32.lt_iff_toInt_lt, pk_sub_toInt (by omega) (by omega), nI_toInt hf]
    omega
  by_cases h : f + ln k ≤ cc
  · rw [if_neg (fun q => key.mp q h), zX4_hasCellsFor_21, zX4_hasCellsFor_26, if_pos q_nb1, decide_eq_true h, q_bo_t]
  · rw [if_pos (key.mpr h), zX4_hasCellsFor_25, zX4_hasCellsFor_26, if_pos q_nb0, decide_eq_false h, q_bo_f]
theorem e_costLoop (hW : q_WD w nw ln lt) (hS : q_SG w sg) (hC : q_CL w cc cl) (hO : q_CO w mi ex) (hk : k < nw) (hf : f + ln k ≤ cc) : ∀ (n i : Nat) (u5 u6 : Option Value), i + n = ln k →
    qe iX4_costAt 16 [some (.ref 0), some (.int (nI k)), some (.int (nI f)), some (.int (nI (q_cs mi ex (fun i => sg (lt k i)) (fun i => cl (f + i)) i))), some (.int (nI i)), u5, u6] [] w = some (some (.int (nI (q_cs mi ex (fun i => sg (lt k i)) (fun i => cl (f + i)) (ln k)))), w) := by
  have hc := hC.2.1
  obtain ⟨h4, h5, h6, h7⟩ := hW.2.2 k hk
  intro n
  induction n with
  | zero =>
    intro i u5 u6 hi
    have hi' : i = ln k := by omega
    subst hi'
    rw [zX4_costAt_16, e_lettersOf hW hk, qc_i, zX4_costAt_26, if_pos (Int32.le_refl _), zX4_costAt_91]
  | succ n ih =>
    intro i u5 u6 hi
    have hil : i < ln k := by omega
    have hd := hS _ (h7 i hil).2
    have ht := hC.2.2 (f + i) (by omega)
    rw [zX4_costAt_16, e_lettersOf hW hk, qc_i, zX4_costAt_26, if_neg (nI_ge hil (by omega)), zX4_costAt_29, e_signOf hW hS hk hil, qc_i, zX4_costAt_36, nI_add, e_at (n := 24) w rfl (by omega) (by omega), qc_i, zX4_costAt_49, ht.1, q_an_I hd.2.2 ht.2, e_bitCount (q_an_lt _ hd.2.2), qc_i, zX4_costAt_66, q_an_I ht.2 hd.2.2, e_bitCount (q_an_lt _ ht.2), qc_i, zX4_costAt_81, hO.1, hO.2.2.1, pk_mul, pk_mul, nI_add, nI_add, nI_1]
    exact ih (i + 1) _ _ (by omega)
theorem e_costAt (hW : q_WD w nw ln lt) (hS : q_SG w sg) (hC : q_CL w cc cl) (hO : q_CO w mi ex) (hk : k < nw) (hf : f < 2 ^ 31) : qe iX4_costAt 0 [some (.ref 0), some (.int (nI k)), some (.int (nI f)), none, none, none, none] [] w = some (some (.int (q_oi (q_fit mi ex sg cc cl ln lt f k))), w) := by
  rw [zX4_costAt_0, e_hasCells hW hC hk hf, qc_i, zX4_costAt_6]
  unfold q_fit
  by_cases h : f + ln k ≤ cc
  · rw [if_pos h, decide_eq_true h, q_bo_t, if_pos (by decide), zX4_costAt_11]
    exact e_costLoop hW hS hC hO hk h (ln k) 0 none none (by omega)
  · rw [if_neg h, decide_eq_false h, q_bo_f, if_neg (by decide), zX4_costAt_9]
    rfl
end W21
/-- the word that costs least -/
def q_ch (fit : Nat → Option Nat) (ln : Nat → Nat) : Nat → Nat → Option (Nat × Nat) → Option (Nat × Nat)
  | 0, _, b => b
  | n + 1, i, b => q_ch fit ln n (i + 1) (match fit i with
    | none => b
    | some c => match b with
      | none => some (i, c)
      | some (bi, bc) => if c < bc ∨ (c = bc ∧ ln bi < ln i) then some (i, c) else b)
def q_chw (b : Option (Nat × Nat)) : Int32 := q_oi (b.map Prod.fst)
def q_chc (b : Option (Nat × Nat)) : Int32 := match b with
  | none => 0
  | some (_, c) => nI c
/-- bits of those that are so -/
def q_ob (p : Nat → Bool) : Nat → Nat → Int32 → Int32
  | 0, _, b => b
  | n + 1, i, b => q_ob p n (i + 1) (if p i = true then b ||| (1 <<< (nI i &&& 31)) else b)
theorem q_cs_le (mi ex : Nat) (du th : Nat → Nat) (h1 : mi ≤ 9) (h2 : ex ≤ 9) : ∀ n, q_cs mi ex du th n ≤ 108 * n := by
  intro n
  induction n with
  | zero => exact Nat.le_refl _
  | succ n ih =>
    have a1 := q_pop_le (q_an (du n) (th n))
    have a2 := q_pop_le (q_an (th n) (du n))
    have b1 : mi * q_pop (q_an (du n) (th n)) ≤ 9 * 6 := Nat.mul_le_mul h1 a1
    have b2 : ex * q_pop (q_an (th n) (du n)) ≤ 9 * 6 := Nat.mul_le_mul h2 a2
    show q_cs mi ex du th n + _ ≤ _
    omega
theorem q_fit_le {mi ex : Nat} {sg cl ln : Nat → Nat} {lt : Nat → Nat → Nat} {cc f k c : Nat} (h1 : mi ≤ 9) (h2 : ex ≤ 9) (hc : cc ≤ 24) (h : q_fit mi ex sg cc cl ln lt f k = some c) : c ≤ 2592 := by
  unfold q_fit at h
  split at h
  · cases h
    have := q_cs_le mi ex (fun i => sg (lt k i)) (fun i => cl (f + i)) h1 h2 (ln k)
    omega
  · cases h
theorem q_m1 {n : Nat} (h : n < 2 ^ 31) : ¬ nI n = -1 := by
  intro q
  have := congrArg Int32.toInt q
  rw [nI_toInt h] at this
  have h2 : (-1 : Int32).toInt = -1 := by decide
  omega
theorem q_oi_m1 {o : Option Nat} (h : ∀ n, o = some n → n < 2 ^ 31) : (q_oi o = -1) = (o = none) := by
  cases o with
  | none => simp [q_oi]
  | some n => simp only [q_oi, eq_iff_iff]; exact ⟨fun q => absurd q (q_m1 (h n rfl)), fun q => by cases q⟩
section V21
variable {w : qW} {sg cl ln : Nat → Nat} {lt : Nat → Nat → Nat} {nw cc mi ex k f i : Nat}
theorem e_cheapLoop (hW : q_WD w nw ln lt) (hS : q_SG w sg) (hC : q_CL w cc cl) (hO : q_CO w mi ex) (hf : f < 2 ^ 31) : ∀ (n i : Nat) (b : Option (Nat × Nat)) (u5 u6 : Option Value), i + n = nw → (∀ bi bc, b = some (bi, bc) → bi < nw ∧ bc ≤ 2592) →
    qe iX4_cheapestAt 7 [some (.ref 0), some (.int (nI f)), some (.int (q_chw b)), some (.int (q_chc b)), some (.int (nI i)), u5, u6] [] w = some (some (.int (q_chw (q_ch (q_fit mi ex sg cc cl ln lt f) ln n i b))), w) := by
  have hc := hC.2.1
  have hn := hW.2.1
  intro n
  induction n with
  | zero =>
    intro i b u5 u6 hi hb
    rw [zX4_cheapestAt_7, hW.1, if_pos (nI_le (by omega) (by omega)), zX4_cheapestAt_98]
    rfl
  | succ n ih =>
    intro i b u5 u6 hi hb
    have hin : i < nw := by omega
    rw [zX4_cheapestAt_7, hW.1, if_neg (nI_ge hin (by omega)), zX4_cheapestAt_19, e_costAt hW hS hC hO hin hf, qc_i, zX4_cheapestAt_26, q_ch]
    cases hfit : q_fit mi ex sg cc cl ln lt f i with
    | none =>
      rw [if_neg (fun q => q rfl), zX4_cheapestAt_34, zX4_cheapestAt_92, nI_1]
      exact ih (i + 1) b _ _ (by omega) hb
    | some c =>
      have hc2 := q_fit_le hO.2.1 hO.2.2.2 hc hfit
      rw [q_oi_s, if_pos (show ¬ nI c = -1 from q_m1 (by omega)), zX4_cheapestAt_37]
      obtain ⟨li1, li2⟩ := (hW.2.2 i hin).2
      cases b with
      | none =>
        have fin : qe iX4_cheapestAt 86 [some (.ref 0), some (.int (nI f)), some (.int (-1)), some (.int 0), some (.int (nI i)), some (.int (nI c)), some (.int 1)] [] w = some (some (.int (q_chw (q_ch (q_fit mi ex sg cc cl ln lt f) ln n (i + 1) (some (i, c))))), w) ∧ qe iX4_cheapestAt 86 [some (.ref 0), some (.int (nI f)), some (.int (-1)), some (.int 0), some (.int (nI i)), some (.int (nI c)), some (.int 0)] [] w = some (some (.int (q_chw (q_ch (q_fit mi ex sg cc cl ln lt f) ln n (i + 1) (some (i, c))))), w) := by
          constructor <;> (rw [zX4_cheapestAt_86, zX4_cheapestAt_92, nI_1]; exact ih (i + 1) (some (i, c)) _ _ (by omega) (fun bi bc h => by cases h; exact ⟨hin, hc2⟩))
        show (if ¬ nI c = 0 then qe iX4_cheapestAt 67 [some (.ref 0), some (.int (nI f)), some (.int (-1)), some (.int 0), some (.int (nI i)), some (.int (nI c)), u6] [] w else _) = _
        by_cases h0 : nI c = 0
        · rw [if_neg (fun q => q h0)]
          show qe iX4_cheapestAt 43 [some (.ref 0), some (.int (nI f)), some (.int (-1)), some (.int 0), some (.int (nI i)), some (.int (nI c)), u6] [] w = _
          rw [zX4_cheapestAt_43, e_lettersOf hW hin, qc_i, zX4_cheapestAt_52, e_lettersOf_m, qc_i, zX4_cheapestAt_60]
          by_cases h1 : nI (ln i) ≤ 0
          · rw [if_pos h1, zX4_cheapestAt_67, zX4_cheapestAt_68, if_pos rfl]; exact fin.2
          · rw [if_neg h1, zX4_cheapestAt_63, zX4_cheapestAt_68, if_pos rfl]; exact fin.1
        · rw [if_pos h0, zX4_cheapestAt_67, zX4_cheapestAt_68, if_pos rfl]; exact fin.2
      | some bb =>
        obtain ⟨bi, bc⟩ := bb
        obtain ⟨hb1, hb2⟩ := hb bi bc rfl
        obtain ⟨lb1, lb2⟩ := (hW.2.2 bi hb1).2
        have go : ∀ x : Int32, qe iX4_cheapestAt 86 [some (.ref 0), some (.int (nI f)), some (.int (nI bi)), some (.int (nI bc)), some (.int (nI i)), some (.int (nI c)), some (.int x)] [] w = some (some (.int (q_chw (q_ch (q_fit mi ex sg cc cl ln lt f) ln n (i + 1) (some (i, c))))), w) := by
          intro x
          rw [zX4_cheapestAt_86, zX4_cheapestAt_92, nI_1]
          exact ih (i + 1) (some (i, c)) _ _ (by omega) (fun bi bc h => by cases h; exact ⟨hin, hc2⟩)
        have stay : ∀ x : Int32, qe iX4_cheapestAt 92 [some (.ref 0), some (.int (nI f)), some (.int (nI bi)), some (.int (nI bc)), some (.int (nI i)), some (.int (nI c)), some (.int x)] [] w = some (some (.int (q_chw (q_ch (q_fit mi ex sg cc cl ln lt f) ln n (i + 1) (some (bi, bc))))), w) := by
          intro x
          rw [zX4_cheapestAt_92, nI_1]
          exact ih (i + 1) (some (bi, bc)) _ _ (by omega) hb
        dsimp only
        show (if ¬ nI c = nI bc then qe iX4_cheapestAt 67 [some (.ref 0), some (.int (nI f)), some (.int (nI bi)), some (.int (nI bc)), some (.int (nI i)), some (.int (nI c)), u6] [] w else qe iX4_cheapestAt 43 [some (.ref 0), some (.int (nI f)), some (.int (nI bi)), some (.int (nI bc)), some (.int (nI i)), some (.int (nI c)), u6] [] w) = _
        by_cases h0 : c = bc
        · subst h0
          rw [if_neg (fun q => q rfl), zX4_cheapestAt_43, e_lettersOf hW hin, qc_i, zX4_cheapestAt_52, e_lettersOf hW hb1, qc_i, zX4_cheapestAt_60]
          by_cases h1 : ln bi < ln i
          · rw [if_neg (nI_ge h1 (by omega)), zX4_cheapestAt_63, zX4_cheapestAt_68, if_neg (q_m1 (by omega)), zX4_cheapestAt_75, if_neg (nI_nlt (Nat.le_refl _) (by omega)), zX4_cheapestAt_81, if_neg (by decide), if_pos (Or.inr ⟨rfl, h1⟩)]
            exact go 1
          · rw [if_pos (nI_le (by omega) (by omega)), zX4_cheapestAt_67, zX4_cheapestAt_68, if_neg (q_m1 (by omega)), zX4_cheapestAt_75, if_neg (nI_nlt (Nat.le_refl _) (by omega)), zX4_cheapestAt_81, if_pos rfl, if_neg (fun q => q.elim (fun z => by omega) (fun z => h1 z.2))]
            exact stay 0
        · rw [if_pos (fun q => h0 ((nI_eq (by omega) (by omega)).mp q)), zX4_cheapestAt_67, zX4_cheapestAt_68, if_neg (q_m1 (by omega)), zX4_cheapestAt_75]
          by_cases h1 : c < bc
          · rw [if_pos (nI_lt h1 (by omega)), if_pos (Or.inl h1)]
            exact go 0
          · rw [if_neg (nI_nlt (by omega) (by omega)), zX4_cheapestAt_81, if_pos rfl, if_neg (fun q => q.elim h1 (fun z => h0 z.1))]
            exact stay 0
theorem e_cheapestAt (hW : q_WD w nw ln lt) (hS : q_SG w sg) (hC : q_CL w cc cl) (hO : q_CO w mi ex) (hf : f < 2 ^ 31) : qe iX4_cheapestAt 0 [some (.ref 0), some (.int (nI f)), none, none, none, none, none] [] w = some (some (.int (q_chw (q_ch (q_fit mi ex sg cc cl ln lt f) ln nw 0 none))), w) := by
  rw [zX4_cheapestAt_0]
  exact e_cheapLoop hW hS hC hO hf nw 0 none none none (by omega) (fun _ _ h => by cases h)
theorem q_ch_ok (fit : Nat → Option Nat) (ln : Nat → Nat) : ∀ (n i : Nat) (b : Option (Nat × Nat)), (∀ bi bc, b = some (bi, bc) → bi < i ∧ fit bi = some bc) → ∀ bi bc, q_ch fit ln n i b = some (bi, bc) → bi < i + n ∧ fit bi = some bc := by
  intro n
  induction n with
  | zero => intro i b hb bi bc h; exact ⟨(hb bi bc h).1, (hb bi bc h).2⟩
  | succ n ih =>
    intro i b hb bi bc h
    rw [q_ch] at h
    have := ih (i + 1) _ ?_ bi bc h
    · exact ⟨by omega, this.2⟩
    intro bi bc h
    split at h
    · have := hb bi bc h; exact ⟨by omega, this.2⟩
    · rename_i c hc
      split at h
      · cases h; exact ⟨by omega, hc⟩
      · split at h
        · cases h; exact ⟨by omega, hc⟩
        · have := hb bi bc h; exact ⟨by omega, this.2⟩
end V21
