/-! the class' signs and what is read -/
def q_fq (p : Nat → Bool) : Nat → Nat → Int32
  | 0, _ => -1
  | n + 1, i => if p i = true then nI i else q_fq p n (i + 1)
def q_all (p : Nat → Bool) : Nat → Nat → Bool
  | 0, _ => true
  | n + 1, i => if p i = true then q_all p n (i + 1) else false
def q_ct (p : Nat → Bool) : Nat → Nat → Nat → Nat
  | 0, _, a => a
  | n + 1, i, a => q_ct p n (i + 1) (if p i = true then a + 1 else a)
theorem q_ct_le (p : Nat → Bool) : ∀ n i a, q_ct p n i a ≤ a + n := by
  intro n
  induction n with
  | zero => intro i a; exact Nat.le_refl _
  | succ n ih =>
    intro i a
    rw [q_ct]
    by_cases h : p i = true
    · rw [if_pos h]; have := ih (i + 1) (a + 1); omega
    · rw [if_neg h]; have := ih (i + 1) a; omega
/-- what a cell is read as -/
def q_rd (sg : Nat → Nat) (a : Nat) : Int32 := if a = 0 then 10 else q_fq (fun j => decide (sg j = a)) 10 0
def q_sw (a : Nat) : Nat := a % 8 * 8 + a / 8
theorem q_sw_lt {a : Nat} (h : a < 64) : q_sw a < 64 := by unfold q_sw; omega
theorem q_sw_all : ∀ a : Fin 64, ((nI a.val &&& 7) <<< ((3 : Int32) &&& 31)) ||| ((nI a.val >>> ((3 : Int32) &&& 31)) &&& 7) = nI (q_sw a.val) := by decide +kernel
theorem e_swapN {a : Nat} (h : a < 64) (w : qW) : qe iX4_swapColumns 0 [some (.int (nI a))] [] w = some (some (.int (nI (q_sw a))), w) := by
  rw [e_swap, q_sw_all ⟨a, h⟩]
def q_one (a b : Nat) : Bool := decide (q_an a b = 0 ∧ q_pop a + 1 = q_pop b)
theorem q_pp0 : ∀ a b : Fin 7, (nI a.val = nI b.val - 1) ↔ (a.val + 1 = b.val) := by decide +kernel
theorem q_pp (a b : Nat) : nI (q_pop a) = nI (q_pop b) - 1 ↔ q_pop a + 1 = q_pop b := q_pp0 ⟨q_pop a, by have := q_pop_le a; omega⟩ ⟨q_pop b, by have := q_pop_le b; omega⟩
theorem e_one {a b : Nat} (ha : a < 64) (hb : b < 64) (w : qW) : qe iX4_isOnePointLess 0 [some (.int (nI a)), some (.int (nI b))] [] w = some (some (.int (q_bo (q_one a b))), w) := by
  rw [zX4_isOnePointLess_0, q_an_I ha hb]
  unfold q_one
  have h64 := q_an_lt b ha
  by_cases h : q_an a b = 0
  · rw [h, if_neg (fun q => q rfl), zX4_isOnePointLess_8, e_bitCount ha, qc_i, zX4_isOnePointLess_12, e_bitCount hb, qc_i, zX4_isOnePointLess_16]
    by_cases h2 : q_pop a + 1 = q_pop b
    · rw [if_neg (fun q => q ((q_pp a b).mpr h2)), zX4_isOnePointLess_21, zX4_isOnePointLess_26, if_pos q_nb1, decide_eq_true ⟨rfl, h2⟩, q_bo_t]
    · rw [if_pos (fun q => h2 ((q_pp a b).mp q)), zX4_isOnePointLess_25, zX4_isOnePointLess_26, if_pos q_nb0, decide_eq_false (fun q => h2 q.2), q_bo_f]
  · rw [if_pos (show ¬ nI (q_an a b) = 0 from fun q => h ((nI_eq (by omega) (by omega)).mp (q.trans nI_0.symm))), zX4_isOnePointLess_25, zX4_isOnePointLess_26, if_pos q_nb0, decide_eq_false (fun q => h q.1), q_bo_f]
theorem q_lit10 {n : Nat} (h : ¬ n < 10) (hn : n < 2 ^ 31) : (10 : Int32) ≤ nI n := nI_le (a := 10) (by omega) hn
theorem q_nlit10 {n : Nat} (h : n < 10) : ¬ (10 : Int32) ≤ nI n := nI_ge (b := 10) h (by omega)
section S22
variable {w : qW} {sg cl ln : Nat → Nat} {lt : Nat → Nat → Nat} {nw cc mi ex k f i a : Nat}
theorem e_readLoop (hS : q_SG w sg) (ha : a < 64) : ∀ n i : Nat, i + n = 10 → qe iX4_readingOf 9 [some (.ref 0), some (.int (nI a)), some (.int (nI i))] [] w = some (some (.int (q_fq (fun j => decide (sg j = a)) n i)), w) := by
  intro n
  induction n with
  | zero => intro i hi; rw [zX4_readingOf_9, if_pos (q_lit10 (by omega) (by omega)), zX4_readingOf_35]; rfl
  | succ n ih =>
    intro i hi
    have hs := hS i (by omega)
    rw [zX4_readingOf_9, if_neg (q_nlit10 (by omega)), zX4_readingOf_15, e_at (n := 10) w rfl (by omega) (by omega), qc_i, zX4_readingOf_23, hs.1, q_fq]
    by_cases h : sg i = a
    · rw [if_neg (fun q => q (by rw [h])), zX4_readingOf_27, if_pos (decide_eq_true h)]
    · rw [if_pos (fun q => h ((nI_eq (by omega) (by omega)).mp q)), zX4_readingOf_29, nI_1, if_neg (by rw [decide_eq_true_eq]; exact h)]
      exact ih (i + 1) (by omega)
theorem e_readingOf (hS : q_SG w sg) (ha : a < 64) : qe iX4_readingOf 0 [some (.ref 0), some (.int (nI a)), none] [] w = some (some (.int (q_rd sg a)), w) := by
  rw [zX4_readingOf_0, q_rd]
  by_cases h : a = 0
  · subst h
    rw [if_neg (fun q => q rfl), zX4_readingOf_4, if_pos rfl]
  · rw [if_pos (fun q => h ((nI_eq (by omega) (by omega)).mp (q.trans nI_0.symm))), zX4_readingOf_7, if_neg h]
    exact e_readLoop hS ha 10 0 (by omega)
theorem e_judgedLoop (hS : q_SG w sg) (hC : q_CL w cc cl) : ∀ n i : Nat, i + n = cc → qe iX4_judged 2 [some (.ref 0), some (.int (nI i))] [] w = some (some (.int (q_fq (fun i => decide (q_rd sg (cl i) = -1)) n i)), w) := by
  have hc := hC.2.1
  intro n
  induction n with
  | zero => intro i hi; rw [zX4_judged_2, hC.1, if_pos (nI_le (by omega) (by omega)), zX4_judged_34]; rfl
  | succ n ih =>
    intro i hi
    have hl := hC.2.2 i (by omega)
    rw [zX4_judged_2, hC.1, if_neg (nI_ge (by omega) (by omega)), zX4_judged_10, e_at (n := 24) w rfl (by omega) (by omega), qc_i, zX4_judged_19, hl.1, e_readingOf hS hl.2, qc_i, zX4_judged_22, q_fq]
    by_cases h : q_rd sg (cl i) = -1
    · rw [if_neg (fun q => q h), zX4_judged_26, if_pos (decide_eq_true h)]
    · rw [if_pos h, zX4_judged_28, nI_1, if_neg (by rw [decide_eq_true_eq]; exact h)]
      exact ih (i + 1) (by omega)
theorem e_judged (hS : q_SG w sg) (hC : q_CL w cc cl) : qe iX4_judged 0 [some (.ref 0), none] [] w = some (some (.int (q_fq (fun i => decide (q_rd sg (cl i) = -1)) cc 0)), w) := by
  rw [zX4_judged_0]
  exact e_judgedLoop hS hC cc 0 (by omega)
/-- is there such a cell -/
theorem q_cellN (hcc : cc ≤ 24) {v : Int32} (h : 0 ≤ v ∧ v ≤ nI cc - 1) : ∃ i, i < cc ∧ v = nI i := by
  obtain ⟨i, hi, rfl⟩ := nI_of (Int32.not_lt.mpr h.1)
  refine ⟨i, ?_, rfl⟩
  have h2 := Int32.le_iff_toInt_le.mp h.2
  rw [nI_toInt hi, show nI cc - 1 = nI cc - nI 1 from rfl, pk_sub_toInt (by omega) (by omega)] at h2
  omega
theorem q_cellI (hcc : cc ≤ 24) (h : i < cc) : 0 ≤ nI i ∧ nI i ≤ nI cc - 1 := by
  refine ⟨nI_pos' (by omega), Int32.le_iff_toInt_le.mpr ?_⟩
  rw [nI_toInt (by omega), show nI cc - 1 = nI cc - nI 1 from rfl, pk_sub_toInt (by omega) (by omega)]
  omega
/-- a question about a cell: BAD, or of a cell -/
theorem e_cellQ {v : Int32} (hC : q_CL w cc cl) : (qe iX4_isCell 0 [some (.ref 0), some (.int v)] [] w = some (some (.int 0), w) ∧ ¬ (0 ≤ v ∧ v ≤ nI cc - 1)) ∨ (∃ i, i < cc ∧ v = nI i ∧ qe iX4_isCell 0 [some (.ref 0), some (.int v)] [] w = some (some (.int 1), w)) := by
  rw [e_isCell, hC.1]
  by_cases h : 0 ≤ v ∧ v ≤ nI cc - 1
  · obtain ⟨i, h1, h2⟩ := q_cellN hC.2.1 h
    exact Or.inr ⟨i, h1, h2, by rw [decide_eq_true h, q_bo_t]⟩
  · exact Or.inl ⟨by rw [decide_eq_false h, q_bo_f], h⟩
def q_inc (cc : Nat) (v : Int32) : Prop := 0 ≤ v ∧ v ≤ nI cc - 1
theorem e_cell {v : Int32} (hC : q_CL w cc cl) : (¬ q_inc cc v ∧ qe iX4_cell 0 [some (.ref 0), some (.int v)] [] w = some (some (.int (-2)), w)) ∨ (∃ i, i < cc ∧ v = nI i ∧ qe iX4_cell 0 [some (.ref 0), some (.int v)] [] w = some (some (.int (nI (cl i))), w)) := by
  rw [zX4_cell_0]
  rcases e_cellQ (v := v) hC with ⟨h, hn⟩ | ⟨i, hi, rfl, h⟩
  · exact Or.inl ⟨hn, by rw [h, qc_i, zX4_cell_5, if_pos rfl, zX4_cell_19, zX4_cell_21]⟩
  · exact Or.inr ⟨i, hi, rfl, by rw [h, qc_i, zX4_cell_5, if_neg (by decide), zX4_cell_8, e_at (n := 24) w rfl (Nat.lt_of_lt_of_le hi hC.2.1) (by omega), qc_i, zX4_cell_16, zX4_cell_21, (hC.2.2 i hi).1]⟩
theorem e_letter {v : Int32} (hS : q_SG w sg) (hC : q_CL w cc cl) : (¬ q_inc cc v ∧ qe iX4_letter 0 [some (.ref 0), some (.int v)] [] w = some (some (.int (-2)), w)) ∨ (∃ i, i < cc ∧ v = nI i ∧ qe iX4_letter 0 [some (.ref 0), some (.int v)] [] w = some (some (.int (q_rd sg (cl i))), w)) := by
  rw [zX4_letter_0]
  rcases e_cellQ (v := v) hC with ⟨h, hn⟩ | ⟨i, hi, rfl, h⟩
  · exact Or.inl ⟨hn, by rw [h, qc_i, zX4_letter_5, if_pos rfl, zX4_letter_23, zX4_letter_25]⟩
  · exact Or.inr ⟨i, hi, rfl, by rw [h, qc_i, zX4_letter_5, if_neg (by decide), zX4_letter_8, e_at (n := 24) w rfl (Nat.lt_of_lt_of_le hi hC.2.1) (by omega), qc_i, zX4_letter_17, (hC.2.2 i hi).1, e_readingOf hS (hC.2.2 i hi).2, qc_i, zX4_letter_20, zX4_letter_25]⟩
theorem q_back {n : Nat} (h : i < n) (hn : n < 2 ^ 31) : nI n - 1 - nI i = nI (n - 1 - i) := by
  rw [show nI n - 1 = nI n - nI 1 from rfl, pk_sub (by omega), pk_sub (by omega)]
theorem e_wrong {v : Int32} (hS : q_SG w sg) (hC : q_CL w cc cl) : (¬ q_inc cc v ∧ qe iX4_wrong 0 [some (.ref 0), some (.int v)] [] w = some (some (.int (-2)), w)) ∨ (∃ i, i < cc ∧ v = nI i ∧ qe iX4_wrong 0 [some (.ref 0), some (.int v)] [] w = some (some (.int (q_rd sg (q_sw (cl (cc - 1 - i))))), w)) := by
  have hc := hC.2.1
  rw [zX4_wrong_0]
  rcases e_cellQ (v := v) hC with ⟨h, hn⟩ | ⟨i, hi, rfl, h⟩
  · exact Or.inl ⟨hn, by rw [h, qc_i, zX4_wrong_5, if_pos rfl, zX4_wrong_33, zX4_wrong_35]⟩
  · have hl := hC.2.2 (cc - 1 - i) (by omega)
    exact Or.inr ⟨i, hi, rfl, by rw [h, qc_i, zX4_wrong_5, if_neg (by decide), zX4_wrong_8, hC.1, q_back hi (by omega), e_at (n := 24) w rfl (by omega) (by omega), qc_i, zX4_wrong_24, hl.1, e_swapN hl.2, qc_i, zX4_wrong_27, e_readingOf hS (q_sw_lt hl.2), qc_i, zX4_wrong_30, zX4_wrong_35]⟩
/-- read from behind as another -/
def q_bw (sg : Nat → Nat) (ln : Nat → Nat) (lt : Nat → Nat → Nat) (k o : Nat) : Bool := decide (ln o = ln k) && q_all (fun i => decide (q_rd sg (q_sw (sg (lt k (ln k - 1 - i)))) = nI (lt o i))) (ln k) 0
theorem e_behindLoop (hS : q_SG w sg) (hW : q_WD w nw ln lt) {o : Nat} (hk : k < nw) (ho : o < nw) (hlo : ln o = ln k) : ∀ n i : Nat, i + n = ln k → qe iX4_isReadFromBehindAs 26 [some (.ref 0), some (.int (nI k)), some (.int (nI o)), some (.int (nI (ln k))), some (.int (nI i))] [] w = some (some (.int (q_bo (q_all (fun i => decide (q_rd sg (q_sw (sg (lt k (ln k - 1 - i)))) = nI (lt o i))) n i))), w) := by
  obtain ⟨h4, h5, h6, h7⟩ := hW.2.2 k hk
  intro n
  induction n with
  | zero => intro i hi; rw [zX4_isReadFromBehindAs_26, if_pos (nI_le (by omega) (by omega)), zX4_isReadFromBehindAs_71, if_pos q_nb1]; rfl
  | succ n ih =>
    intro i hi
    have hg := hS _ (h7 (ln k - 1 - i) (by omega)).2
    rw [zX4_isReadFromBehindAs_26, if_neg (nI_ge (by omega) (by omega)), zX4_isReadFromBehindAs_32, q_back (by omega) (by omega), e_signOf hW hS hk (by omega), qc_i, zX4_isReadFromBehindAs_44, e_swapN hg.2.2, qc_i, zX4_isReadFromBehindAs_47, e_readingOf hS (q_sw_lt hg.2.2), qc_i, zX4_isReadFromBehindAs_50, e_letterOf hW ho (by omega), qc_i, zX4_isReadFromBehindAs_60, q_all]
    by_cases h : q_rd sg (q_sw (sg (lt k (ln k - 1 - i)))) = nI (lt o i)
    · rw [if_pos h, zX4_isReadFromBehindAs_65, nI_1, if_pos (decide_eq_true h)]
      exact ih (i + 1) (by omega)
    · rw [if_neg h, zX4_isReadFromBehindAs_63, if_pos q_nb0, if_neg (by rw [decide_eq_true_eq]; exact h), q_bo_f]
theorem e_behindAs (hS : q_SG w sg) (hW : q_WD w nw ln lt) {o : Nat} (hk : k < nw) (ho : o < nw) : qe iX4_isReadFromBehindAs 0 [some (.ref 0), some (.int (nI k)), some (.int (nI o)), none, none] [] w = some (some (.int (q_bo (q_bw sg ln lt k o))), w) := by
  obtain ⟨h4, h5, h6, h7⟩ := hW.2.2 k hk
  obtain ⟨g4, g5, g6, g7⟩ := hW.2.2 o ho
  rw [zX4_isReadFromBehindAs_0, e_lettersOf hW hk, qc_i, zX4_isReadFromBehindAs_8, e_lettersOf hW ho, qc_i, zX4_isReadFromBehindAs_17, q_bw]
  by_cases h : ln o = ln k
  · rw [if_pos (by rw [h]), zX4_isReadFromBehindAs_23, decide_eq_true h, Bool.true_and]
    exact e_behindLoop hS hW hk ho h (ln k) 0 (by omega)
  · rw [if_neg (fun q => h ((nI_eq (by omega) (by omega)).mp q)), zX4_isReadFromBehindAs_21, if_pos q_nb0, decide_eq_false h, Bool.false_and, q_bo_f]
def q_wb (sg : Nat → Nat) (nw : Nat) (ln : Nat → Nat) (lt : Nat → Nat → Nat) (k : Nat) : Int32 := q_fq (fun o => q_bw sg ln lt k o) nw 0
theorem e_fromLoop (hS : q_SG w sg) (hW : q_WD w nw ln lt) (hk : k < nw) : ∀ n i : Nat, i + n = nw → qe iX4_wordFromBehind 2 [some (.ref 0), some (.int (nI k)), some (.int (nI i))] [] w = some (some (.int (q_fq (fun o => q_bw sg ln lt k o) n i)), w) := by
  have hn := hW.2.1
  intro n
  induction n with
  | zero => intro i hi; rw [zX4_wordFromBehind_2, hW.1, if_pos (nI_le (by omega) (by omega)), zX4_wordFromBehind_30]; rfl
  | succ n ih =>
    intro i hi
    rw [zX4_wordFromBehind_2, hW.1, if_neg (nI_ge (by omega) (by omega)), zX4_wordFromBehind_13, e_behindAs hS hW hk (by omega), qc_i, zX4_wordFromBehind_19, q_fq]
    cases h : q_bw sg ln lt k i with
    | true => rw [q_bo_t, if_neg (by decide), zX4_wordFromBehind_22, if_pos rfl]
    | false =>
      rw [q_bo_f, if_pos rfl, zX4_wordFromBehind_24, nI_1, if_neg (by decide)]
      exact ih (i + 1) (by omega)
theorem e_fromBehind (hS : q_SG w sg) (hW : q_WD w nw ln lt) (hk : k < nw) : qe iX4_wordFromBehind 0 [some (.ref 0), some (.int (nI k)), none] [] w = some (some (.int (q_wb sg nw ln lt k)), w) := by
  rw [zX4_wordFromBehind_0]
  exact e_fromLoop hS hW hk nw 0 (by omega)
theorem e_bothLoop (hS : q_SG w sg) (hW : q_WD w nw ln lt) : ∀ (n i : Nat) (b : Int32), i + n = nw → qe iX4_wordsBothWays 4 [some (.ref 0), some (.int b), some (.int (nI i))] [] w = some (some (.int (q_ob (fun k => decide (¬ q_wb sg nw ln lt k = -1)) n i b)), w) := by
  have hn := hW.2.1
  intro n
  induction n with
  | zero => intro i b hi; rw [zX4_wordsBothWays_4, hW.1, if_pos (nI_le (by omega) (by omega)), zX4_wordsBothWays_36]; rfl
  | succ n ih =>
    intro i b hi
    rw [zX4_wordsBothWays_4, hW.1, if_neg (nI_ge (by omega) (by omega)), zX4_wordsBothWays_15, e_fromBehind hS hW (by omega), qc_i, zX4_wordsBothWays_20, q_ob]
    by_cases h : q_wb sg nw ln lt i = -1
    · rw [if_pos h, zX4_wordsBothWays_30, nI_1, if_neg (by rw [decide_eq_true_eq]; exact fun q => q h)]
      exact ih (i + 1) b (by omega)
    · rw [if_neg h, zX4_wordsBothWays_24, zX4_wordsBothWays_30, nI_1, if_pos (decide_eq_true h)]
      exact ih (i + 1) _ (by omega)
theorem e_bothAll (hS : q_SG w sg) (hW : q_WD w nw ln lt) : qe iX4_wordsBothWays 0 [some (.ref 0), none, none] [] w = some (some (.int (q_ob (fun k => decide (¬ q_wb sg nw ln lt k = -1)) nw 0 0)), w) := by
  rw [zX4_wordsBothWays_0]
  exact e_bothLoop hS hW nw 0 0 (by omega)
/-- how many pairs -/
def q_sl (sg : Nat → Nat) : Nat → Nat → Nat → Nat
  | 0, _, t => t
  | n + 1, a, t => q_sl sg n (a + 1) (q_ct (fun b => q_one (sg b) (sg a)) 10 0 t)
theorem e_slipIn (hS : q_SG w sg) {a : Nat} (ha : a < 10) : ∀ (n i t : Nat), i + n = 10 → qe iX4_slippery 12 [some (.ref 0), some (.int (nI t)), some (.int (nI a)), some (.int (nI i))] [] w = qe iX4_slippery 49 [some (.ref 0), some (.int (nI (q_ct (fun b => q_one (sg b) (sg a)) n i t))), some (.int (nI a)), some (.int (nI 10))] [] w := by
  have h2 := hS a ha
  intro n
  induction n with
  | zero =>
    intro i t hi
    have : i = 10 := by omega
    subst this
    rw [zX4_slippery_12, if_pos (q_lit10 (by omega) (by omega))]
    rfl
  | succ n ih =>
    intro i t hi
    have h1 := hS i (by omega)
    rw [zX4_slippery_12, if_neg (q_nlit10 (by omega)), zX4_slippery_18, e_at (n := 10) w rfl (by omega) (by omega), qc_i, zX4_slippery_26, e_at (n := 10) w rfl ha (by omega), qc_i, zX4_slippery_34, h1.1, h2.1, e_one h1.2.2 h2.2.2, qc_i, zX4_slippery_37, q_ct]
    cases h : q_one (sg i) (sg a) with
    | true => rw [q_bo_t, if_neg (by decide), zX4_slippery_40, zX4_slippery_43, nI_1, nI_1, if_pos rfl]; exact ih (i + 1) (t + 1) (by omega)
    | false => rw [q_bo_f, if_pos rfl, zX4_slippery_43, nI_1, if_neg (by decide)]; exact ih (i + 1) t (by omega)
theorem e_slipOut (hS : q_SG w sg) : ∀ (n a t : Nat) (u : Option Value), a + n = 10 → qe iX4_slippery 4 [some (.ref 0), some (.int (nI t)), some (.int (nI a)), u] [] w = some (some (.int (nI (q_sl sg n a t))), w) := by
  intro n
  induction n with
  | zero => intro a t u hi; rw [zX4_slippery_4, if_pos (q_lit10 (by omega) (by omega)), zX4_slippery_55]; rfl
  | succ n ih =>
    intro a t u hi
    rw [zX4_slippery_4, if_neg (q_nlit10 (by omega)), zX4_slippery_10, show (0 : Int32) = nI 0 from rfl, e_slipIn hS (by omega) 10 0 t (by omega), zX4_slippery_49, nI_1, q_sl]
    exact ih (a + 1) _ _ (by omega)
theorem e_slippery (hS : q_SG w sg) : qe iX4_slippery 0 [some (.ref 0), none, none, none] [] w = some (some (.int (nI (q_sl sg 10 0 0))), w) := by
  rw [zX4_slippery_0]
  exact e_slipOut hS 10 0 0 none (by omega)
/-- apart from the other letters -/
def q_ap (sg : Nat → Nat) (l v : Nat) : Bool := q_all (fun o => decide (o = l) || !(decide (sg o = v) || q_one (sg o) v || q_one v (sg o))) 10 0
theorem e_apartLoop (hS : q_SG w sg) {v l : Nat} (hv : v < 64) (hl : l < 10) : ∀ (n i : Nat) (u : Option Value), i + n = 10 → qe iX4_isApartFromOthers 2 [some (.ref 0), some (.int (nI v)), some (.int (nI l)), some (.int (nI i)), u] [] w = some (some (.int (q_bo (q_all (fun o => decide (o = l) || !(decide (sg o = v) || q_one (sg o) v || q_one v (sg o))) n i))), w) := by
  intro n
  induction n with
  | zero => intro i u hi; rw [zX4_isApartFromOthers_2, if_pos (q_lit10 (by omega) (by omega)), zX4_isApartFromOthers_55, if_pos q_nb1]; rfl
  | succ n ih =>
    intro i u hi
    have h1 := hS i (by omega)
    rw [zX4_isApartFromOthers_2, if_neg (q_nlit10 (by omega)), zX4_isApartFromOthers_8, e_at (n := 10) w rfl (by omega) (by omega), qc_i, zX4_isApartFromOthers_16, h1.1, q_all]
    by_cases e1 : i = l
    · subst e1
      rw [if_pos rfl, zX4_isApartFromOthers_49, nI_1, decide_eq_true rfl, Bool.true_or, if_pos rfl]
      exact ih (i + 1) _ (by omega)
    · rw [if_neg (fun q => e1 ((nI_eq (by omega) (by omega)).mp q)), zX4_isApartFromOthers_23, decide_eq_false e1, Bool.false_or]
      by_cases e2 : sg i = v
      · rw [if_pos (by rw [e2]), zX4_isApartFromOthers_47, if_pos q_nb0, decide_eq_true e2, Bool.true_or, Bool.true_or, Bool.not_true, if_neg (by decide), q_bo_f]
      · rw [if_neg (fun q => e2 ((nI_eq (by omega) (by omega)).mp q)), zX4_isApartFromOthers_29, e_one h1.2.2 hv, qc_i, zX4_isApartFromOthers_35, decide_eq_false e2, Bool.false_or]
        cases e3 : q_one (sg i) v with
        | true => rw [q_bo_t, if_pos (by decide), zX4_isApartFromOthers_47, if_pos q_nb0, Bool.true_or, Bool.not_true, if_neg (by decide), q_bo_f]
        | false =>
          rw [q_bo_f, if_neg (fun q => q rfl), zX4_isApartFromOthers_38, e_one hv h1.2.2, qc_i, zX4_isApartFromOthers_44, Bool.false_or]
          cases e4 : q_one v (sg i) with
          | true => rw [q_bo_t, if_neg (by decide), zX4_isApartFromOthers_47, if_pos q_nb0, Bool.not_true, if_neg (by decide), q_bo_f]
          | false =>
            rw [q_bo_f, if_pos rfl, zX4_isApartFromOthers_49, nI_1, Bool.not_false, if_pos rfl]
            exact ih (i + 1) _ (by omega)
theorem e_apart (hS : q_SG w sg) {v l : Nat} (hv : v < 64) (hl : l < 10) : qe iX4_isApartFromOthers 0 [some (.ref 0), some (.int (nI v)), some (.int (nI l)), none, none] [] w = some (some (.int (q_bo (q_ap sg l v))), w) := by
  rw [zX4_isApartFromOthers_0]
  exact e_apartLoop hS hv hl 10 0 none (by omega)
/-- a better sign -/
def q_few (b : Option Nat) (v : Nat) : Bool := match b with
  | none => true
  | some x => decide (q_pop v < q_pop x)
theorem q_few_n (v : Nat) : q_few none v = true := rfl
theorem q_few_s (x v : Nat) : q_few (some x) v = decide (q_pop v < q_pop x) := rfl
def q_bt (ap : Nat → Bool) : Nat → Nat → Option Nat → Option Nat
  | 0, _, b => b
  | n + 1, v, b => q_bt ap n (v + 1) (if (q_few b v && ap v) = true then some v else b)
theorem e_betterLoop (hS : q_SG w sg) {l : Nat} (hl : l < 10) : ∀ (n v : Nat) (b : Option Nat) (u : Option Value), v + n = 64 → (∀ x, b = some x → x < 64) → qe iX4_better 17 [some (.ref 0), some (.int (nI l)), some (.int (q_oi b)), some (.int (nI v)), u] [] w = some (some (.int (q_oi (q_bt (q_ap sg l) n v b))), w) := by
  intro n
  induction n with
  | zero => intro v b u hv hb; rw [zX4_better_17, if_pos (show (63 : Int32) < nI v from nI_lt (a := 63) (by omega) (by omega)), zX4_better_68]; rfl
  | succ n ih =>
    intro v b u hv hb
    have hv64 : v < 64 := by omega
    rw [zX4_better_17, if_neg (show ¬ (63 : Int32) < nI v from nI_nlt (a := 63) (b := v) (by omega) (by omega)), zX4_better_23, q_bt]
    have yes : ∀ u, qe iX4_better 44 [some (.ref 0), some (.int (nI l)), some (.int (q_oi b)), some (.int (nI v)), u] [.int 1] w = some (some (.int (q_oi (q_bt (q_ap sg l) n (v + 1) (if q_ap sg l v = true then some v else b)))), w) := by
      intro u
      rw [zX4_better_44, if_neg (by decide), zX4_better_51, e_apart hS hv64 hl, qc_i, zX4_better_57]
      cases h : q_ap sg l v with
      | true =>
        rw [q_bo_t, if_neg (by decide), zX4_better_60, zX4_better_62, nI_1, if_pos rfl]
        exact ih (v + 1) (some v) _ (by omega) (fun x h => by cases h; exact hv64)
      | false =>
        rw [q_bo_f, if_pos rfl, zX4_better_62, nI_1, if_neg (by decide)]
        exact ih (v + 1) b _ (by omega) hb
    cases b with
    | none =>
      rw [q_oi_n, if_pos rfl, zX4_better_39, q_few_n, Bool.true_and]
      exact yes u
    | some x =>
      have hx := hb x rfl
      have p1 := q_pop_le v
      have p2 := q_pop_le x
      rw [q_oi_s, if_neg (q_m1 (by omega)), zX4_better_28, e_bitCount hv64, qc_i, zX4_better_32, e_bitCount hx, qc_i, zX4_better_36, q_few_s]
      by_cases h : q_pop v < q_pop x
      · rw [if_neg (nI_ge h (by omega)), zX4_better_39, decide_eq_true h, Bool.true_and]
        exact yes u
      · rw [if_pos (nI_le (by omega) (by omega)), zX4_better_43, zX4_better_44, if_pos rfl, zX4_better_62, nI_1, decide_eq_false h, Bool.false_and, if_neg (by decide)]
        exact ih (v + 1) (some x) _ (by omega) hb
theorem q_letN {v : Int32} (h : 0 ≤ v ∧ v ≤ 9) : ∃ l, l < 10 ∧ v = nI l := by
  obtain ⟨i, hi, rfl⟩ := nI_of (Int32.not_lt.mpr h.1)
  refine ⟨i, ?_, rfl⟩
  have h2 := Int32.le_iff_toInt_le.mp h.2
  rw [nI_toInt hi, show (9 : Int32) = nI 9 from rfl, nI_toInt (by omega)] at h2
  omega
theorem e_better {v : Int32} (hS : q_SG w sg) : (¬ (0 ≤ v ∧ v ≤ 9) ∧ qe iX4_better 0 [some (.ref 0), some (.int v), none, none, none] [] w = some (some (.int (-2)), w)) ∨ (∃ l, l < 10 ∧ v = nI l ∧ qe iX4_better 0 [some (.ref 0), some (.int v), none, none, none] [] w = some (some (.int (q_oi (q_bt (q_ap sg l) 63 1 none))), w)) := by
  rw [zX4_better_0, e_isWithin, qc_i, zX4_better_7]
  by_cases h : 0 ≤ v ∧ v ≤ 9
  · obtain ⟨l, hl, rfl⟩ := q_letN h
    exact Or.inr ⟨l, hl, rfl, by rw [decide_eq_true h, q_bo_t, if_pos (by decide), zX4_better_13]; exact e_betterLoop hS hl 63 1 none none (by omega) (fun x h => by cases h)⟩
  · exact Or.inl ⟨h, by rw [decide_eq_false h, q_bo_f, if_neg (by decide), zX4_better_10]⟩
def q_fs0 (sg : Nat → Nat) : Nat := q_ct (fun v => decide (q_rd sg v = -1)) 63 1 0
theorem e_freeLoop (hS : q_SG w sg) : ∀ (n v t : Nat), v + n = 64 → qe iX4_freeSigns 4 [some (.ref 0), some (.int (nI t)), some (.int (nI v))] [] w = some (some (.int (nI (q_ct (fun v => decide (q_rd sg v = -1)) n v t))), w) := by
  intro n
  induction n with
  | zero => intro v t hv; rw [zX4_freeSigns_4, if_pos (show (63 : Int32) < nI v from nI_lt (a := 63) (by omega) (by omega)), zX4_freeSigns_28]; rfl
  | succ n ih =>
    intro v t hv
    rw [zX4_freeSigns_4, if_neg (show ¬ (63 : Int32) < nI v from nI_nlt (a := 63) (b := v) (by omega) (by omega)), zX4_freeSigns_10, e_readingOf hS (by omega), qc_i, zX4_freeSigns_15, q_ct]
    by_cases h : q_rd sg v = -1
    · rw [if_neg (fun q => q h), zX4_freeSigns_19, zX4_freeSigns_22, nI_1, nI_1, if_pos (decide_eq_true h)]
      exact ih (v + 1) (t + 1) (by omega)
    · rw [if_pos h, zX4_freeSigns_22, nI_1, if_neg (by rw [decide_eq_true_eq]; exact h)]
      exact ih (v + 1) t (by omega)
theorem e_freeSigns (hS : q_SG w sg) : qe iX4_freeSigns 0 [some (.ref 0), none, none] [] w = some (some (.int (nI (q_fs0 sg))), w) := by
  rw [zX4_freeSigns_0]
  exact e_freeLoop hS 63 1 0 (by omega)
end S22
