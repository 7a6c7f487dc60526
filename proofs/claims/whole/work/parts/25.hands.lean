/-! points, hands, wear -/
def x_sm (f : Nat → Nat) : Nat → Nat
  | 0 => 0
  | n + 1 => x_sm f n + f n
theorem x_sm_c {f g : Nat → Nat} : ∀ n, (∀ j, j < n → f j = g j) → x_sm f n = x_sm g n := by
  intro n
  induction n with
  | zero => intro _; rfl
  | succ n ih => intro h; rw [x_sm, x_sm, ih (fun j hj => h j (by omega)), h n (by omega)]
theorem x_sm_le {f : Nat → Nat} {m : Nat} (h : ∀ j, f j ≤ m) : ∀ n, x_sm f n ≤ m * n := by
  intro n
  induction n with
  | zero => exact Nat.le_refl _
  | succ n ih => rw [x_sm, Nat.mul_add, Nat.mul_one]; have := h n; omega
/-- how many cells are so -/
def q_PR (sg pb : Nat → Nat) (i : Nat) : Nat := if 97 ≤ pb i ∧ pb i ≤ 106 then sg (pb i - 97) else 0
def q_PB (w : qW) (cc : Nat) (pb : Nat → Nat) : Prop := ∀ j, j < cc → w 2 j = nI (pb j) ∧ pb j ≤ 255
def q_HB (w : qW) (hb : Nat → Nat) : Prop := ∀ j, j < 18 → w 15 j = nI (hb j) ∧ hb j ≤ 99
section P25
variable {w : qW} {sg cl ln pb hb v : Nat → Nat} {nw cc mi ex k f i a r n : Nat}
theorem e_pointsLoop {N : Nat} (hr : q_sA[r]? = some (.inl (0, N))) (hN : N < 2 ^ 31) (hn : n ≤ N) (hv : ∀ j, j < n → w r j = nI (v j) ∧ v j < 64) : ∀ m i : Nat, i + m = n → qe iX4_pointsOf 4 [some (.ref r), some (.int (nI n)), some (.int (nI (x_sm (fun j => q_pop (v j)) i))), some (.int (nI i))] [] w = some (some (.int (nI (x_sm (fun j => q_pop (v j)) n))), w) := by
  intro m
  induction m with
  | zero => intro i hi; have : i = n := by omega
            subst this; rw [zX4_pointsOf_4 hr, if_pos (Int32.le_refl _), zX4_pointsOf_26 hr]
  | succ m ih =>
    intro i hi
    have h1 := hv i (by omega)
    rw [zX4_pointsOf_4 hr, if_neg (nI_ge (by omega) (by omega)), zX4_pointsOf_9 hr, e_at w hr (by omega) hN, qc_i, zX4_pointsOf_15 hr, h1.1, e_bitCount h1.2, qc_i, zX4_pointsOf_18 hr, nI_add, nI_1]
    exact ih (i + 1) (by omega)
theorem e_pointsOf {N : Nat} (hr : q_sA[r]? = some (.inl (0, N))) (hN : N < 2 ^ 31) (hn : n ≤ N) (hv : ∀ j, j < n → w r j = nI (v j) ∧ v j < 64) : qe iX4_pointsOf 0 [some (.ref r), some (.int (nI n)), none, none] [] w = some (some (.int (nI (x_sm (fun j => q_pop (v j)) n))), w) := by
  rw [zX4_pointsOf_0 hr]
  exact e_pointsLoop hr hN hn hv n 0 (by omega)
theorem e_lettersLoop (hS : q_SG w sg) (hC : q_CL w cc cl) : ∀ m i t : Nat, i + m = cc → qe iX4_cellsOfLetters 4 [some (.ref 0), some (.int (nI t)), some (.int (nI i))] [] w = some (some (.int (nI (q_ct (fun i => decide (0 ≤ q_rd sg (cl i) ∧ q_rd sg (cl i) ≤ 9)) m i t))), w) := by
  have hc := hC.2.1
  intro m
  induction m with
  | zero => intro i t hi; rw [zX4_cellsOfLetters_4, hC.1, if_pos (nI_le (by omega) (by omega)), zX4_cellsOfLetters_42]; rfl
  | succ m ih =>
    intro i t hi
    have hl := hC.2.2 i (by omega)
    rw [zX4_cellsOfLetters_4, hC.1, if_neg (nI_ge (by omega) (by omega)), zX4_cellsOfLetters_12, e_at (n := 24) w rfl (by omega) (by omega), qc_i, zX4_cellsOfLetters_21, hl.1, e_readingOf hS hl.2, qc_i, zX4_cellsOfLetters_24, e_isWithin, qc_i, zX4_cellsOfLetters_30, q_ct]
    cases h : decide (0 ≤ q_rd sg (cl i) ∧ q_rd sg (cl i) ≤ 9) with
    | true => rw [q_bo_t, if_neg (by decide), zX4_cellsOfLetters_33, zX4_cellsOfLetters_36, nI_1, nI_1, if_pos rfl]; exact ih (i + 1) (t + 1) (by omega)
    | false => rw [q_bo_f, if_pos rfl, zX4_cellsOfLetters_36, nI_1, if_neg (by decide)]; exact ih (i + 1) t (by omega)
theorem e_cellsOfLetters (hS : q_SG w sg) (hC : q_CL w cc cl) : qe iX4_cellsOfLetters 0 [some (.ref 0), none, none] [] w = some (some (.int (nI (q_ct (fun i => decide (0 ≤ q_rd sg (cl i) ∧ q_rd sg (cl i) ≤ 9)) cc 0 0))), w) := by
  rw [zX4_cellsOfLetters_0]
  exact e_lettersLoop hS hC cc 0 0 (by omega)
theorem q_is97 {b : Nat} (hb : b < 2 ^ 31) : (97 ≤ nI b ∧ nI b ≤ 106) ↔ (97 ≤ b ∧ b ≤ 106) := by
  rw [show (97 : Int32) = nI 97 from rfl, show (106 : Int32) = nI 106 from rfl, nI_leI (by omega) hb, nI_leI hb (by omega)]
theorem q_PR_lt (hS : q_SG w sg) (i : Nat) : q_PR sg pb i < 64 := by
  unfold q_PR
  split
  · rename_i h; exact (hS _ (by omega)).2.2
  · omega
theorem e_printedAt (hS : q_SG w sg) {pl : Nat} (hB : q_PB w pl pb) (hi : i < pl) (hp : pl ≤ 24) : qe iX4_printedAt 0 [some (.ref 0), some (.int (nI i)), none] [] w = some (some (.int (nI (q_PR sg pb i))), w) := by
  have hb := hB i hi
  rw [zX4_printedAt_0, e_at (n := 24) w rfl (by omega) (by omega), qc_i, zX4_printedAt_11, hb.1, e_isLetter, qc_i, zX4_printedAt_16, q_PR]
  by_cases h : 97 ≤ pb i ∧ pb i ≤ 106
  · rw [decide_eq_true ((q_is97 (by omega)).mpr h), q_bo_t, if_neg (by decide), zX4_printedAt_19, show (97 : Int32) = nI 97 from rfl, pk_sub h.1, e_at (n := 10) w rfl (by omega) (by omega), qc_i, zX4_printedAt_30, zX4_printedAt_34, (hS _ (by omega)).1, if_pos h]
  · rw [decide_eq_false (fun q => h ((q_is97 (by omega)).mp q)), q_bo_f, if_pos rfl, zX4_printedAt_33, zX4_printedAt_34, if_neg h]
    rfl
theorem e_skippedAt (hS : q_SG w sg) (hC : q_CL w cc cl) (hB : q_PB w cc pb) (hi : i < cc) : qe iX4_skippedAt 0 [some (.ref 0), some (.int (nI i))] [] w = some (some (.int (nI (q_an (q_PR sg pb i) (cl i)))), w) := by
  have hc := hC.2.1
  have hl := hC.2.2 i hi
  rw [zX4_skippedAt_0, e_printedAt hS hB hi hc, qc_i, zX4_skippedAt_5, e_at (n := 24) w rfl (by omega) (by omega), qc_i, zX4_skippedAt_13, hl.1, q_an_I (q_PR_lt hS i) hl.2]
/-- what a hand skipped of it -/
def x_hs (sg pb cl hb : Nat → Nat) (h : Nat) (i : Nat) : Nat := x_sv (fun p => hb (h * 6 + p)) (q_an (q_PR sg pb i) (cl i)) 6
theorem x_hs_le (hH : q_HB w hb) {h : Nat} (hh : h < 3) (i : Nat) : x_hs sg pb cl hb h i ≤ 2970 := by
  have := x_sv_le (v := fun p => hb (h * 6 + p)) (nw := 6) (fun k hk => Nat.le_trans (hH (h * 6 + k) (by omega)).2 (by omega)) (q_an (q_PR sg pb i) (cl i)) 6 (Nat.le_refl _)
  exact this
theorem e_handIn (hH : q_HB w hb) {h s t : Nat} (hh : h < 3) (hs : s < 64) (v3 : Int32) : ∀ m p : Nat, p + m = 6 → qe iX4_skippedBy 22 [some (.ref 0), some (.int (nI h)), some (.int (nI (t + x_sv (fun p => hb (h * 6 + p)) s p))), some (.int v3), some (.int (nI s)), some (.int (nI p))] [] w = qe iX4_skippedBy 62 [some (.ref 0), some (.int (nI h)), some (.int (nI (t + x_sv (fun p => hb (h * 6 + p)) s 6))), some (.int v3), some (.int (nI s)), some (.int (nI 6))] [] w := by
  intro m
  induction m with
  | zero => intro p hp; have : p = 6 := by omega
            subst this; rw [zX4_skippedBy_22, if_pos (show (6 : Int32) ≤ nI 6 from nI_le (a := 6) (Nat.le_refl _) (by omega))]
  | succ m ih =>
    intro p hp
    have key := q_tst_all ⟨s, by omega⟩ ⟨p, by omega⟩
    have next := ih (p + 1) (by omega)
    rw [x_sv, ← Nat.add_assoc] at next
    rw [zX4_skippedBy_22, if_neg (show ¬ (6 : Int32) ≤ nI p from nI_ge (b := 6) (by omega) (by omega)), zX4_skippedBy_29]
    by_cases hb2 : s.testBit p = true
    · rw [if_neg (fun q => by rw [key.mp q] at hb2; cases hb2), zX4_skippedBy_39, show (6 : Int32) = nI 6 from rfl, pk_mul, nI_add, e_at (n := 18) w rfl (by omega) (by omega), qc_i, zX4_skippedBy_54, zX4_skippedBy_56, (hH _ (by omega)).1, nI_add, nI_1]
      rw [if_pos hb2] at next
      exact next
    · rw [if_pos (key.mpr (by simpa using hb2)), zX4_skippedBy_56, nI_1]
      rw [if_neg hb2] at next
      exact next
theorem e_handOut (hS : q_SG w sg) (hC : q_CL w cc cl) (hB : q_PB w cc pb) (hH : q_HB w hb) {h : Nat} (hh : h < 3) : ∀ (m i : Nat) (u4 u5 : Option Value), i + m = cc → qe iX4_skippedBy 4 [some (.ref 0), some (.int (nI h)), some (.int (nI (x_sm (x_hs sg pb cl hb h) i))), some (.int (nI i)), u4, u5] [] w = some (some (.int (nI (x_sm (x_hs sg pb cl hb h) cc))), w) := by
  have hc := hC.2.1
  intro m
  induction m with
  | zero => intro i u4 u5 hi; have : i = cc := by omega
            subst this; rw [zX4_skippedBy_4, hC.1, if_pos (Int32.le_refl _), zX4_skippedBy_68]
  | succ m ih =>
    intro i u4 u5 hi
    have hin := e_handIn (t := x_sm (x_hs sg pb cl hb h) i) (s := q_an (q_PR sg pb i) (cl i)) hH hh (q_an_lt _ (q_PR_lt hS i)) (nI i) 6 0 (by omega)
    rw [zX4_skippedBy_4, hC.1, if_neg (nI_ge (by omega) (by omega)), zX4_skippedBy_12, e_skippedAt hS hC hB (by omega), qc_i, zX4_skippedBy_17]
    refine Eq.trans hin ?_
    rw [zX4_skippedBy_62, nI_1]
    exact ih (i + 1) _ _ (by omega)
theorem e_skippedBy (hS : q_SG w sg) (hC : q_CL w cc cl) (hB : q_PB w cc pb) (hH : q_HB w hb) {h : Nat} (hh : h < 3) : qe iX4_skippedBy 0 [some (.ref 0), some (.int (nI h)), none, none, none, none] [] w = some (some (.int (nI (x_sm (x_hs sg pb cl hb h) cc))), w) := by
  rw [zX4_skippedBy_0]
  exact e_handOut hS hC hB hH hh cc 0 none none (by omega)
/-- is any missing -/
def x_ms (p : Nat → Nat) : Nat → Nat → Bool → Bool
  | 0, _, b => b
  | n + 1, i, b => x_ms p n (i + 1) (b || decide (¬ p i = 0))
theorem e_missLoop (hS : q_SG w sg) (hC : q_CL w cc cl) (hB : q_PB w cc pb) : ∀ (m i : Nat) (b : Bool), i + m = cc → qe iX4_whose 4 [some (.ref 0), some (.int (q_bo b)), some (.int (nI i)), none] [] w = qe iX4_whose 36 [some (.ref 0), some (.int (q_bo (x_ms (fun i => q_an (q_PR sg pb i) (cl i)) m i b))), some (.int (nI cc)), none] [] w := by
  have hc := hC.2.1
  intro m
  induction m with
  | zero => intro i b hi; have : i = cc := by omega
            subst this; rw [zX4_whose_4, hC.1, if_pos (Int32.le_refl _)]; rfl
  | succ m ih =>
    intro i b hi
    have h64 := q_an_lt (cl i) (q_PR_lt (pb := pb) hS i)
    rw [zX4_whose_4, hC.1, if_neg (nI_ge (by omega) (by omega)), zX4_whose_12, x_ms]
    cases b with
    | true =>
      rw [q_bo_t, if_pos (by decide), zX4_whose_24, zX4_whose_29, nI_1, Bool.true_or]
      exact ih (i + 1) true (by omega)
    | false =>
      rw [q_bo_f, if_neg (fun q => q rfl), zX4_whose_16, e_skippedAt hS hC hB (by omega), qc_i, zX4_whose_21, Bool.false_or]
      by_cases h : q_an (q_PR sg pb i) (cl i) = 0
      · rw [if_pos (by rw [h]; rfl), zX4_whose_28, zX4_whose_29, nI_1, decide_eq_false (fun q => q h)]
        exact ih (i + 1) false (by omega)
      · rw [if_neg (fun q => h ((nI_eq (by omega) (by omega)).mp (q.trans nI_0.symm))), zX4_whose_24, zX4_whose_29, nI_1, decide_eq_true h]
        exact ih (i + 1) true (by omega)
/-- the hand with the most -/
def x_wh (s : Nat → Nat) : Nat := if s (if s 0 < s 1 then 1 else 0) < s 2 then 2 else (if s 0 < s 1 then 1 else 0)
theorem e_whose (hS : q_SG w sg) (hC : q_CL w cc cl) (hB : q_PB w cc pb) (hH : q_HB w hb) : qe iX4_whose 0 [some (.ref 0), none, none, none] [] w = some (some (.int (if x_ms (fun i => q_an (q_PR sg pb i) (cl i)) cc 0 false = true then nI (x_wh (fun h => x_sm (x_hs sg pb cl hb h) cc)) else -1)), w) := by
  have hc := hC.2.1
  have le : ∀ h, h < 3 → x_sm (x_hs sg pb cl hb h) cc < 2 ^ 31 := by
    intro h hh
    have := x_sm_le (f := x_hs sg pb cl hb h) (m := 2970) (fun j => x_hs_le hH hh j) cc
    omega
  rw [zX4_whose_0]
  have h0 := e_missLoop (pb := pb) hS hC hB cc 0 false (by omega)
  rw [q_bo_f, nI_0] at h0
  rw [h0, zX4_whose_36]
  cases hm : x_ms (fun i => q_an (q_PR sg pb i) (cl i)) cc 0 false with
  | false => rw [q_bo_f, if_neg (fun q => q rfl), zX4_whose_40, if_neg (by decide)]
  | true =>
    rw [q_bo_t, if_pos (by decide), zX4_whose_42, if_pos rfl]
    have step : ∀ b h : Nat, b < 3 → h < 3 → qe iX4_whose 46 [some (.ref 0), some (.int 1), some (.int (nI b)), some (.int (nI h))] [] w = qe iX4_whose 46 [some (.ref 0), some (.int 1), some (.int (nI (if x_sm (x_hs sg pb cl hb b) cc < x_sm (x_hs sg pb cl hb h) cc then h else b))), some (.int (nI (h + 1)))] [] w := by
      intro b h hb2 hh
      rw [zX4_whose_46, if_neg (show ¬ (3 : Int32) ≤ nI h from nI_ge (b := 3) hh (by omega)), zX4_whose_51, e_skippedBy hS hC hB hH hh, qc_i, zX4_whose_56, e_skippedBy hS hC hB hH hb2, qc_i, zX4_whose_61]
      by_cases hlt : x_sm (x_hs sg pb cl hb b) cc < x_sm (x_hs sg pb cl hb h) cc
      · rw [if_neg (nI_ge hlt (le h hh)), zX4_whose_64, zX4_whose_66, nI_1, if_pos hlt]
      · rw [if_pos (nI_le (by omega) (le b hb2)), zX4_whose_66, nI_1, if_neg hlt]
    have s1 := step 0 1 (by omega) (by omega)
    have s2 := step (if x_sm (x_hs sg pb cl hb 0) cc < x_sm (x_hs sg pb cl hb 1) cc then 1 else 0) 2 (by split <;> omega) (by omega)
    refine Eq.trans s1 (Eq.trans s2 ?_)
    rw [zX4_whose_46, if_pos (show (3 : Int32) ≤ nI (2 + 1) from nI_le (a := 3) (by omega) (by omega)), zX4_whose_72]
    rfl
end P25
