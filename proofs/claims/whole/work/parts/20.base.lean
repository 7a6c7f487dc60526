/-! small methods, in the pure machine -/
def q_bo (b : Bool) : Int32 := if b = true then 1 else 0
theorem q_bo_t : q_bo true = 1 := rfl
theorem q_bo_f : q_bo false = 0 := rfl
theorem q_bo_0 (b : Bool) : (q_bo b = 0) = (b = false) := by cases b <;> simp [q_bo]
theorem q_bo_n0 (b : Bool) : (¬ q_bo b = 0) = (b = true) := by cases b <;> simp [q_bo]
theorem q_nb (b : Bool) : narrow .boolean (.int (q_bo b)) = .int (q_bo b) := by cases b <;> rfl
theorem q_nb0 : narrow .boolean (.int 0) = .int 0 := rfl
theorem q_nb1 : narrow .boolean (.int 1) = .int 1 := rfl
theorem c_ge0 (n : Nat) (h : n < 2 ^ 31) : ¬ nI n < 0 := nI_pos h
theorem c_ok {n N : Nat} (h : n < N) (hN : N < 2 ^ 31) : ¬ (nI n < 0 ∨ N ≤ (nI n).toNatClampNeg) := nI_in h hN
theorem e_isWithin (v a b : Int32) (w : qW) : qe iX4_isWithin 0 [some (.int v), some (.int a), some (.int b)] [] w = some (some (.int (q_bo (decide (a ≤ v ∧ v ≤ b)))), w) := by
  rw [zX4_isWithin_0]
  by_cases h1 : v < a
  · rw [if_pos h1, zX4_isWithin_14, zX4_isWithin_15, if_pos q_nb0, decide_eq_false (fun h => (Int32.not_lt.mpr h.1) h1), q_bo_f]
  · rw [if_neg h1, zX4_isWithin_5]
    by_cases h2 : b < v
    · rw [if_pos h2, zX4_isWithin_14, zX4_isWithin_15, if_pos q_nb0, decide_eq_false (fun h => (Int32.not_lt.mpr h.2) h2), q_bo_f]
    · rw [if_neg h2, zX4_isWithin_10, zX4_isWithin_15, if_pos q_nb1, decide_eq_true ⟨Int32.not_lt.mp h1, Int32.not_lt.mp h2⟩, q_bo_t]
theorem e_isSign (v : Int32) (w : qW) : qe iX4_isSign 0 [some (.int v)] [] w = some (some (.int (q_bo (decide (1 ≤ v ∧ v ≤ 63)))), w) := by
  simp only [zX4_isSign_0, e_isWithin, qc_i, zX4_isSign_7, if_pos (q_nb _)]
theorem e_isForm (v : Int32) (w : qW) : qe iX4_isForm 0 [some (.int v)] [] w = some (some (.int (q_bo (decide (0 ≤ v ∧ v ≤ 2)))), w) := by
  simp only [zX4_isForm_0, e_isWithin, qc_i, zX4_isForm_6, if_pos (q_nb _)]
theorem e_isLetter (v : Int32) (w : qW) : qe iX4_isLetter 0 [some (.int v)] [] w = some (some (.int (q_bo (decide (97 ≤ v ∧ v ≤ 106)))), w) := by
  simp only [zX4_isLetter_0, e_isWithin, qc_i, zX4_isLetter_8, if_pos (q_nb _)]
theorem e_isCell (v : Int32) (w : qW) : qe iX4_isCell 0 [some (.ref 0), some (.int v)] [] w = some (some (.int (q_bo (decide (0 ≤ v ∧ v ≤ w 0 5 - 1)))), w) := by
  simp only [zX4_isCell_0, e_isWithin, qc_i, zX4_isCell_11, if_pos (q_nb _)]
theorem e_has (v : Int32) (w : qW) : qe iX3_has 0 [some (.ref 3), some (.int v)] [] w = some (some (.int (q_bo (decide (0 ≤ v ∧ v ≤ w 3 3 - 1)))), w) := by
  simp only [zX3_has_0, e_isWithin, qc_i, zX3_has_11, if_pos (q_nb _)]
theorem e_mix (a b : Int64) (w : qW) : qe iX4_mix 0 [some (.long a), none, some (.long b), none] [] w = some (some (.long (31 * a + b)), w) := zX4_mix_0
theorem e_swap (a : Int32) (w : qW) : qe iX4_swapColumns 0 [some (.int a)] [] w = some (some (.int (((a &&& 7) <<< (3 &&& 31)) ||| ((a >>> (3 &&& 31)) &&& 7))), w) := zX4_swapColumns_0
theorem e_find (a : Int32) (w : qW) : qe iX4_find 0 [some (.ref 0), some (.int a)] [] w = some (some (.int (-10 - a)), q_up w 0 11 a) := zX4_find_0
/-- a row looked at within -/
theorem e_at {r n j : Nat} (w : qW) (hr : q_sA[r]? = some (.inl (0, n))) (hj : j < n) (hn : n < 2 ^ 31) : qe iX4_at 0 [some (.ref r), some (.int (nI j))] [] w = some (some (.int (w r j)), w) := by
  rw [zX4_at_0 hr, zX4_at_4 hr, if_neg (c_ge0 j (by omega)), zX4_at_8 hr, if_neg (show ¬ Int32.ofNat n ≤ nI j from nI_ge hj hn), zX4_at_14 hr, if_neg (c_ok hj hn), zX4_at_17 hr, zX4_at_21 hr, nI_clamp (by omega)]
theorem e_at_lo {r n : Nat} {i : Int32} (w : qW) (hr : q_sA[r]? = some (.inl (0, n))) (hi : i < 0) : qe iX4_at 0 [some (.ref r), some (.int i)] [] w = some (some (.int 0), w) := by
  rw [zX4_at_0 hr, zX4_at_4 hr, if_pos hi, zX4_at_20 hr, zX4_at_21 hr]
theorem e_at_hi {r n : Nat} {i : Int32} (w : qW) (hr : q_sA[r]? = some (.inl (0, n))) (h0 : ¬ i < 0) (hi : nI n ≤ i) : qe iX4_at 0 [some (.ref r), some (.int i)] [] w = some (some (.int 0), w) := by
  rw [zX4_at_0 hr, zX4_at_4 hr, if_neg h0, zX4_at_8 hr, if_pos (show Int32.ofNat n ≤ i from hi), zX4_at_20 hr, zX4_at_21 hr]
theorem e_lay {r n j : Nat} (v : Int32) (w : qW) (hr : q_sA[r]? = some (.inl (0, n))) (hj : j < n) (hn : n < 2 ^ 31) : qe iX4_lay 0 [some (.ref r), some (.int (nI j)), some (.int v)] [] w = some (none, q_up w r j v) := by
  rw [zX4_lay_0 hr, zX4_lay_4 hr, if_neg (c_ge0 j (by omega)), zX4_lay_8 hr, if_neg (show ¬ Int32.ofNat n ≤ nI j from nI_ge hj hn), zX4_lay_14 hr, if_neg (c_ok hj hn), zX4_lay_18 hr, nI_clamp (by omega)]
/-- points of a number below 64 -/
def q_pop (a : Nat) : Nat := a % 2 + a / 2 % 2 + a / 4 % 2 + a / 8 % 2 + a / 16 % 2 + a / 32 % 2
theorem q_pop_le (a : Nat) : q_pop a ≤ 6 := by unfold q_pop; omega
theorem q_pop_0 : q_pop 0 = 0 := rfl
theorem e_bitCount_all : ∀ a : Fin 64, ∀ r : Option Value × qW, qe iJ6_bitCount_0f7a4 0 [some (.int (nI a.val))] [] r.2 = some (some (.int (nI (q_pop a.val))), r.2) := by
  intro a r
  rw [zJ6_bitCount_0f7a4_0]
  congr 3
  revert a
  decide +kernel
theorem e_bitCount {a : Nat} (h : a < 64) (w : qW) : qe iJ6_bitCount_0f7a4 0 [some (.int (nI a))] [] w = some (some (.int (nI (q_pop a))), w) := e_bitCount_all ⟨a, h⟩ (none, w)
