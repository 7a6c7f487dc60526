/-! sheets of the class, one by one -/
theorem B_X4_sheetAt : mB iX4_sheetAt = cX4_sheetAt := rfl
section S55
variable {w w' : qW}
theorem zX4_sheetAt_0 {l1 : Int32} : qe iX4_sheetAt 0 [some (.ref 0), some (.int l1)] [] w = if l1 < 0 then qe iX4_sheetAt 22 [some (.ref 0), some (.int l1)] [] w else qe iX4_sheetAt 4 [some (.ref 0), some (.int l1)] [] w := Eq.trans (es B_X4_sheetAt dX4_sheetAt_0 rfl) (ei B_X4_sheetAt dX4_sheetAt_1 rfl)
theorem zX4_sheetAt_4 {l1 : Int32} : qe iX4_sheetAt 4 [some (.ref 0), some (.int l1)] [] w = if (Int32.ofNat 4) ≤ l1 then qe iX4_sheetAt 22 [some (.ref 0), some (.int l1)] [] w else qe iX4_sheetAt 13 [some (.ref 0), some (.int l1)] [] w := Eq.trans (es B_X4_sheetAt dX4_sheetAt_4 rfl) (Eq.trans (es B_X4_sheetAt dX4_sheetAt_5 rfl) (Eq.trans (es B_X4_sheetAt dX4_sheetAt_6 rfl) (Eq.trans (es B_X4_sheetAt dX4_sheetAt_9 rfl) (ei B_X4_sheetAt dX4_sheetAt_10 rfl))))
theorem zX4_sheetAt_22 {l1 : Int32} : qe iX4_sheetAt 22 [some (.ref 0), some (.int l1)] [] w = some (some .null, w) := Eq.trans (es B_X4_sheetAt dX4_sheetAt_22 rfl) (er B_X4_sheetAt dX4_sheetAt_23 rfl)
theorem zX4_sheetAt_13 {s : Nat} (hs : s < 4) : qe iX4_sheetAt 13 [some (.ref 0), some (.int (nI s))] [] w = some (some (.ref (17 + 2 * s)), w) := by
  rcases (show s = 0 ∨ s = 1 ∨ s = 2 ∨ s = 3 by omega) with rfl | rfl | rfl | rfl
  · exact Eq.trans (es B_X4_sheetAt dX4_sheetAt_13 rfl) (Eq.trans (es B_X4_sheetAt dX4_sheetAt_14 rfl) (Eq.trans (es B_X4_sheetAt dX4_sheetAt_17 rfl) (Eq.trans (es B_X4_sheetAt dX4_sheetAt_18 rfl) (Eq.trans (es B_X4_sheetAt dX4_sheetAt_19 rfl) (er B_X4_sheetAt dX4_sheetAt_23 rfl)))))
  · exact Eq.trans (es B_X4_sheetAt dX4_sheetAt_13 rfl) (Eq.trans (es B_X4_sheetAt dX4_sheetAt_14 rfl) (Eq.trans (es B_X4_sheetAt dX4_sheetAt_17 rfl) (Eq.trans (es B_X4_sheetAt dX4_sheetAt_18 rfl) (Eq.trans (es B_X4_sheetAt dX4_sheetAt_19 rfl) (er B_X4_sheetAt dX4_sheetAt_23 rfl)))))
  · exact Eq.trans (es B_X4_sheetAt dX4_sheetAt_13 rfl) (Eq.trans (es B_X4_sheetAt dX4_sheetAt_14 rfl) (Eq.trans (es B_X4_sheetAt dX4_sheetAt_17 rfl) (Eq.trans (es B_X4_sheetAt dX4_sheetAt_18 rfl) (Eq.trans (es B_X4_sheetAt dX4_sheetAt_19 rfl) (er B_X4_sheetAt dX4_sheetAt_23 rfl)))))
  · exact Eq.trans (es B_X4_sheetAt dX4_sheetAt_13 rfl) (Eq.trans (es B_X4_sheetAt dX4_sheetAt_14 rfl) (Eq.trans (es B_X4_sheetAt dX4_sheetAt_17 rfl) (Eq.trans (es B_X4_sheetAt dX4_sheetAt_18 rfl) (Eq.trans (es B_X4_sheetAt dX4_sheetAt_19 rfl) (er B_X4_sheetAt dX4_sheetAt_23 rfl)))))
theorem e_sheetAt {s : Nat} (hs : s < 4) : qe iX4_sheetAt 0 [some (.ref 0), some (.int (nI s))] [] w = some (some (.ref (17 + 2 * s)), w) := by
  rw [zX4_sheetAt_0, if_neg (c_ge0 s (by omega)), zX4_sheetAt_4, if_neg (show ¬ Int32.ofNat 4 ≤ nI s from nI_ge (b := 4) hs (by omega)), zX4_sheetAt_13 hs]
theorem e_sheetAtN {v : Int32} (h : ¬ (0 ≤ v ∧ v ≤ 3)) : qe iX4_sheetAt 0 [some (.ref 0), some (.int v)] [] w = some (some .null, w) := by
  rw [zX4_sheetAt_0]
  by_cases h0 : v < 0
  · rw [if_pos h0, zX4_sheetAt_22]
  · rw [if_neg h0, zX4_sheetAt_4]
    obtain ⟨n, hn, rfl⟩ := nI_of h0
    have h4 : ¬ n ≤ 3 := fun q => h ⟨nI_pos' hn, show nI n ≤ (3 : Int32) from nI_le (b := 3) q (by omega)⟩
    rw [if_pos (show Int32.ofNat 4 ≤ nI n from nI_le (a := 4) (by omega) hn), zX4_sheetAt_22]
theorem q_s4 {s : Nat} (hs : s < 4) : q_isS (17 + 2 * s) := by
  unfold q_isS
  omega
theorem q_s4v {v : Int32} (h : 0 ≤ v ∧ v ≤ 3) : ∃ s, s < 4 ∧ v = nI s := by
  obtain ⟨n, hn, e⟩ := nI_of2 (M := 3) (n := 3) (by decide) (Int32.not_lt.mpr h.1) h.2
  exact ⟨n, by omega, e⟩
theorem q_s4i {s : Nat} (hs : s < 4) : 0 ≤ nI s ∧ nI s ≤ 3 := ⟨nI_pos' (by omega), show nI s ≤ (3 : Int32) from nI_le (b := 3) (by omega) (by omega)⟩
theorem e_isLost {k : Nat} (hk : q_isS k) : qe iX0_isLost 0 [some (.ref k)] [] w = some (some (.int (q_bo (decide (w k 1 = -1)))), w) := by
  rw [zX0_isLost_0 hk]
  by_cases h : w k 1 = -1
  · rw [if_neg (fun q => q h), zX0_isLost_8 hk, zX0_isLost_13 hk, if_pos q_nb1, decide_eq_true h, q_bo_t]
  · rw [if_pos h, zX0_isLost_12 hk, zX0_isLost_13 hk, if_pos q_nb0, decide_eq_false h, q_bo_f]
/-- what keeps an item from being there -/
def x_lf (f g i : Int32) (n : Nat) : Int32 := if f = -1 then 1 else if ¬ f = g then 3 else if 0 ≤ i ∧ i ≤ nI n - 1 then 0 else 2
theorem e_itemFinding {k n : Nat} (hk : q_isS k) (hn : w k 2 = nI n) (g i : Int32) : qe iX4_itemFinding 0 [some (.ref k), some (.int g), some (.int i)] [] w = some (some (.int (x_lf (w k 1) g i n)), w) := by
  rw [zX4_itemFinding_0 hk, zX4_itemFinding_4 hk, e_isLost hk, qc_i, zX4_itemFinding_8 hk]
  unfold x_lf
  by_cases h : w k 1 = -1
  · rw [decide_eq_true h, q_bo_t, if_neg (by decide), zX4_itemFinding_11 hk, if_pos h]
  · rw [decide_eq_false h, q_bo_f, if_pos rfl, zX4_itemFinding_13 hk, if_neg h]
    by_cases h2 : w k 1 = g
    · rw [if_pos h2, zX4_itemFinding_23 hk, hn, e_isWithin, qc_i, zX4_itemFinding_34 hk, if_neg (show ¬ ¬ w k 1 = g from fun q => q h2)]
      by_cases h3 : 0 ≤ i ∧ i ≤ nI n - 1
      · rw [decide_eq_true h3, q_bo_t, if_neg (by decide), zX4_itemFinding_37 hk, zX4_itemFinding_42 hk, if_pos h3]
      · rw [decide_eq_false h3, q_bo_f, if_pos rfl, zX4_itemFinding_41 hk, zX4_itemFinding_42 hk, if_neg h3]
    · rw [if_neg h2, zX4_itemFinding_21 hk, if_pos h2]
/-- what is kept of a number -/
def x_kp (f v : Int32) : Int32 := if f = 0 then v.toInt8.toInt32 else if f = 1 then v.toInt16.toInt32 else v
theorem e_store {k j : Nat} (hk : q_isS k) (hj : j < 48) (v : Int32) : qe iX0_store 0 [some (.ref k), some (.int (nI j)), some (.int v), none] [] w = some (none, q_up w (k + 1) j (x_kp (w k 1) v)) := by
  have fin : ∀ x, qe iX0_store 26 [some (.ref k), some (.int (nI j)), some (.int v), some (.int x)] [] w = some (none, q_up w (k + 1) j x) := by
    intro x
    rw [zX0_store_26 hk, e_lay (n := 48) _ w (q_sS1 hk) hj (by omega), qc_v, zX0_store_35 hk]
  rw [zX0_store_0 hk, x_kp]
  by_cases h0 : w k 1 = 0
  · rw [if_neg (fun q => q h0), zX0_store_9 hk, fin, if_pos h0]
  · rw [if_pos h0, zX0_store_15 hk, if_neg h0]
    by_cases h1 : w k 1 = 1
    · rw [if_neg (fun q => q h1), zX0_store_23 hk, fin, if_pos h1]
    · rw [if_pos h1, fin, if_neg h1]
theorem e_renew {k : Nat} (hk : q_isS k) (f n : Int32) : ∃ w', (∀ a, a ≠ k → a ≠ k + 1 → w' a = w a) ∧ w' k = upd (upd (w k) 1 f) 2 n ∧ (∀ j, j < 48 → w' (k + 1) j = 0) ∧ qe iX0_renew 0 [some (.ref k), some (.int f), some (.int n)] [] w = some (none, w') := by
  obtain ⟨w1, h1, h2, h3⟩ := e_fill (r := k + 1) (n := 48) (q_sS1 hk) (by omega) 0 w
  refine ⟨q_up (q_up w1 k 1 f) k 2 n, fun a a1 a2 => by rw [q_up_ne _ _ _ a1, q_up_ne _ _ _ a1]; exact h1 a a2, ?_, fun j hj => ?_, ?_⟩
  · rw [q_up_at, q_up_at, h1 k (by omega)]
  · rw [q_up_ne _ _ _ (by omega), q_up_ne _ _ _ (by omega)]; exact h2 j hj
  · rw [zX0_renew_0 hk, h3, qc_v, zX0_renew_8 hk]
/-- is there such a stretch -/
def x_st (n : Nat) (i m : Int32) : Bool := decide (¬ i < 0 ∧ ¬ m < 0 ∧ i.toNatClampNeg + m.toNatClampNeg ≤ n)
theorem e_hasStretch {k n : Nat} (hk : q_isS k) (hn : w k 2 = nI n) (hn2 : n ≤ 48) (i m : Int32) : qe iX0_hasStretch 0 [some (.ref k), some (.int i), some (.int m)] [] w = some (some (.int (q_bo (x_st n i m))), w) := by
  have no : ∀ b : Bool, b = false → qe iX0_hasStretch 22 [some (.ref k), some (.int i), some (.int m)] [] w = some (some (.int (q_bo b)), w) := by
    intro b hb
    rw [zX0_hasStretch_22 hk, zX0_hasStretch_23 hk, if_pos q_nb0, hb, q_bo_f]
  rw [zX0_hasStretch_0 hk]
  by_cases h1 : i < 0
  · rw [if_pos h1]; exact no _ (decide_eq_false (fun q => q.1 h1))
  · rw [if_neg h1, zX0_hasStretch_4 hk]
    by_cases h2 : m < 0
    · rw [if_pos h2]; exact no _ (decide_eq_false (fun q => q.2.1 h2))
    · obtain ⟨a, ha, rfl⟩ := nI_of h1
      obtain ⟨b, hb, rfl⟩ := nI_of h2
      have key : (nI n - nI a) < nI b ↔ ¬ (a + b ≤ n) := by
        have e1 : (nI n - nI a).toInt = (n : Int) - a := by
          rw [Int32.toInt_sub, nI_toInt (by omega), nI_toInt ha]
          exact Int.bmod_eq_of_le (by omega) (by omega)
        rw [Int32.lt_iff_toInt_lt, e1, nI_toInt hb]
        omega
      rw [if_neg h2, zX0_hasStretch_8 hk, hn]
      unfold x_st
      rw [nI_clamp ha, nI_clamp hb]
      by_cases h3 : a + b ≤ n
      · rw [if_neg (fun q => key.mp q h3), zX0_hasStretch_18 hk, zX0_hasStretch_23 hk, if_pos q_nb1, decide_eq_true ⟨h1, h2, h3⟩, q_bo_t]
      · rw [if_pos (key.mpr h3)]; exact no _ (decide_eq_false (fun q => h3 q.2.2))
end S55
