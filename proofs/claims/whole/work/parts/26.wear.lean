/-! wear by readings -/
/-- without the greatest point -/
def x_wl (a : Nat) : Nat → Nat
  | 0 => 0
  | p + 1 => if a.testBit p = true then a - 2 ^ p else x_wl a p
theorem x_clr_all : ∀ (a : Fin 64) (p : Fin 6), a.val.testBit p.val = true → nI a.val &&& ((1 <<< (nI p.val &&& 31)) ^^^ (-1)) = nI (a.val - 2 ^ p.val) := by decide +kernel
theorem x_wl_lt {a : Nat} (ha : a < 64) : ∀ p, x_wl a p < 64 := by
  intro p
  induction p with
  | zero => exact (by decide : (0 : Nat) < 64)
  | succ p ih =>
    rw [x_wl]
    split
    · exact Nat.lt_of_le_of_lt (Nat.sub_le _ _) ha
    · exact ih
theorem x_wl_pop : ∀ a : Fin 64, a.val ≠ 0 → q_pop (x_wl a.val 6) + 1 = q_pop a.val := by decide +kernel
theorem e_withoutLoop {a : Nat} (ha : a < 64) (w : qW) : ∀ p : Nat, p ≤ 6 → qe iX4_withoutGreatestPoint 2 [some (.int (nI a)), some (.int (nI p - 1))] [] w = some (some (.int (nI (x_wl a p))), w) := by
  intro p
  induction p with
  | zero => intro _; rw [zX4_withoutGreatestPoint_2, if_pos (by decide), zX4_withoutGreatestPoint_28]; rfl
  | succ p ih =>
    intro hp
    have key := q_tst_all ⟨a, by omega⟩ ⟨p, by omega⟩
    rw [nI_pred, zX4_withoutGreatestPoint_2, if_neg (c_ge0 p (by omega)), zX4_withoutGreatestPoint_6, x_wl]
    by_cases h : a.testBit p = true
    · rw [if_neg (fun q => by rw [key.mp q] at h; cases h), zX4_withoutGreatestPoint_14, x_clr_all ⟨a, ha⟩ ⟨p, by omega⟩ h, if_pos h]
    · rw [if_pos (key.mpr (by simpa using h)), zX4_withoutGreatestPoint_22, ← Int32.sub_eq_add_neg, if_neg h]
      exact ih (by omega)
theorem e_without {a : Nat} (ha : a < 64) (w : qW) : qe iX4_withoutGreatestPoint 0 [some (.int (nI a)), none] [] w = some (some (.int (nI (x_wl a 6))), w) := by
  rw [zX4_withoutGreatestPoint_0, show (5 : Int32) = nI 6 - 1 from by decide]
  exact e_withoutLoop ha w 6 (Nat.le_refl _)
/-- the next cell that has any, from a place on, round -/
def x_pl (cc f k : Nat) : Nat := if f + k < cc then f + k else f + k - cc
def x_nr (v : Nat → Nat) (cc f : Nat) : Nat → Nat → Option Nat
  | 0, _ => none
  | n + 1, k => if v (x_pl cc f k) = 0 then x_nr v cc f n (k + 1) else some (x_pl cc f k)
/-- n readings: the cells and the place -/
def x_wr (cc : Nat) : Nat → (Nat → Nat) → Nat → (Nat → Nat)
  | 0, v, _ => v
  | n + 1, v, f => match x_nr v cc f cc 0 with
    | none => v
    | some p => x_wr cc n (fun j => if j = p then x_wl (v p) 6 else v j) (p + 1)
theorem x_nr_some {v : Nat → Nat} {cc f : Nat} (hf : f ≤ cc) : ∀ n k p, k + n = cc → x_nr v cc f n k = some p → p < cc ∧ v p ≠ 0 := by
  intro n
  induction n with
  | zero => intro k p _ h; cases h
  | succ n ih =>
    intro k p hk h
    rw [x_nr] at h
    split at h
    · exact ih (k + 1) p (by omega) h
    · rename_i h0
      cases h
      refine ⟨?_, h0⟩
      unfold x_pl
      split <;> omega
theorem x_wr_lt {cc : Nat} : ∀ (n : Nat) (v : Nat → Nat) (f : Nat), f ≤ cc → (∀ j, j < cc → v j < 64) → ∀ j, j < cc → x_wr cc n v f j < 64 := by
  intro n
  induction n with
  | zero => intro v f _ hv j hj; exact hv j hj
  | succ n ih =>
    intro v f hf hv j hj
    rw [x_wr]
    cases hp : x_nr v cc f cc 0 with
    | none => exact hv j hj
    | some p =>
      obtain ⟨h1, h2⟩ := x_nr_some hf cc 0 p (by omega) hp
      refine ih (fun j => if j = p then x_wl (v p) 6 else v j) (p + 1) (by omega) (fun j hj => ?_) j hj
      split
      · exact x_wl_lt (hv p h1) 6
      · exact hv j hj
def q_WN (w : qW) (cc : Nat) (v : Nat → Nat) : Prop := ∀ j, j < cc → w 25 j = nI (v j) ∧ v j < 64
section W26
variable {w : qW} {cl v : Nat → Nat} {cc f i n : Nat}
theorem e_nextLoop (hC : w 0 5 = nI cc) (hc : cc ≤ 24) (hV : q_WN w cc v) (hf : f ≤ cc) : ∀ (m k : Nat) (u : Option Value), k + m = cc → qe iX4_nextRaised 2 [some (.ref 0), some (.int (nI f)), some (.int (nI k)), u] [] w = some (some (.int (q_oi (x_nr v cc f m k))), w) := by
  intro m
  induction m with
  | zero => intro k u hk; rw [zX4_nextRaised_2, hC, if_pos (nI_le (by omega) (by omega)), zX4_nextRaised_54]; rfl
  | succ m ih =>
    intro k u hk
    have hp : x_pl cc f k < cc := by unfold x_pl; split <;> omega
    have hl := hV _ hp
    have e1 : qe iX4_nextRaised 10 [some (.ref 0), some (.int (nI f)), some (.int (nI k)), u] [] w = qe iX4_nextRaised 34 [some (.ref 0), some (.int (nI f)), some (.int (nI k)), u] [.int (nI (x_pl cc f k))] w := by
      rw [zX4_nextRaised_10, hC, nI_add]
      unfold x_pl
      by_cases h : f + k < cc
      · rw [if_neg (nI_ge h (by omega)), zX4_nextRaised_20, nI_add, if_pos h]
      · rw [if_pos (nI_le (by omega) (by omega)), zX4_nextRaised_26, hC, nI_add, pk_sub (by omega), if_neg h]
    rw [zX4_nextRaised_2, hC, if_neg (nI_ge (by omega) (by omega)), e1, zX4_nextRaised_34, e_at (n := 24) w rfl (by omega) (by omega), qc_i, zX4_nextRaised_43, hl.1, x_nr]
    by_cases h : v (x_pl cc f k) = 0
    · rw [if_pos (by rw [h]; rfl), zX4_nextRaised_48, nI_1, if_pos h]
      exact ih (k + 1) _ (by omega)
    · rw [if_neg (fun q => h ((nI_eq (by omega) (by omega)).mp (q.trans nI_0.symm))), zX4_nextRaised_46, if_neg h]
      rfl
theorem e_wearLoop (hc : cc ≤ 24) {N : Nat} (hN : N ≤ 99) : ∀ (m i : Nat) (w : qW) (v : Nat → Nat) (f : Nat) (u : Option Value), w 0 5 = nI cc → q_WN w cc v → f ≤ cc → i + m = N → ∃ w', (∀ k, k ≠ 25 → w' k = w k) ∧ q_WN w' cc (x_wr cc m v f) ∧ qe iX4_wearDown 36 [some (.ref 0), some (.int (nI N)), some (.int (nI f)), some (.int (nI i)), u] [] w = some (none, w') := by
  intro m
  induction m with
  | zero =>
    intro i w v f u hC hV hf hi
    exact ⟨w, fun _ _ => rfl, hV, by rw [zX4_wearDown_36, if_pos (nI_le (by omega) (by omega)), zX4_wearDown_87]⟩
  | succ m ih =>
    intro i w v f u hC hV hf hi
    have e0 : qe iX4_nextRaised 0 [some (.ref 0), some (.int (nI f)), none, none] [] w = some (some (.int (q_oi (x_nr v cc f cc 0))), w) := by
      rw [zX4_nextRaised_0]; exact e_nextLoop hC hc hV hf cc 0 none (by omega)
    rw [zX4_wearDown_36, if_neg (nI_ge (by omega) (by omega)), zX4_wearDown_41, e0, qc_i, zX4_wearDown_46, x_wr]
    cases hx : x_nr v cc f cc 0 with
    | none => exact ⟨w, fun _ _ => rfl, hV, by rw [q_oi_n, if_neg (fun q => q rfl), zX4_wearDown_54]⟩
    | some p =>
      obtain ⟨h1, h2⟩ := x_nr_some hf cc 0 p (by omega) hx
      have hl := hV p h1
      rw [q_oi_s, if_pos (q_m1 (by omega)), zX4_wearDown_55, e_at (n := 24) w rfl (by omega) (by omega), qc_i, zX4_wearDown_70, hl.1, e_without hl.2, qc_i, zX4_wearDown_73, e_lay (n := 24) _ w rfl (by omega) (by omega), qc_v, zX4_wearDown_76, nI_1, nI_1]
      have e25 : ∀ k, k ≠ 25 → (q_up w 25 p (nI (x_wl (v p) 6))) k = w k := fun k hk => q_up_ne w _ _ hk
      obtain ⟨w', g1, g2, g3⟩ := ih (i + 1) (q_up w 25 p (nI (x_wl (v p) 6))) (fun j => if j = p then x_wl (v p) 6 else v j) (p + 1) (some (.int (nI p))) (by rw [e25 0 (by decide)]; exact hC) (by
        intro j hj
        rw [q_up_at]
        by_cases hjp : j = p
        · subst hjp
          simp only [upd, if_true]
          exact ⟨trivial, x_wl_lt hl.2 6⟩
        · simp only [upd, if_neg hjp]
          exact hV j hj) (by omega) (by omega)
      exact ⟨w', fun k hk => (g1 k hk).trans (e25 k hk), g2, g3⟩
theorem e_wearCopy (hc : cc ≤ 24) : ∀ (m i : Nat) (w : qW) (v1 : Int32), q_CL w cc cl → (∀ j, j < i → w 25 j = nI (cl j)) → i + m = cc → ∃ w', (∀ k, k ≠ 25 → w' k = w k) ∧ q_WN w' cc cl ∧ qe iX4_wearDown 2 [some (.ref 0), some (.int v1), some (.int (nI i)), none, none] [] w = qe iX4_wearDown 32 [some (.ref 0), some (.int v1), some (.int (nI cc)), none, none] [] w' := by
  intro m
  induction m with
  | zero =>
    intro i w v1 hC hV hi
    have : i = cc := by omega
    subst this
    exact ⟨w, fun _ _ => rfl, fun j hj => ⟨hV j hj, (hC.2.2 j hj).2⟩, by rw [zX4_wearDown_2, hC.1, if_pos (Int32.le_refl _)]⟩
  | succ m ih =>
    intro i w v1 hC hV hi
    have hl := hC.2.2 i (by omega)
    rw [zX4_wearDown_2, hC.1, if_neg (nI_ge (by omega) (by omega)), zX4_wearDown_10, e_at (n := 24) w rfl (by omega) (by omega), qc_i, zX4_wearDown_23, e_lay (n := 24) _ w rfl (by omega) (by omega), qc_v, zX4_wearDown_26, nI_1, hl.1]
    have e25 : ∀ k, k ≠ 25 → (q_up w 25 i (nI (cl i))) k = w k := fun k hk => q_up_ne w _ _ hk
    obtain ⟨w', g1, g2, g3⟩ := ih (i + 1) (q_up w 25 i (nI (cl i))) v1 (q_CL_c (e25 0 (by decide)) (e25 13 (by decide)) hC) (by
      intro j hj
      rw [q_up_at]
      by_cases hji : j = i
      · subst hji; simp [upd]
      · simp only [upd, if_neg hji]; exact hV j (by omega)) (by omega)
    exact ⟨w', fun k hk => (g1 k hk).trans (e25 k hk), g2, g3⟩
theorem e_wearDown (hC : q_CL w cc cl) {N : Nat} (hN : N ≤ 99) : ∃ w', (∀ k, k ≠ 25 → w' k = w k) ∧ q_WN w' cc (x_wr cc N cl 0) ∧ qe iX4_wearDown 0 [some (.ref 0), some (.int (nI N)), none, none, none] [] w = some (none, w') := by
  have hc := hC.2.1
  obtain ⟨w1, g1, g2, g3⟩ := e_wearCopy hc cc 0 w (nI N) hC (fun j hj => absurd hj (by omega)) (by omega)
  obtain ⟨w2, h1, h2, h3⟩ := e_wearLoop hc hN N 0 w1 cl 0 none (by rw [g1 0 (by decide)]; exact hC.1) g2 (by omega) (by omega)
  refine ⟨w2, fun k hk => (h1 k hk).trans (g1 k hk), h2, ?_⟩
  rw [zX4_wearDown_0]
  refine Eq.trans g3 ?_
  rw [zX4_wearDown_32]
  exact h3
end W26
