/-! the reference: wear, counts -/
def q_WM (w : qW) (cc : Nat) (v : Nat → Nat) : Prop := ∀ j, j < cc → w 41 j = nI (v j) ∧ v j < 64
theorem x_wr_none {cc : Nat} {v : Nat → Nat} {f : Nat} (h : x_nr v cc f cc 0 = none) : ∀ n, x_wr cc n v f = v := by
  intro n
  cases n with
  | zero => rfl
  | succ n => rw [x_wr, h]
section M35
variable {w : qW} {sg pg sc sp si ln oc hb cl v : Nat → Nat} {lt : Nat → Nat → Nat} {cc ns nw mi ex k f i c a sz s N : Nat} {it : Nat → Int32}
theorem m_wearCopy (v1 v2 : Int32) : ∀ (m i : Nat) (w : qW), q_MA w sg pg sc sp si ln lt cc ns nw mi ex → (∀ j, j < i → w 41 j = nI (x_cl sg pg sc sp si ns j)) → i + m = cc → ∃ w', (∀ k, k ≠ 41 → w' k = w k) ∧ q_WM w' cc (x_cl sg pg sc sp si ns) ∧ qe iX5_wearOf 9 [some (.ref 27), some (.int v1), some (.int v2), some (.int (nI (x_sm (fun j => q_pop (x_cl sg pg sc sp si ns j)) i))), some (.int (nI i)), none, none] [] w = qe iX5_wearOf 50 [some (.ref 27), some (.int v1), some (.int v2), some (.int (nI (x_sm (fun j => q_pop (x_cl sg pg sc sp si ns j)) cc))), some (.int (nI cc)), none, none] [] w' := by
  intro m
  induction m with
  | zero =>
    intro i w hA hV hi
    obtain ⟨hS, hP, hL, hW, hO⟩ := id hA
    have : i = cc := by omega
    subst this
    exact ⟨w, fun _ _ => rfl, fun j hj => ⟨hV j hj, x_cl_lt hS hP hL hj⟩, by rw [zX5_wearOf_9, hP.1, if_pos (Int32.le_refl _)]⟩
  | succ m ih =>
    intro i w hA hV hi
    obtain ⟨hS, hP, hL, hW, hO⟩ := id hA
    have hc := hP.2.1
    have hl := x_cl_lt hS hP hL (c := i) (by omega)
    rw [zX5_wearOf_9, hP.1, if_neg (nI_ge (by omega) (by omega)), zX5_wearOf_18, m_cellOf hS hP hL (by omega), qc_i, zX5_wearOf_30, if_neg (c_ok (by omega) (by omega)), nI_clamp (by omega), zX5_wearOf_31, if_neg (c_ok (by omega) (by omega)), nI_clamp (by omega), q_up_at, pk_us, zX5_wearOf_39, m_ones hl, qc_i, zX5_wearOf_42, nI_1, nI_add]
    have e41 : ∀ k, k ≠ 41 → (q_up w 41 i (nI (x_cl sg pg sc sp si ns i))) k = w k := fun k hk => q_up_ne w _ _ hk
    obtain ⟨w', g1, g2, g3⟩ := ih (i + 1) (q_up w 41 i (nI (x_cl sg pg sc sp si ns i))) (q_MA_c (fun k _ _ h => e41 k h) hA) (by
      intro j hj
      rw [q_up_at]
      by_cases hji : j = i
      · subst hji; rw [pk_us]
      · rw [pk_un hji]; exact hV j (by omega)) (by omega)
    exact ⟨w', fun k hk => (g1 k hk).trans (e41 k hk), g2, g3⟩
theorem m_nextLoop (hP : w 27 3 = nI cc) (hc : cc ≤ 24) (hV : q_WM w cc v) (hf : f ≤ cc) (v1 v2 v3 v5 : Int32) (u6 : Option Value) {p : Nat} : ∀ (m k : Nat), k + m = cc → x_nr v cc f m k = some p → qe iX5_wearOf 66 [some (.ref 27), some (.int v1), some (.int v2), some (.int v3), some (.int (nI (x_pl cc f k))), some (.int v5), u6] [] w = qe iX5_wearOf 100 [some (.ref 27), some (.int v1), some (.int v2), some (.int v3), some (.int (nI p)), some (.int v5), u6] [] w := by
  intro m
  induction m with
  | zero => intro k hk h; cases h
  | succ m ih =>
    intro k hk h
    have hp : x_pl cc f k < cc := by unfold x_pl; split <;> omega
    have hl := hV _ hp
    rw [x_nr] at h
    rw [zX5_wearOf_66, if_neg (c_ok (by omega) (by omega)), nI_clamp (by omega), hl.1, zX5_wearOf_73]
    by_cases h0 : v (x_pl cc f k) = 0
    · rw [if_pos h0] at h
      have hk1 : k + 1 < cc := by
        cases m with
        | zero => cases h
        | succ m => omega
      have := ih (k + 1) (by omega) h
      rw [if_neg (fun q => q (by rw [h0]; rfl)), zX5_wearOf_76, hP, nI_1]
      by_cases e : x_pl cc f k + 1 = cc
      · have e2 : x_pl cc f (k + 1) = 0 := by unfold x_pl at e ⊢; split at e <;> split <;> omega
        rw [if_neg (fun q => q (by rw [e])), zX5_wearOf_87, zX5_wearOf_95]
        rw [e2, nI_0] at this
        exact this
      · have e2 : x_pl cc f (k + 1) = x_pl cc f k + 1 := by unfold x_pl at e ⊢; split at e <;> split <;> omega
        rw [if_pos (fun q => e ((nI_eq (by omega) (by omega)).mp q)), zX5_wearOf_91, zX5_wearOf_95, nI_1]
        rw [e2] at this
        exact this
    · rw [if_neg h0] at h
      cases h
      rw [if_pos (fun q => h0 ((nI_eq (by omega) (by omega)).mp (q.trans nI_0.symm)))]
theorem m_highLoop {p : Nat} (hp : p < 24) (hl : w 41 p = nI a) (ha : a < 64) (v1 v2 v3 v5 : Int32) : ∀ q : Nat, q < 6 → (∃ r, r ≤ q ∧ a.testBit r = true) → x_wl a (q + 1) = x_wl a 6 → ∃ r, r < 6 ∧ a.testBit r = true ∧ a - 2 ^ r = x_wl a 6 ∧ qe iX5_wearOf 104 [some (.ref 27), some (.int v1), some (.int v2), some (.int v3), some (.int (nI p)), some (.int v5), some (.int (nI (2 ^ q)))] [] w = qe iX5_wearOf 126 [some (.ref 27), some (.int v1), some (.int v2), some (.int v3), some (.int (nI p)), some (.int v5), some (.int (nI (2 ^ r)))] [] w := by
  intro q
  induction q with
  | zero =>
    intro _ hr hx
    obtain ⟨r, hr1, hr2⟩ := hr
    have : r = 0 := by omega
    subst this
    have key := m_hi_all ⟨a, ha⟩ ⟨0, by omega⟩
    dsimp only at key
    rw [x_wl, hr2, if_pos rfl] at hx
    refine ⟨0, by omega, hr2, hx, ?_⟩
    rw [zX5_wearOf_104, if_neg (c_ok hp (by omega)), nI_clamp (by omega), hl, zX5_wearOf_111, if_pos (fun z => by rw [hr2] at key; cases key.mp z)]
  | succ q ih =>
    intro hq hr hx
    have key := m_hi_all ⟨a, ha⟩ ⟨q + 1, by omega⟩
    dsimp only at key
    rw [x_wl] at hx
    cases hb1 : a.testBit (q + 1) with
    | true =>
      rw [hb1, if_pos rfl] at hx
      refine ⟨q + 1, by omega, hb1, hx, ?_⟩
      rw [zX5_wearOf_104, if_neg (c_ok hp (by omega)), nI_clamp (by omega), hl, zX5_wearOf_111, if_pos (fun z => by rw [hb1] at key; cases key.mp z)]
    | false =>
      rw [hb1, if_neg Bool.false_ne_true] at hx
      obtain ⟨r, hr1, hr2⟩ := hr
      have hrq : r ≤ q := by
        by_cases e : r = q + 1
        · rw [e, hb1] at hr2; cases hr2
        · omega
      obtain ⟨r', g1, g2, g3, g4⟩ := ih (by omega) ⟨r, hrq, hr2⟩ hx
      refine ⟨r', g1, g2, g3, ?_⟩
      have hpow : 2 ^ (q + 1) < 2 ^ 31 := Nat.pow_lt_pow_right (by omega) (by omega)
      have hd : 2 ^ (q + 1) / 2 = 2 ^ q := by rw [Nat.pow_succ]; omega
      rw [zX5_wearOf_104, if_neg (c_ok hp (by omega)), nI_clamp (by omega), hl, zX5_wearOf_111, if_neg (fun z => z (key.mpr hb1)), zX5_wearOf_117, show (2 : Int32) = nI 2 from rfl, pk_div hpow (by omega) (by omega), hd]
      exact g4
theorem m_wearLoop (hc : cc ≤ 24) (v2 : Int32) (hN : N ≤ 99) : ∀ (m i : Nat) (w : qW) (v : Nat → Nat) (f : Nat) (u6 : Option Value), w 27 3 = nI cc → q_WM w cc v → f ≤ cc → i + m = N → ∃ w' v4 v5 v6, (∀ k, k ≠ 41 → w' k = w k) ∧ q_WM w' cc (x_wr cc m v f) ∧ qe iX5_wearOf 56 [some (.ref 27), some (.int (nI N)), some (.int v2), some (.int (nI (x_sm (fun j => q_pop (v j)) cc))), some (.int (nI (if f = cc then 0 else f))), some (.int (nI i)), u6] [] w = qe iX5_wearOf 170 [some (.ref 27), some (.int (nI N)), some (.int v2), some (.int (nI (x_sm (fun j => q_pop (x_wr cc m v f j)) cc))), some (.int v4), some (.int v5), v6] [] w' := by
  intro m
  induction m with
  | zero =>
    intro i w v f u6 hP hV hf hi
    exact ⟨w, _, _, u6, fun _ _ => rfl, hV, by rw [zX5_wearOf_56, if_pos (nI_le (by omega) (by omega))]; rfl⟩
  | succ m ih =>
    intro i w v f u6 hP hV hf hi
    have sle : x_sm (fun j => q_pop (v j)) cc ≤ 6 * cc := x_sm_le (fun j => q_pop_le (v j)) cc
    have s0 : x_sm (fun j => q_pop (v j)) cc = 0 ↔ x_nr v cc f cc 0 = none := by
      rw [x_nr_none hf, x_sm_0]
      constructor
      · intro h j hj; exact (q_pop_all0 ⟨v j, (hV j hj).2⟩).mp (h j hj)
      · intro h j hj; exact (q_pop_all0 ⟨v j, (hV j hj).2⟩).mpr (h j hj)
    rw [zX5_wearOf_56, if_neg (nI_ge (by omega) (by omega)), zX5_wearOf_62]
    cases hx : x_nr v cc f cc 0 with
    | none =>
      rw [s0.mpr hx, x_wr_none hx, if_pos (show nI 0 ≤ (0 : Int32) by decide)]
      exact ⟨w, _, _, u6, fun _ _ => rfl, hV, by rw [s0.mpr hx]⟩
    | some p =>
      obtain ⟨h1, h2⟩ := x_nr_some hf cc 0 p (by omega) hx
      have hl := hV p h1
      have hpos : 0 < x_sm (fun j => q_pop (v j)) cc := by
        rcases Nat.eq_zero_or_pos (x_sm (fun j => q_pop (v j)) cc) with h | h
        · rw [s0.mp h] at hx; cases hx
        · exact h
      have e1 : (if f = cc then 0 else f) = x_pl cc f 0 := by unfold x_pl; split <;> split <;> omega
      have n1 := m_nextLoop hP hc hV hf (nI N) v2 (nI (x_sm (fun j => q_pop (v j)) cc)) (nI i) u6 cc 0 (by omega) hx
      obtain ⟨⟨r0, hr0⟩, hr1⟩ := m_any_all ⟨v p, hl.2⟩ h2
      obtain ⟨r, g1, g2, g3, g4⟩ := m_highLoop (p := p) (by omega) hl.1 hl.2 (nI N) v2 (nI (x_sm (fun j => q_pop (v j)) cc)) (nI i) 5 (by omega) ⟨r0, by omega, hr1⟩ rfl
      have clr := m_clr_all ⟨v p, hl.2⟩ ⟨r, g1⟩ g2
      dsimp only at clr
      have hup : x_sm (fun j => q_pop (if j = p then x_wl (v p) 6 else v j)) cc + 1 = x_sm (fun j => q_pop (v j)) cc := by
        apply x_sm_up _ _ cc h1
        · intro j hj; rw [if_neg hj]
        · rw [if_pos rfl]; exact x_wl_pop ⟨v p, hl.2⟩ h2
      have hpred : nI (x_sm (fun j => q_pop (v j)) cc) + (-1) = nI (x_sm (fun j => q_pop (if j = p then x_wl (v p) 6 else v j)) cc) := by rw [← hup, pk_m1]
      rw [if_neg (show ¬ nI (x_sm (fun j => q_pop (v j)) cc) ≤ 0 from nI_nle hpos (by omega)), e1, n1, zX5_wearOf_100]
      refine ?_
      rw [show (32 : Int32) = nI (2 ^ 5) from rfl, g4, zX5_wearOf_126, if_neg (c_ok (by omega) (by omega)), nI_clamp (by omega), hl.1, zX5_wearOf_134, if_neg (c_ok (by omega) (by omega)), nI_clamp (by omega), clr, g3, zX5_wearOf_140, hpred, q_up_ne _ _ _ (show (27 : Nat) ≠ 41 by decide), hP, nI_1, x_wr, hx]
      have e41 : ∀ k, k ≠ 41 → (q_up w 41 p (nI (x_wl (v p) 6))) k = w k := fun k hk => q_up_ne w _ _ hk
      obtain ⟨w', v4, v5, v6, t1, t2, t3⟩ := ih (i + 1) (q_up w 41 p (nI (x_wl (v p) 6))) (fun j => if j = p then x_wl (v p) 6 else v j) (p + 1) (some (.int (nI (2 ^ r)))) (by rw [e41 27 (by decide)]; exact hP) (by
        intro j hj
        rw [q_up_at]
        by_cases hjp : j = p
        · subst hjp
          rw [pk_us]
          dsimp only
          rw [if_pos rfl]
          exact ⟨rfl, x_wl_lt hl.2 6⟩
        · rw [pk_un hjp]
          dsimp only
          rw [if_neg hjp]
          exact hV j hj) (by omega) (by omega)
      refine ⟨w', v4, v5, v6, fun k hk => (t1 k hk).trans (e41 k hk), t2, ?_⟩
      by_cases e : p + 1 = cc
      · rw [if_neg (fun q => q (by rw [e])), zX5_wearOf_154, zX5_wearOf_162, nI_1]
        rw [if_pos e, nI_0] at t3
        exact t3
      · rw [if_pos (fun q => e ((nI_eq (by omega) (by omega)).mp q)), zX5_wearOf_158, zX5_wearOf_162, nI_1, nI_1]
        rw [if_neg e] at t3
        exact t3
theorem m_wearOf (hA : q_MA w sg pg sc sp si ln lt cc ns nw mi ex) (hN : N ≤ 99) (v2 : Int32) (h2 : v2 = -1 ∨ ∃ i, i < cc ∧ v2 = nI i) : ∃ w', (∀ k, k ≠ 41 → w' k = w k) ∧ qe iX5_wearOf 4 [some (.ref 27), some (.int (nI N)), some (.int v2), none, none, none, none] [] w = some (some (.int (if v2 = -1 then nI (x_sm (fun j => q_pop (x_wr cc N (x_cl sg pg sc sp si ns) 0 j)) cc) else nI (x_wr cc N (x_cl sg pg sc sp si ns) 0 v2.toNatClampNeg))), w') := by
  obtain ⟨hS, hP, hL, hW, hO⟩ := id hA
  have hc := hP.2.1
  obtain ⟨w1, a1, a2, a3⟩ := m_wearCopy (nI N) v2 cc 0 w hA (fun j hj => by omega) (by omega)
  rw [x_sm, nI_0] at a3
  obtain ⟨w2, v4, v5, v6, b1, b2, b3⟩ := m_wearLoop hc v2 hN N 0 w1 (x_cl sg pg sc sp si ns) 0 none (by rw [a1 27 (by decide)]; exact hP.1) a2 (Nat.zero_le _) (by omega)
  rw [show (if 0 = cc then 0 else 0) = 0 by split <;> rfl, nI_0] at b3
  refine ⟨w2, fun k hk => (b1 k hk).trans (a1 k hk), ?_⟩
  rw [zX5_wearOf_4, a3, zX5_wearOf_50, b3, zX5_wearOf_170]
  by_cases h : v2 = -1
  · rw [if_neg (fun q => q h), zX5_wearOf_175, zX5_wearOf_185, if_pos h]
  · obtain ⟨i, hi, rfl⟩ := h2.resolve_left h
    rw [if_pos h, zX5_wearOf_179, if_neg (c_ok (by omega) (by omega)), nI_clamp (by omega), (b2 i hi).1, zX5_wearOf_185, if_neg h]
theorem m_sumLoop (hP : w 27 3 = nI cc) (hc : cc ≤ 24) (v1 : Int32) (g : Nat → Nat) (hg : ∀ i x, i < cc → qe iX5_sumOf 16 [some (.ref 27), some (.int v1), some (.int x), some (.int (nI i))] [] w = qe iX5_sumOf 62 [some (.ref 27), some (.int v1), some (.int x), some (.int (nI i))] [.int (nI (g i)), .int x] w) : ∀ m i, i + m = cc → qe iX5_sumOf 8 [some (.ref 27), some (.int v1), some (.int (nI (x_sm g i))), some (.int (nI i))] [] w = qe iX5_sumOf 70 [some (.ref 27), some (.int v1), some (.int (nI (x_sm g cc))), some (.int (nI cc))] [] w := by
  intro m
  induction m with
  | zero => intro i hi; have : i = cc := by omega
            subst this; rw [zX5_sumOf_8, hP, if_pos (Int32.le_refl _)]
  | succ m ih =>
    intro i hi
    rw [zX5_sumOf_8, hP, if_neg (nI_ge (by omega) (by omega)), hg i _ (by omega), zX5_sumOf_62, nI_add, nI_1]
    exact ih (i + 1) (by omega)
theorem m_signLoop (hS : q_MS w sg) : ∀ m i, i + m = 10 → qe iX5_sumOf 72 [some (.ref 27), some (.int 6), some (.int (nI (x_sm (fun j => q_pop (sg j)) i))), some (.int (nI i))] [] w = qe iX5_sumOf 102 [some (.ref 27), some (.int 6), some (.int (nI (x_sm (fun j => q_pop (sg j)) 10))), some (.int (nI 10))] [] w := by
  intro m
  induction m with
  | zero => intro i hi; have : i = 10 := by omega
            subst this; rw [zX5_sumOf_72, if_pos (q_lit10 (by omega) (by omega))]
  | succ m ih =>
    intro i hi
    have h1 := hS i (by omega)
    rw [zX5_sumOf_72, if_neg (q_nlit10 (by omega)), zX5_sumOf_78, if_neg (by decide), zX5_sumOf_84, if_neg (c_ok (by omega) (by omega)), nI_clamp (by omega), h1.1, zX5_sumOf_91, m_ones h1.2.2, qc_i, zX5_sumOf_94, nI_add, nI_1]
    exact ih (i + 1) (by omega)
theorem m_sumOf (hA : q_MA w sg pg sc sp si ln lt cc ns nw mi ex) (v1 : Int32) : qe iX5_sumOf 4 [some (.ref 27), some (.int v1), none, none] [] w = some (some (.int (if v1 = 0 then nI cc else if v1 = 1 then nI nw else if v1 = 5 then nI (x_sm (fun j => q_pop (x_cl sg pg sc sp si ns j)) cc) else if v1 = 7 then nI (q_ct (fun i => decide (0 ≤ q_rd sg (x_cl sg pg sc sp si ns i) ∧ q_rd sg (x_cl sg pg sc sp si ns i) ≤ 9)) cc 0 0) else if v1 = 6 then nI (x_sm (fun j => q_pop (sg j)) 10) else 0)), w) := by
  obtain ⟨hS, hP, hL, hW, hO⟩ := id hA
  have hc := hP.2.1
  have z0 : ∀ n, x_sm (fun _ => 0) n = 0 := fun n => (x_sm_0 _ n).mpr (fun _ _ => rfl)
  rw [zX5_sumOf_4]
  by_cases h5 : v1 = 5
  · subst h5
    have := m_sumLoop (w := w) hP.1 hc 5 (fun j => q_pop (x_cl sg pg sc sp si ns j)) (by
      intro i x hi
      rw [zX5_sumOf_16, if_neg (by decide), zX5_sumOf_22, m_cellOf hS hP hL hi, qc_i, zX5_sumOf_27, m_ones (x_cl_lt hS hP hL hi), qc_i, zX5_sumOf_30]) cc 0 (by omega)
    rw [x_sm, nI_0] at this
    rw [this, zX5_sumOf_70, zX5_sumOf_72, if_neg (by decide), zX5_sumOf_78, if_pos (by decide), zX5_sumOf_102, if_pos (by decide), zX5_sumOf_113, if_pos (by decide), zX5_sumOf_125, zX5_sumOf_126, if_neg (by decide), if_neg (by decide), if_pos rfl]
  · by_cases h7 : v1 = 7
    · subst h7
      have := m_sumLoop (w := w) hP.1 hc 7 (fun i => if decide (0 ≤ q_rd sg (x_cl sg pg sc sp si ns i) ∧ q_rd sg (x_cl sg pg sc sp si ns i) ≤ 9) = true then 1 else 0) (by
        intro i x hi
        rw [zX5_sumOf_16, if_pos (by decide), zX5_sumOf_33, if_neg (by decide), zX5_sumOf_39, m_cellOf hS hP hL hi, qc_i, zX5_sumOf_45, m_readAs hS (x_cl_lt hS hP hL hi), qc_i, zX5_sumOf_48, m_in, qc_i, zX5_sumOf_54]
        by_cases h : 0 ≤ q_rd sg (x_cl sg pg sc sp si ns i) ∧ q_rd sg (x_cl sg pg sc sp si ns i) ≤ 9
        · rw [decide_eq_true h, q_bo_t, if_neg (by decide), zX5_sumOf_57, if_pos rfl]; rfl
        · rw [decide_eq_false h, q_bo_f, if_pos rfl, zX5_sumOf_61, if_neg Bool.false_ne_true]; rfl) cc 0 (by omega)
      have e := q_ct_sm (fun i => decide (0 ≤ q_rd sg (x_cl sg pg sc sp si ns i) ∧ q_rd sg (x_cl sg pg sc sp si ns i) ≤ 9)) (fun i => if decide (0 ≤ q_rd sg (x_cl sg pg sc sp si ns i) ∧ q_rd sg (x_cl sg pg sc sp si ns i) ≤ 9) = true then 1 else 0) (fun i => rfl) cc 0
      rw [x_sm, Nat.zero_add] at e
      rw [x_sm, nI_0] at this
      rw [this, zX5_sumOf_70, zX5_sumOf_72, if_neg (by decide), zX5_sumOf_78, if_pos (by decide), zX5_sumOf_102, if_pos (by decide), zX5_sumOf_113, if_pos (by decide), zX5_sumOf_125, zX5_sumOf_126, if_neg (by decide), if_neg (by decide), if_neg (by decide), if_pos rfl, e]
    · have := m_sumLoop (w := w) hP.1 hc v1 (fun _ => 0) (by
        intro i x hi
        rw [zX5_sumOf_16, if_pos h5, zX5_sumOf_33, if_pos h7, zX5_sumOf_61]; rfl) cc 0 (by omega)
      rw [z0, z0, nI_0] at this
      rw [this, zX5_sumOf_70, if_neg h5, if_neg h7]
      by_cases h6 : v1 = 6
      · subst h6
        have := m_signLoop hS 10 0 (by omega)
        rw [x_sm, nI_0] at this
        rw [this, zX5_sumOf_102, if_pos (by decide), zX5_sumOf_113, if_pos (by decide), zX5_sumOf_125, zX5_sumOf_126, if_neg (by decide), if_neg (by decide), if_pos rfl]
      · rw [zX5_sumOf_72, if_neg (by decide), zX5_sumOf_78, if_pos h6, zX5_sumOf_102, if_neg h6]
        by_cases h0 : v1 = 0
        · rw [if_neg (fun q => q h0), zX5_sumOf_106, zX5_sumOf_126, hP.1, if_pos h0]
        · rw [if_pos h0, zX5_sumOf_113, if_neg h0]
          by_cases h1 : v1 = 1
          · rw [if_neg (fun q => q h1), zX5_sumOf_118, zX5_sumOf_126, hW.1, if_pos h1]
          · rw [if_pos h1, zX5_sumOf_125, zX5_sumOf_126, if_neg h1]
end M35
