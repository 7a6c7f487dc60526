/-! questions: both answer alike -/
section A51
variable {w : qW} {sg pb wb sc sp si oc hb sz : Nat → Nat} {pl wl ns mi ex : Nat} {fi : Int32} {fo : Nat → Int32} {it : Nat → Nat → Int32}
theorem n_isCellF (hM : q_MB w sg pb wb sc sp si oc hb sz pl wl ns mi ex fi fo it) {v : Int32} (h : ¬ q_inc (x_pc pb pl) v) : ∃ w', q_GM w w' ∧ q_MB w' sg pb wb sc sp si oc hb sz pl wl ns mi ex fi fo it ∧ q_RD w' sg pb wb sc sp si oc hb sz pl wl ns mi ex fi fo it ∧ qe iX5_isCell 0 [some (.ref 27), some (.int v)] [] w = some (some (.int 0), w') := by
  obtain ⟨w', h1, h2, h3, h4⟩ := n_reads hM
  exact ⟨w', h1, h2, h3, by rw [zX5_isCell_0, h4, qc_v, zX5_isCell_4, h3.1.1, m_in, qc_i, zX5_isCell_15, if_pos (q_nb _), decide_eq_false (show ¬ (0 ≤ v ∧ v ≤ nI (x_pc pb pl) - 1) from h), q_bo_f]⟩
theorem n_isCellT (hM : q_MB w sg pb wb sc sp si oc hb sz pl wl ns mi ex fi fo it) {i : Nat} (h : i < (x_pc pb pl)) : ∃ w', q_GM w w' ∧ q_MB w' sg pb wb sc sp si oc hb sz pl wl ns mi ex fi fo it ∧ q_RD w' sg pb wb sc sp si oc hb sz pl wl ns mi ex fi fo it ∧ qe iX5_isCell 0 [some (.ref 27), some (.int (nI i))] [] w = some (some (.int 1), w') := by
  obtain ⟨w', h1, h2, h3, h4⟩ := n_reads hM
  exact ⟨w', h1, h2, h3, by rw [zX5_isCell_0, h4, qc_v, zX5_isCell_4, h3.1.1, m_in, qc_i, zX5_isCell_15, if_pos (q_nb _), decide_eq_true (q_cellI h3.1.2.1 h), q_bo_t]⟩
theorem n_isWordF (hM : q_MB w sg pb wb sc sp si oc hb sz pl wl ns mi ex fi fo it) {v : Int32} (h : ¬ q_inc (x_nw wb wl) v) : ∃ w', q_GM w w' ∧ q_MB w' sg pb wb sc sp si oc hb sz pl wl ns mi ex fi fo it ∧ q_RD w' sg pb wb sc sp si oc hb sz pl wl ns mi ex fi fo it ∧ qe iX5_isWord 0 [some (.ref 27), some (.int v)] [] w = some (some (.int 0), w') := by
  obtain ⟨w', h1, h2, h3, h4⟩ := n_reads hM
  exact ⟨w', h1, h2, h3, by rw [zX5_isWord_0, h4, qc_v, zX5_isWord_4, h3.2.1, m_in, qc_i, zX5_isWord_15, if_pos (q_nb _), decide_eq_false (show ¬ (0 ≤ v ∧ v ≤ nI (x_nw wb wl) - 1) from h), q_bo_f]⟩
theorem n_isWordT (hM : q_MB w sg pb wb sc sp si oc hb sz pl wl ns mi ex fi fo it) {i : Nat} (h : i < (x_nw wb wl)) : ∃ w', q_GM w w' ∧ q_MB w' sg pb wb sc sp si oc hb sz pl wl ns mi ex fi fo it ∧ q_RD w' sg pb wb sc sp si oc hb sz pl wl ns mi ex fi fo it ∧ qe iX5_isWord 0 [some (.ref 27), some (.int (nI i))] [] w = some (some (.int 1), w') := by
  obtain ⟨w', h1, h2, h3, h4⟩ := n_reads hM
  exact ⟨w', h1, h2, h3, by rw [zX5_isWord_0, h4, qc_v, zX5_isWord_4, h3.2.1, m_in, qc_i, zX5_isWord_15, if_pos (q_nb _), decide_eq_true (q_cellI (by have := h3.2.2.1; omega) h), q_bo_t]⟩
theorem x_hasF (hX : q_X w sg pb wb sc sp si oc hb sz pl wl ns mi ex fi fo it) {v : Int32} (h : ¬ q_inc (x_nw wb wl) v) : qe iX3_has 0 [some (.ref 3), some (.int v)] [] w = some (some (.int 0), w) := by
  rw [e_has, hX.2.2.1.1, decide_eq_false (show ¬ (0 ≤ v ∧ v ≤ nI (x_nw wb wl) - 1) from h), q_bo_f]
theorem x_hasT (hX : q_X w sg pb wb sc sp si oc hb sz pl wl ns mi ex fi fo it) {i : Nat} (h : i < (x_nw wb wl)) : qe iX3_has 0 [some (.ref 3), some (.int (nI i))] [] w = some (some (.int 1), w) := by
  have hn := hX.2.2.1.2.1
  rw [e_has, hX.2.2.1.1, decide_eq_true (q_cellI (by omega) h), q_bo_t]
theorem x_isCellF (hX : q_X w sg pb wb sc sp si oc hb sz pl wl ns mi ex fi fo it) {v : Int32} (h : ¬ q_inc (x_pc pb pl) v) : qe iX4_isCell 0 [some (.ref 0), some (.int v)] [] w = some (some (.int 0), w) := by
  rw [e_isCell, hX.2.1.1, decide_eq_false (show ¬ (0 ≤ v ∧ v ≤ nI (x_pc pb pl) - 1) from h), q_bo_f]
theorem x_isCellT (hX : q_X w sg pb wb sc sp si oc hb sz pl wl ns mi ex fi fo it) {i : Nat} (h : i < (x_pc pb pl)) : qe iX4_isCell 0 [some (.ref 0), some (.int (nI i))] [] w = some (some (.int 1), w) := by
  rw [e_isCell, hX.2.1.1, decide_eq_true (q_cellI hX.2.1.2.1 h), q_bo_t]
/-- in or out -/
theorem q_inOr {n : Nat} (hn : n ≤ 24) (v : Int32) : ¬ q_inc n v ∨ ∃ i, i < n ∧ v = nI i := by
  by_cases h : q_inc n v
  · exact Or.inr (q_cellN hn h)
  · exact Or.inl h
-- the class
theorem xa_cell (hX : q_X w sg pb wb sc sp si oc hb sz pl wl ns mi ex fi fo it) {i : Nat} (hi : i < (x_pc pb pl)) : qe iX4_cell 0 [some (.ref 0), some (.int (nI i))] [] w = some (some (.int (nI ((x_cl sg (x_pg pb) sc sp si ns) i))), w) := by
  have hc := hX.2.1.2.1
  rcases e_cell (v := nI i) hX.2.1 with ⟨h, _⟩ | ⟨j, hj, e, hx⟩
  · exact absurd (q_cellI hc hi) h
  · rw [(nI_eq (by omega) (by omega)).mp e]; rw [(nI_eq (by omega) (by omega)).mp e] at hx; exact hx
theorem xa_letter (hX : q_X w sg pb wb sc sp si oc hb sz pl wl ns mi ex fi fo it) {i : Nat} (hi : i < (x_pc pb pl)) : qe iX4_letter 0 [some (.ref 0), some (.int (nI i))] [] w = some (some (.int (q_rd sg ((x_cl sg (x_pg pb) sc sp si ns) i))), w) := by
  have hc := hX.2.1.2.1
  rcases e_letter (v := nI i) hX.1.1 hX.2.1 with ⟨h, _⟩ | ⟨j, hj, e, hx⟩
  · exact absurd (q_cellI hc hi) h
  · rw [(nI_eq (by omega) (by omega)).mp e]; rw [(nI_eq (by omega) (by omega)).mp e] at hx; exact hx
theorem xa_wrong (hX : q_X w sg pb wb sc sp si oc hb sz pl wl ns mi ex fi fo it) {i : Nat} (hi : i < (x_pc pb pl)) : qe iX4_wrong 0 [some (.ref 0), some (.int (nI i))] [] w = some (some (.int (q_rd sg (q_sw ((x_cl sg (x_pg pb) sc sp si ns) ((x_pc pb pl) - 1 - i))))), w) := by
  have hc := hX.2.1.2.1
  rcases e_wrong (v := nI i) hX.1.1 hX.2.1 with ⟨h, _⟩ | ⟨j, hj, e, hx⟩
  · exact absurd (q_cellI hc hi) h
  · rw [(nI_eq (by omega) (by omega)).mp e]; rw [(nI_eq (by omega) (by omega)).mp e] at hx; exact hx
theorem xa_bothAll (hX : q_X w sg pb wb sc sp si oc hb sz pl wl ns mi ex fi fo it) : qe iX4_both 0 [some (.ref 0), some (.int (-1))] [] w = some (some (.int (q_ob (fun k => decide (¬ q_wb sg (x_nw wb wl) (x_L wb wl) (x_lt2 wb wl) k = -1)) (x_nw wb wl) 0 0)), w) := by
  rw [zX4_both_0, if_pos rfl, zX4_both_19, if_neg (fun q => q rfl), zX4_both_24, e_bothAll hX.1.1 hX.2.2.1, qc_i, zX4_both_28, zX4_both_36]
theorem xa_both (hX : q_X w sg pb wb sc sp si oc hb sz pl wl ns mi ex fi fo it) {k : Nat} (hk : k < (x_nw wb wl)) : qe iX4_both 0 [some (.ref 0), some (.int (nI k))] [] w = some (some (.int (q_wb sg (x_nw wb wl) (x_L wb wl) (x_lt2 wb wl) k)), w) := by
  have hn := hX.2.2.1.2.1
  rw [zX4_both_0, if_neg (q_m1 (by omega)), zX4_both_5, x_hasT hX hk, qc_i, zX4_both_13, if_pos (by decide), zX4_both_19, if_pos (q_m1 (by omega)), zX4_both_31, e_fromBehind hX.1.1 hX.2.2.1 hk, qc_i, zX4_both_36]
theorem xa_fits (hX : q_X w sg pb wb sc sp si oc hb sz pl wl ns mi ex fi fo it) {k f : Nat} (hk : k < (x_nw wb wl)) (hf : f < 2 ^ 31) : qe iX4_fits 0 [some (.ref 0), some (.int (nI k)), some (.int (nI f))] [] w = some (some (.int (q_oi (q_fit mi ex sg (x_pc pb pl) (x_cl sg (x_pg pb) sc sp si ns) (x_L wb wl) (x_lt2 wb wl) f k))), w) := by
  rw [zX4_fits_0, x_hasT hX hk, qc_i, zX4_fits_8, if_neg (by decide), zX4_fits_11, if_pos (nI_pos' hf), zX4_fits_18, e_costAt hX.2.2.1 hX.1.1 hX.2.1 hX.1.2.2.2.2.1 hk hf, qc_i, zX4_fits_24]
theorem xa_under (hX : q_X w sg pb wb sc sp si oc hb sz pl wl ns mi ex fi fo it) {k f : Nat} (hk : k < (x_nw wb wl)) (hf : f < 2 ^ 31) : qe iX4_under 0 [some (.ref 0), some (.int (nI k)), some (.int (nI f)), none, none] [] w = some (some (.int (q_ob (fun o => q_li sg (x_pc pb pl) (x_cl sg (x_pg pb) sc sp si ns) (x_L wb wl) (x_lt2 wb wl) f k o) (x_nw wb wl) 0 0)), w) := by
  rw [zX4_under_0, x_hasT hX hk, qc_i, zX4_under_8, if_neg (by decide), zX4_under_11, if_pos (nI_pos' hf), zX4_under_18]
  exact e_underLoop hX.1.1 hX.2.2.1 hX.2.1 hk hf (x_nw wb wl) 0 0 (by omega)
theorem xa_meant (hX : q_X w sg pb wb sc sp si oc hb sz pl wl ns mi ex fi fo it) {i : Nat} (hi : i < (x_pc pb pl)) {v : Int32} (hv : 0 ≤ v ∧ v ≤ 1) : qe iX4_meant 0 [some (.ref 0), some (.int (nI i)), some (.int v), none] [] w = some (some (.int (if v = 0 then q_chw (q_ch (q_fit mi ex sg (x_pc pb pl) (x_cl sg (x_pg pb) sc sp si ns) (x_L wb wl) (x_lt2 wb wl) i) (x_L wb wl) (x_nw wb wl) 0 none) else q_chl (q_ch (q_fit mi ex sg (x_pc pb pl) (x_cl sg (x_pg pb) sc sp si ns) (x_L wb wl) (x_lt2 wb wl) i) (x_L wb wl) (x_nw wb wl) 0 none))), w) := by
  have hc := hX.2.1.2.1
  have hn := hX.2.2.1.2.1
  rw [zX4_meant_0, x_isCellT hX hi, qc_i, zX4_meant_5, if_neg (by decide), zX4_meant_8, e_isWithin, qc_i, zX4_meant_14, decide_eq_true hv, q_bo_t, if_pos (by decide), zX4_meant_20, e_cheapestAt hX.2.2.1 hX.1.1 hX.2.1 hX.1.2.2.2.2.1 (by omega), qc_i, zX4_meant_25]
  have ok := q_ch_ok (q_fit mi ex sg (x_pc pb pl) (x_cl sg (x_pg pb) sc sp si ns) (x_L wb wl) (x_lt2 wb wl) i) (x_L wb wl) (x_nw wb wl) 0 none (fun _ _ h => by cases h)
  cases hb : q_ch (q_fit mi ex sg (x_pc pb pl) (x_cl sg (x_pg pb) sc sp si ns) (x_L wb wl) (x_lt2 wb wl) i) (x_L wb wl) (x_nw wb wl) 0 none with
  | none =>
    rw [show q_chw none = -1 from rfl, show q_chl none = -1 from rfl, if_pos rfl, zX4_meant_35, zX4_meant_45]
    by_cases h : v = 0
    · rw [if_pos h]
    · rw [if_neg h]
  | some bb =>
    obtain ⟨bi, bc⟩ := bb
    obtain ⟨k1, k2⟩ := ok bi bc hb
    rw [show q_chw (some (bi, bc)) = nI bi from rfl, show q_chl (some (bi, bc)) = nI bc from rfl, if_neg (q_m1 (by omega)), zX4_meant_31]
    by_cases h : v = 0
    · rw [if_neg (fun q => q h), zX4_meant_35, zX4_meant_45, if_pos h]
    · rw [if_pos h, zX4_meant_39, e_costAt hX.2.2.1 hX.1.1 hX.2.1 hX.1.2.2.2.2.1 (by omega) (by omega), qc_i, zX4_meant_45, if_neg h, k2]
      rfl
theorem xa_withinLoop (hX : q_X w sg pb wb sc sp si oc hb sz pl wl ns mi ex fi fo it) {i : Nat} (hi : i < (x_pc pb pl)) (v2 : Int32) : ∀ (n k : Nat) (b : Int32) (u : Option Value), k + n = (x_nw wb wl) → qe iX4_within 27 [some (.ref 0), some (.int (nI i)), some (.int v2), some (.int b), some (.int (nI k)), u] [] w = some (some (.int (q_ob (x_wi (q_fit mi ex sg (x_pc pb pl) (x_cl sg (x_pg pb) sc sp si ns) (x_L wb wl) (x_lt2 wb wl) i) v2) n k b)), w) := by
  have hc := hX.2.1.2.1
  have hn := hX.2.2.1.2.1
  have hO := hX.1.2.2.2.2.1
  intro n
  induction n with
  | zero => intro k b u hk; rw [zX4_within_27, hX.2.2.1.1, if_pos (nI_le (by omega) (by omega)), zX4_within_73]; rfl
  | succ n ih =>
    intro k b u hk
    rw [zX4_within_27, hX.2.2.1.1, if_neg (nI_ge (by omega) (by omega)), zX4_within_39, e_costAt hX.2.2.1 hX.1.1 hX.2.1 hO (by omega) (by omega), qc_i, zX4_within_46, q_ob, x_wi]
    cases hfit : q_fit mi ex sg (x_pc pb pl) (x_cl sg (x_pg pb) sc sp si ns) (x_L wb wl) (x_lt2 wb wl) i k with
    | none =>
      rw [q_oi_n, if_pos rfl, zX4_within_67, nI_1, if_neg Bool.false_ne_true]
      exact ih (k + 1) b _ (by omega)
    | some cst =>
      have hc2 := q_fit_le hO.2.1 hO.2.2.2 hc hfit
      rw [q_oi_s, if_neg (q_m1 (by omega)), zX4_within_54]
      dsimp only
      by_cases h : v2 < nI cst
      · rw [if_pos h, zX4_within_67, nI_1, if_neg (by rw [decide_eq_true_eq]; exact fun q => Int32.not_lt.mpr q h)]
        exact ih (k + 1) b _ (by omega)
      · rw [if_neg h, zX4_within_60, zX4_within_67, nI_1, if_pos (decide_eq_true (Int32.not_lt.mp h))]
        exact ih (k + 1) _ _ (by omega)
theorem xa_within (hX : q_X w sg pb wb sc sp si oc hb sz pl wl ns mi ex fi fo it) {i : Nat} (hi : i < (x_pc pb pl)) {v : Int32} (hv : 0 ≤ v ∧ v ≤ 999) : qe iX4_within 0 [some (.ref 0), some (.int (nI i)), some (.int v), none, none, none] [] w = some (some (.int (q_ob (x_wi (q_fit mi ex sg (x_pc pb pl) (x_cl sg (x_pg pb) sc sp si ns) (x_L wb wl) (x_lt2 wb wl) i) v) (x_nw wb wl) 0 0)), w) := by
  rw [zX4_within_0, x_isCellT hX hi, qc_i, zX4_within_5, if_neg (by decide), zX4_within_8, e_isWithin, qc_i, zX4_within_16, decide_eq_true hv, q_bo_t, if_pos (by decide), zX4_within_22]
  exact xa_withinLoop hX hi v (x_nw wb wl) 0 0 none (by omega)
theorem xa_line (hX : q_X w sg pb wb sc sp si oc hb sz pl wl ns mi ex fi fo it) {v : Int32} (hv : 0 ≤ v ∧ v ≤ 1) : ∃ w', q_GX w w' ∧ qe iX4_line 0 [some (.ref 0), some (.int v), none] [] w = some (some (.int (if v = 0 then nI (x_T (q_fit mi ex sg (x_pc pb pl) (x_cl sg (x_pg pb) sc sp si ns) (x_L wb wl) (x_lt2 wb wl)) (x_L wb wl) (x_nw wb wl) ex (x_pc pb pl) (x_cl sg (x_pg pb) sc sp si ns) (x_pc pb pl) 0).1 else nI (x_T (q_fit mi ex sg (x_pc pb pl) (x_cl sg (x_pg pb) sc sp si ns) (x_L wb wl) (x_lt2 wb wl)) (x_L wb wl) (x_nw wb wl) ex (x_pc pb pl) (x_cl sg (x_pg pb) sc sp si ns) (x_pc pb pl) 0).2)), w') := by
  have hc := hX.2.1.2.1
  have hO := hX.1.2.2.2.2.1
  have hT := x_T_ok (fit := q_fit mi ex sg (x_pc pb pl) (x_cl sg (x_pg pb) sc sp si ns) (x_L wb wl) (x_lt2 wb wl)) (ln := (x_L wb wl)) (nw := (x_nw wb wl)) (cl := (x_cl sg (x_pg pb) sc sp si ns)) hO.2.2.2 (fun f k c hk h => q_fit_648 (sg := sg) (cc := (x_pc pb pl)) hO hX.2.2.1 hk h) (x_pc pb pl) (Nat.le_refl _) 0
  obtain ⟨w', h1, h2⟩ := e_bestLine hX.1.1 hX.2.2.1 hX.2.1 hO
  refine ⟨w', fun k a b => h1 k b, ?_⟩
  have lt2 : x_en 64 (x_T (q_fit mi ex sg (x_pc pb pl) (x_cl sg (x_pg pb) sc sp si ns) (x_L wb wl) (x_lt2 wb wl)) (x_L wb wl) (x_nw wb wl) ex (x_pc pb pl) (x_cl sg (x_pg pb) sc sp si ns) (x_pc pb pl) 0) < 2 ^ 31 := by unfold x_en; omega
  rw [zX4_line_0, e_isWithin, qc_i, zX4_line_6, decide_eq_true hv, q_bo_t, if_pos (by decide), zX4_line_12, h2, qc_i, zX4_line_16]
  by_cases h : v = 0
  · rw [if_neg (fun q => q h), zX4_line_21, zX4_line_32, if_pos h, show (64 : Int32) = nI 64 from rfl, pk_div lt2 (by omega) (by omega), show x_en 64 (x_T (q_fit mi ex sg (x_pc pb pl) (x_cl sg (x_pg pb) sc sp si ns) (x_L wb wl) (x_lt2 wb wl)) (x_L wb wl) (x_nw wb wl) ex (x_pc pb pl) (x_cl sg (x_pg pb) sc sp si ns) (x_pc pb pl) 0) / 64 = (x_T (q_fit mi ex sg (x_pc pb pl) (x_cl sg (x_pg pb) sc sp si ns) (x_L wb wl) (x_lt2 wb wl)) (x_L wb wl) (x_nw wb wl) ex (x_pc pb pl) (x_cl sg (x_pg pb) sc sp si ns) (x_pc pb pl) 0).1 from by unfold x_en; omega]
  · rw [if_pos h, zX4_line_28, zX4_line_32, if_neg h, show (64 : Int32) = nI 64 from rfl, pk_rem lt2 (by omega) (by omega), show x_en 64 (x_T (q_fit mi ex sg (x_pc pb pl) (x_cl sg (x_pg pb) sc sp si ns) (x_L wb wl) (x_lt2 wb wl)) (x_L wb wl) (x_nw wb wl) ex (x_pc pb pl) (x_cl sg (x_pg pb) sc sp si ns) (x_pc pb pl) 0) % 64 = (x_T (q_fit mi ex sg (x_pc pb pl) (x_cl sg (x_pg pb) sc sp si ns) (x_L wb wl) (x_lt2 wb wl)) (x_L wb wl) (x_nw wb wl) ex (x_pc pb pl) (x_cl sg (x_pg pb) sc sp si ns) (x_pc pb pl) 0).2 from by unfold x_en; omega]
theorem xa_better (hX : q_X w sg pb wb sc sp si oc hb sz pl wl ns mi ex fi fo it) {l : Nat} (hl : l < 10) : qe iX4_better 0 [some (.ref 0), some (.int (nI l)), none, none, none] [] w = some (some (.int (q_oi (q_bt (q_ap sg l) 63 1 none))), w) := by
  rcases e_better (v := nI l) hX.1.1 with ⟨h, _⟩ | ⟨j, hj, e, hx⟩
  · exact absurd ⟨nI_pos' (by omega), show nI l ≤ (9 : Int32) from nI_le (b := 9) (by omega) (by omega)⟩ h
  · rw [(nI_eq (by omega) (by omega)).mp e]; rw [(nI_eq (by omega) (by omega)).mp e] at hx; exact hx
theorem xa_shorts (hX : q_X w sg pb wb sc sp si oc hb sz pl wl ns mi ex fi fo it) {mm : Nat} (hm : mm ≤ 8) {v : Int32} (hv : 0 ≤ v ∧ v ≤ 2) : qe iX4_shorts 0 [some (.ref 0), some (.int (nI mm)), some (.int v), none] [] w = some (some (.int (if v = 0 then nI (q_sh (fun k => oc k * ((x_L wb wl) k - 1)) (x_nw wb wl) (min mm (q_fs0 sg)) 0 0).1 else if v = 1 then nI (q_sh (fun k => oc k * ((x_L wb wl) k - 1)) (x_nw wb wl) (min mm (q_fs0 sg)) 0 0).2 else nI (q_fs0 sg))), w) := by
  have hn := hX.2.2.1.2.1
  have hO := hX.1.2.2.2.2.2.1
  rw [zX4_shorts_0, e_isWithin, qc_i, zX4_shorts_7, decide_eq_true ⟨nI_pos' (by omega), show nI mm ≤ (8 : Int32) from nI_le (b := 8) hm (by omega)⟩, q_bo_t, if_neg (by decide), zX4_shorts_10, e_isWithin, qc_i, zX4_shorts_16, decide_eq_true hv, q_bo_t, if_pos (by decide), zX4_shorts_22]
  by_cases h2 : v = 2
  · subst h2
    rw [if_neg (fun q => q rfl), zX4_shorts_27, e_freeSigns hX.1.1, qc_i, zX4_shorts_31, if_neg (by decide), if_neg (by decide)]
  · have hlt := q_sh_lt (fun k => oc k * ((x_L wb wl) k - 1)) hn (min mm (q_fs0 sg)) 0 0 (by decide)
    have hz : ∀ n, x_sv (fun k => oc k * ((x_L wb wl) k - 1)) 0 n = 0 := by
      intro n
      induction n with
      | zero => rfl
      | succ n ih => rw [x_sv, ih, Nat.zero_testBit, if_neg Bool.false_ne_true]
    have hsv := q_sh_sv (fun k => oc k * ((x_L wb wl) k - 1)) (x_nw wb wl) (min mm (q_fs0 sg)) 0 0 (hz _).symm
    rw [if_pos h2, zX4_shorts_32, e_shortened hX.2.2.1 hO hX.1.1 hm, qc_i, zX4_shorts_37]
    by_cases h0 : v = 0
    · rw [if_neg (fun q => q h0), zX4_shorts_42, zX4_shorts_51, if_pos h0]
    · have h1 : v = 1 := by
        have a1 := Int32.le_iff_toInt_le.mp hv.1
        have a2 := Int32.le_iff_toInt_le.mp hv.2
        have b0 : v.toInt ≠ 0 := fun q => h0 (Int32.toInt_inj.mp q)
        have b2 : v.toInt ≠ 2 := fun q => h2 (Int32.toInt_inj.mp q)
        have c0 : (0 : Int32).toInt = 0 := rfl
        have c2 : (2 : Int32).toInt = 2 := rfl
        exact Int32.toInt_inj.mp (show v.toInt = 1 by omega)
      rw [if_pos h0, zX4_shorts_46, e_savedBy hX.2.2.1 hO hlt, qc_i, zX4_shorts_51, if_neg h0, if_pos h1, hsv]
theorem xa_whose (hX : q_X w sg pb wb sc sp si oc hb sz pl wl ns mi ex fi fo it) : qe iX4_whose 0 [some (.ref 0), none, none, none] [] w = some (some (.int (if x_ms (fun c => q_an (x_so sg (x_pg pb c)) ((x_cl sg (x_pg pb) sc sp si ns) c)) (x_pc pb pl) 0 false = true then nI (x_wh (fun h => x_sm (x_hm (fun c => q_an (x_so sg (x_pg pb c)) ((x_cl sg (x_pg pb) sc sp si ns) c)) hb h) (x_pc pb pl))) else -1)), w) := by
  have hB := hX.1.2.1.2.2
  have hle := x_pc_le pb pl
  rw [e_whose hX.1.1 hX.2.1 (pb := pb) (fun j hj => hB j (by omega)) hX.1.2.2.2.2.2.2.1]
  simp only [x_so_pg]
  rfl
theorem xa_wear (hX : q_X w sg pb wb sc sp si oc hb sz pl wl ns mi ex fi fo it) {N : Nat} (hN : N ≤ 99) {v : Int32} (hv : v = -1 ∨ ∃ i, i < (x_pc pb pl) ∧ v = nI i) : ∃ w', q_GX w w' ∧ qe iX4_wear 0 [some (.ref 0), some (.int (nI N)), some (.int v)] [] w = some (some (.int (if v = -1 then nI (x_sm (fun j => q_pop (x_wr (x_pc pb pl) N (x_cl sg (x_pg pb) sc sp si ns) 0 j)) (x_pc pb pl)) else nI (x_wr (x_pc pb pl) N (x_cl sg (x_pg pb) sc sp si ns) 0 v.toNatClampNeg))), w') := by
  have hc := hX.2.1.2.1
  obtain ⟨w', h1, h2, h3⟩ := e_wearDown hX.2.1 hN
  refine ⟨w', fun k a b => h1 k a, ?_⟩
  rw [zX4_wear_0, e_isWithin, qc_i, zX4_wear_7, decide_eq_true ⟨nI_pos' (by omega), show nI N ≤ (99 : Int32) from nI_le (b := 99) hN (by omega)⟩, q_bo_t, if_neg (by decide), zX4_wear_10]
  by_cases h : v = -1
  · rw [if_pos h, zX4_wear_26, h3, qc_v, zX4_wear_31, if_neg (fun q => q h), zX4_wear_36, h1 0 (by decide), hX.2.1.1, e_pointsOf (N := 24) rfl (by omega) hc h2, qc_i, zX4_wear_47, zX4_wear_58, if_pos h]
  · obtain ⟨i, hi, rfl⟩ := hv.resolve_left h
    rw [if_neg h, zX4_wear_15, x_isCellT hX hi, qc_i, zX4_wear_20, if_pos (by decide), zX4_wear_26, h3, qc_v, zX4_wear_31, if_pos h, zX4_wear_50, e_at (n := 24) w' rfl (by omega) (by omega), qc_i, zX4_wear_58, (h2 i hi).1, if_neg h, nI_clamp (by omega)]
-- the reference
theorem n_judgedNow (hM : q_MB w sg pb wb sc sp si oc hb sz pl wl ns mi ex fi fo it) : ∃ w', q_GM w w' ∧ q_MB w' sg pb wb sc sp si oc hb sz pl wl ns mi ex fi fo it ∧ q_RD w' sg pb wb sc sp si oc hb sz pl wl ns mi ex fi fo it ∧ qe iX5_judgedNow 0 [some (.ref 27), none] [] w = some (some (.int (q_fq (fun i => decide (q_rd sg ((x_cl sg (x_pg pb) sc sp si ns) i) = -1)) (x_pc pb pl) 0)), w') := by
  obtain ⟨w', h1, h2, h3, h4⟩ := n_reads hM
  exact ⟨w', h1, h2, h3, by rw [zX5_judgedNow_0, h4, qc_v, zX5_judgedNow_4]; exact m_judgedLoop h2.1 h3.1 h2.2.2.1 (x_pc pb pl) 0 (by omega)⟩
theorem n_bothAll (hM : q_MB w sg pb wb sc sp si oc hb sz pl wl ns mi ex fi fo it) : ∃ w', q_GM w w' ∧ q_MB w' sg pb wb sc sp si oc hb sz pl wl ns mi ex fi fo it ∧ q_RD w' sg pb wb sc sp si oc hb sz pl wl ns mi ex fi fo it ∧ qe iX5_bothAll 0 [some (.ref 27), none, none] [] w = some (some (.int (q_ob (fun k => decide (¬ q_wb sg (x_nw wb wl) (x_L wb wl) (x_lt2 wb wl) k = -1)) (x_nw wb wl) 0 0)), w') := by
  obtain ⟨w', h1, h2, h3, h4⟩ := n_reads hM
  exact ⟨w', h1, h2, h3, by rw [zX5_bothAll_0, h4, qc_v, zX5_bothAll_4]; exact m_bothAllLoop h2.1 h3.2 (x_nw wb wl) 0 0 (by omega)⟩
theorem n_meantOf (hM : q_MB w sg pb wb sc sp si oc hb sz pl wl ns mi ex fi fo it) {f : Nat} (hf : f < 2 ^ 31) (v : Int32) : ∃ w', q_GM w w' ∧ q_MB w' sg pb wb sc sp si oc hb sz pl wl ns mi ex fi fo it ∧ q_RD w' sg pb wb sc sp si oc hb sz pl wl ns mi ex fi fo it ∧ qe iX5_meantOf 0 [some (.ref 27), some (.int (nI f)), some (.int v), none, none, none, none, none] [] w = some (some (.int (if v = 0 then q_chw (q_ch (q_fit mi ex sg (x_pc pb pl) (x_cl sg (x_pg pb) sc sp si ns) (x_L wb wl) (x_lt2 wb wl) f) (x_L wb wl) (x_nw wb wl) 0 none) else q_chl (q_ch (q_fit mi ex sg (x_pc pb pl) (x_cl sg (x_pg pb) sc sp si ns) (x_L wb wl) (x_lt2 wb wl) f) (x_L wb wl) (x_nw wb wl) 0 none))), w') := by
  obtain ⟨w', h1, h2, h3, h4⟩ := n_reads hM
  obtain ⟨u6, u7, h5⟩ := m_meantLoop h2.1 h3.1 h2.2.2.1 h3.2 h2.2.2.2.1 hf v (x_nw wb wl) 0 none none none (by omega) (fun _ _ h => by cases h)
  refine ⟨w', h1, h2, h3, ?_⟩
  rw [show q_chw none = -1 from rfl, show q_chl none = -1 from rfl, nI_0] at h5
  rw [zX5_meantOf_0, h4, qc_v, zX5_meantOf_4, h5, zX5_meantOf_110]
  by_cases h : v = 0
  · rw [if_neg (fun q => q h), zX5_meantOf_114, zX5_meantOf_120, if_pos h]
  · rw [if_pos h, zX5_meantOf_118, zX5_meantOf_120, if_neg h]
theorem n_withinOf (hM : q_MB w sg pb wb sc sp si oc hb sz pl wl ns mi ex fi fo it) {f : Nat} (hf : f < 2 ^ 31) (v : Int32) : ∃ w', q_GM w w' ∧ q_MB w' sg pb wb sc sp si oc hb sz pl wl ns mi ex fi fo it ∧ q_RD w' sg pb wb sc sp si oc hb sz pl wl ns mi ex fi fo it ∧ qe iX5_withinOf 0 [some (.ref 27), some (.int (nI f)), some (.int v), none, none] [] w = some (some (.int (q_ob (x_wi (q_fit mi ex sg (x_pc pb pl) (x_cl sg (x_pg pb) sc sp si ns) (x_L wb wl) (x_lt2 wb wl) f) v) (x_nw wb wl) 0 0)), w') := by
  obtain ⟨w', h1, h2, h3, h4⟩ := n_reads hM
  exact ⟨w', h1, h2, h3, by rw [zX5_withinOf_0, h4, qc_v, zX5_withinOf_4]; exact m_withinLoop h2.1 h3.1 h2.2.2.1 h3.2 h2.2.2.2.1 hf v (x_nw wb wl) 0 0 (by omega)⟩
theorem n_lineOf (hM : q_MB w sg pb wb sc sp si oc hb sz pl wl ns mi ex fi fo it) (v : Int32) : ∃ w', q_GM w w' ∧ q_MB w' sg pb wb sc sp si oc hb sz pl wl ns mi ex fi fo it ∧ q_RD w' sg pb wb sc sp si oc hb sz pl wl ns mi ex fi fo it ∧ qe iX5_lineOf 0 [some (.ref 27), some (.int v), none, none, none, none] [] w = some (some (.int (if v = 0 then nI (x_T (q_fit mi ex sg (x_pc pb pl) (x_cl sg (x_pg pb) sc sp si ns) (x_L wb wl) (x_lt2 wb wl)) (x_L wb wl) (x_nw wb wl) ex (x_pc pb pl) (x_cl sg (x_pg pb) sc sp si ns) (x_pc pb pl) 0).1 else nI (x_T (q_fit mi ex sg (x_pc pb pl) (x_cl sg (x_pg pb) sc sp si ns) (x_L wb wl) (x_lt2 wb wl)) (x_L wb wl) (x_nw wb wl) ex (x_pc pb pl) (x_cl sg (x_pg pb) sc sp si ns) (x_pc pb pl) 0).2)), w') := by
  obtain ⟨w', h1, h2, h3, h4⟩ := n_reads hM
  obtain ⟨w2, g1, g2⟩ := m_lineOf (q_MA_of h2 h3) v
  have gm : q_GM w' w2 := q_GM_of (fun k a b _ _ => g1 k a b)
  exact ⟨w2, q_GM_t h1 gm, q_MB_c gm h2, q_RD_c (fun k a b _ _ => g1 k a b) h3, by rw [zX5_lineOf_0, h4, qc_v, g2]⟩
theorem n_shortsOf (hM : q_MB w sg pb wb sc sp si oc hb sz pl wl ns mi ex fi fo it) {mm : Nat} (hm : mm ≤ 8) (v : Int32) : ∃ w', q_GM w w' ∧ q_MB w' sg pb wb sc sp si oc hb sz pl wl ns mi ex fi fo it ∧ q_RD w' sg pb wb sc sp si oc hb sz pl wl ns mi ex fi fo it ∧ qe iX5_shortsOf 0 [some (.ref 27), some (.int (nI mm)), some (.int v), none, none, none, none, none, none, none, none] [] w = some (some (.int (if v = 0 then nI (q_sh (fun k => oc k * ((x_L wb wl) k - 1)) (x_nw wb wl) (min mm (q_fs0 sg)) 0 0).1 else if v = 1 then nI (q_sh (fun k => oc k * ((x_L wb wl) k - 1)) (x_nw wb wl) (min mm (q_fs0 sg)) 0 0).2 else nI (q_fs0 sg))), w') := by
  obtain ⟨w', h1, h2, h3, h4⟩ := n_reads hM
  exact ⟨w', h1, h2, h3, by rw [zX5_shortsOf_0, h4, qc_v]; exact m_shortsOf h2.1 h3.2 h2.2.2.2.2.1 hm v⟩
theorem n_whoseNow (hM : q_MB w sg pb wb sc sp si oc hb sz pl wl ns mi ex fi fo it) : ∃ w', q_GM w w' ∧ q_MB w' sg pb wb sc sp si oc hb sz pl wl ns mi ex fi fo it ∧ q_RD w' sg pb wb sc sp si oc hb sz pl wl ns mi ex fi fo it ∧ qe iX5_whoseNow 0 [some (.ref 27), none, none, none, none, none, none, none, none] [] w = some (some (.int (if x_ms (fun c => q_an (x_so sg (x_pg pb c)) ((x_cl sg (x_pg pb) sc sp si ns) c)) (x_pc pb pl) 0 false = true then nI (x_wh (fun h => x_sm (x_hm (fun c => q_an (x_so sg (x_pg pb c)) ((x_cl sg (x_pg pb) sc sp si ns) c)) hb h) (x_pc pb pl))) else -1)), w') := by
  obtain ⟨w', h1, h2, h3, h4⟩ := n_reads hM
  exact ⟨w', h1, h2, h3, by rw [zX5_whoseNow_0, h4, qc_v]; exact m_whoseNow h2.1 h3.1 h2.2.2.1 h2.2.2.2.2.2.1⟩
theorem n_wearOf (hM : q_MB w sg pb wb sc sp si oc hb sz pl wl ns mi ex fi fo it) {N : Nat} (hN : N ≤ 99) {v : Int32} (hv : v = -1 ∨ ∃ i, i < (x_pc pb pl) ∧ v = nI i) : ∃ w', q_GM w w' ∧ q_MB w' sg pb wb sc sp si oc hb sz pl wl ns mi ex fi fo it ∧ q_RD w' sg pb wb sc sp si oc hb sz pl wl ns mi ex fi fo it ∧ qe iX5_wearOf 0 [some (.ref 27), some (.int (nI N)), some (.int v), none, none, none, none] [] w = some (some (.int (if v = -1 then nI (x_sm (fun j => q_pop (x_wr (x_pc pb pl) N (x_cl sg (x_pg pb) sc sp si ns) 0 j)) (x_pc pb pl)) else nI (x_wr (x_pc pb pl) N (x_cl sg (x_pg pb) sc sp si ns) 0 v.toNatClampNeg))), w') := by
  obtain ⟨w', h1, h2, h3, h4⟩ := n_reads hM
  obtain ⟨w2, g1, g2⟩ := m_wearOf (q_MA_of h2 h3) hN v hv
  have gm : q_GM w' w2 := q_GM_of (fun k _ _ a _ => g1 k a)
  exact ⟨w2, q_GM_t h1 gm, q_MB_c gm h2, q_RD_c (fun k _ _ a _ => g1 k a) h3, by rw [zX5_wearOf_0, h4, qc_v, g2]⟩
theorem n_faultOf (hM : q_MB w sg pb wb sc sp si oc hb sz pl wl ns mi ex fi fo it) (v : Int32) : ∃ w', q_GM w w' ∧ q_MB w' sg pb wb sc sp si oc hb sz pl wl ns mi ex fi fo it ∧ q_RD w' sg pb wb sc sp si oc hb sz pl wl ns mi ex fi fo it ∧ qe iX5_faultOf 0 [some (.ref 27), some (.int v), none, none] [] w = some (some (.int (if v = 0 then x_pf pb pl else x_wF wb wl)), w') := by
  obtain ⟨w', a1, a2, a3, a4, a5⟩ := m_faultOf hM.2.1 v
  have hF : q_GM w w' := ⟨fun k a b c d _ _ _ _ => a1 k a b c d, a2⟩
  exact ⟨w', hF, q_MB_c hF hM, ⟨a3, a4⟩, a5⟩
theorem n_sumOf (hM : q_MB w sg pb wb sc sp si oc hb sz pl wl ns mi ex fi fo it) (v1 : Int32) : ∃ w', q_GM w w' ∧ q_MB w' sg pb wb sc sp si oc hb sz pl wl ns mi ex fi fo it ∧ q_RD w' sg pb wb sc sp si oc hb sz pl wl ns mi ex fi fo it ∧ qe iX5_sumOf 0 [some (.ref 27), some (.int v1), none, none] [] w = some (some (.int (if v1 = 0 then nI (x_pc pb pl) else if v1 = 1 then nI (x_nw wb wl) else if v1 = 5 then nI (x_sm (fun j => q_pop ((x_cl sg (x_pg pb) sc sp si ns) j)) (x_pc pb pl)) else if v1 = 7 then nI (q_ct (fun i => decide (0 ≤ q_rd sg ((x_cl sg (x_pg pb) sc sp si ns) i) ∧ q_rd sg ((x_cl sg (x_pg pb) sc sp si ns) i) ≤ 9)) (x_pc pb pl) 0 0) else if v1 = 6 then nI (x_sm (fun j => q_pop (sg j)) 10) else 0)), w') := by
  obtain ⟨w', h1, h2, h3, h4⟩ := n_reads hM
  exact ⟨w', h1, h2, h3, by rw [zX5_sumOf_0, h4, qc_v]; exact m_sumOf (q_MA_of h2 h3) v1⟩
end A51
