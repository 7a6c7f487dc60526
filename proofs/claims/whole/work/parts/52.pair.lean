/-! questions: both answer alike -/
section A52
variable {w : qW} {sg pb wb sc sp si oc hb sz : Nat → Nat} {pl wl ns mi ex : Nat} {fi : Int32} {fo : Nat → Int32} {it : Nat → Nat → Int32}
theorem p_cell (hX : q_X w sg pb wb sc sp si oc hb sz pl wl ns mi ex fi fo it) (hM : q_MB w sg pb wb sc sp si oc hb sz pl wl ns mi ex fi fo it) (v : Int32) : q_same w (qe iX4_cell 0 [some (.ref 0), some (.int v)] []) (qe iX5_cell 0 [some (.ref 27), some (.int v)] []) := by
  have hc := hX.2.1.2.1
  rcases q_inOr hc v with h | ⟨i, hi, rfl⟩
  · refine t_ask (-2) hX hM ⟨w, q_GX_r w, ?_⟩ (fun w1 hM1 => ?_)
    · rcases e_cell (v := v) hX.2.1 with ⟨_, hx⟩ | ⟨j, hj, e, hx⟩
      · exact hx
      · rw [e] at h; exact absurd (q_cellI hc hj) h
    · obtain ⟨w2, a1, a2, a3, a4⟩ := n_isCellF hM1 h
      exact ⟨w2, a1, by rw [zX5_cell_0, a4, qc_i, zX5_cell_5, if_pos rfl, zX5_cell_16, zX5_cell_18]⟩
  · refine t_ask _ hX hM ⟨w, q_GX_r w, xa_cell hX hi⟩ (fun w1 hM1 => ?_)
    obtain ⟨w2, a1, a2, a3, a4⟩ := n_isCellT hM1 hi
    exact ⟨w2, a1, by rw [zX5_cell_0, a4, qc_i, zX5_cell_5, if_neg (by decide), zX5_cell_8, m_cellOf a2.1 a3.1 a2.2.2.1 hi, qc_i, zX5_cell_13, zX5_cell_18]⟩
theorem p_letter (hX : q_X w sg pb wb sc sp si oc hb sz pl wl ns mi ex fi fo it) (hM : q_MB w sg pb wb sc sp si oc hb sz pl wl ns mi ex fi fo it) (v : Int32) : q_same w (qe iX4_letter 0 [some (.ref 0), some (.int v)] []) (qe iX5_letter 0 [some (.ref 27), some (.int v)] []) := by
  have hc := hX.2.1.2.1
  rcases q_inOr hc v with h | ⟨i, hi, rfl⟩
  · refine t_ask (-2) hX hM ⟨w, q_GX_r w, ?_⟩ (fun w1 hM1 => ?_)
    · rcases e_letter (v := v) hX.1.1 hX.2.1 with ⟨_, hx⟩ | ⟨j, hj, e, hx⟩
      · exact hx
      · rw [e] at h; exact absurd (q_cellI hc hj) h
    · obtain ⟨w2, a1, a2, a3, a4⟩ := n_isCellF hM1 h
      exact ⟨w2, a1, by rw [zX5_letter_0, a4, qc_i, zX5_letter_5, if_pos rfl, zX5_letter_20, zX5_letter_22]⟩
  · refine t_ask _ hX hM ⟨w, q_GX_r w, xa_letter hX hi⟩ (fun w1 hM1 => ?_)
    obtain ⟨w2, a1, a2, a3, a4⟩ := n_isCellT hM1 hi
    exact ⟨w2, a1, by rw [zX5_letter_0, a4, qc_i, zX5_letter_5, if_neg (by decide), zX5_letter_8, m_cellOf a2.1 a3.1 a2.2.2.1 hi, qc_i, zX5_letter_14, m_readAs a2.1 (x_cl_lt a2.1 a3.1 a2.2.2.1 hi), qc_i, zX5_letter_17, zX5_letter_22]⟩
theorem p_judged (hX : q_X w sg pb wb sc sp si oc hb sz pl wl ns mi ex fi fo it) (hM : q_MB w sg pb wb sc sp si oc hb sz pl wl ns mi ex fi fo it) : q_same w (qe iX4_judged 0 [some (.ref 0), none] []) (qe iX5_judged 0 [some (.ref 27)] []) := by
  refine t_ask _ hX hM ⟨w, q_GX_r w, e_judged hX.1.1 hX.2.1⟩ (fun w1 hM1 => ?_)
  obtain ⟨w2, a1, a2, a3, a4⟩ := n_judgedNow hM1
  exact ⟨w2, a1, by rw [zX5_judged_0, a4, qc_i, zX5_judged_4]⟩
theorem p_wrong (hX : q_X w sg pb wb sc sp si oc hb sz pl wl ns mi ex fi fo it) (hM : q_MB w sg pb wb sc sp si oc hb sz pl wl ns mi ex fi fo it) (v : Int32) : q_same w (qe iX4_wrong 0 [some (.ref 0), some (.int v)] []) (qe iX5_wrong 0 [some (.ref 27), some (.int v)] []) := by
  have hc := hX.2.1.2.1
  rcases q_inOr hc v with h | ⟨i, hi, rfl⟩
  · refine t_ask (-2) hX hM ⟨w, q_GX_r w, ?_⟩ (fun w1 hM1 => ?_)
    · rcases e_wrong (v := v) hX.1.1 hX.2.1 with ⟨_, hx⟩ | ⟨j, hj, e, hx⟩
      · exact hx
      · rw [e] at h; exact absurd (q_cellI hc hj) h
    · obtain ⟨w2, a1, a2, a3, a4⟩ := n_isCellF hM1 h
      exact ⟨w2, a1, by rw [zX5_wrong_0, a4, qc_i, zX5_wrong_5, if_pos rfl, zX5_wrong_16, zX5_wrong_18]⟩
  · refine t_ask _ hX hM ⟨w, q_GX_r w, xa_wrong hX hi⟩ (fun w1 hM1 => ?_)
    obtain ⟨w2, a1, a2, a3, a4⟩ := n_isCellT hM1 hi
    exact ⟨w2, a1, by rw [zX5_wrong_0, a4, qc_i, zX5_wrong_5, if_neg (by decide), zX5_wrong_8, m_wrongOf a2.1 a3.1 a2.2.2.1 hi, qc_i, zX5_wrong_13, zX5_wrong_18]⟩
theorem p_mirrored (hX : q_X w sg pb wb sc sp si oc hb sz pl wl ns mi ex fi fo it) (hM : q_MB w sg pb wb sc sp si oc hb sz pl wl ns mi ex fi fo it) (v : Int32) : q_same w (qe iX4_mirrored 0 [some (.ref 0), some (.int v)] []) (qe iX5_mirrored 0 [some (.ref 27), some (.int v)] []) := by
  by_cases h : 0 ≤ v ∧ v ≤ 63
  · obtain ⟨n, hn, rfl⟩ := nI_of2 (M := 63) (n := 63) (by decide) (Int32.not_lt.mpr h.1) h.2
    refine t_ask (nI (q_sw n)) hX hM ⟨w, q_GX_r w, ?_⟩ (fun w1 hM1 => ⟨w1, q_GM_r w1, ?_⟩)
    · rw [zX4_mirrored_0, e_isWithin, qc_i, zX4_mirrored_7, decide_eq_true h, q_bo_t, if_neg (by decide), zX4_mirrored_10, e_swapN (by omega), qc_i, zX4_mirrored_14, zX4_mirrored_19]
    · rw [zX5_mirrored_0, m_in, qc_i, zX5_mirrored_7, decide_eq_true h, q_bo_t, if_neg (by decide), zX5_mirrored_10, m_turned (by omega), qc_i, zX5_mirrored_14, zX5_mirrored_19]
  · refine t_ask (-2) hX hM ⟨w, q_GX_r w, ?_⟩ (fun w1 hM1 => ⟨w1, q_GM_r w1, ?_⟩)
    · rw [zX4_mirrored_0, e_isWithin, qc_i, zX4_mirrored_7, decide_eq_false h, q_bo_f, if_pos rfl, zX4_mirrored_17, zX4_mirrored_19]
    · rw [zX5_mirrored_0, m_in, qc_i, zX5_mirrored_7, decide_eq_false h, q_bo_f, if_pos rfl, zX5_mirrored_17, zX5_mirrored_19]
theorem p_both (hX : q_X w sg pb wb sc sp si oc hb sz pl wl ns mi ex fi fo it) (hM : q_MB w sg pb wb sc sp si oc hb sz pl wl ns mi ex fi fo it) (v : Int32) : q_same w (qe iX4_both 0 [some (.ref 0), some (.int v)] []) (qe iX5_both 0 [some (.ref 27), some (.int v)] []) := by
  have hn := hX.2.2.1.2.1
  by_cases h1 : v = -1
  · subst h1
    refine t_ask _ hX hM ⟨w, q_GX_r w, xa_bothAll hX⟩ (fun w1 hM1 => ?_)
    obtain ⟨w2, a1, a2, a3, a4⟩ := n_bothAll hM1
    exact ⟨w2, a1, by rw [zX5_both_0, if_neg (fun q => q rfl), zX5_both_5, a4, qc_i, zX5_both_9, zX5_both_30]⟩
  · rcases q_inOr (show (x_nw wb wl) ≤ 24 by omega) v with h | ⟨k, hk, rfl⟩
    · refine t_ask (-2) hX hM ⟨w, q_GX_r w, ?_⟩ (fun w1 hM1 => ?_)
      · rw [zX4_both_0, if_neg h1, zX4_both_5, x_hasF hX h, qc_i, zX4_both_13, if_neg (fun q => q rfl), zX4_both_16]
      · obtain ⟨w2, a1, a2, a3, a4⟩ := n_isWordF hM1 h
        exact ⟨w2, a1, by rw [zX5_both_0, if_pos h1, zX5_both_12, a4, qc_i, zX5_both_17, if_pos rfl, zX5_both_28, zX5_both_30]⟩
    · refine t_ask _ hX hM ⟨w, q_GX_r w, xa_both hX hk⟩ (fun w1 hM1 => ?_)
      obtain ⟨w2, a1, a2, a3, a4⟩ := n_isWordT hM1 hk
      exact ⟨w2, a1, by rw [zX5_both_0, if_pos h1, zX5_both_12, a4, qc_i, zX5_both_17, if_neg (by decide), zX5_both_20, m_bothOf a2.1 a3.2 hk, qc_i, zX5_both_25, zX5_both_30]⟩
theorem p_fits (hX : q_X w sg pb wb sc sp si oc hb sz pl wl ns mi ex fi fo it) (hM : q_MB w sg pb wb sc sp si oc hb sz pl wl ns mi ex fi fo it) (v u : Int32) : q_same w (qe iX4_fits 0 [some (.ref 0), some (.int v), some (.int u)] []) (qe iX5_fits 0 [some (.ref 27), some (.int v), some (.int u)] []) := by
  have hn := hX.2.2.1.2.1
  rcases q_inOr (show (x_nw wb wl) ≤ 24 by omega) v with h | ⟨k, hk, rfl⟩
  · refine t_ask (-2) hX hM ⟨w, q_GX_r w, ?_⟩ (fun w1 hM1 => ?_)
    · rw [zX4_fits_0, x_hasF hX h, qc_i, zX4_fits_8, if_pos rfl, zX4_fits_15]
    · obtain ⟨w2, a1, a2, a3, a4⟩ := n_isWordF hM1 h
      exact ⟨w2, a1, by rw [zX5_fits_0, a4, qc_i, zX5_fits_5, if_pos rfl, zX5_fits_21, zX5_fits_23]⟩
  · by_cases hu : u < 0
    · refine t_ask (-2) hX hM ⟨w, q_GX_r w, ?_⟩ (fun w1 hM1 => ?_)
      · rw [zX4_fits_0, x_hasT hX hk, qc_i, zX4_fits_8, if_neg (by decide), zX4_fits_11, if_neg (Int32.not_le.mpr hu), zX4_fits_15]
      · obtain ⟨w2, a1, a2, a3, a4⟩ := n_isWordT hM1 hk
        exact ⟨w2, a1, by rw [zX5_fits_0, a4, qc_i, zX5_fits_5, if_neg (by decide), zX5_fits_8, if_pos hu, zX5_fits_21, zX5_fits_23]⟩
    · obtain ⟨f, hf, rfl⟩ := nI_of hu
      refine t_ask _ hX hM ⟨w, q_GX_r w, xa_fits hX hk hf⟩ (fun w1 hM1 => ?_)
      obtain ⟨w2, a1, a2, a3, a4⟩ := n_isWordT hM1 hk
      exact ⟨w2, a1, by rw [zX5_fits_0, a4, qc_i, zX5_fits_5, if_neg (by decide), zX5_fits_8, if_neg hu, zX5_fits_12, m_fitsOf a2.1 a3.1 a2.2.2.1 a3.2 a2.2.2.2.1 hk hf, qc_i, zX5_fits_18, zX5_fits_23]⟩
theorem p_under (hX : q_X w sg pb wb sc sp si oc hb sz pl wl ns mi ex fi fo it) (hM : q_MB w sg pb wb sc sp si oc hb sz pl wl ns mi ex fi fo it) (v u : Int32) : q_same w (qe iX4_under 0 [some (.ref 0), some (.int v), some (.int u), none, none] []) (qe iX5_under 0 [some (.ref 27), some (.int v), some (.int u)] []) := by
  have hn := hX.2.2.1.2.1
  rcases q_inOr (show (x_nw wb wl) ≤ 24 by omega) v with h | ⟨k, hk, rfl⟩
  · refine t_ask (-2) hX hM ⟨w, q_GX_r w, ?_⟩ (fun w1 hM1 => ?_)
    · rw [zX4_under_0, x_hasF hX h, qc_i, zX4_under_8, if_pos rfl, zX4_under_15]
    · obtain ⟨w2, a1, a2, a3, a4⟩ := n_isWordF hM1 h
      exact ⟨w2, a1, by rw [zX5_under_0, a4, qc_i, zX5_under_5, if_pos rfl, zX5_under_21, zX5_under_23]⟩
  · by_cases hu : u < 0
    · refine t_ask (-2) hX hM ⟨w, q_GX_r w, ?_⟩ (fun w1 hM1 => ?_)
      · rw [zX4_under_0, x_hasT hX hk, qc_i, zX4_under_8, if_neg (by decide), zX4_under_11, if_neg (Int32.not_le.mpr hu), zX4_under_15]
      · obtain ⟨w2, a1, a2, a3, a4⟩ := n_isWordT hM1 hk
        exact ⟨w2, a1, by rw [zX5_under_0, a4, qc_i, zX5_under_5, if_neg (by decide), zX5_under_8, if_pos hu, zX5_under_21, zX5_under_23]⟩
    · obtain ⟨f, hf, rfl⟩ := nI_of hu
      refine t_ask _ hX hM ⟨w, q_GX_r w, xa_under hX hk hf⟩ (fun w1 hM1 => ?_)
      obtain ⟨w2, a1, a2, a3, a4⟩ := n_isWordT hM1 hk
      exact ⟨w2, a1, by rw [zX5_under_0, a4, qc_i, zX5_under_5, if_neg (by decide), zX5_under_8, if_neg hu, zX5_under_12, m_underOf a2.1 a3.1 a2.2.2.1 a3.2 hk hf, qc_i, zX5_under_18, zX5_under_23]⟩
theorem p_meant (hX : q_X w sg pb wb sc sp si oc hb sz pl wl ns mi ex fi fo it) (hM : q_MB w sg pb wb sc sp si oc hb sz pl wl ns mi ex fi fo it) (v u : Int32) : q_same w (qe iX4_meant 0 [some (.ref 0), some (.int v), some (.int u), none] []) (qe iX5_meant 0 [some (.ref 27), some (.int v), some (.int u)] []) := by
  have hc := hX.2.1.2.1
  rcases q_inOr hc v with h | ⟨i, hi, rfl⟩
  · refine t_ask (-2) hX hM ⟨w, q_GX_r w, ?_⟩ (fun w1 hM1 => ?_)
    · rw [zX4_meant_0, x_isCellF hX h, qc_i, zX4_meant_5, if_pos rfl, zX4_meant_17]
    · obtain ⟨w2, a1, a2, a3, a4⟩ := n_isCellF hM1 h
      exact ⟨w2, a1, by rw [zX5_meant_0, a4, qc_i, zX5_meant_5, if_pos rfl, zX5_meant_26, zX5_meant_28]⟩
  · by_cases hu : 0 ≤ u ∧ u ≤ 1
    · refine t_ask _ hX hM ⟨w, q_GX_r w, xa_meant hX hi hu⟩ (fun w1 hM1 => ?_)
      obtain ⟨w2, a1, a2, a3, a4⟩ := n_isCellT hM1 hi
      obtain ⟨w3, b1, b2, b3, b4⟩ := n_meantOf a2 (f := i) (by omega) u
      exact ⟨w3, q_GM_t a1 b1, by rw [zX5_meant_0, a4, qc_i, zX5_meant_5, if_neg (by decide), zX5_meant_8, m_in, qc_i, zX5_meant_14, decide_eq_true hu, q_bo_t, if_neg (by decide), zX5_meant_17, b4, qc_i, zX5_meant_23, zX5_meant_28]⟩
    · refine t_ask (-2) hX hM ⟨w, q_GX_r w, ?_⟩ (fun w1 hM1 => ?_)
      · rw [zX4_meant_0, x_isCellT hX hi, qc_i, zX4_meant_5, if_neg (by decide), zX4_meant_8, e_isWithin, qc_i, zX4_meant_14, decide_eq_false hu, q_bo_f, if_neg (fun q => q rfl), zX4_meant_17]
      · obtain ⟨w2, a1, a2, a3, a4⟩ := n_isCellT hM1 hi
        exact ⟨w2, a1, by rw [zX5_meant_0, a4, qc_i, zX5_meant_5, if_neg (by decide), zX5_meant_8, m_in, qc_i, zX5_meant_14, decide_eq_false hu, q_bo_f, if_pos rfl, zX5_meant_26, zX5_meant_28]⟩
theorem p_within (hX : q_X w sg pb wb sc sp si oc hb sz pl wl ns mi ex fi fo it) (hM : q_MB w sg pb wb sc sp si oc hb sz pl wl ns mi ex fi fo it) (v u : Int32) : q_same w (qe iX4_within 0 [some (.ref 0), some (.int v), some (.int u), none, none, none] []) (qe iX5_within 0 [some (.ref 27), some (.int v), some (.int u)] []) := by
  have hc := hX.2.1.2.1
  rcases q_inOr hc v with h | ⟨i, hi, rfl⟩
  · refine t_ask (-2) hX hM ⟨w, q_GX_r w, ?_⟩ (fun w1 hM1 => ?_)
    · rw [zX4_within_0, x_isCellF hX h, qc_i, zX4_within_5, if_pos rfl, zX4_within_19]
    · obtain ⟨w2, a1, a2, a3, a4⟩ := n_isCellF hM1 h
      exact ⟨w2, a1, by rw [zX5_within_0, a4, qc_i, zX5_within_5, if_pos rfl, zX5_within_28, zX5_within_30]⟩
  · by_cases hu : 0 ≤ u ∧ u ≤ 999
    · refine t_ask _ hX hM ⟨w, q_GX_r w, xa_within hX hi hu⟩ (fun w1 hM1 => ?_)
      obtain ⟨w2, a1, a2, a3, a4⟩ := n_isCellT hM1 hi
      obtain ⟨w3, b1, b2, b3, b4⟩ := n_withinOf a2 (f := i) (by omega) u
      exact ⟨w3, q_GM_t a1 b1, by rw [zX5_within_0, a4, qc_i, zX5_within_5, if_neg (by decide), zX5_within_8, m_in, qc_i, zX5_within_16, decide_eq_true hu, q_bo_t, if_neg (by decide), zX5_within_19, b4, qc_i, zX5_within_25, zX5_within_30]⟩
    · refine t_ask (-2) hX hM ⟨w, q_GX_r w, ?_⟩ (fun w1 hM1 => ?_)
      · rw [zX4_within_0, x_isCellT hX hi, qc_i, zX4_within_5, if_neg (by decide), zX4_within_8, e_isWithin, qc_i, zX4_within_16, decide_eq_false hu, q_bo_f, if_neg (fun q => q rfl), zX4_within_19]
      · obtain ⟨w2, a1, a2, a3, a4⟩ := n_isCellT hM1 hi
        exact ⟨w2, a1, by rw [zX5_within_0, a4, qc_i, zX5_within_5, if_neg (by decide), zX5_within_8, m_in, qc_i, zX5_within_16, decide_eq_false hu, q_bo_f, if_pos rfl, zX5_within_28, zX5_within_30]⟩
theorem p_line (hX : q_X w sg pb wb sc sp si oc hb sz pl wl ns mi ex fi fo it) (hM : q_MB w sg pb wb sc sp si oc hb sz pl wl ns mi ex fi fo it) (v : Int32) : q_same w (qe iX4_line 0 [some (.ref 0), some (.int v), none] []) (qe iX5_line 0 [some (.ref 27), some (.int v)] []) := by
  by_cases h : 0 ≤ v ∧ v ≤ 1
  · refine t_ask _ hX hM (xa_line hX h) (fun w1 hM1 => ?_)
    obtain ⟨w2, a1, a2, a3, a4⟩ := n_lineOf hM1 v
    exact ⟨w2, a1, by rw [zX5_line_0, m_in, qc_i, zX5_line_6, decide_eq_true h, q_bo_t, if_neg (by decide), zX5_line_9, a4, qc_i, zX5_line_14, zX5_line_19]⟩
  · refine t_ask (-2) hX hM ⟨w, q_GX_r w, ?_⟩ (fun w1 hM1 => ⟨w1, q_GM_r w1, ?_⟩)
    · rw [zX4_line_0, e_isWithin, qc_i, zX4_line_6, decide_eq_false h, q_bo_f, if_neg (fun q => q rfl), zX4_line_9]
    · rw [zX5_line_0, m_in, qc_i, zX5_line_6, decide_eq_false h, q_bo_f, if_pos rfl, zX5_line_17, zX5_line_19]
theorem p_slippery (hX : q_X w sg pb wb sc sp si oc hb sz pl wl ns mi ex fi fo it) (hM : q_MB w sg pb wb sc sp si oc hb sz pl wl ns mi ex fi fo it) : q_same w (qe iX4_slippery 0 [some (.ref 0), none, none, none] []) (qe iX5_slippery 0 [some (.ref 27)] []) := by
  refine t_ask _ hX hM ⟨w, q_GX_r w, e_slippery hX.1.1⟩ (fun w1 hM1 => ⟨w1, q_GM_r w1, ?_⟩)
  rw [zX5_slippery_0, m_slipperyNow hM1.1, qc_i, zX5_slippery_4]
theorem p_better (hX : q_X w sg pb wb sc sp si oc hb sz pl wl ns mi ex fi fo it) (hM : q_MB w sg pb wb sc sp si oc hb sz pl wl ns mi ex fi fo it) (v : Int32) : q_same w (qe iX4_better 0 [some (.ref 0), some (.int v), none, none, none] []) (qe iX5_better 0 [some (.ref 27), some (.int v)] []) := by
  rcases e_better (v := v) hX.1.1 with ⟨h, hx⟩ | ⟨l, hl, rfl, hx⟩
  · refine t_ask (-2) hX hM ⟨w, q_GX_r w, hx⟩ (fun w1 hM1 => ⟨w1, q_GM_r w1, ?_⟩)
    rw [zX5_better_0, m_in, qc_i, zX5_better_7, decide_eq_false h, q_bo_f, if_pos rfl, zX5_better_18, zX5_better_20]
  · refine t_ask _ hX hM ⟨w, q_GX_r w, hx⟩ (fun w1 hM1 => ⟨w1, q_GM_r w1, ?_⟩)
    rw [zX5_better_0, m_in, qc_i, zX5_better_7, decide_eq_true ⟨nI_pos' (by omega), show nI l ≤ (9 : Int32) from nI_le (b := 9) (by omega) (by omega)⟩, q_bo_t, if_neg (by decide), zX5_better_10, m_betterOf hM1.1 hl, qc_i, zX5_better_15, zX5_better_20]
theorem p_shorts (hX : q_X w sg pb wb sc sp si oc hb sz pl wl ns mi ex fi fo it) (hM : q_MB w sg pb wb sc sp si oc hb sz pl wl ns mi ex fi fo it) (v u : Int32) : q_same w (qe iX4_shorts 0 [some (.ref 0), some (.int v), some (.int u), none] []) (qe iX5_shorts 0 [some (.ref 27), some (.int v), some (.int u)] []) := by
  by_cases h : 0 ≤ v ∧ v ≤ 8
  · by_cases hu : 0 ≤ u ∧ u ≤ 2
    · obtain ⟨n, hn, rfl⟩ := nI_of2 (M := 8) (n := 8) (by decide) (Int32.not_lt.mpr h.1) h.2
      refine t_ask _ hX hM ⟨w, q_GX_r w, xa_shorts hX hn hu⟩ (fun w1 hM1 => ?_)
      obtain ⟨w2, a1, a2, a3, a4⟩ := n_shortsOf hM1 hn u
      exact ⟨w2, a1, by rw [zX5_shorts_0, m_in, qc_i, zX5_shorts_7, decide_eq_true h, q_bo_t, if_neg (by decide), zX5_shorts_10, m_in, qc_i, zX5_shorts_16, decide_eq_true hu, q_bo_t, if_neg (by decide), zX5_shorts_19, a4, qc_i, zX5_shorts_25, zX5_shorts_30]⟩
    · refine t_ask (-2) hX hM ⟨w, q_GX_r w, ?_⟩ (fun w1 hM1 => ⟨w1, q_GM_r w1, ?_⟩)
      · rw [zX4_shorts_0, e_isWithin, qc_i, zX4_shorts_7, decide_eq_true h, q_bo_t, if_neg (by decide), zX4_shorts_10, e_isWithin, qc_i, zX4_shorts_16, decide_eq_false hu, q_bo_f, if_neg (fun q => q rfl), zX4_shorts_19]
      · rw [zX5_shorts_0, m_in, qc_i, zX5_shorts_7, decide_eq_true h, q_bo_t, if_neg (by decide), zX5_shorts_10, m_in, qc_i, zX5_shorts_16, decide_eq_false hu, q_bo_f, if_pos rfl, zX5_shorts_28, zX5_shorts_30]
  · refine t_ask (-2) hX hM ⟨w, q_GX_r w, ?_⟩ (fun w1 hM1 => ⟨w1, q_GM_r w1, ?_⟩)
    · rw [zX4_shorts_0, e_isWithin, qc_i, zX4_shorts_7, decide_eq_false h, q_bo_f, if_pos rfl, zX4_shorts_19]
    · rw [zX5_shorts_0, m_in, qc_i, zX5_shorts_7, decide_eq_false h, q_bo_f, if_pos rfl, zX5_shorts_28, zX5_shorts_30]
theorem p_whose (hX : q_X w sg pb wb sc sp si oc hb sz pl wl ns mi ex fi fo it) (hM : q_MB w sg pb wb sc sp si oc hb sz pl wl ns mi ex fi fo it) : q_same w (qe iX4_whose 0 [some (.ref 0), none, none, none] []) (qe iX5_whose 0 [some (.ref 27)] []) := by
  refine t_ask _ hX hM ⟨w, q_GX_r w, xa_whose hX⟩ (fun w1 hM1 => ?_)
  obtain ⟨w2, a1, a2, a3, a4⟩ := n_whoseNow hM1
  exact ⟨w2, a1, by rw [zX5_whose_0, a4, qc_i, zX5_whose_4]⟩
theorem p_wear (hX : q_X w sg pb wb sc sp si oc hb sz pl wl ns mi ex fi fo it) (hM : q_MB w sg pb wb sc sp si oc hb sz pl wl ns mi ex fi fo it) (v u : Int32) : q_same w (qe iX4_wear 0 [some (.ref 0), some (.int v), some (.int u)] []) (qe iX5_wear 0 [some (.ref 27), some (.int v), some (.int u)] []) := by
  have hc := hX.2.1.2.1
  by_cases h : 0 ≤ v ∧ v ≤ 99
  · obtain ⟨n, hn, rfl⟩ := nI_of2 (M := 99) (n := 99) (by decide) (Int32.not_lt.mpr h.1) h.2
    by_cases h1 : u = -1
    · refine t_ask _ hX hM (xa_wear hX hn (Or.inl h1)) (fun w1 hM1 => ?_)
      obtain ⟨w2, a1, a2, a3, a4⟩ := n_wearOf hM1 hn (v := u) (Or.inl h1)
      exact ⟨w2, a1, by rw [zX5_wear_0, m_in, qc_i, zX5_wear_7, decide_eq_true h, q_bo_t, if_neg (by decide), zX5_wear_10, if_pos h1, zX5_wear_23, a4, qc_i, zX5_wear_29, zX5_wear_34]⟩
    · rcases q_inOr hc u with hu | ⟨i, hi, rfl⟩
      · refine t_ask (-2) hX hM ⟨w, q_GX_r w, ?_⟩ (fun w1 hM1 => ?_)
        · rw [zX4_wear_0, e_isWithin, qc_i, zX4_wear_7, decide_eq_true h, q_bo_t, if_neg (by decide), zX4_wear_10, if_neg h1, zX4_wear_15, x_isCellF hX hu, qc_i, zX4_wear_20, if_neg (fun q => q rfl), zX4_wear_23]
        · obtain ⟨w2, a1, a2, a3, a4⟩ := n_isCellF hM1 hu
          exact ⟨w2, a1, by rw [zX5_wear_0, m_in, qc_i, zX5_wear_7, decide_eq_true h, q_bo_t, if_neg (by decide), zX5_wear_10, if_neg h1, zX5_wear_15, a4, qc_i, zX5_wear_20, if_pos rfl, zX5_wear_32, zX5_wear_34]⟩
      · refine t_ask _ hX hM (xa_wear hX hn (Or.inr ⟨i, hi, rfl⟩)) (fun w1 hM1 => ?_)
        obtain ⟨w2, a1, a2, a3, a4⟩ := n_isCellT hM1 hi
        obtain ⟨w3, b1, b2, b3, b4⟩ := n_wearOf a2 hn (v := nI i) (Or.inr ⟨i, hi, rfl⟩)
        exact ⟨w3, q_GM_t a1 b1, by rw [zX5_wear_0, m_in, qc_i, zX5_wear_7, decide_eq_true h, q_bo_t, if_neg (by decide), zX5_wear_10, if_neg h1, zX5_wear_15, a4, qc_i, zX5_wear_20, if_neg (by decide), zX5_wear_23, b4, qc_i, zX5_wear_29, zX5_wear_34]⟩
  · refine t_ask (-2) hX hM ⟨w, q_GX_r w, ?_⟩ (fun w1 hM1 => ⟨w1, q_GM_r w1, ?_⟩)
    · rw [zX4_wear_0, e_isWithin, qc_i, zX4_wear_7, decide_eq_false h, q_bo_f, if_pos rfl, zX4_wear_23]
    · rw [zX5_wear_0, m_in, qc_i, zX5_wear_7, decide_eq_false h, q_bo_f, if_pos rfl, zX5_wear_32, zX5_wear_34]
theorem q_01 {v : Int32} (h : 0 ≤ v ∧ v ≤ 1) : v = 0 ∨ v = 1 := by
  obtain ⟨n, hn, rfl⟩ := nI_of2 (M := 1) (n := 1) (by decide) (Int32.not_lt.mpr h.1) h.2
  rcases (show n = 0 ∨ n = 1 by omega) with rfl | rfl
  · exact Or.inl rfl
  · exact Or.inr rfl
theorem xa_fault (hX : q_X w sg pb wb sc sp si oc hb sz pl wl ns mi ex fi fo it) {v : Int32} (h : 0 ≤ v ∧ v ≤ 1) : qe iX4_fault 0 [some (.ref 0), some (.int v)] [] w = some (some (.int (if v = 0 then x_pf pb pl else x_wF wb wl)), w) := by
  obtain ⟨b1, b2, b3⟩ := hX.1.2.1
  rw [zX4_fault_0, e_isWithin, qc_i, zX4_fault_6, decide_eq_true h, q_bo_t, if_pos (by decide), zX4_fault_12]
  by_cases h0 : v = 0
  · rw [if_neg (fun q => q h0), zX4_fault_16, e_pageFault b1 b2 b3, qc_i, zX4_fault_20, zX4_fault_30, if_pos h0]
  · rw [if_pos h0, zX4_fault_23, hX.2.2.2, zX4_fault_30, if_neg h0]
theorem p_fault (hX : q_X w sg pb wb sc sp si oc hb sz pl wl ns mi ex fi fo it) (hM : q_MB w sg pb wb sc sp si oc hb sz pl wl ns mi ex fi fo it) (v : Int32) : q_same w (qe iX4_fault 0 [some (.ref 0), some (.int v)] []) (qe iX5_fault 0 [some (.ref 27), some (.int v)] []) := by
  by_cases h : 0 ≤ v ∧ v ≤ 1
  · refine t_ask _ hX hM ⟨w, q_GX_r w, xa_fault hX h⟩ (fun w1 hM1 => ?_)
    obtain ⟨w2, a1, a2, a3, a4⟩ := n_faultOf hM1 v
    exact ⟨w2, a1, by rw [zX5_fault_0, m_in, qc_i, zX5_fault_6, decide_eq_true h, q_bo_t, if_neg (by decide), zX5_fault_9, a4, qc_i, zX5_fault_14, zX5_fault_19]⟩
  · refine t_ask (-2) hX hM ⟨w, q_GX_r w, ?_⟩ (fun w1 hM1 => ⟨w1, q_GM_r w1, ?_⟩)
    · rw [zX4_fault_0, e_isWithin, qc_i, zX4_fault_6, decide_eq_false h, q_bo_f, if_neg (fun q => q rfl), zX4_fault_9]
    · rw [zX5_fault_0, m_in, qc_i, zX5_fault_6, decide_eq_false h, q_bo_f, if_pos rfl, zX5_fault_17, zX5_fault_19]
/-- what is counted -/
def x_cn (sg : Nat → Nat) (pl wl ns c nw : Nat) (cl : Nat → Nat) : Nat → Nat
  | 0 => c
  | 1 => nw
  | 2 => pl
  | 3 => wl
  | 4 => ns
  | 5 => x_sm (fun j => q_pop (cl j)) c
  | 6 => x_sm (fun j => q_pop (sg j)) 10
  | _ => q_ct (fun i => decide (0 ≤ q_rd sg (cl i) ∧ q_rd sg (cl i) ≤ 9)) c 0 0
theorem xa_count (hX : q_X w sg pb wb sc sp si oc hb sz pl wl ns mi ex fi fo it) {n : Nat} (hn : n < 8) : qe iX4_count 0 [some (.ref 0), some (.int (nI n))] [] w = some (some (.int (nI (x_cn sg pl wl ns (x_pc pb pl) (x_nw wb wl) (x_cl sg (x_pg pb) sc sp si ns) n))), w) := by
  obtain ⟨b1, b2, b3⟩ := hX.1.2.1
  have hc := hX.2.1.2.1
  rw [zX4_count_0]
  rcases (show n = 0 ∨ n = 1 ∨ n = 2 ∨ n = 3 ∨ n = 4 ∨ n = 5 ∨ n = 6 ∨ n = 7 by omega) with rfl | rfl | rfl | rfl | rfl | rfl | rfl | rfl
  · rw [zX4_count_1_0 (s0 := nI 0) rfl, zX4_count_52, hX.2.1.1]; rfl
  · rw [zX4_count_1_1 (s0 := nI 1) rfl, zX4_count_57, hX.2.2.1.1]; rfl
  · rw [zX4_count_1_2 (s0 := nI 2) rfl, zX4_count_65, b1]; rfl
  · rw [zX4_count_1_3 (s0 := nI 3) rfl, zX4_count_73, hX.1.2.2.1.1]; rfl
  · rw [zX4_count_1_4 (s0 := nI 4) rfl, zX4_count_84, hX.1.2.2.2.1.1]; rfl
  · rw [zX4_count_1_5 (s0 := nI 5) rfl, zX4_count_92, hX.2.1.1, e_pointsOf (N := 24) rfl (by omega) hc hX.2.1.2.2, qc_i, zX4_count_103]; rfl
  · rw [zX4_count_1_6 (s0 := nI 6) rfl, zX4_count_104, show (10 : Int32) = nI 10 from rfl, e_pointsOf (N := 10) (v := sg) rfl (by omega) (by omega) (fun j hj => ⟨(hX.1.1 j hj).1, (hX.1.1 j hj).2.2⟩), qc_i, zX4_count_113]; rfl
  · rw [zX4_count_1_7 (s0 := nI 7) rfl, zX4_count_114, e_cellsOfLetters hX.1.1 hX.2.1, qc_i, zX4_count_118]; rfl
theorem n_count (hM : q_MB w sg pb wb sc sp si oc hb sz pl wl ns mi ex fi fo it) {n : Nat} (hn : n < 8) : ∃ w', q_GM w w' ∧ q_MB w' sg pb wb sc sp si oc hb sz pl wl ns mi ex fi fo it ∧ qe iX5_count 0 [some (.ref 27), some (.int (nI n))] [] w = some (some (.int (nI (x_cn sg pl wl ns (x_pc pb pl) (x_nw wb wl) (x_cl sg (x_pg pb) sc sp si ns) n))), w') := by
  obtain ⟨t1, t2, t3, t4, t5, t6⟩ := hM.2.1
  rcases (show n = 0 ∨ n = 1 ∨ n = 2 ∨ n = 3 ∨ n = 4 ∨ n = 5 ∨ n = 6 ∨ n = 7 by omega) with rfl | rfl | rfl | rfl | rfl | rfl | rfl | rfl
  · obtain ⟨w', h1, h2, h3, h4⟩ := n_sumOf hM (nI 0)
    exact ⟨w', h1, h2, by rw [zX5_count_0, zX5_count_1_0 (s0 := nI 0) rfl, zX5_count_52, h4, qc_i, zX5_count_57]; rfl⟩
  · obtain ⟨w', h1, h2, h3, h4⟩ := n_sumOf hM (nI 1)
    exact ⟨w', h1, h2, by rw [zX5_count_0, zX5_count_1_1 (s0 := nI 1) rfl, zX5_count_52, h4, qc_i, zX5_count_57]; rfl⟩
  · exact ⟨w, q_GM_r w, hM, by rw [zX5_count_0, zX5_count_1_2 (s0 := nI 2) rfl, zX5_count_58, if_neg (by decide), show (nI 2 - 2).toNatClampNeg = 0 from rfl, zX5_count_66, t1]; rfl⟩
  · exact ⟨w, q_GM_r w, hM, by rw [zX5_count_0, zX5_count_1_3 (s0 := nI 3) rfl, zX5_count_58, if_neg (by decide), show (nI 3 - 2).toNatClampNeg = 1 from rfl, zX5_count_66, t3]; rfl⟩
  · exact ⟨w, q_GM_r w, hM, by rw [zX5_count_0, zX5_count_1_4 (s0 := nI 4) rfl, zX5_count_67, hM.2.2.1.1]; rfl⟩
  · obtain ⟨w', h1, h2, h3, h4⟩ := n_sumOf hM (nI 5)
    exact ⟨w', h1, h2, by rw [zX5_count_0, zX5_count_1_5 (s0 := nI 5) rfl, zX5_count_52, h4, qc_i, zX5_count_57]; rfl⟩
  · obtain ⟨w', h1, h2, h3, h4⟩ := n_sumOf hM (nI 6)
    exact ⟨w', h1, h2, by rw [zX5_count_0, zX5_count_1_6 (s0 := nI 6) rfl, zX5_count_52, h4, qc_i, zX5_count_57]; rfl⟩
  · obtain ⟨w', h1, h2, h3, h4⟩ := n_sumOf hM (nI 7)
    exact ⟨w', h1, h2, by rw [zX5_count_0, zX5_count_1_7 (s0 := nI 7) rfl, zX5_count_52, h4, qc_i, zX5_count_57]; rfl⟩
theorem p_count (hX : q_X w sg pb wb sc sp si oc hb sz pl wl ns mi ex fi fo it) (hM : q_MB w sg pb wb sc sp si oc hb sz pl wl ns mi ex fi fo it) (v : Int32) : q_same w (qe iX4_count 0 [some (.ref 0), some (.int v)] []) (qe iX5_count 0 [some (.ref 27), some (.int v)] []) := by
  by_cases h : v.toInt < 0 ∨ 8 < v.toInt
  · refine t_ask (-2) hX hM ⟨w, q_GX_r w, ?_⟩ (fun w1 hM1 => ⟨w1, q_GM_r w1, ?_⟩)
    · rw [zX4_count_0, zX4_count_1_d h, zX4_count_124]
    · rw [zX5_count_0, zX5_count_1_d h, zX5_count_77]
  · have h0 : ¬ v < 0 := fun q => h (Or.inl (by have := Int32.lt_iff_toInt_lt.mp q; exact this))
    obtain ⟨n, hn, rfl⟩ := nI_of h0
    rw [nI_toInt hn] at h
    by_cases h8 : n = 8
    · subst h8
      refine t_ask fi hX hM ⟨w, q_GX_r w, ?_⟩ (fun w1 hM1 => ⟨w1, q_GM_r w1, ?_⟩)
      · rw [zX4_count_0, zX4_count_1_8 (s0 := nI 8) rfl, zX4_count_119, hX.1.2.2.2.2.2.2.2.1]
      · rw [zX5_count_0, zX5_count_1_8 (s0 := nI 8) rfl, zX5_count_72, hM1.2.2.2.2.2.2.1]
    · refine t_ask _ hX hM ⟨w, q_GX_r w, xa_count hX (show n < 8 by omega)⟩ (fun w1 hM1 => ?_)
      obtain ⟨w2, a1, a2, a3⟩ := n_count hM1 (show n < 8 by omega)
      exact ⟨w2, a1, a3⟩
end A52
