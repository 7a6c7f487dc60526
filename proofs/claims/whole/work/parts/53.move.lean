/-! changes of letters, slips, costs: both answer alike, and go on alike -/
def x_un (f : Nat → Nat) (k v : Nat) : Nat → Nat := fun j => if j = k then v else f j
theorem x_un_s (f : Nat → Nat) (k v : Nat) : x_un f k v k = v := if_pos rfl
theorem x_un_n (f : Nat → Nat) {k j : Nat} (v : Nat) (h : j ≠ k) : x_un f k v j = f j := if_neg h
section R53
variable {w w' : qW} {sg pb wb sc sp si oc hb sz : Nat → Nat} {pl wl ns mi ex : Nat} {fi : Int32} {fo : Nat → Int32} {it : Nat → Nat → Int32}
theorem q_PB_c {n : Nat} (h : w' 2 = w 2) (hB : q_PB w n pb) : q_PB w' n pb := by unfold q_PB; rw [h]; exact hB
theorem q_WB_c (h4 : w' 4 = w 4) (h5 : w' 5 = w 5) (hB : q_WB w wl wb) : q_WB w' wl wb := by unfold q_WB; rw [h4, h5]; exact hB
theorem q_XL_c (h8 : w' 8 = w 8) (h9 : w' 9 = w 9) (h10 : w' 10 = w 10) (h11 : w' 11 = w 11) (hB : q_XL w ns sc sp si) : q_XL w' ns sc sp si := by unfold q_XL; rw [h8, h9, h10, h11]; exact hB
theorem q_OC_c (h : w' 14 = w 14) (hB : q_OC w oc) : q_OC w' oc := by unfold q_OC; rw [h]; exact hB
theorem q_HB_c (h : w' 15 = w 15) (hB : q_HB w hb) : q_HB w' hb := by unfold q_HB; rw [h]; exact hB
theorem q_XS_c (h : ∀ k, 17 ≤ k → k < 25 → w' k = w k) (hB : q_XS w sz fo it) : q_XS w' sz fo it := by
  intro s hs
  rw [h (17 + 2 * s) (by omega) (by omega), h (18 + 2 * s) (by omega) (by omega)]
  exact hB s hs
theorem q_MS_c (h : w' 28 = w 28) (hB : q_MS w sg) : q_MS w' sg := by unfold q_MS; rw [h]; exact hB
theorem q_ML_c (h : w' 27 11 = w 27 11) (h5 : w' 35 = w 35) (h6 : w' 36 = w 36) (h7 : w' 37 = w 37) (hB : q_ML w ns sc sp si) : q_ML w' ns sc sp si := by unfold q_ML; rw [h, h5, h6, h7]; exact hB
theorem q_MO_c (h8 : w' 27 8 = w 27 8) (h9 : w' 27 9 = w 27 9) (hB : q_MO w mi ex) : q_MO w' mi ex := by unfold q_MO; rw [h8, h9]; exact hB
theorem q_MOC_c (h : w' 34 = w 34) (hB : q_MOC w oc) : q_MOC w' oc := by unfold q_MOC; rw [h]; exact hB
theorem q_MH_c (h : w' 40 = w 40) (hB : q_MH w hb) : q_MH w' hb := by unfold q_MH; rw [h]; exact hB
theorem q_MSH_c (h2 : w' 42 = w 42) (h3 : w' 43 = w 43) (h4 : w' 44 = w 44) (h5 : w' 45 = w 45) (hB : q_MSH w sz fo it) : q_MSH w' sz fo it := by unfold q_MSH; rw [h2, h3, h4, h5]; exact hB
theorem q_XB_c (h : ∀ k, k < 25 → k ≠ 0 → k ≠ 3 → k ≠ 6 → k ≠ 7 → k ≠ 13 → w' k = w k) (h0 : ∀ j, j ≠ 5 → w' 0 j = w 0 j) (hX : q_XB w sg pb wb sc sp si oc hb sz pl wl ns mi ex fi fo it) : q_XB w' sg pb wb sc sp si oc hb sz pl wl ns mi ex fi fo it := by
  obtain ⟨b1, ⟨b2, b3, b4⟩, b5, b6, b7, b8, b9, b10, b11⟩ := hX
  have e : ∀ k, k < 25 → k ≠ 0 → k ≠ 3 → k ≠ 6 → k ≠ 7 → k ≠ 13 → w' k = w k := h
  refine ⟨q_SG_c (e 12 (by decide) (by decide) (by decide) (by decide) (by decide) (by decide)) b1, ⟨?_, b3, q_PB_c (e 2 (by decide) (by decide) (by decide) (by decide) (by decide) (by decide)) b4⟩, q_WB_c (e 4 (by decide) (by decide) (by decide) (by decide) (by decide) (by decide)) (e 5 (by decide) (by decide) (by decide) (by decide) (by decide) (by decide)) b5, q_XL_c (e 8 (by decide) (by decide) (by decide) (by decide) (by decide) (by decide)) (e 9 (by decide) (by decide) (by decide) (by decide) (by decide) (by decide)) (e 10 (by decide) (by decide) (by decide) (by decide) (by decide) (by decide)) (e 11 (by decide) (by decide) (by decide) (by decide) (by decide) (by decide)) b6, ?_, q_OC_c (e 14 (by decide) (by decide) (by decide) (by decide) (by decide) (by decide)) b8, q_HB_c (e 15 (by decide) (by decide) (by decide) (by decide) (by decide) (by decide)) b9, ?_, q_XS_c (fun k h1 h2 => e k h2 (by omega) (by omega) (by omega) (by omega) (by omega)) b11⟩
  · rw [e 1 (by decide) (by decide) (by decide) (by decide) (by decide) (by decide)]; exact b2
  · unfold q_CO; rw [h0 6 (by decide), h0 7 (by decide)]; exact b7
  · rw [h0 11 (by decide)]; exact b10
/-- the caches are laid out of what is told -/
theorem x_layCells (hB : q_XB w sg pb wb sc sp si oc hb sz pl wl ns mi ex fi fo it) (hWD : q_WD w (x_nw wb wl) (x_L wb wl) (x_lt2 wb wl)) (h34 : w 3 4 = x_wF wb wl) : ∃ w', q_X w' sg pb wb sc sp si oc hb sz pl wl ns mi ex fi fo it ∧ (∀ k, k ≠ 0 → k ≠ 13 → w' k = w k) ∧ (∀ j, j ≠ 5 → w' 0 j = w 0 j) ∧ qe iX4_layCells 0 [some (.ref 0), none] [] w = some (none, w') := by
  obtain ⟨w', h1, h2, h3, h4⟩ := e_layCells hB.2.1.1 hB.2.1.2.1 hB.1 hB.2.1.2.2 hB.2.2.2.1
  refine ⟨w', ⟨q_XB_c (fun k _ a _ _ _ b => h1 k b a) h2 hB, h3, q_WD_c (h1 3 (by decide) (by decide)) (h1 7 (by decide) (by decide)) (h1 6 (by decide) (by decide)) hWD, by rw [h1 3 (by decide) (by decide)]; exact h34⟩, fun k a b => h1 k b a, h2, h4⟩
theorem x_layTexts (hB : q_XB w sg pb wb sc sp si oc hb sz pl wl ns mi ex fi fo it) : ∃ w', q_X w' sg pb wb sc sp si oc hb sz pl wl ns mi ex fi fo it ∧ (∀ k, k ≠ 0 → k ≠ 3 → k ≠ 6 → k ≠ 7 → k ≠ 13 → w' k = w k) ∧ qe iX4_layTexts 0 [some (.ref 0)] [] w = some (none, w') := by
  obtain ⟨w1, h1, h2, h3, h4⟩ := e_split hB.2.2.1
  obtain ⟨w2, g1, g2, g3, g4⟩ := x_layCells (q_XB_c (fun k _ a b c d e => h1 k b c d) (fun j _ => by rw [h1 0 (by decide) (by decide) (by decide)]) hB) h3 h2
  exact ⟨w2, g1, fun k a b c d e => (g2 k a e).trans (h1 k b c d), by rw [zX4_layTexts_0, h4, qc_v, zX4_layTexts_7, g4, qc_v, zX4_layTexts_11]⟩
theorem e_textAt0 : qe iX4_textAt 0 [some (.ref 0), some (.int 0)] [] w = some (some (.ref 1), w) := by rw [zX4_textAt_0, if_neg (by decide), zX4_textAt_4]
theorem e_textAt1 : qe iX4_textAt 0 [some (.ref 0), some (.int 1)] [] w = some (some (.ref 4), w) := by rw [zX4_textAt_0, if_pos (by decide), zX4_textAt_9, if_neg (by decide), zX4_textAt_14, zX4_textAt_25b]
theorem e_textAtN {v : Int32} (h : ¬ (0 ≤ v ∧ v ≤ 1)) : qe iX4_textAt 0 [some (.ref 0), some (.int v)] [] w = some (some .null, w) := by
  rw [zX4_textAt_0, if_pos (fun q => h (by rw [q]; decide)), zX4_textAt_9, if_pos (fun q => h (by rw [q]; decide)), zX4_textAt_24, zX4_textAt_25]
theorem q_byte {u : Int32} (h : 0 ≤ u ∧ u ≤ 255) : ∃ n, n ≤ 255 ∧ u = nI n := nI_of2 (M := 255) (n := 255) (by decide) (Int32.not_lt.mpr h.1) h.2
theorem p_type (hX : q_X w sg pb wb sc sp si oc hb sz pl wl ns mi ex fi fo it) (hM : q_MB w sg pb wb sc sp si oc hb sz pl wl ns mi ex fi fo it) (v u : Int32) : q_same w (qe iX4_type 0 [some (.ref 0), some (.int v), some (.int u), none] []) (qe iX5_type 0 [some (.ref 27), some (.int v), some (.int u)] []) := by
  obtain ⟨b1, ⟨b2, b3, b4⟩, b5, b6, b7, b8, b9, b10, b11⟩ := hX.1
  by_cases h : 0 ≤ v ∧ v ≤ 1
  · by_cases hu : 0 ≤ u ∧ u ≤ 255
    · obtain ⟨n, hn, rfl⟩ := q_byte hu
      rcases q_01 h with rfl | rfl
      · by_cases hf : pl = 24
        · refine t_ask (-4) hX hM ⟨w, q_GX_r w, ?_⟩ (fun w1 hM1 => ⟨w1, q_GM_r w1, ?_⟩)
          · rw [zX4_type_0, e_textAt0, qc_i, zX4_type_5b, zX4_type_10, e_isWithin, qc_i, zX4_type_18, decide_eq_true hu, q_bo_t, if_pos (by decide), zX4_type_24, zX2_hasRoom_0, b2, if_pos (by rw [hf]; decide), zX2_hasRoom_16, zX2_hasRoom_17, if_pos q_nb0, qc_i, zX4_type_28, if_neg (fun q => q rfl), zX4_type_31]
          · rw [zX5_type_0, m_in, qc_i, zX5_type_6, decide_eq_true h, q_bo_t, if_neg (by decide), zX5_type_9, m_in, qc_i, zX5_type_17, decide_eq_true hu, q_bo_t, if_pos (by decide), zX5_type_23, if_neg (by decide), show (0 : Int32).toNatClampNeg = 0 from rfl, hM1.2.1.1, zX5_type_29, if_neg (fun q => q rfl), zX5_type_33, zX5_type_40, if_neg (fun q => q (by rw [hf]; rfl)), zX5_type_43]
        · have hw1 : ∀ k, k ≠ 1 → k ≠ 2 → (q_up (q_up w 2 pl (nI n)) 1 1 (nI (pl + 1))) k = w k := fun k a b => by rw [q_up_ne _ _ _ a, q_up_ne _ _ _ b]
          have hB1 : q_XB (q_up (q_up w 2 pl (nI n)) 1 1 (nI (pl + 1))) sg (x_un pb pl n) wb sc sp si oc hb sz (pl + 1) wl ns mi ex fi fo it := by
            refine ⟨q_SG_c (hw1 12 (by decide) (by decide)) b1, ⟨by rw [q_up_at, pk_us], by omega, ?_⟩, q_WB_c (hw1 4 (by decide) (by decide)) (hw1 5 (by decide) (by decide)) b5, q_XL_c (hw1 8 (by decide) (by decide)) (hw1 9 (by decide) (by decide)) (hw1 10 (by decide) (by decide)) (hw1 11 (by decide) (by decide)) b6, q_CO_c (hw1 0 (by decide) (by decide)) b7, q_OC_c (hw1 14 (by decide) (by decide)) b8, q_HB_c (hw1 15 (by decide) (by decide)) b9, by rw [hw1 0 (by decide) (by decide)]; exact b10, q_XS_c (fun k h1 h2 => hw1 k (by omega) (by omega)) b11⟩
            intro j hj
            rw [q_up_ne _ _ _ (by decide), q_up_at]
            by_cases e : j = pl
            · rw [e, pk_us, x_un_s]; exact ⟨rfl, hn⟩
            · rw [pk_un e, x_un_n _ _ e]; exact b4 j (by omega)
          obtain ⟨w2, g1, g2, g3⟩ := x_layTexts hB1
          refine t_move (nI (pl + 1)) hM ⟨w2, g1, fun k hk => (g2 k (by omega) (by omega) (by omega) (by omega) (by omega)).trans (hw1 k (by omega) (by omega)), ?_⟩ (fun w1 hM1 => ?_)
          · rw [zX4_type_0, e_textAt0, qc_i, zX4_type_5b, zX4_type_10, e_isWithin, qc_i, zX4_type_18, decide_eq_true hu, q_bo_t, if_pos (by decide), zX4_type_24, zX2_hasRoom_0, b2, if_neg (show ¬ Int32.ofNat 24 ≤ nI pl from nI_ge (b := 24) (by omega) (by omega)), zX2_hasRoom_12, zX2_hasRoom_17, if_pos q_nb1, qc_i, zX4_type_28, if_pos (by decide), zX4_type_34, zX2_append_0, zX2_hasRoom_0, b2, if_neg (show ¬ Int32.ofNat 24 ≤ nI pl from nI_ge (b := 24) (by omega) (by omega)), zX2_hasRoom_12, zX2_hasRoom_17, if_pos q_nb1, qc_i, zX2_append_4, if_neg (by decide), zX2_append_7, b2, e_lay (n := 24) _ w rfl (by omega) (by omega), qc_v, zX2_append_19, q_up_ne w _ _ (show (1 : Nat) ≠ 2 by decide), b2, nI_1, zX2_append_29, qc_v, zX4_type_39, g3, qc_v, zX4_type_43, g2 1 (by decide) (by decide) (by decide) (by decide) (by decide), q_up_at, pk_us]
          · obtain ⟨c1, c2, c3, c4, c5, c6, c7, c8⟩ := hM1
            obtain ⟨t1, t2, t3, t4, t5, t6⟩ := c2
            have hw2 : ∀ k, k ≠ 29 → k ≠ 30 → (q_up (q_up w1 30 pl (nI n)) 29 0 (nI (pl + 1))) k = w1 k := fun k a b => by rw [q_up_ne _ _ _ a, q_up_ne _ _ _ b]
            refine ⟨q_up (q_up w1 30 pl (nI n)) 29 0 (nI (pl + 1)), ⟨q_MS_c (hw2 28 (by decide) (by decide)) c1, ⟨by rw [q_up_at, pk_us], by omega, ?_, t4, ?_, ?_⟩, q_ML_c (by rw [hw2 27 (by decide) (by decide)]) (hw2 35 (by decide) (by decide)) (hw2 36 (by decide) (by decide)) (hw2 37 (by decide) (by decide)) c3, q_MO_c (by rw [hw2 27 (by decide) (by decide)]) (by rw [hw2 27 (by decide) (by decide)]) c4, q_MOC_c (hw2 34 (by decide) (by decide)) c5, q_MH_c (hw2 40 (by decide) (by decide)) c6, by rw [hw2 27 (by decide) (by decide)]; exact c7, q_MSH_c (hw2 42 (by decide) (by decide)) (hw2 43 (by decide) (by decide)) (hw2 44 (by decide) (by decide)) (hw2 45 (by decide) (by decide)) c8⟩, fun k hk => hw2 k (by omega) (by omega), ?_⟩
            · rw [q_up_at, pk_un (by decide), q_up_ne _ _ _ (by decide)]; exact t3
            · intro j hj
              rw [q_up_ne _ _ _ (by decide), q_up_at]
              by_cases e : j = pl
              · rw [e, pk_us, x_un_s]; exact ⟨rfl, hn⟩
              · rw [pk_un e, x_un_n _ _ e]; exact t5 j (by omega)
            · intro j hj
              rw [q_up_ne _ _ _ (by decide), q_up_at, pk_un (by omega)]
              exact t6 j hj
            · rw [zX5_type_0, m_in, qc_i, zX5_type_6, decide_eq_true h, q_bo_t, if_neg (by decide), zX5_type_9, m_in, qc_i, zX5_type_17, decide_eq_true hu, q_bo_t, if_pos (by decide), zX5_type_23, if_neg (by decide), show (0 : Int32).toNatClampNeg = 0 from rfl, t1, zX5_type_29, if_neg (fun q => q rfl), zX5_type_33, zX5_type_40, if_pos (show ¬ nI pl = 24 from fun q => hf ((nI_eq (b := 24) (by omega) (by omega)).mp q)), zX5_type_46, if_neg (by decide), show (0 : Int32).toNatClampNeg = 0 from rfl, t1, zX5_type_60, show 60 * (0 : Int32) + nI pl = nI pl from Int32.zero_add _, if_neg (c_ok (by omega) (by omega)), nI_clamp (by omega), zX5_type_63, if_neg (by decide), show (0 : Int32).toNatClampNeg = 0 from rfl, q_up_ne _ _ _ (show (29 : Nat) ≠ 30 by decide), t1, zX5_type_70, if_neg (by decide), show (0 : Int32).toNatClampNeg = 0 from rfl, nI_1, zX5_type_73, if_neg (by decide), show (0 : Int32).toNatClampNeg = 0 from rfl, q_up_at, pk_us, zX5_type_79]
      · obtain ⟨d1, d2, d3⟩ := b5
        by_cases hf : wl = 60
        · refine t_ask (-4) hX hM ⟨w, q_GX_r w, ?_⟩ (fun w1 hM1 => ⟨w1, q_GM_r w1, ?_⟩)
          · rw [zX4_type_0, e_textAt1, qc_i, zX4_type_5c, zX4_type_10b, e_isWithin, qc_i, zX4_type_18b, decide_eq_true hu, q_bo_t, if_pos (by decide), zX4_type_24b, zX2_hasRoom_0b, d1, if_pos (by rw [hf]; decide), zX2_hasRoom_16b, zX2_hasRoom_17b, if_pos q_nb0, qc_i, zX4_type_28b, if_neg (fun q => q rfl), zX4_type_31b]
          · rw [zX5_type_0, m_in, qc_i, zX5_type_6, decide_eq_true h, q_bo_t, if_neg (by decide), zX5_type_9, m_in, qc_i, zX5_type_17, decide_eq_true hu, q_bo_t, if_pos (by decide), zX5_type_23, if_neg (by decide), show (1 : Int32).toNatClampNeg = 1 from rfl, hM1.2.1.2.2.1, zX5_type_29, if_pos (by decide), zX5_type_38, zX5_type_40, if_neg (fun q => q (by rw [hf]; rfl)), zX5_type_43]
        · have hw1 : ∀ k, k ≠ 4 → k ≠ 5 → (q_up (q_up w 5 wl (nI n)) 4 1 (nI (wl + 1))) k = w k := fun k a b => by rw [q_up_ne _ _ _ a, q_up_ne _ _ _ b]
          have hB1 : q_XB (q_up (q_up w 5 wl (nI n)) 4 1 (nI (wl + 1))) sg pb (x_un wb wl n) sc sp si oc hb sz pl (wl + 1) ns mi ex fi fo it := by
            refine ⟨q_SG_c (hw1 12 (by decide) (by decide)) b1, ⟨by rw [hw1 1 (by decide) (by decide)]; exact b2, b3, q_PB_c (hw1 2 (by decide) (by decide)) b4⟩, ⟨by rw [q_up_at, pk_us], by omega, ?_⟩, q_XL_c (hw1 8 (by decide) (by decide)) (hw1 9 (by decide) (by decide)) (hw1 10 (by decide) (by decide)) (hw1 11 (by decide) (by decide)) b6, q_CO_c (hw1 0 (by decide) (by decide)) b7, q_OC_c (hw1 14 (by decide) (by decide)) b8, q_HB_c (hw1 15 (by decide) (by decide)) b9, by rw [hw1 0 (by decide) (by decide)]; exact b10, q_XS_c (fun k h1 h2 => hw1 k (by omega) (by omega)) b11⟩
            intro j hj
            rw [q_up_ne _ _ _ (by decide), q_up_at]
            by_cases e : j = wl
            · rw [e, pk_us, x_un_s]; exact ⟨rfl, hn⟩
            · rw [pk_un e, x_un_n _ _ e]; exact d3 j (by omega)
          obtain ⟨w2, g1, g2, g3⟩ := x_layTexts hB1
          refine t_move (nI (wl + 1)) hM ⟨w2, g1, fun k hk => (g2 k (by omega) (by omega) (by omega) (by omega) (by omega)).trans (hw1 k (by omega) (by omega)), ?_⟩ (fun w1 hM1 => ?_)
          · rw [zX4_type_0, e_textAt1, qc_i, zX4_type_5c, zX4_type_10b, e_isWithin, qc_i, zX4_type_18b, decide_eq_true hu, q_bo_t, if_pos (by decide), zX4_type_24b, zX2_hasRoom_0b, d1, if_neg (show ¬ Int32.ofNat 60 ≤ nI wl from nI_ge (b := 60) (by omega) (by omega)), zX2_hasRoom_12b, zX2_hasRoom_17b, if_pos q_nb1, qc_i, zX4_type_28b, if_pos (by decide), zX4_type_34b, zX2_append_0b, zX2_hasRoom_0b, d1, if_neg (show ¬ Int32.ofNat 60 ≤ nI wl from nI_ge (b := 60) (by omega) (by omega)), zX2_hasRoom_12b, zX2_hasRoom_17b, if_pos q_nb1, qc_i, zX2_append_4b, if_neg (by decide), zX2_append_7b, d1, e_lay (n := 60) _ w rfl (by omega) (by omega), qc_v, zX2_append_19b, q_up_ne w _ _ (show (4 : Nat) ≠ 5 by decide), d1, nI_1, zX2_append_29b, qc_v, zX4_type_39b, g3, qc_v, zX4_type_43b, g2 4 (by decide) (by decide) (by decide) (by decide) (by decide), q_up_at, pk_us]
          · obtain ⟨c1, c2, c3, c4, c5, c6, c7, c8⟩ := hM1
            obtain ⟨t1, t2, t3, t4, t5, t6⟩ := c2
            have hw2 : ∀ k, k ≠ 29 → k ≠ 30 → (q_up (q_up w1 30 (60 + wl) (nI n)) 29 1 (nI (wl + 1))) k = w1 k := fun k a b => by rw [q_up_ne _ _ _ a, q_up_ne _ _ _ b]
            refine ⟨q_up (q_up w1 30 (60 + wl) (nI n)) 29 1 (nI (wl + 1)), ⟨q_MS_c (hw2 28 (by decide) (by decide)) c1, ⟨?_, t2, by rw [q_up_at, pk_us], by omega, ?_, ?_⟩, q_ML_c (by rw [hw2 27 (by decide) (by decide)]) (hw2 35 (by decide) (by decide)) (hw2 36 (by decide) (by decide)) (hw2 37 (by decide) (by decide)) c3, q_MO_c (by rw [hw2 27 (by decide) (by decide)]) (by rw [hw2 27 (by decide) (by decide)]) c4, q_MOC_c (hw2 34 (by decide) (by decide)) c5, q_MH_c (hw2 40 (by decide) (by decide)) c6, by rw [hw2 27 (by decide) (by decide)]; exact c7, q_MSH_c (hw2 42 (by decide) (by decide)) (hw2 43 (by decide) (by decide)) (hw2 44 (by decide) (by decide)) (hw2 45 (by decide) (by decide)) c8⟩, fun k hk => hw2 k (by omega) (by omega), ?_⟩
            · rw [q_up_at, pk_un (by decide), q_up_ne _ _ _ (by decide)]; exact t1
            · intro j hj
              rw [q_up_ne _ _ _ (by decide), q_up_at, pk_un (by omega)]
              exact t5 j hj
            · intro j hj
              rw [q_up_ne _ _ _ (by decide), q_up_at]
              by_cases e : j = wl
              · rw [e, pk_us, x_un_s]; exact ⟨rfl, hn⟩
              · rw [pk_un (by omega), x_un_n _ _ e]; exact t6 j (by omega)
            · rw [zX5_type_0, m_in, qc_i, zX5_type_6, decide_eq_true h, q_bo_t, if_neg (by decide), zX5_type_9, m_in, qc_i, zX5_type_17, decide_eq_true hu, q_bo_t, if_pos (by decide), zX5_type_23, if_neg (by decide), show (1 : Int32).toNatClampNeg = 1 from rfl, t3, zX5_type_29, if_pos (by decide), zX5_type_38, zX5_type_40, if_pos (show ¬ nI wl = 60 from fun q => hf ((nI_eq (b := 60) (by omega) (by omega)).mp q)), zX5_type_46, if_neg (by decide), show (1 : Int32).toNatClampNeg = 1 from rfl, t3, zX5_type_60, show 60 * (1 : Int32) + nI wl = nI (60 + wl) from q_lit60 1 wl, if_neg (c_ok (by omega) (by omega)), nI_clamp (by omega), zX5_type_63, if_neg (by decide), show (1 : Int32).toNatClampNeg = 1 from rfl, q_up_ne _ _ _ (show (29 : Nat) ≠ 30 by decide), t3, zX5_type_70, if_neg (by decide), show (1 : Int32).toNatClampNeg = 1 from rfl, nI_1, zX5_type_73, if_neg (by decide), show (1 : Int32).toNatClampNeg = 1 from rfl, q_up_at, pk_us, zX5_type_79]
    · refine t_ask (-2) hX hM ⟨w, q_GX_r w, ?_⟩ (fun w1 hM1 => ⟨w1, q_GM_r w1, ?_⟩)
      · rcases q_01 h with rfl | rfl
        · rw [zX4_type_0, e_textAt0, qc_i, zX4_type_5b, zX4_type_10, e_isWithin, qc_i, zX4_type_18, decide_eq_false hu, q_bo_f, if_neg (fun q => q rfl), zX4_type_21b]
        · rw [zX4_type_0, e_textAt1, qc_i, zX4_type_5c, zX4_type_10b, e_isWithin, qc_i, zX4_type_18b, decide_eq_false hu, q_bo_f, if_neg (fun q => q rfl), zX4_type_21c]
      · rw [zX5_type_0, m_in, qc_i, zX5_type_6, decide_eq_true h, q_bo_t, if_neg (by decide), zX5_type_9, m_in, qc_i, zX5_type_17, decide_eq_false hu, q_bo_f, if_neg (fun q => q rfl), zX5_type_20]
  · refine t_ask (-2) hX hM ⟨w, q_GX_r w, ?_⟩ (fun w1 hM1 => ⟨w1, q_GM_r w1, ?_⟩)
    · rw [zX4_type_0, e_textAtN h, qc_i, zX4_type_5, zX4_type_21]
    · rw [zX5_type_0, m_in, qc_i, zX5_type_6, decide_eq_false h, q_bo_f, if_pos rfl, zX5_type_20]
theorem p_wipe (hX : q_X w sg pb wb sc sp si oc hb sz pl wl ns mi ex fi fo it) (hM : q_MB w sg pb wb sc sp si oc hb sz pl wl ns mi ex fi fo it) (v : Int32) : q_same w (qe iX4_wipe 0 [some (.ref 0), some (.int v), none, none] []) (qe iX5_wipe 0 [some (.ref 27), some (.int v), none] []) := by
  obtain ⟨b1, ⟨b2, b3, b4⟩, b5, b6, b7, b8, b9, b10, b11⟩ := hX.1
  by_cases h : 0 ≤ v ∧ v ≤ 1
  · rcases q_01 h with rfl | rfl
    · have hw1 : ∀ k, k ≠ 1 → (q_up w 1 1 0) k = w k := fun k a => q_up_ne _ _ _ a
      have hB1 : q_XB (q_up w 1 1 0) sg pb wb sc sp si oc hb sz (0) wl ns mi ex fi fo it := ⟨q_SG_c (hw1 12 (by decide)) b1, ⟨by rw [q_up_at, pk_us]; rfl, by omega, fun j hj => by omega⟩, q_WB_c (hw1 4 (by decide)) (hw1 5 (by decide)) b5, q_XL_c (hw1 8 (by decide)) (hw1 9 (by decide)) (hw1 10 (by decide)) (hw1 11 (by decide)) b6, q_CO_c (hw1 0 (by decide)) b7, q_OC_c (hw1 14 (by decide)) b8, q_HB_c (hw1 15 (by decide)) b9, by rw [hw1 0 (by decide)]; exact b10, q_XS_c (fun k h1 h2 => hw1 k (by omega)) b11⟩
      obtain ⟨w2, g1, g2, g3⟩ := x_layTexts hB1
      refine t_move (nI pl) hM ⟨w2, g1, fun k hk => (g2 k (by omega) (by omega) (by omega) (by omega) (by omega)).trans (hw1 k (by omega)), ?_⟩ (fun w1 hM1 => ?_)
      · rw [zX4_wipe_0, e_textAt0, qc_i, zX4_wipe_5b, zX4_wipe_13, g3, qc_v, zX4_wipe_27, b2]
      · obtain ⟨c1, c2, c3, c4, c5, c6, c7, c8⟩ := hM1
        obtain ⟨t1, t2, t3, t4, t5, t6⟩ := c2
        have hw2 : ∀ k, k ≠ 29 → (q_up w1 29 0 0) k = w1 k := fun k a => q_up_ne _ _ _ a
        refine ⟨q_up w1 29 0 0, ⟨q_MS_c (hw2 28 (by decide)) c1, ⟨by rw [q_up_at, pk_us]; rfl, by omega, ?_, t4, fun j hj => by omega, ?_⟩, q_ML_c (by rw [hw2 27 (by decide)]) (hw2 35 (by decide)) (hw2 36 (by decide)) (hw2 37 (by decide)) c3, q_MO_c (by rw [hw2 27 (by decide)]) (by rw [hw2 27 (by decide)]) c4, q_MOC_c (hw2 34 (by decide)) c5, q_MH_c (hw2 40 (by decide)) c6, by rw [hw2 27 (by decide)]; exact c7, q_MSH_c (hw2 42 (by decide)) (hw2 43 (by decide)) (hw2 44 (by decide)) (hw2 45 (by decide)) c8⟩, fun k hk => hw2 k (by omega), ?_⟩
        · rw [q_up_at, pk_un (by decide)]; exact t3
        · rw [hw2 30 (by decide)]; exact t6
        · rw [zX5_wipe_0, m_in, qc_i, zX5_wipe_6, decide_eq_true h, q_bo_t, if_pos (by decide), zX5_wipe_12, if_neg (by decide), show (0 : Int32).toNatClampNeg = 0 from rfl, t1, zX5_wipe_18, if_neg (by decide), show (0 : Int32).toNatClampNeg = 0 from rfl, zX5_wipe_26]
    · obtain ⟨d1, d2, d3⟩ := b5
      have hw1 : ∀ k, k ≠ 4 → (q_up w 4 1 0) k = w k := fun k a => q_up_ne _ _ _ a
      have hB1 : q_XB (q_up w 4 1 0) sg pb wb sc sp si oc hb sz pl (0) ns mi ex fi fo it := ⟨q_SG_c (hw1 12 (by decide)) b1, ⟨by rw [hw1 1 (by decide)]; exact b2, b3, q_PB_c (hw1 2 (by decide)) b4⟩, ⟨by rw [q_up_at, pk_us]; rfl, by omega, fun j hj => by omega⟩, q_XL_c (hw1 8 (by decide)) (hw1 9 (by decide)) (hw1 10 (by decide)) (hw1 11 (by decide)) b6, q_CO_c (hw1 0 (by decide)) b7, q_OC_c (hw1 14 (by decide)) b8, q_HB_c (hw1 15 (by decide)) b9, by rw [hw1 0 (by decide)]; exact b10, q_XS_c (fun k h1 h2 => hw1 k (by omega)) b11⟩
      obtain ⟨w2, g1, g2, g3⟩ := x_layTexts hB1
      refine t_move (nI wl) hM ⟨w2, g1, fun k hk => (g2 k (by omega) (by omega) (by omega) (by omega) (by omega)).trans (hw1 k (by omega)), ?_⟩ (fun w1 hM1 => ?_)
      · rw [zX4_wipe_0, e_textAt1, qc_i, zX4_wipe_5c, zX4_wipe_13b, g3, qc_v, zX4_wipe_27b, d1]
      · obtain ⟨c1, c2, c3, c4, c5, c6, c7, c8⟩ := hM1
        obtain ⟨t1, t2, t3, t4, t5, t6⟩ := c2
        have hw2 : ∀ k, k ≠ 29 → (q_up w1 29 1 0) k = w1 k := fun k a => q_up_ne _ _ _ a
        refine ⟨q_up w1 29 1 0, ⟨q_MS_c (hw2 28 (by decide)) c1, ⟨?_, t2, by rw [q_up_at, pk_us]; rfl, by omega, ?_, fun j hj => by omega⟩, q_ML_c (by rw [hw2 27 (by decide)]) (hw2 35 (by decide)) (hw2 36 (by decide)) (hw2 37 (by decide)) c3, q_MO_c (by rw [hw2 27 (by decide)]) (by rw [hw2 27 (by decide)]) c4, q_MOC_c (hw2 34 (by decide)) c5, q_MH_c (hw2 40 (by decide)) c6, by rw [hw2 27 (by decide)]; exact c7, q_MSH_c (hw2 42 (by decide)) (hw2 43 (by decide)) (hw2 44 (by decide)) (hw2 45 (by decide)) c8⟩, fun k hk => hw2 k (by omega), ?_⟩
        · rw [q_up_at, pk_un (by decide)]; exact t1
        · rw [hw2 30 (by decide)]; exact t5
        · rw [zX5_wipe_0, m_in, qc_i, zX5_wipe_6, decide_eq_true h, q_bo_t, if_pos (by decide), zX5_wipe_12, if_neg (by decide), show (1 : Int32).toNatClampNeg = 1 from rfl, t3, zX5_wipe_18, if_neg (by decide), show (1 : Int32).toNatClampNeg = 1 from rfl, zX5_wipe_26]
  · refine t_ask (-2) hX hM ⟨w, q_GX_r w, ?_⟩ (fun w1 hM1 => ⟨w1, q_GM_r w1, ?_⟩)
    · rw [zX4_wipe_0, e_textAtN h, qc_i, zX4_wipe_5, zX4_wipe_10]
    · rw [zX5_wipe_0, m_in, qc_i, zX5_wipe_6, decide_eq_false h, q_bo_f, if_neg (fun q => q rfl), zX5_wipe_9]
end R53
