/-! sign, slip, undo, set, often, hand -/
section R54
variable {w w' : qW} {sg pb wb sc sp si oc hb sz : Nat → Nat} {pl wl ns mi ex : Nat} {fi : Int32} {fo : Nat → Int32} {it : Nat → Nat → Int32}
theorem q_sgn {u : Int32} (h : 1 ≤ u ∧ u ≤ 63) : ∃ n, 1 ≤ n ∧ n < 64 ∧ u = nI n := by
  have h0 : ¬ u < 0 := fun q => by
    have a := Int32.lt_iff_toInt_lt.mp q
    have b := Int32.le_iff_toInt_le.mp h.1
    have c1 : (1 : Int32).toInt = 1 := rfl
    have c0 : (0 : Int32).toInt = 0 := rfl
    omega
  obtain ⟨n, hn, rfl⟩ := nI_of2 (M := 63) (n := 63) (by decide) h0 h.2
  have b := Int32.le_iff_toInt_le.mp h.1
  rw [nI_toInt (by omega)] at b
  have c1 : (1 : Int32).toInt = 1 := rfl
  exact ⟨n, by omega, by omega, rfl⟩
theorem q_upto {u : Int32} {M : Int32} (m : Nat) (hM : M.toInt = m) (h : 0 ≤ u ∧ u ≤ M) : ∃ n, n ≤ m ∧ u = nI n := nI_of2 hM (Int32.not_lt.mpr h.1) h.2
theorem x_un_SG {l n : Nat} (hS : q_SG w sg) (h1 : 1 ≤ n) (h2 : n < 64) : q_SG (q_up w 12 l (nI n)) (x_un sg l n) := by
  intro j hj
  rw [q_up_at]
  by_cases e : j = l
  · rw [e, pk_us, x_un_s]; exact ⟨rfl, h1, h2⟩
  · rw [pk_un e, x_un_n _ _ e]; exact hS j hj
theorem x_un_MS {l n : Nat} (hS : q_MS w sg) (h1 : 1 ≤ n) (h2 : n < 64) : q_MS (q_up w 28 l (nI n)) (x_un sg l n) := by
  intro j hj
  rw [q_up_at]
  by_cases e : j = l
  · rw [e, pk_us, x_un_s]; exact ⟨rfl, h1, h2⟩
  · rw [pk_un e, x_un_n _ _ e]; exact hS j hj
/-- one sign anew, in what is told -/
theorem x_XB_sg {sg' : Nat → Nat} (h : ∀ k, k ≠ 12 → w' k = w k) (hS : q_SG w' sg') (hB : q_XB w sg pb wb sc sp si oc hb sz pl wl ns mi ex fi fo it) : q_XB w' (sg') pb wb sc sp si oc hb sz pl wl ns mi ex fi fo it := by
  obtain ⟨b1, ⟨b2, b3, b4⟩, b5, b6, b7, b8, b9, b10, b11⟩ := hB
  exact ⟨hS, ⟨by rw [h 1 (by decide)]; exact b2, b3, q_PB_c (h 2 (by decide)) b4⟩, q_WB_c (h 4 (by decide)) (h 5 (by decide)) b5, q_XL_c (h 8 (by decide)) (h 9 (by decide)) (h 10 (by decide)) (h 11 (by decide)) b6, q_CO_c (h 0 (by decide)) b7, q_OC_c (h 14 (by decide)) b8, q_HB_c (h 15 (by decide)) b9, by rw [h 0 (by decide)]; exact b10, q_XS_c (fun k h1 h2 => h k (by omega)) b11⟩
theorem x_MB_sg {sg' : Nat → Nat} (h : ∀ k, k ≠ 28 → w' k = w k) (hS : q_MS w' sg') (hM : q_MB w sg pb wb sc sp si oc hb sz pl wl ns mi ex fi fo it) : q_MB w' (sg') pb wb sc sp si oc hb sz pl wl ns mi ex fi fo it := by
  obtain ⟨c1, c2, c3, c4, c5, c6, c7, c8⟩ := hM
  exact ⟨hS, q_MT_c (h 29 (by decide)) (h 30 (by decide)) c2, q_ML_c (by rw [h 27 (by decide)]) (h 35 (by decide)) (h 36 (by decide)) (h 37 (by decide)) c3, q_MO_c (by rw [h 27 (by decide)]) (by rw [h 27 (by decide)]) c4, q_MOC_c (h 34 (by decide)) c5, q_MH_c (h 40 (by decide)) c6, by rw [h 27 (by decide)]; exact c7, q_MSH_c (h 42 (by decide)) (h 43 (by decide)) (h 44 (by decide)) (h 45 (by decide)) c8⟩
theorem p_sign (hX : q_X w sg pb wb sc sp si oc hb sz pl wl ns mi ex fi fo it) (hM : q_MB w sg pb wb sc sp si oc hb sz pl wl ns mi ex fi fo it) (v u : Int32) : q_same w (qe iX4_sign 0 [some (.ref 0), some (.int v), some (.int u), none] []) (qe iX5_sign 0 [some (.ref 27), some (.int v), some (.int u), none] []) := by
  by_cases h : 0 ≤ v ∧ v ≤ 9
  · by_cases hu : 1 ≤ u ∧ u ≤ 63
    · obtain ⟨l, hl, rfl⟩ := q_upto 9 rfl h
      obtain ⟨n, n1, n2, rfl⟩ := q_sgn hu
      have e12 : ∀ k, k ≠ 12 → (q_up w 12 l (nI n)) k = w k := fun k a => q_up_ne _ _ _ a
      obtain ⟨w2, g1, g2, g3, g4⟩ := x_layCells (x_XB_sg e12 (x_un_SG (l := l) hX.1.1 n1 n2) hX.1) (q_WD_c (e12 3 (by decide)) (e12 7 (by decide)) (e12 6 (by decide)) hX.2.2.1) (by rw [e12 3 (by decide)]; exact hX.2.2.2)
      refine t_move (nI (sg l)) hM ⟨w2, g1, fun k hk => (g2 k (by omega) (by omega)).trans (e12 k (by omega)), ?_⟩ (fun w1 hM1 => ?_)
      · rw [zX4_sign_0, e_isWithin, qc_i, zX4_sign_7, decide_eq_true h, q_bo_t, if_neg (by decide), zX4_sign_10, e_isSign, qc_i, zX4_sign_14, decide_eq_true hu, q_bo_t, if_pos (by decide), zX4_sign_20, e_at (n := 10) w rfl (by omega) (by omega), qc_i, zX4_sign_28, e_lay (n := 10) _ w rfl (by omega) (by omega), qc_v, zX4_sign_38, g4, qc_v, zX4_sign_42, (hX.1.1 l (by omega)).1]
      · refine ⟨q_up w1 28 l (nI n), x_MB_sg (fun k a => q_up_ne _ _ _ a) (x_un_MS (l := l) hM1.1 n1 n2) hM1, fun k hk => q_up_ne _ _ _ (by omega), ?_⟩
        rw [zX5_sign_0, m_in, qc_i, zX5_sign_7, decide_eq_true h, q_bo_t, if_neg (by decide), zX5_sign_10, m_in, qc_i, zX5_sign_17, decide_eq_true hu, q_bo_t, if_pos (by decide), zX5_sign_23, if_neg (c_ok (by omega) (by omega)), nI_clamp (by omega), zX5_sign_29, if_neg (c_ok (by omega) (by omega)), nI_clamp (by omega), zX5_sign_37, (hM1.1 l (by omega)).1]
    · refine t_ask (-2) hX hM ⟨w, q_GX_r w, ?_⟩ (fun w1 hM1 => ⟨w1, q_GM_r w1, ?_⟩)
      · rw [zX4_sign_0, e_isWithin, qc_i, zX4_sign_7, decide_eq_true h, q_bo_t, if_neg (by decide), zX4_sign_10, e_isSign, qc_i, zX4_sign_14, decide_eq_false hu, q_bo_f, if_neg (fun q => q rfl), zX4_sign_17]
      · rw [zX5_sign_0, m_in, qc_i, zX5_sign_7, decide_eq_true h, q_bo_t, if_neg (by decide), zX5_sign_10, m_in, qc_i, zX5_sign_17, decide_eq_false hu, q_bo_f, if_neg (fun q => q rfl), zX5_sign_20]
  · refine t_ask (-2) hX hM ⟨w, q_GX_r w, ?_⟩ (fun w1 hM1 => ⟨w1, q_GM_r w1, ?_⟩)
    · rw [zX4_sign_0, e_isWithin, qc_i, zX4_sign_7, decide_eq_false h, q_bo_f, if_pos rfl, zX4_sign_17]
    · rw [zX5_sign_0, m_in, qc_i, zX5_sign_7, decide_eq_false h, q_bo_f, if_pos rfl, zX5_sign_20]
theorem x_XB_sl {ns' : Nat} {sc' sp' si' : Nat → Nat} (h : ∀ k, k ≠ 8 → k ≠ 9 → k ≠ 10 → k ≠ 11 → w' k = w k) (hL : q_XL w' ns' sc' sp' si') (hB : q_XB w sg pb wb sc sp si oc hb sz pl wl ns mi ex fi fo it) : q_XB w' sg pb wb (sc') (sp') (si') oc hb sz pl wl (ns') mi ex fi fo it := by
  obtain ⟨b1, ⟨b2, b3, b4⟩, b5, b6, b7, b8, b9, b10, b11⟩ := hB
  have e : ∀ k, k < 8 ∨ 11 < k → w' k = w k := fun k hk => h k (by omega) (by omega) (by omega) (by omega)
  exact ⟨q_SG_c (e 12 (by decide)) b1, ⟨by rw [e 1 (by decide)]; exact b2, b3, q_PB_c (e 2 (by decide)) b4⟩, q_WB_c (e 4 (by decide)) (e 5 (by decide)) b5, hL, q_CO_c (e 0 (by decide)) b7, q_OC_c (e 14 (by decide)) b8, q_HB_c (e 15 (by decide)) b9, by rw [e 0 (by decide)]; exact b10, q_XS_c (fun k h1 h2 => e k (by omega)) b11⟩
theorem x_MB_sl {ns' : Nat} {sc' sp' si' : Nat → Nat} (h : ∀ k, k ≠ 27 → k ≠ 35 → k ≠ 36 → k ≠ 37 → w' k = w k) (h27 : ∀ j, j ≠ 11 → w' 27 j = w 27 j) (hL : q_ML w' ns' sc' sp' si') (hM : q_MB w sg pb wb sc sp si oc hb sz pl wl ns mi ex fi fo it) : q_MB w' sg pb wb (sc') (sp') (si') oc hb sz pl wl (ns') mi ex fi fo it := by
  obtain ⟨c1, c2, c3, c4, c5, c6, c7, c8⟩ := hM
  have e : ∀ k, k ≠ 27 → (k < 35 ∨ 37 < k) → w' k = w k := fun k hk h2 => h k hk (by omega) (by omega) (by omega)
  exact ⟨q_MS_c (e 28 (by decide) (by decide)) c1, q_MT_c (e 29 (by decide) (by decide)) (e 30 (by decide) (by decide)) c2, hL, q_MO_c (h27 8 (by decide)) (h27 9 (by decide)) c4, q_MOC_c (e 34 (by decide) (by decide)) c5, q_MH_c (e 40 (by decide) (by decide)) c6, by rw [h27 24 (by decide)]; exact c7, q_MSH_c (e 42 (by decide) (by decide)) (e 43 (by decide) (by decide)) (e 44 (by decide) (by decide)) (e 45 (by decide) (by decide)) c8⟩
theorem p_slip (hX : q_X w sg pb wb sc sp si oc hb sz pl wl ns mi ex fi fo it) (hM : q_MB w sg pb wb sc sp si oc hb sz pl wl ns mi ex fi fo it) (v u t : Int32) : q_same w (qe iX4_slip 0 [some (.ref 0), some (.int v), some (.int u), some (.int t)] []) (qe iX5_slip 0 [some (.ref 27), some (.int v), some (.int u), some (.int t)] []) := by
  obtain ⟨L1, L2, L3⟩ := hX.1.2.2.2.1
  by_cases h : 0 ≤ v ∧ v ≤ 23
  · by_cases hu : 0 ≤ u ∧ u ≤ 5
    · by_cases ht : 0 ≤ t ∧ t ≤ 1
      · by_cases hf : ns = 12
        · refine t_ask (-4) hX hM ⟨w, q_GX_r w, ?_⟩ (fun w1 hM1 => ⟨w1, q_GM_r w1, ?_⟩)
          · rw [zX4_slip_0, e_isWithin, qc_i, zX4_slip_7, decide_eq_true h, q_bo_t, if_neg (by decide), zX4_slip_10, e_isWithin, qc_i, zX4_slip_16, decide_eq_true hu, q_bo_t, if_neg (by decide), zX4_slip_19, e_isWithin, qc_i, zX4_slip_25, decide_eq_true ht, q_bo_t, if_pos (by decide), zX4_slip_31, L1, if_neg (by rw [hf]; decide), zX4_slip_43]
          · rw [zX5_slip_0, m_in, qc_i, zX5_slip_7, decide_eq_true h, q_bo_t, if_neg (by decide), zX5_slip_10, m_in, qc_i, zX5_slip_16, decide_eq_true hu, q_bo_t, if_neg (by decide), zX5_slip_19, m_in, qc_i, zX5_slip_25, decide_eq_true ht, q_bo_t, if_pos (by decide), zX5_slip_31, hM1.2.2.1.1, if_neg (fun q => q (by rw [hf]; rfl)), zX5_slip_40]
        · obtain ⟨a, ha, rfl⟩ := q_upto 23 rfl h
          obtain ⟨p, hp, rfl⟩ := q_upto 5 rfl hu
          obtain ⟨b, hb2, rfl⟩ := q_upto 1 rfl ht
          have hns : ns < 12 := by omega
          generalize hw1 : q_up (q_up (q_up (q_up w 9 ns (nI a)) 10 ns (nI p)) 11 ns (nI b)) 8 3 (nI (ns + 1)) = w1
          have f : ∀ k, k ≠ 8 → k ≠ 9 → k ≠ 10 → k ≠ 11 → w1 k = w k := fun k h8 h9 h10 h11 => by rw [← hw1, q_up_ne _ _ _ h8, q_up_ne _ _ _ h11, q_up_ne _ _ _ h10, q_up_ne _ _ _ h9]
          have f8 : w1 8 3 = nI (ns + 1) := by rw [← hw1, q_up_at, pk_us]
          have f9 : w1 9 = upd (w 9) ns (nI a) := by rw [← hw1, q_up_ne _ _ _ (by decide), q_up_ne _ _ _ (by decide), q_up_ne _ _ _ (by decide), q_up_at]
          have f10 : w1 10 = upd (w 10) ns (nI p) := by rw [← hw1, q_up_ne _ _ _ (by decide), q_up_ne _ _ _ (by decide), q_up_at, q_up_ne _ _ _ (by decide)]
          have f11 : w1 11 = upd (w 11) ns (nI b) := by rw [← hw1, q_up_ne _ _ _ (by decide), q_up_at, q_up_ne _ _ _ (by decide), q_up_ne _ _ _ (by decide)]
          have hL1 : q_XL w1 (ns + 1) (x_un sc ns a) (x_un sp ns p) (x_un si ns b) := by
            refine ⟨f8, by omega, fun k hk => ?_⟩
            rw [f9, f10, f11]
            by_cases e : k = ns
            · rw [e, pk_us, pk_us, pk_us, x_un_s, x_un_s, x_un_s]
              exact ⟨rfl, by omega, rfl, by omega, rfl, hb2⟩
            · rw [pk_un e, pk_un e, pk_un e, x_un_n _ _ e, x_un_n _ _ e, x_un_n _ _ e]
              exact L3 k (by omega)
          obtain ⟨w2, g1, g2, g3, g4⟩ := x_layCells (x_XB_sl f hL1 hX.1) (q_WD_c (f 3 (by decide) (by decide) (by decide) (by decide)) (f 7 (by decide) (by decide) (by decide) (by decide)) (f 6 (by decide) (by decide) (by decide) (by decide)) hX.2.2.1) (by rw [f 3 (by decide) (by decide) (by decide) (by decide)]; exact hX.2.2.2)
          refine t_move (nI (ns + 1)) hM ⟨w2, g1, fun k hk => (g2 k (by omega) (by omega)).trans (f k (by omega) (by omega) (by omega) (by omega)), ?_⟩ (fun wm hM1 => ?_)
          · rw [zX4_slip_0, e_isWithin, qc_i, zX4_slip_7, decide_eq_true h, q_bo_t, if_neg (by decide), zX4_slip_10, e_isWithin, qc_i, zX4_slip_16, decide_eq_true hu, q_bo_t, if_neg (by decide), zX4_slip_19, e_isWithin, qc_i, zX4_slip_25, decide_eq_true ht, q_bo_t, if_pos (by decide), zX4_slip_31, L1, if_pos (show nI ns < 12 from nI_lt (b := 12) hns (by omega)), zX4_slip_46, zX1_add_0, L1, if_neg (show ¬ (12 : Int32) ≤ nI ns from nI_ge (b := 12) hns (by omega)), zX1_add_9, L1, e_lay (n := 12) _ w rfl hns (by omega), qc_v, zX1_add_21, q_up_ne _ _ _ (show (8 : Nat) ≠ 9 by decide), L1, e_lay (n := 12) _ _ rfl hns (by omega), qc_v, zX1_add_33, q_up_ne _ _ _ (show (8 : Nat) ≠ 10 by decide), q_up_ne _ _ _ (show (8 : Nat) ≠ 9 by decide), L1, e_lay (n := 12) _ _ rfl hns (by omega), qc_v, zX1_add_45, q_up_ne _ _ _ (show (8 : Nat) ≠ 11 by decide), q_up_ne _ _ _ (show (8 : Nat) ≠ 10 by decide), q_up_ne _ _ _ (show (8 : Nat) ≠ 9 by decide), L1, nI_1, zX1_add_55, hw1, qc_v, zX4_slip_56, g4, qc_v, zX4_slip_60, g2 8 (by decide) (by decide), f8]
          · obtain ⟨M1, M2, M3⟩ := hM1.2.2.1
            generalize hv1 : q_up (q_up (q_up (q_up wm 35 ns (nI a)) 36 ns (nI p)) 37 ns (nI b)) 27 11 (nI (ns + 1)) = v1
            have k0 : ∀ k, k ≠ 27 → k ≠ 35 → k ≠ 36 → k ≠ 37 → v1 k = wm k := fun k h8 h9 h10 h11 => by rw [← hv1, q_up_ne _ _ _ h8, q_up_ne _ _ _ h11, q_up_ne _ _ _ h10, q_up_ne _ _ _ h9]
            have k27 : v1 27 = upd (wm 27) 11 (nI (ns + 1)) := by rw [← hv1, q_up_at, q_up_ne _ _ _ (by decide), q_up_ne _ _ _ (by decide), q_up_ne _ _ _ (by decide)]
            have k35 : v1 35 = upd (wm 35) ns (nI a) := by rw [← hv1, q_up_ne _ _ _ (by decide), q_up_ne _ _ _ (by decide), q_up_ne _ _ _ (by decide), q_up_at]
            have k36 : v1 36 = upd (wm 36) ns (nI p) := by rw [← hv1, q_up_ne _ _ _ (by decide), q_up_ne _ _ _ (by decide), q_up_at, q_up_ne _ _ _ (by decide)]
            have k37 : v1 37 = upd (wm 37) ns (nI b) := by rw [← hv1, q_up_ne _ _ _ (by decide), q_up_at, q_up_ne _ _ _ (by decide), q_up_ne _ _ _ (by decide)]
            refine ⟨v1, x_MB_sl k0 (fun j hj => by rw [k27, pk_un hj]) ⟨by rw [k27, pk_us], by omega, fun k hk => ?_⟩ hM1, fun k hk => k0 k (by omega) (by omega) (by omega) (by omega), ?_⟩
            · rw [k35, k36, k37]
              by_cases e : k = ns
              · rw [e, pk_us, pk_us, pk_us, x_un_s, x_un_s, x_un_s]
                exact ⟨rfl, by omega, rfl, by omega, rfl, hb2⟩
              · rw [pk_un e, pk_un e, pk_un e, x_un_n _ _ e, x_un_n _ _ e, x_un_n _ _ e]
                exact M3 k (by omega)
            · rw [zX5_slip_0, m_in, qc_i, zX5_slip_7, decide_eq_true h, q_bo_t, if_neg (by decide), zX5_slip_10, m_in, qc_i, zX5_slip_16, decide_eq_true hu, q_bo_t, if_neg (by decide), zX5_slip_19, m_in, qc_i, zX5_slip_25, decide_eq_true ht, q_bo_t, if_pos (by decide), zX5_slip_31, M1, if_pos (show ¬ nI ns = 12 from fun q => hf ((nI_eq (b := 12) (by omega) (by omega)).mp q)), zX5_slip_43, M1, if_neg (c_ok hns (by omega)), nI_clamp (by omega), zX5_slip_53, q_up_ne _ _ _ (show (27 : Nat) ≠ 35 by decide), M1, if_neg (c_ok hns (by omega)), nI_clamp (by omega), zX5_slip_63, q_up_ne _ _ _ (show (27 : Nat) ≠ 36 by decide), q_up_ne _ _ _ (show (27 : Nat) ≠ 35 by decide), M1, if_neg (c_ok hns (by omega)), nI_clamp (by omega), zX5_slip_73, q_up_ne (q_up (q_up wm 35 ns (nI a)) 36 ns (nI p)) _ _ (show (27 : Nat) ≠ 37 by decide), q_up_ne (q_up wm 35 ns (nI a)) _ _ (show (27 : Nat) ≠ 36 by decide), q_up_ne wm _ _ (show (27 : Nat) ≠ 35 by decide), M1, nI_1, hv1, k27, pk_us]
      · refine t_ask (-2) hX hM ⟨w, q_GX_r w, ?_⟩ (fun w1 hM1 => ⟨w1, q_GM_r w1, ?_⟩)
        · rw [zX4_slip_0, e_isWithin, qc_i, zX4_slip_7, decide_eq_true h, q_bo_t, if_neg (by decide), zX4_slip_10, e_isWithin, qc_i, zX4_slip_16, decide_eq_true hu, q_bo_t, if_neg (by decide), zX4_slip_19, e_isWithin, qc_i, zX4_slip_25, decide_eq_false ht, q_bo_f, if_neg (fun q => q rfl), zX4_slip_28]
        · rw [zX5_slip_0, m_in, qc_i, zX5_slip_7, decide_eq_true h, q_bo_t, if_neg (by decide), zX5_slip_10, m_in, qc_i, zX5_slip_16, decide_eq_true hu, q_bo_t, if_neg (by decide), zX5_slip_19, m_in, qc_i, zX5_slip_25, decide_eq_false ht, q_bo_f, if_neg (fun q => q rfl), zX5_slip_28]
    · refine t_ask (-2) hX hM ⟨w, q_GX_r w, ?_⟩ (fun w1 hM1 => ⟨w1, q_GM_r w1, ?_⟩)
      · rw [zX4_slip_0, e_isWithin, qc_i, zX4_slip_7, decide_eq_true h, q_bo_t, if_neg (by decide), zX4_slip_10, e_isWithin, qc_i, zX4_slip_16, decide_eq_false hu, q_bo_f, if_pos rfl, zX4_slip_28]
      · rw [zX5_slip_0, m_in, qc_i, zX5_slip_7, decide_eq_true h, q_bo_t, if_neg (by decide), zX5_slip_10, m_in, qc_i, zX5_slip_16, decide_eq_false hu, q_bo_f, if_pos rfl, zX5_slip_28]
  · refine t_ask (-2) hX hM ⟨w, q_GX_r w, ?_⟩ (fun w1 hM1 => ⟨w1, q_GM_r w1, ?_⟩)
    · rw [zX4_slip_0, e_isWithin, qc_i, zX4_slip_7, decide_eq_false h, q_bo_f, if_pos rfl, zX4_slip_28]
    · rw [zX5_slip_0, m_in, qc_i, zX5_slip_7, decide_eq_false h, q_bo_f, if_pos rfl, zX5_slip_28]
theorem p_undo (hX : q_X w sg pb wb sc sp si oc hb sz pl wl ns mi ex fi fo it) (hM : q_MB w sg pb wb sc sp si oc hb sz pl wl ns mi ex fi fo it) : q_same w (qe iX4_undo 0 [some (.ref 0)] []) (qe iX5_undo 0 [some (.ref 27)] []) := by
  obtain ⟨L1, L2, L3⟩ := hX.1.2.2.2.1
  by_cases h0 : ns = 0
  · refine t_ask (-3) hX hM ⟨w, q_GX_r w, ?_⟩ (fun w1 hM1 => ⟨w1, q_GM_r w1, ?_⟩)
    · rw [zX4_undo_0, L1, if_neg (by rw [h0]; decide), zX4_undo_10]
    · rw [zX5_undo_0, hM1.2.2.1.1, if_neg (fun q => q (by rw [h0]; rfl)), zX5_undo_7]
  · have e8 : ∀ k, k ≠ 8 → (q_up w 8 3 (nI (ns - 1))) k = w k := fun k a => q_up_ne _ _ _ a
    have hL1 : q_XL (q_up w 8 3 (nI (ns - 1))) (ns - 1) sc sp si := by
      refine ⟨by rw [q_up_at, pk_us], by omega, fun k hk => ?_⟩
      rw [e8 9 (by decide), e8 10 (by decide), e8 11 (by decide)]
      exact L3 k (by omega)
    obtain ⟨w2, g1, g2, g3, g4⟩ := x_layCells (x_XB_sl (fun k a _ _ _ => e8 k a) hL1 hX.1) (q_WD_c (e8 3 (by decide)) (e8 7 (by decide)) (e8 6 (by decide)) hX.2.2.1) (by rw [e8 3 (by decide)]; exact hX.2.2.2)
    refine t_move (nI (ns - 1)) hM ⟨w2, g1, fun k hk => (g2 k (by omega) (by omega)).trans (e8 k (by omega)), ?_⟩ (fun wm hM1 => ?_)
    · rw [zX4_undo_0, L1, if_pos (show (0 : Int32) < nI ns from nI_lt (a := 0) (by omega) (by omega)), zX4_undo_13, L1, show (1 : Int32) = nI 1 from rfl, pk_sub (by omega), g4, qc_v, zX4_undo_30, g2 8 (by decide) (by decide), q_up_at, pk_us]
    · obtain ⟨M1, M2, M3⟩ := hM1.2.2.1
      refine ⟨q_up wm 27 11 (nI (ns - 1)), x_MB_sl (fun k a _ _ _ => q_up_ne _ _ _ a) (fun j hj => by rw [q_up_at, pk_un hj]) ⟨by rw [q_up_at, pk_us], by omega, fun k hk => ?_⟩ hM1, fun k hk => q_up_ne _ _ _ (by omega), ?_⟩
      · rw [q_up_ne _ _ _ (by decide), q_up_ne _ _ _ (by decide), q_up_ne _ _ _ (by decide)]
        exact M3 k (by omega)
      · rw [zX5_undo_0, M1, if_pos (fun q => h0 ((nI_eq (by omega) (by omega)).mp (q.trans nI_0.symm))), zX5_undo_10, M1, show (1 : Int32) = nI 1 from rfl, pk_sub (by omega), q_up_at, pk_us]
/-- a field of the class' object anew -/
theorem x_XB_0 {mi' ex' : Nat} {fi' : Int32} (h : ∀ k, k ≠ 0 → w' k = w k) (hO : q_CO w' mi' ex') (h11 : w' 0 11 = fi') (hB : q_XB w sg pb wb sc sp si oc hb sz pl wl ns mi ex fi fo it) : q_XB w' sg pb wb sc sp si oc hb sz pl wl ns (mi') (ex') (fi') fo it := by
  obtain ⟨b1, ⟨b2, b3, b4⟩, b5, b6, b7, b8, b9, b10, b11⟩ := hB
  exact ⟨q_SG_c (h 12 (by decide)) b1, ⟨by rw [h 1 (by decide)]; exact b2, b3, q_PB_c (h 2 (by decide)) b4⟩, q_WB_c (h 4 (by decide)) (h 5 (by decide)) b5, q_XL_c (h 8 (by decide)) (h 9 (by decide)) (h 10 (by decide)) (h 11 (by decide)) b6, hO, q_OC_c (h 14 (by decide)) b8, q_HB_c (h 15 (by decide)) b9, h11, q_XS_c (fun k h1 h2 => h k (by omega)) b11⟩
theorem x_X_0 {mi' ex' : Nat} {fi' : Int32} (h : ∀ k, k ≠ 0 → w' k = w k) (h5 : w' 0 5 = w 0 5) (hO : q_CO w' mi' ex') (h11 : w' 0 11 = fi') (hX : q_X w sg pb wb sc sp si oc hb sz pl wl ns mi ex fi fo it) : q_X w' sg pb wb sc sp si oc hb sz pl wl ns (mi') (ex') (fi') fo it := by
  refine ⟨x_XB_0 h hO h11 hX.1, ?_, q_WD_c (h 3 (by decide)) (h 7 (by decide)) (h 6 (by decide)) hX.2.2.1, by rw [h 3 (by decide)]; exact hX.2.2.2⟩
  unfold q_CL
  rw [h5, h 13 (by decide)]
  exact hX.2.1
theorem x_MB_27 {mi' ex' : Nat} {fi' : Int32} (h : ∀ k, k ≠ 27 → w' k = w k) (h11 : w' 27 11 = w 27 11) (hO : q_MO w' mi' ex') (h24 : w' 27 24 = fi') (hM : q_MB w sg pb wb sc sp si oc hb sz pl wl ns mi ex fi fo it) : q_MB w' sg pb wb sc sp si oc hb sz pl wl ns (mi') (ex') (fi') fo it := by
  obtain ⟨c1, c2, c3, c4, c5, c6, c7, c8⟩ := hM
  exact ⟨q_MS_c (h 28 (by decide)) c1, q_MT_c (h 29 (by decide)) (h 30 (by decide)) c2, q_ML_c h11 (h 35 (by decide)) (h 36 (by decide)) (h 37 (by decide)) c3, hO, q_MOC_c (h 34 (by decide)) c5, q_MH_c (h 40 (by decide)) c6, h24, q_MSH_c (h 42 (by decide)) (h 43 (by decide)) (h 44 (by decide)) (h 45 (by decide)) c8⟩
theorem p_set (hX : q_X w sg pb wb sc sp si oc hb sz pl wl ns mi ex fi fo it) (hM : q_MB w sg pb wb sc sp si oc hb sz pl wl ns mi ex fi fo it) (v u : Int32) : q_same w (qe iX4_set 0 [some (.ref 0), some (.int v), some (.int u), none] []) (qe iX5_set 0 [some (.ref 27), some (.int v), some (.int u), none] []) := by
  obtain ⟨O1, O2, O3, O4⟩ := hX.1.2.2.2.2.1
  have hfi := hX.1.2.2.2.2.2.2.2.1
  by_cases h : 0 ≤ v ∧ v ≤ 1
  · by_cases hu : 0 ≤ u ∧ u ≤ 9
    · obtain ⟨n, hn, rfl⟩ := q_upto 9 rfl hu
      rcases q_01 h with rfl | rfl
      · refine t_move (nI mi) hM ⟨q_up w 0 6 (nI n), x_X_0 (mi' := n) (ex' := ex) (fi' := fi) (fun k a => q_up_ne _ _ _ a) (by rw [q_up_at, pk_un (by decide)]) ⟨by rw [q_up_at, pk_us], hn, by rw [q_up_at, pk_un (by decide)]; exact O3, O4⟩ (by rw [q_up_at, pk_un (by decide)]; exact hfi) hX, fun k hk => q_up_ne _ _ _ (by omega), ?_⟩ (fun wm hM1 => ?_)
        · rw [zX4_set_0, e_isWithin, qc_i, zX4_set_6, decide_eq_true h, q_bo_t, if_neg (by decide), zX4_set_9, e_isWithin, qc_i, zX4_set_16, decide_eq_true hu, q_bo_t, if_pos (by decide), zX4_set_22, if_neg (fun q => q rfl), zX4_set_26, O1, zX4_set_37, if_neg (fun q => q rfl), zX4_set_42, zX4_set_55]
        · obtain ⟨Q1, Q2, Q3, Q4⟩ := hM1.2.2.2.1
          refine ⟨q_up (q_up wm 27 8 (nI n)) 27 9 (nI ex), x_MB_27 (fun k a => by rw [q_up_ne _ _ _ a, q_up_ne _ _ _ a]) (by rw [q_up_at, pk_un (by decide), q_up_at, pk_un (by decide)]) ⟨by rw [q_up_at, pk_un (by decide), q_up_at, pk_us], hn, by rw [q_up_at, pk_us], O4⟩ (by rw [q_up_at, pk_un (by decide), q_up_at, pk_un (by decide)]; exact hM1.2.2.2.2.2.2.1) hM1, fun k hk => by rw [q_up_ne _ _ _ (by omega), q_up_ne _ _ _ (by omega)], ?_⟩
          rw [zX5_set_0, m_in, qc_i, zX5_set_6, decide_eq_true h, q_bo_t, if_neg (by decide), zX5_set_9, m_in, qc_i, zX5_set_16, decide_eq_true hu, q_bo_t, if_pos (by decide), zX5_set_22, if_neg (fun q => q rfl), zX5_set_26, Q1, zX5_set_37, if_neg (fun q => q rfl), zX5_set_43, zX5_set_51, if_pos (by decide), zX5_set_64, q_up_at, pk_un (by decide), Q3, zX5_set_68]
      · refine t_move (nI ex) hM ⟨q_up w 0 7 (nI n), x_X_0 (mi' := mi) (ex' := n) (fi' := fi) (fun k a => q_up_ne _ _ _ a) (by rw [q_up_at, pk_un (by decide)]) ⟨by rw [q_up_at, pk_un (by decide)]; exact O1, O2, by rw [q_up_at, pk_us], hn⟩ (by rw [q_up_at, pk_un (by decide)]; exact hfi) hX, fun k hk => q_up_ne _ _ _ (by omega), ?_⟩ (fun wm hM1 => ?_)
        · rw [zX4_set_0, e_isWithin, qc_i, zX4_set_6, decide_eq_true h, q_bo_t, if_neg (by decide), zX4_set_9, e_isWithin, qc_i, zX4_set_16, decide_eq_true hu, q_bo_t, if_pos (by decide), zX4_set_22, if_pos (by decide), zX4_set_33, O3, zX4_set_37, if_pos (by decide), zX4_set_50, zX4_set_55]
        · obtain ⟨Q1, Q2, Q3, Q4⟩ := hM1.2.2.2.1
          refine ⟨q_up (q_up wm 27 8 (nI mi)) 27 9 (nI n), x_MB_27 (fun k a => by rw [q_up_ne _ _ _ a, q_up_ne _ _ _ a]) (by rw [q_up_at, pk_un (by decide), q_up_at, pk_un (by decide)]) ⟨by rw [q_up_at, pk_un (by decide), q_up_at, pk_us], O2, by rw [q_up_at, pk_us], hn⟩ (by rw [q_up_at, pk_un (by decide), q_up_at, pk_un (by decide)]; exact hM1.2.2.2.2.2.2.1) hM1, fun k hk => by rw [q_up_ne _ _ _ (by omega), q_up_ne _ _ _ (by omega)], ?_⟩
          rw [zX5_set_0, m_in, qc_i, zX5_set_6, decide_eq_true h, q_bo_t, if_neg (by decide), zX5_set_9, m_in, qc_i, zX5_set_16, decide_eq_true hu, q_bo_t, if_pos (by decide), zX5_set_22, if_pos (by decide), zX5_set_33, Q3, zX5_set_37, if_pos (by decide), zX5_set_47, Q1, zX5_set_51, if_neg (fun q => q rfl), zX5_set_60, zX5_set_68]
    · refine t_ask (-2) hX hM ⟨w, q_GX_r w, ?_⟩ (fun w1 hM1 => ⟨w1, q_GM_r w1, ?_⟩)
      · rw [zX4_set_0, e_isWithin, qc_i, zX4_set_6, decide_eq_true h, q_bo_t, if_neg (by decide), zX4_set_9, e_isWithin, qc_i, zX4_set_16, decide_eq_false hu, q_bo_f, if_neg (fun q => q rfl), zX4_set_19]
      · rw [zX5_set_0, m_in, qc_i, zX5_set_6, decide_eq_true h, q_bo_t, if_neg (by decide), zX5_set_9, m_in, qc_i, zX5_set_16, decide_eq_false hu, q_bo_f, if_neg (fun q => q rfl), zX5_set_19]
  · refine t_ask (-2) hX hM ⟨w, q_GX_r w, ?_⟩ (fun w1 hM1 => ⟨w1, q_GM_r w1, ?_⟩)
    · rw [zX4_set_0, e_isWithin, qc_i, zX4_set_6, decide_eq_false h, q_bo_f, if_pos rfl, zX4_set_19]
    · rw [zX5_set_0, m_in, qc_i, zX5_set_6, decide_eq_false h, q_bo_f, if_pos rfl, zX5_set_19]
theorem x_XC_c (h3 : w' 3 = w 3) (h6 : w' 6 = w 6) (h7 : w' 7 = w 7) (h0 : w' 0 = w 0) (h13 : w' 13 = w 13) (hX : q_XC w sg pb wb sc sp si oc hb sz pl wl ns mi ex fi fo it) : q_XC w' sg pb wb sc sp si oc hb sz pl wl ns mi ex fi fo it := ⟨q_CL_c h0 h13 hX.1, q_WD_c h3 h7 h6 hX.2.1, by rw [h3]; exact hX.2.2⟩
theorem p_often (hX : q_X w sg pb wb sc sp si oc hb sz pl wl ns mi ex fi fo it) (hM : q_MB w sg pb wb sc sp si oc hb sz pl wl ns mi ex fi fo it) (v u : Int32) : q_same w (qe iX4_often 0 [some (.ref 0), some (.int v), some (.int u), none] []) (qe iX5_often 0 [some (.ref 27), some (.int v), some (.int u), none] []) := by
  by_cases h : 0 ≤ v ∧ v ≤ 7
  · by_cases hu : 0 ≤ u ∧ u ≤ 99
    · obtain ⟨l, hl, rfl⟩ := q_upto 7 rfl h
      obtain ⟨n, hn, rfl⟩ := q_upto 99 rfl hu
      have e14 : ∀ k, k ≠ 14 → (q_up w 14 l (nI n)) k = w k := fun k a => q_up_ne _ _ _ a
      obtain ⟨b1, ⟨b2, b3, b4⟩, b5, b6, b7, b8, b9, b10, b11⟩ := id hX.1
      refine t_move (nI (oc l)) hM ⟨q_up w 14 l (nI n), (⟨⟨q_SG_c (e14 12 (by decide)) b1, ⟨by rw [e14 1 (by decide)]; exact b2, b3, q_PB_c (e14 2 (by decide)) b4⟩, q_WB_c (e14 4 (by decide)) (e14 5 (by decide)) b5, q_XL_c (e14 8 (by decide)) (e14 9 (by decide)) (e14 10 (by decide)) (e14 11 (by decide)) b6, q_CO_c (e14 0 (by decide)) b7, ?_, q_HB_c (e14 15 (by decide)) b9, by rw [e14 0 (by decide)]; exact b10, q_XS_c (fun k h1 h2 => e14 k (by omega)) b11⟩, x_XC_c (e14 3 (by decide)) (e14 6 (by decide)) (e14 7 (by decide)) (e14 0 (by decide)) (e14 13 (by decide)) hX.2⟩ : q_X (q_up w 14 l (nI n)) sg pb wb sc sp si (x_un oc l n) hb sz pl wl ns mi ex fi fo it), fun k hk => e14 k (by omega), ?_⟩ (fun wm hM1 => ?_)
      · intro j hj
        rw [q_up_at]
        by_cases e : j = l
        · rw [e, pk_us, x_un_s]; exact ⟨rfl, hn⟩
        · rw [pk_un e, x_un_n _ _ e]; exact b8 j hj
      · rw [zX4_often_0, e_isWithin, qc_i, zX4_often_7, decide_eq_true h, q_bo_t, if_neg (by decide), zX4_often_10, e_isWithin, qc_i, zX4_often_17, decide_eq_true hu, q_bo_t, if_pos (by decide), zX4_often_23, e_at (n := 8) w rfl (by omega) (by omega), qc_i, zX4_often_31, e_lay (n := 8) _ w rfl (by omega) (by omega), qc_v, zX4_often_41, (b8 l (by omega)).1]
      · obtain ⟨c1, c2, c3, c4, c5, c6, c7, c8⟩ := hM1
        have f : ∀ k, k ≠ 34 → (q_up wm 34 l (nI n)) k = wm k := fun k a => q_up_ne _ _ _ a
        refine ⟨q_up wm 34 l (nI n), ⟨q_MS_c (f 28 (by decide)) c1, q_MT_c (f 29 (by decide)) (f 30 (by decide)) c2, q_ML_c (by rw [f 27 (by decide)]) (f 35 (by decide)) (f 36 (by decide)) (f 37 (by decide)) c3, q_MO_c (by rw [f 27 (by decide)]) (by rw [f 27 (by decide)]) c4, ?_, q_MH_c (f 40 (by decide)) c6, by rw [f 27 (by decide)]; exact c7, q_MSH_c (f 42 (by decide)) (f 43 (by decide)) (f 44 (by decide)) (f 45 (by decide)) c8⟩, fun k hk => f k (by omega), ?_⟩
        · intro j hj
          rw [q_up_at]
          by_cases e : j = l
          · rw [e, pk_us, x_un_s]; exact ⟨rfl, hn⟩
          · rw [pk_un e, x_un_n _ _ e]; exact c5 j hj
        · rw [zX5_often_0, m_in, qc_i, zX5_often_7, decide_eq_true h, q_bo_t, if_neg (by decide), zX5_often_10, m_in, qc_i, zX5_often_17, decide_eq_true hu, q_bo_t, if_pos (by decide), zX5_often_23, if_neg (c_ok (by omega) (by omega)), nI_clamp (by omega), zX5_often_29, if_neg (c_ok (by omega) (by omega)), nI_clamp (by omega), zX5_often_37, (c5 l (by omega)).1]
    · refine t_ask (-2) hX hM ⟨w, q_GX_r w, ?_⟩ (fun w1 hM1 => ⟨w1, q_GM_r w1, ?_⟩)
      · rw [zX4_often_0, e_isWithin, qc_i, zX4_often_7, decide_eq_true h, q_bo_t, if_neg (by decide), zX4_often_10, e_isWithin, qc_i, zX4_often_17, decide_eq_false hu, q_bo_f, if_neg (fun q => q rfl), zX4_often_20]
      · rw [zX5_often_0, m_in, qc_i, zX5_often_7, decide_eq_true h, q_bo_t, if_neg (by decide), zX5_often_10, m_in, qc_i, zX5_often_17, decide_eq_false hu, q_bo_f, if_neg (fun q => q rfl), zX5_often_20]
  · refine t_ask (-2) hX hM ⟨w, q_GX_r w, ?_⟩ (fun w1 hM1 => ⟨w1, q_GM_r w1, ?_⟩)
    · rw [zX4_often_0, e_isWithin, qc_i, zX4_often_7, decide_eq_false h, q_bo_f, if_pos rfl, zX4_often_20]
    · rw [zX5_often_0, m_in, qc_i, zX5_often_7, decide_eq_false h, q_bo_f, if_pos rfl, zX5_often_20]
theorem p_hand (hX : q_X w sg pb wb sc sp si oc hb sz pl wl ns mi ex fi fo it) (hM : q_MB w sg pb wb sc sp si oc hb sz pl wl ns mi ex fi fo it) (v u t : Int32) : q_same w (qe iX4_hand 0 [some (.ref 0), some (.int v), some (.int u), some (.int t), none, none] []) (qe iX5_hand 0 [some (.ref 27), some (.int v), some (.int u), some (.int t), none] []) := by
  by_cases h : 0 ≤ v ∧ v ≤ 2
  · by_cases hu : 0 ≤ u ∧ u ≤ 5
    · by_cases ht : 0 ≤ t ∧ t ≤ 99
      · obtain ⟨l, hl, rfl⟩ := q_upto 2 rfl h
        obtain ⟨p, hp, rfl⟩ := q_upto 5 rfl hu
        obtain ⟨n, hn, rfl⟩ := q_upto 99 rfl ht
        have e15 : ∀ k, k ≠ 15 → (q_up w 15 (6 * l + p) (nI n)) k = w k := fun k a => q_up_ne _ _ _ a
        have hi : nI l * 6 + nI p = nI (6 * l + p) := by rw [show (6 : Int32) = nI 6 from rfl, pk_mul, nI_add, Nat.mul_comm]
        obtain ⟨b1, ⟨b2, b3, b4⟩, b5, b6, b7, b8, b9, b10, b11⟩ := id hX.1
        refine t_move (nI (hb (6 * l + p))) hM ⟨q_up w 15 (6 * l + p) (nI n), (⟨⟨q_SG_c (e15 12 (by decide)) b1, ⟨by rw [e15 1 (by decide)]; exact b2, b3, q_PB_c (e15 2 (by decide)) b4⟩, q_WB_c (e15 4 (by decide)) (e15 5 (by decide)) b5, q_XL_c (e15 8 (by decide)) (e15 9 (by decide)) (e15 10 (by decide)) (e15 11 (by decide)) b6, q_CO_c (e15 0 (by decide)) b7, q_OC_c (e15 14 (by decide)) b8, ?_, by rw [e15 0 (by decide)]; exact b10, q_XS_c (fun k h1 h2 => e15 k (by omega)) b11⟩, x_XC_c (e15 3 (by decide)) (e15 6 (by decide)) (e15 7 (by decide)) (e15 0 (by decide)) (e15 13 (by decide)) hX.2⟩ : q_X (q_up w 15 (6 * l + p) (nI n)) sg pb wb sc sp si oc (x_un hb (6 * l + p) n) sz pl wl ns mi ex fi fo it), fun k hk => e15 k (by omega), ?_⟩ (fun wm hM1 => ?_)
        · intro j hj
          rw [q_up_at]
          by_cases e : j = 6 * l + p
          · rw [e, pk_us, x_un_s]; exact ⟨rfl, hn⟩
          · rw [pk_un e, x_un_n _ _ e]; exact b9 j hj
        · rw [zX4_hand_0, e_isWithin, qc_i, zX4_hand_6, decide_eq_true h, q_bo_t, if_neg (by decide), zX4_hand_9, e_isWithin, qc_i, zX4_hand_15, decide_eq_true hu, q_bo_t, if_neg (by decide), zX4_hand_18, e_isWithin, qc_i, zX4_hand_25, decide_eq_true ht, q_bo_t, if_pos (by decide), zX4_hand_31, hi, e_at (n := 18) w rfl (by omega) (by omega), qc_i, zX4_hand_48, e_lay (n := 18) _ w rfl (by omega) (by omega), qc_v, zX4_hand_60, (b9 _ (by omega)).1]
        · obtain ⟨c1, c2, c3, c4, c5, c6, c7, c8⟩ := hM1
          have f : ∀ k, k ≠ 40 → (q_up wm 40 (6 * l + p) (nI n)) k = wm k := fun k a => q_up_ne _ _ _ a
          refine ⟨q_up wm 40 (6 * l + p) (nI n), ⟨q_MS_c (f 28 (by decide)) c1, q_MT_c (f 29 (by decide)) (f 30 (by decide)) c2, q_ML_c (by rw [f 27 (by decide)]) (f 35 (by decide)) (f 36 (by decide)) (f 37 (by decide)) c3, q_MO_c (by rw [f 27 (by decide)]) (by rw [f 27 (by decide)]) c4, q_MOC_c (f 34 (by decide)) c5, ?_, by rw [f 27 (by decide)]; exact c7, q_MSH_c (f 42 (by decide)) (f 43 (by decide)) (f 44 (by decide)) (f 45 (by decide)) c8⟩, fun k hk => f k (by omega), ?_⟩
          · intro j hj
            rw [q_up_at]
            by_cases e : j = 6 * l + p
            · rw [e, pk_us, x_un_s]; exact ⟨rfl, hn⟩
            · rw [pk_un e, x_un_n _ _ e]; exact c6 j hj
          · rw [zX5_hand_0, m_in, qc_i, zX5_hand_6, decide_eq_true h, q_bo_t, if_neg (by decide), zX5_hand_9, m_in, qc_i, zX5_hand_15, decide_eq_true hu, q_bo_t, if_neg (by decide), zX5_hand_18, m_in, qc_i, zX5_hand_25, decide_eq_true ht, q_bo_t, if_pos (by decide), zX5_hand_31, q_lit6, if_neg (c_ok (by omega) (by omega)), nI_clamp (by omega), zX5_hand_42, q_lit6, if_neg (c_ok (by omega) (by omega)), nI_clamp (by omega), zX5_hand_56, (c6 _ (by omega)).1]
      · refine t_ask (-2) hX hM ⟨w, q_GX_r w, ?_⟩ (fun w1 hM1 => ⟨w1, q_GM_r w1, ?_⟩)
        · rw [zX4_hand_0, e_isWithin, qc_i, zX4_hand_6, decide_eq_true h, q_bo_t, if_neg (by decide), zX4_hand_9, e_isWithin, qc_i, zX4_hand_15, decide_eq_true hu, q_bo_t, if_neg (by decide), zX4_hand_18, e_isWithin, qc_i, zX4_hand_25, decide_eq_false ht, q_bo_f, if_neg (fun q => q rfl), zX4_hand_28]
        · rw [zX5_hand_0, m_in, qc_i, zX5_hand_6, decide_eq_true h, q_bo_t, if_neg (by decide), zX5_hand_9, m_in, qc_i, zX5_hand_15, decide_eq_true hu, q_bo_t, if_neg (by decide), zX5_hand_18, m_in, qc_i, zX5_hand_25, decide_eq_false ht, q_bo_f, if_neg (fun q => q rfl), zX5_hand_28]
    · refine t_ask (-2) hX hM ⟨w, q_GX_r w, ?_⟩ (fun w1 hM1 => ⟨w1, q_GM_r w1, ?_⟩)
      · rw [zX4_hand_0, e_isWithin, qc_i, zX4_hand_6, decide_eq_true h, q_bo_t, if_neg (by decide), zX4_hand_9, e_isWithin, qc_i, zX4_hand_15, decide_eq_false hu, q_bo_f, if_pos rfl, zX4_hand_28]
      · rw [zX5_hand_0, m_in, qc_i, zX5_hand_6, decide_eq_true h, q_bo_t, if_neg (by decide), zX5_hand_9, m_in, qc_i, zX5_hand_15, decide_eq_false hu, q_bo_f, if_pos rfl, zX5_hand_28]
  · refine t_ask (-2) hX hM ⟨w, q_GX_r w, ?_⟩ (fun w1 hM1 => ⟨w1, q_GM_r w1, ?_⟩)
    · rw [zX4_hand_0, e_isWithin, qc_i, zX4_hand_6, decide_eq_false h, q_bo_f, if_pos rfl, zX4_hand_28]
    · rw [zX5_hand_0, m_in, qc_i, zX5_hand_6, decide_eq_false h, q_bo_f, if_pos rfl, zX5_hand_28]
end R54
