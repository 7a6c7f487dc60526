/-! sheets: both alike -/
def x_ui (f : Nat → Int32) (k : Nat) (v : Int32) : Nat → Int32 := fun j => if j = k then v else f j
theorem x_ui_s (f : Nat → Int32) (k : Nat) (v : Int32) : x_ui f k v k = v := if_pos rfl
theorem x_ui_n (f : Nat → Int32) {k j : Nat} (v : Int32) (h : j ≠ k) : x_ui f k v j = f j := if_neg h
def x_uj (f : Nat → Nat → Int32) (k : Nat) (g : Nat → Int32) : Nat → Nat → Int32 := fun j => if j = k then g else f j
theorem x_uj_s (f : Nat → Nat → Int32) (k : Nat) (g : Nat → Int32) : x_uj f k g k = g := if_pos rfl
theorem x_uj_n (f : Nat → Nat → Int32) {k j : Nat} (g : Nat → Int32) (h : j ≠ k) : x_uj f k g j = f j := if_neg h
section S56
variable {w w' : qW} {sg pb wb sc sp si oc hb sz : Nat → Nat} {pl wl ns mi ex : Nat} {fi : Int32} {fo : Nat → Int32} {it : Nat → Nat → Int32}
theorem q_form {u : Int32} (h : 0 ≤ u ∧ u ≤ 2) : ¬ u = -1 := fun q => by rw [q] at h; exact absurd h.1 (by decide)
theorem x_X_sh {sz' : Nat → Nat} {fo' : Nat → Int32} {it' : Nat → Nat → Int32} (h : ∀ k, k < 17 → w' k = w k) (hS : q_XS w' sz' fo' it') (hX : q_X w sg pb wb sc sp si oc hb sz pl wl ns mi ex fi fo it) : q_X w' sg pb wb sc sp si oc hb (sz') pl wl ns mi ex fi (fo') (it') := by
  obtain ⟨b1, ⟨b2, b3, b4⟩, b5, b6, b7, b8, b9, b10, b11⟩ := hX.1
  exact ⟨⟨q_SG_c (h 12 (by decide)) b1, ⟨by rw [h 1 (by decide)]; exact b2, b3, q_PB_c (h 2 (by decide)) b4⟩, q_WB_c (h 4 (by decide)) (h 5 (by decide)) b5, q_XL_c (h 8 (by decide)) (h 9 (by decide)) (h 10 (by decide)) (h 11 (by decide)) b6, q_CO_c (h 0 (by decide)) b7, q_OC_c (h 14 (by decide)) b8, q_HB_c (h 15 (by decide)) b9, by rw [h 0 (by decide)]; exact b10, hS⟩, x_XC_c (h 3 (by decide)) (h 6 (by decide)) (h 7 (by decide)) (h 0 (by decide)) (h 13 (by decide)) hX.2⟩
theorem x_MB_sh {sz' : Nat → Nat} {fo' : Nat → Int32} {it' : Nat → Nat → Int32} (h : ∀ k, k ≠ 42 → k ≠ 43 → k ≠ 44 → k ≠ 45 → k ≠ 46 → w' k = w k) (hS : q_MSH w' sz' fo' it') (hM : q_MB w sg pb wb sc sp si oc hb sz pl wl ns mi ex fi fo it) : q_MB w' sg pb wb sc sp si oc hb (sz') pl wl ns mi ex fi (fo') (it') := by
  obtain ⟨c1, c2, c3, c4, c5, c6, c7, c8⟩ := hM
  have e : ∀ k, k < 42 → w' k = w k := fun k hk => h k (by omega) (by omega) (by omega) (by omega) (by omega)
  exact ⟨q_MS_c (e 28 (by decide)) c1, q_MT_c (e 29 (by decide)) (e 30 (by decide)) c2, q_ML_c (by rw [e 27 (by decide)]) (e 35 (by decide)) (e 36 (by decide)) (e 37 (by decide)) c3, q_MO_c (by rw [e 27 (by decide)]) (by rw [e 27 (by decide)]) c4, q_MOC_c (e 34 (by decide)) c5, q_MH_c (e 40 (by decide)) c6, by rw [e 27 (by decide)]; exact c7, hS⟩
/-- both find the same -/
theorem x_X_fi (hX : q_X w sg pb wb sc sp si oc hb sz pl wl ns mi ex fi fo it) (a : Int32) : q_X (q_up w 0 11 a) sg pb wb sc sp si oc hb sz pl wl ns mi ex (a) fo it := x_X_0 (fun k h => q_up_ne _ _ _ h) (by rw [q_up_at, pk_un (by decide)]) (by unfold q_CO; rw [q_up_at, pk_un (by decide), pk_un (by decide)]; exact hX.1.2.2.2.2.1) (by rw [q_up_at, pk_us]) hX
theorem x_MB_fi (hM : q_MB w sg pb wb sc sp si oc hb sz pl wl ns mi ex fi fo it) (a : Int32) : q_MB (q_up w 27 24 a) sg pb wb sc sp si oc hb sz pl wl ns mi ex (a) fo it := x_MB_27 (fun k h => q_up_ne _ _ _ h) (by rw [q_up_at, pk_un (by decide)]) (by unfold q_MO; rw [q_up_at, pk_un (by decide), pk_un (by decide)]; exact hM.2.2.2.1) (by rw [q_up_at, pk_us]) hM
theorem t_find {f g : qW → Option (Option Value × qW)} (A a : Int32) (hX : q_X w sg pb wb sc sp si oc hb sz pl wl ns mi ex fi fo it) (hM : q_MB w sg pb wb sc sp si oc hb sz pl wl ns mi ex fi fo it) (hf : f w = some (some (.int A), q_up w 0 11 a)) (hg : ∀ w1, q_MB w1 sg pb wb sc sp si oc hb sz pl wl ns mi ex fi fo it → g w1 = some (some (.int A), q_up w1 27 24 a)) : q_same w f g :=
  t_move A hM ⟨_, x_X_fi hX a, fun k hk => q_up_ne _ _ _ (by omega), hf⟩ (fun w1 hM1 => ⟨_, x_MB_fi hM1 a, fun k hk => q_up_ne _ _ _ (by omega), hg w1 hM1⟩)
theorem m_isSheet (v : Int32) : qe iX5_isSheet 0 [some (.int v)] [] w = some (some (.int (q_bo (decide (0 ≤ v ∧ v ≤ 3)))), w) := by
  rw [zX5_isSheet_0, m_in, qc_i, zX5_isSheet_6, if_pos (q_nb _)]
theorem m_there {s : Nat} (hM : q_MB w sg pb wb sc sp si oc hb sz pl wl ns mi ex fi fo it) (hs : s < 4) : w 42 s = if fo s = -1 then 0 else 1 := by
  obtain ⟨a1, a2, a3⟩ := hM.2.2.2.2.2.2.2 s hs
  by_cases h : fo s = -1
  · rw [if_pos h, a2 h]
  · rw [if_neg h, (a3 h).1]
theorem m_meets (a : Int32) : qe iX5_meets 0 [some (.ref 27), some (.int a)] [] w = some (some (.int (-10 - a)), q_up w 27 24 a) := zX5_meets_0
/-- a question of a sheet that is not, or of one that is lost -/
theorem p_sheet (hX : q_X w sg pb wb sc sp si oc hb sz pl wl ns mi ex fi fo it) (hM : q_MB w sg pb wb sc sp si oc hb sz pl wl ns mi ex fi fo it) (v u t : Int32) : q_same w (qe iX4_sheet 0 [some (.ref 0), some (.int v), some (.int u), some (.int t), none] []) (qe iX5_sheet 0 [some (.ref 27), some (.int v), some (.int u), some (.int t), none] []) := by
  by_cases h : 0 ≤ v ∧ v ≤ 3
  · obtain ⟨s, hs, rfl⟩ := q_s4v h
    have hk := q_s4 hs
    by_cases hu : 0 ≤ u ∧ u ≤ 2
    · by_cases ht : t ≤ 48
      · by_cases ht0 : 0 ≤ t
        · obtain ⟨n, hn, rfl⟩ := nI_of2 (M := 48) (n := 48) (by decide) (Int32.not_lt.mpr ht0) ht
          obtain ⟨w2, e1, e2, e3, e4⟩ := e_renew (w := w) hk u (nI n)
          refine t_move (nI n) hM ⟨w2, x_X_sh (sz' := x_un sz s n) (fo' := x_ui fo s u) (it' := x_uj it s (fun _ => 0)) (fun k hk2 => e1 k (by omega) (by omega)) ?_ hX, fun k hk2 => e1 k (by omega) (by omega), ?_⟩ (fun wm hM1 => ?_)
          · intro r hr
            by_cases e : r = s
            · subst e
              rw [e2, x_un_s, x_ui_s, x_uj_s, pk_un (by decide), pk_us, pk_us]
              refine ⟨rfl, rfl, hn, fun j hj => ?_⟩
              rw [show 18 + 2 * r = 17 + 2 * r + 1 by omega]; exact e3 j hj
            · rw [e1 (17 + 2 * r) (by omega) (by omega), e1 (18 + 2 * r) (by omega) (by omega), x_un_n _ _ e, x_ui_n _ _ e, x_uj_n _ _ e]
              exact hX.1.2.2.2.2.2.2.2.2 r hr
          · rw [zX4_sheet_0, e_sheetAt hs, qc_i, zX4_sheet_5b hk, zX4_sheet_12 hk, e_isForm, qc_i, zX4_sheet_16 hk, decide_eq_true hu, q_bo_t, if_neg (by decide), zX4_sheet_19 hk, if_pos ht, zX4_sheet_28 hk, if_pos ht0, zX4_sheet_38 hk, e4, qc_v, zX4_sheet_45 hk]
          · have loop : ∀ m j (w1 : qW), j + m = 48 → ∃ w', (∀ k, k ≠ 45 → w' k = w1 k) ∧ (∀ i, (i < 48 * s + j ∨ 48 * s + 48 ≤ i) → w' 45 i = w1 45 i) ∧ (∀ i, j ≤ i → i < 48 → w' 45 (48 * s + i) = 0) ∧ qe iX5_sheet 59 [some (.ref 27), some (.int (nI s)), some (.int u), some (.int (nI n)), some (.int (nI j))] [] w1 = some (some (.int (nI n)), w') := by
              intro m
              induction m with
              | zero => intro j w1 hj; exact ⟨w1, fun _ _ => rfl, fun _ _ => rfl, fun i h1 h2 => by omega, by rw [zX5_sheet_59, if_pos (show (48 : Int32) ≤ nI j from nI_le (a := 48) (by omega) (by omega)), zX5_sheet_85]⟩
              | succ m ih =>
                intro j w1 hj
                obtain ⟨w', r1, r2, r3, r4⟩ := ih (j + 1) (q_up w1 45 (48 * s + j) 0) (by omega)
                refine ⟨w', fun k hk2 => (r1 k hk2).trans (q_up_ne _ _ _ hk2), fun i hi => ?_, fun i h1 h2 => ?_, ?_⟩
                · rw [r2 i (by omega), q_up_at, pk_un (by omega)]
                · by_cases e : i = j
                  · rw [e, r2 (48 * s + j) (by omega), q_up_at, pk_us]
                  · exact r3 i (by omega) h2
                · rw [zX5_sheet_59, if_neg (show ¬ (48 : Int32) ≤ nI j from nI_ge (b := 48) (by omega) (by omega)), zX5_sheet_66, q_lit48, if_neg (c_ok (by omega) (by omega)), nI_clamp (by omega), zX5_sheet_79, nI_1]
                  exact r4
            have f42 : ∀ k, k ≠ 42 → k ≠ 43 → k ≠ 44 → (q_up (q_up (q_up wm 42 s (vp_nar .boolean 1)) 43 s u) 44 s (nI n)) k = wm k := fun k a b c => by rw [q_up_ne _ _ _ c, q_up_ne _ _ _ b, q_up_ne _ _ _ a]
            obtain ⟨w3, r1, r2, r3, r4⟩ := loop 48 0 (q_up (q_up (q_up wm 42 s (vp_nar .boolean 1)) 43 s u) 44 s (nI n)) (by omega)
            refine ⟨w3, x_MB_sh (fun k a b c d _ => (r1 k d).trans (f42 k a b c)) ?_ hM1, fun k hk2 => (r1 k (by omega)).trans (f42 k (by omega) (by omega) (by omega)), ?_⟩
            · intro r hr
              rw [r1 42 (by decide), r1 43 (by decide), r1 44 (by decide), q_up_ne _ _ _ (show (42 : Nat) ≠ 44 by decide), q_up_ne _ _ _ (show (42 : Nat) ≠ 43 by decide), q_up_at, q_up_ne _ _ _ (show (43 : Nat) ≠ 44 by decide), q_up_at, q_up_at, q_up_ne _ _ _ (show (43 : Nat) ≠ 42 by decide), q_up_ne _ _ _ (show (44 : Nat) ≠ 43 by decide), q_up_ne _ _ _ (show (44 : Nat) ≠ 42 by decide)]
              by_cases e : r = s
              · subst e
                rw [x_un_s, x_ui_s, x_uj_s, pk_us, pk_us, pk_us]
                exact ⟨hn, fun q => absurd q (q_form hu), fun _ => ⟨rfl, rfl, rfl, fun j hj => r3 j (Nat.zero_le _) hj⟩⟩
              · rw [x_un_n _ _ e, x_ui_n _ _ e, x_uj_n _ _ e, pk_un e, pk_un e, pk_un e]
                obtain ⟨a1, a2, a3⟩ := hM1.2.2.2.2.2.2.2 r hr
                refine ⟨a1, a2, fun q => ?_⟩
                obtain ⟨d1, d2, d3, d4⟩ := a3 q
                refine ⟨d1, d2, d3, fun j hj => ?_⟩
                rw [r2 (48 * r + j) (by omega), f42 45 (by decide) (by decide) (by decide)]
                exact d4 j hj
            · rw [nI_0] at r4
              rw [zX5_sheet_0, m_isSheet, qc_i, zX5_sheet_4, decide_eq_true h, q_bo_t, if_neg (by decide), zX5_sheet_7, m_in, qc_i, zX5_sheet_13, decide_eq_true hu, q_bo_t, if_neg (by decide), zX5_sheet_16, if_pos ht, zX5_sheet_25, if_pos ht0, zX5_sheet_35, if_neg (c_ok hs (by omega)), nI_clamp (by omega), zX5_sheet_42, if_neg (c_ok hs (by omega)), nI_clamp (by omega), zX5_sheet_49, if_neg (c_ok hs (by omega)), nI_clamp (by omega), zX5_sheet_56, r4]
        · refine t_find (-10 - 5) 5 hX hM ?_ (fun w1 hM1 => ?_)
          · rw [zX4_sheet_0, e_sheetAt hs, qc_i, zX4_sheet_5b hk, zX4_sheet_12 hk, e_isForm, qc_i, zX4_sheet_16 hk, decide_eq_true hu, q_bo_t, if_neg (by decide), zX4_sheet_19 hk, if_pos ht, zX4_sheet_28 hk, if_neg ht0, zX4_sheet_32 hk, e_find, qc_i, zX4_sheet_37 hk]
          · rw [zX5_sheet_0, m_isSheet, qc_i, zX5_sheet_4, decide_eq_true h, q_bo_t, if_neg (by decide), zX5_sheet_7, m_in, qc_i, zX5_sheet_13, decide_eq_true hu, q_bo_t, if_neg (by decide), zX5_sheet_16, if_pos ht, zX5_sheet_25, if_neg ht0, zX5_sheet_29, m_meets, qc_i, zX5_sheet_34]
      · refine t_ask (-2) hX hM ⟨w, q_GX_r w, ?_⟩ (fun w1 hM1 => ⟨w1, q_GM_r w1, ?_⟩)
        · rw [zX4_sheet_0, e_sheetAt hs, qc_i, zX4_sheet_5b hk, zX4_sheet_12 hk, e_isForm, qc_i, zX4_sheet_16 hk, decide_eq_true hu, q_bo_t, if_neg (by decide), zX4_sheet_19 hk, if_neg ht, zX4_sheet_25b hk]
        · rw [zX5_sheet_0, m_isSheet, qc_i, zX5_sheet_4, decide_eq_true h, q_bo_t, if_neg (by decide), zX5_sheet_7, m_in, qc_i, zX5_sheet_13, decide_eq_true hu, q_bo_t, if_neg (by decide), zX5_sheet_16, if_neg ht, zX5_sheet_22]
    · refine t_ask (-2) hX hM ⟨w, q_GX_r w, ?_⟩ (fun w1 hM1 => ⟨w1, q_GM_r w1, ?_⟩)
      · rw [zX4_sheet_0, e_sheetAt hs, qc_i, zX4_sheet_5b hk, zX4_sheet_12 hk, e_isForm, qc_i, zX4_sheet_16 hk, decide_eq_false hu, q_bo_f, if_pos rfl, zX4_sheet_25b hk]
      · rw [zX5_sheet_0, m_isSheet, qc_i, zX5_sheet_4, decide_eq_true h, q_bo_t, if_neg (by decide), zX5_sheet_7, m_in, qc_i, zX5_sheet_13, decide_eq_false hu, q_bo_f, if_pos rfl, zX5_sheet_22]
  · refine t_ask (-2) hX hM ⟨w, q_GX_r w, ?_⟩ (fun w1 hM1 => ⟨w1, q_GM_r w1, ?_⟩)
    · rw [zX4_sheet_0, e_sheetAtN h, qc_i, zX4_sheet_5, zX4_sheet_25]
    · rw [zX5_sheet_0, m_isSheet, qc_i, zX5_sheet_4, decide_eq_false h, q_bo_f, if_pos rfl, zX5_sheet_22]
theorem p_lose (hX : q_X w sg pb wb sc sp si oc hb sz pl wl ns mi ex fi fo it) (hM : q_MB w sg pb wb sc sp si oc hb sz pl wl ns mi ex fi fo it) (v : Int32) : q_same w (qe iX4_lose 0 [some (.ref 0), some (.int v), none, none] []) (qe iX5_lose 0 [some (.ref 27), some (.int v)] []) := by
  by_cases h : 0 ≤ v ∧ v ≤ 3
  · obtain ⟨s, hs, rfl⟩ := q_s4v h
    have hk := q_s4 hs
    obtain ⟨S1, S2, S3, S4⟩ := hX.1.2.2.2.2.2.2.2.2 s hs
    by_cases hl : fo s = -1
    · refine t_find (-10 - 1) 1 hX hM ?_ (fun w1 hM1 => ?_)
      · rw [zX4_lose_0, e_sheetAt hs, qc_i, zX4_lose_5b hk, zX4_lose_13 hk, e_isLost hk, qc_i, zX4_lose_17 hk, S1, decide_eq_true hl, q_bo_t, if_neg (by decide), zX4_lose_20 hk, e_find, qc_i, zX4_lose_25 hk]
      · rw [zX5_lose_0, m_isSheet, qc_i, zX5_lose_4, decide_eq_true h, q_bo_t, if_pos (by decide), zX5_lose_10, if_neg (c_ok hs (by omega)), nI_clamp (by omega), m_there hM1 hs, if_pos hl, zX5_lose_16, if_neg (fun q => q rfl), zX5_lose_19, m_meets, qc_i, zX5_lose_24]
    · obtain ⟨w2, e1, e2, e3, e4⟩ := e_renew (w := w) hk (-1) 0
      refine t_move (nI (sz s)) hM ⟨w2, x_X_sh (sz' := x_un sz s 0) (fo' := x_ui fo s (-1)) (it' := x_uj it s (fun _ => 0)) (fun k hk2 => e1 k (by omega) (by omega)) ?_ hX, fun k hk2 => e1 k (by omega) (by omega), ?_⟩ (fun wm hM1 => ?_)
      · intro r hr
        by_cases e : r = s
        · subst e
          rw [e2, x_un_s, x_ui_s, x_uj_s, pk_un (by decide), pk_us, pk_us]
          refine ⟨rfl, rfl, by omega, fun j hj => ?_⟩
          rw [show 18 + 2 * r = 17 + 2 * r + 1 by omega]; exact e3 j hj
        · rw [e1 (17 + 2 * r) (by omega) (by omega), e1 (18 + 2 * r) (by omega) (by omega), x_un_n _ _ e, x_ui_n _ _ e, x_uj_n _ _ e]
          exact hX.1.2.2.2.2.2.2.2.2 r hr
      · rw [zX4_lose_0, e_sheetAt hs, qc_i, zX4_lose_5b hk, zX4_lose_13 hk, e_isLost hk, qc_i, zX4_lose_17 hk, S1, decide_eq_false hl, q_bo_f, if_pos rfl, zX4_lose_26 hk, S2, e4, qc_v, zX4_lose_37 hk]
      · obtain ⟨c1, c2, c3⟩ := hM1.2.2.2.2.2.2.2 s hs
        obtain ⟨d1, d2, d3, d4⟩ := c3 hl
        refine ⟨q_up wm 42 s (vp_nar .boolean 0), x_MB_sh (fun k a _ _ _ _ => q_up_ne _ _ _ a) ?_ hM1, fun k hk2 => q_up_ne _ _ _ (by omega), ?_⟩
        · intro r hr
          rw [q_up_at, q_up_ne _ _ _ (show (43 : Nat) ≠ 42 by decide), q_up_ne _ _ _ (show (44 : Nat) ≠ 42 by decide), q_up_ne _ _ _ (show (45 : Nat) ≠ 42 by decide)]
          by_cases e : r = s
          · subst e
            rw [x_un_s, x_ui_s, x_uj_s, pk_us]
            exact ⟨by omega, fun _ => rfl, fun q => absurd rfl q⟩
          · rw [x_un_n _ _ e, x_ui_n _ _ e, x_uj_n _ _ e, pk_un e]
            exact hM1.2.2.2.2.2.2.2 r hr
        · rw [zX5_lose_0, m_isSheet, qc_i, zX5_lose_4, decide_eq_true h, q_bo_t, if_pos (by decide), zX5_lose_10, if_neg (c_ok hs (by omega)), nI_clamp (by omega), m_there hM1 hs, if_neg hl, zX5_lose_16, if_pos (by decide), zX5_lose_25, if_neg (c_ok hs (by omega)), nI_clamp (by omega), zX5_lose_32, if_neg (c_ok hs (by omega)), nI_clamp (by omega), q_up_ne _ _ _ (show (44 : Nat) ≠ 42 by decide), d3, zX5_lose_38]
  · refine t_ask (-2) hX hM ⟨w, q_GX_r w, ?_⟩ (fun w1 hM1 => ⟨w1, q_GM_r w1, ?_⟩)
    · rw [zX4_lose_0, e_sheetAtN h, qc_i, zX4_lose_5, zX4_lose_10]
    · rw [zX5_lose_0, m_isSheet, qc_i, zX5_lose_4, decide_eq_false h, q_bo_f, if_neg (fun q => q rfl), zX5_lose_7]
theorem m_lacks (hM : q_MB w sg pb wb sc sp si oc hb sz pl wl ns mi ex fi fo it) {s : Nat} (hs : s < 4) (u i : Int32) : qe iX5_lacks 0 [some (.ref 27), some (.int (nI s)), some (.int u), some (.int i)] [] w = some (some (.int (x_lf (fo s) u i (sz s))), w) := by
  obtain ⟨c1, c2, c3⟩ := hM.2.2.2.2.2.2.2 s hs
  rw [zX5_lacks_0, if_neg (c_ok hs (by omega)), nI_clamp (by omega), m_there hM hs]
  unfold x_lf
  by_cases hl : fo s = -1
  · rw [if_pos hl, if_pos hl, zX5_lacks_6, if_neg (fun q => q rfl), zX5_lacks_9, zX5_lacks_48]
  · obtain ⟨d1, d2, d3, d4⟩ := c3 hl
    rw [if_neg hl, if_neg hl, zX5_lacks_6, if_pos (by decide), zX5_lacks_13, if_neg (c_ok hs (by omega)), nI_clamp (by omega), d2, zX5_lacks_19]
    by_cases h2 : fo s = u
    · rw [if_pos h2, zX5_lacks_27, if_neg (c_ok hs (by omega)), nI_clamp (by omega), d3, zX5_lacks_35, m_in, qc_i, zX5_lacks_40, if_neg (show ¬ ¬ fo s = u from fun q => q h2)]
      by_cases h3 : 0 ≤ i ∧ i ≤ nI (sz s) - 1
      · rw [decide_eq_true h3, q_bo_t, if_neg (by decide), zX5_lacks_43, zX5_lacks_48, if_pos h3]
      · rw [decide_eq_false h3, q_bo_f, if_pos rfl, zX5_lacks_47, zX5_lacks_48, if_neg h3]
    · rw [if_neg h2, zX5_lacks_23, zX5_lacks_48, if_pos h2]
theorem m_keep (hM : q_MB w sg pb wb sc sp si oc hb sz pl wl ns mi ex fi fo it) {s j : Nat} (hs : s < 4) (hl : ¬ fo s = -1) (hj : j < 48) (v : Int32) : qe iX5_keep 0 [some (.ref 27), some (.int (nI s)), some (.int (nI j)), some (.int v)] [] w = some (none, q_up w 45 (48 * s + j) (x_kp (fo s) v)) := by
  obtain ⟨d1, d2, d3, d4⟩ := (hM.2.2.2.2.2.2.2 s hs).2.2 hl
  have fin : ∀ x, qe iX5_keep 40 [some (.ref 27), some (.int (nI s)), some (.int (nI j)), some (.int v)] [.int x, .int (nI (48 * s + j)), .ref 45] w = some (none, q_up w 45 (48 * s + j) x) := by
    intro x
    rw [zX5_keep_40, if_neg (c_ok (by omega) (by omega)), nI_clamp (by omega), zX5_keep_41]
  rw [zX5_keep_0, if_neg (c_ok hs (by omega)), nI_clamp (by omega), d2, q_lit48, zX5_keep_16, x_kp]
  by_cases h0 : fo s = 0
  · rw [if_neg (fun q => q h0), zX5_keep_19, fin, if_pos h0]
  · rw [if_pos h0, zX5_keep_24, if_neg (c_ok hs (by omega)), nI_clamp (by omega), d2, zX5_keep_30, if_neg h0]
    by_cases h1 : fo s = 1
    · rw [if_neg (fun q => q h1), zX5_keep_34, fin, if_pos h1]
    · rw [if_pos h1, zX5_keep_39, fin, if_neg h1]
theorem x_lf_0 {f g i : Int32} {n : Nat} (hn : n ≤ 48) (h : x_lf f g i n = 0) : ¬ f = -1 ∧ f = g ∧ ∃ j, j < n ∧ i = nI j := by
  unfold x_lf at h
  by_cases h1 : f = -1
  · rw [if_pos h1] at h; exact absurd h (by decide)
  · rw [if_neg h1] at h
    by_cases h2 : f = g
    · rw [if_neg (show ¬ ¬ f = g from fun q => q h2)] at h
      by_cases h3 : 0 ≤ i ∧ i ≤ nI n - 1
      · refine ⟨h1, h2, ?_⟩
        obtain ⟨j, hj, rfl⟩ := nI_of (Int32.not_lt.mpr h3.1)
        have h4 := Int32.le_iff_toInt_le.mp h3.2
        rw [nI_toInt hj, show (1 : Int32) = nI 1 from rfl, pk_sub_toInt (by omega) (by omega)] at h4
        exact ⟨j, by omega, rfl⟩
      · rw [if_neg h3] at h; exact absurd h (by decide)
    · rw [if_pos h2] at h; exact absurd h (by decide)
theorem x_lf_pos {f g i : Int32} {n : Nat} (h : ¬ x_lf f g i n = 0) : ¬ x_lf f g i n ≤ 0 := by
  unfold x_lf at h ⊢
  by_cases h1 : f = -1
  · rw [if_pos h1]; decide
  · rw [if_neg h1] at h ⊢
    by_cases h2 : f = g
    · rw [if_neg (show ¬ ¬ f = g from fun q => q h2)] at h ⊢
      by_cases h3 : 0 ≤ i ∧ i ≤ nI n - 1
      · rw [if_pos h3] at h; exact absurd rfl h
      · rw [if_neg h3]; decide
    · rw [if_pos h2]; decide
theorem x_XS_it {s j : Nat} {x : Int32} (hs : s < 4) (hX : q_XS w sz fo it) : q_XS (q_up w (17 + 2 * s + 1) j x) sz fo (x_uj it s (x_ui (it s) j x)) := by
  intro r hr
  obtain ⟨a1, a2, a3, a4⟩ := hX r hr
  rw [q_up_ne _ _ _ (show 17 + 2 * r ≠ 17 + 2 * s + 1 by omega)]
  refine ⟨a1, a2, a3, fun i hi => ?_⟩
  by_cases e : r = s
  · subst e
    rw [x_uj_s, show 18 + 2 * r = 17 + 2 * r + 1 by omega, q_up_at]
    by_cases e2 : i = j
    · rw [e2, pk_us, x_ui_s]
    · rw [pk_un e2, x_ui_n _ _ e2, show 17 + 2 * r + 1 = 18 + 2 * r by omega]; exact a4 i hi
  · rw [x_uj_n _ _ e, q_up_ne _ _ _ (by omega)]; exact a4 i hi
theorem x_MSH_it {s j : Nat} {x : Int32} (hs : s < 4) (hj : j < 48) (hM : q_MSH w sz fo it) : q_MSH (q_up w 45 (48 * s + j) x) sz fo (x_uj it s (x_ui (it s) j x)) := by
  intro r hr
  obtain ⟨a1, a2, a3⟩ := hM r hr
  rw [q_up_ne _ _ _ (show (42 : Nat) ≠ 45 by decide), q_up_ne _ _ _ (show (43 : Nat) ≠ 45 by decide), q_up_ne _ _ _ (show (44 : Nat) ≠ 45 by decide), q_up_at]
  refine ⟨a1, a2, fun q => ?_⟩
  obtain ⟨d1, d2, d3, d4⟩ := a3 q
  refine ⟨d1, d2, d3, fun i hi => ?_⟩
  by_cases e : r = s
  · subst e
    rw [x_uj_s]
    by_cases e2 : i = j
    · rw [e2, pk_us, x_ui_s]
    · rw [pk_un (by omega), x_ui_n _ _ e2]; exact d4 i hi
  · rw [x_uj_n _ _ e, pk_un (by omega)]; exact d4 i hi
theorem p_put (hX : q_X w sg pb wb sc sp si oc hb sz pl wl ns mi ex fi fo it) (hM : q_MB w sg pb wb sc sp si oc hb sz pl wl ns mi ex fi fo it) (v u i t : Int32) : q_same w (qe iX4_put 0 [some (.ref 0), some (.int v), some (.int u), some (.int i), some (.int t), none, none] []) (qe iX5_put 0 [some (.ref 27), some (.int v), some (.int u), some (.int i), some (.int t), none] []) := by
  by_cases h : 0 ≤ v ∧ v ≤ 3
  · obtain ⟨s, hs, rfl⟩ := q_s4v h
    have hk := q_s4 hs
    obtain ⟨S1, S2, S3, S4⟩ := hX.1.2.2.2.2.2.2.2.2 s hs
    by_cases hu : 0 ≤ u ∧ u ≤ 2
    · by_cases hf : x_lf (fo s) u i (sz s) = 0
      · obtain ⟨f1, f2, j, hj, rfl⟩ := x_lf_0 S3 hf
        refine t_move 1 hM ⟨q_up w (17 + 2 * s + 1) j (x_kp (fo s) t), x_X_sh (fun k hk2 => q_up_ne _ _ _ (by omega)) (x_XS_it hs hX.1.2.2.2.2.2.2.2.2) hX, fun k hk2 => q_up_ne _ _ _ (by omega), ?_⟩ (fun wm hM1 => ⟨q_up wm 45 (48 * s + j) (x_kp (fo s) t), x_MB_sh (fun k _ _ _ a _ => q_up_ne _ _ _ a) (x_MSH_it hs (by omega) hM1.2.2.2.2.2.2.2) hM1, fun k hk2 => q_up_ne _ _ _ (by omega), ?_⟩)
        · rw [zX4_put_0, e_sheetAt hs, qc_i, zX4_put_5b hk, zX4_put_12 hk, e_isForm, qc_i, zX4_put_16 hk, decide_eq_true hu, q_bo_t, if_pos (by decide), zX4_put_22 hk, e_itemFinding hk S2, qc_i, zX4_put_29 hk, S1, hf, if_pos rfl, zX4_put_43 hk, e_store hk (by omega), qc_v, zX4_put_51 hk, S1]
        · rw [zX5_put_0, m_isSheet, qc_i, zX5_put_4, decide_eq_true h, q_bo_t, if_neg (by decide), zX5_put_7, m_in, qc_i, zX5_put_13, decide_eq_true hu, q_bo_t, if_pos (by decide), zX5_put_19, m_lacks hM1 hs, qc_i, zX5_put_26, hf, if_pos (by decide), zX5_put_40, m_keep hM1 hs f1 (by omega), qc_v, zX5_put_48]
      · refine t_find (-10 - x_lf (fo s) u i (sz s)) (x_lf (fo s) u i (sz s)) hX hM ?_ (fun w1 hM1 => ?_)
        · rw [zX4_put_0, e_sheetAt hs, qc_i, zX4_put_5b hk, zX4_put_12 hk, e_isForm, qc_i, zX4_put_16 hk, decide_eq_true hu, q_bo_t, if_pos (by decide), zX4_put_22 hk, e_itemFinding hk S2, qc_i, zX4_put_29 hk, S1, if_neg hf, zX4_put_36 hk, e_find, qc_i, zX4_put_42 hk]
        · rw [zX5_put_0, m_isSheet, qc_i, zX5_put_4, decide_eq_true h, q_bo_t, if_neg (by decide), zX5_put_7, m_in, qc_i, zX5_put_13, decide_eq_true hu, q_bo_t, if_pos (by decide), zX5_put_19, m_lacks hM1 hs, qc_i, zX5_put_26, if_neg (x_lf_pos hf), zX5_put_33, m_meets, qc_i, zX5_put_39]
    · refine t_ask (-2) hX hM ⟨w, q_GX_r w, ?_⟩ (fun w1 hM1 => ⟨w1, q_GM_r w1, ?_⟩)
      · rw [zX4_put_0, e_sheetAt hs, qc_i, zX4_put_5b hk, zX4_put_12 hk, e_isForm, qc_i, zX4_put_16 hk, decide_eq_false hu, q_bo_f, if_neg (fun q => q rfl), zX4_put_19b hk]
      · rw [zX5_put_0, m_isSheet, qc_i, zX5_put_4, decide_eq_true h, q_bo_t, if_neg (by decide), zX5_put_7, m_in, qc_i, zX5_put_13, decide_eq_false hu, q_bo_f, if_neg (fun q => q rfl), zX5_put_16]
  · refine t_ask (-2) hX hM ⟨w, q_GX_r w, ?_⟩ (fun w1 hM1 => ⟨w1, q_GM_r w1, ?_⟩)
    · rw [zX4_put_0, e_sheetAtN h, qc_i, zX4_put_5, zX4_put_19]
    · rw [zX5_put_0, m_isSheet, qc_i, zX5_put_4, decide_eq_false h, q_bo_f, if_pos rfl, zX5_put_16]
theorem p_get (hX : q_X w sg pb wb sc sp si oc hb sz pl wl ns mi ex fi fo it) (hM : q_MB w sg pb wb sc sp si oc hb sz pl wl ns mi ex fi fo it) (v u i : Int32) : q_same w (qe iX4_get 0 [some (.ref 0), some (.int v), some (.int u), some (.int i), none, none] []) (qe iX5_get 0 [some (.ref 27), some (.int v), some (.int u), some (.int i), none] []) := by
  by_cases h : 0 ≤ v ∧ v ≤ 3
  · obtain ⟨s, hs, rfl⟩ := q_s4v h
    have hk := q_s4 hs
    obtain ⟨S1, S2, S3, S4⟩ := hX.1.2.2.2.2.2.2.2.2 s hs
    by_cases hu : 0 ≤ u ∧ u ≤ 2
    · by_cases hf : x_lf (fo s) u i (sz s) = 0
      · obtain ⟨f1, f2, j, hj, rfl⟩ := x_lf_0 S3 hf
        refine t_ask (it s j) hX hM ⟨w, q_GX_r w, ?_⟩ (fun w1 hM1 => ⟨w1, q_GM_r w1, ?_⟩)
        · rw [zX4_get_0, e_sheetAt hs, qc_i, zX4_get_5b hk, zX4_get_12 hk, e_isForm, qc_i, zX4_get_16 hk, decide_eq_true hu, q_bo_t, if_pos (by decide), zX4_get_22 hk, e_itemFinding hk S2, qc_i, zX4_get_29 hk, S1, hf, if_pos rfl, zX4_get_45 hk, e_at (n := 48) w (q_sS1 hk) (by omega) (by omega), qc_i, zX4_get_54 hk, show 17 + 2 * s + 1 = 18 + 2 * s by omega, S4 j (by omega)]
        · obtain ⟨d1, d2, d3, d4⟩ := (hM1.2.2.2.2.2.2.2 s hs).2.2 f1
          rw [zX5_get_0, m_isSheet, qc_i, zX5_get_4, decide_eq_true h, q_bo_t, if_neg (by decide), zX5_get_7, m_in, qc_i, zX5_get_13, decide_eq_true hu, q_bo_t, if_pos (by decide), zX5_get_19, m_lacks hM1 hs, qc_i, zX5_get_26, hf, if_pos (by decide), zX5_get_42, q_lit48, if_neg (c_ok (by omega) (by omega)), nI_clamp (by omega), d4 j (by omega), zX5_get_53]
      · refine t_find (-2147483648) (x_lf (fo s) u i (sz s)) hX hM ?_ (fun w1 hM1 => ?_)
        · rw [zX4_get_0, e_sheetAt hs, qc_i, zX4_get_5b hk, zX4_get_12 hk, e_isForm, qc_i, zX4_get_16 hk, decide_eq_true hu, q_bo_t, if_pos (by decide), zX4_get_22 hk, e_itemFinding hk S2, qc_i, zX4_get_29 hk, S1, if_neg hf, zX4_get_36 hk]
        · rw [zX5_get_0, m_isSheet, qc_i, zX5_get_4, decide_eq_true h, q_bo_t, if_neg (by decide), zX5_get_7, m_in, qc_i, zX5_get_13, decide_eq_true hu, q_bo_t, if_pos (by decide), zX5_get_19, m_lacks hM1 hs, qc_i, zX5_get_26, if_neg (x_lf_pos hf), zX5_get_33]
    · refine t_ask (-2147483648) hX hM ⟨w, q_GX_r w, ?_⟩ (fun w1 hM1 => ⟨w1, q_GM_r w1, ?_⟩)
      · rw [zX4_get_0, e_sheetAt hs, qc_i, zX4_get_5b hk, zX4_get_12 hk, e_isForm, qc_i, zX4_get_16 hk, decide_eq_false hu, q_bo_f, if_neg (fun q => q rfl), zX4_get_19b hk]
      · rw [zX5_get_0, m_isSheet, qc_i, zX5_get_4, decide_eq_true h, q_bo_t, if_neg (by decide), zX5_get_7, m_in, qc_i, zX5_get_13, decide_eq_false hu, q_bo_f, if_neg (fun q => q rfl), zX5_get_16]
  · refine t_ask (-2147483648) hX hM ⟨w, q_GX_r w, ?_⟩ (fun w1 hM1 => ⟨w1, q_GM_r w1, ?_⟩)
    · rw [zX4_get_0, e_sheetAtN h, qc_i, zX4_get_5, zX4_get_19]
    · rw [zX5_get_0, m_isSheet, qc_i, zX5_get_4, decide_eq_false h, q_bo_f, if_pos rfl, zX5_get_16]
end S56
