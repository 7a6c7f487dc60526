/-! copy, write, clash, read: both alike -/
def x_wg (f : Int32) (cl : Nat → Nat) (g : Nat → Int32) (i : Nat) : Nat → Int32 := fun j => if j < i then x_kp f (nI (cl j)) else g j
theorem x_wg_0 (f : Int32) (cl : Nat → Nat) (g : Nat → Int32) : x_wg f cl g 0 = g := funext (fun j => if_neg (Nat.not_lt_zero j))
theorem x_wg_1 (f : Int32) (cl : Nat → Nat) (g : Nat → Int32) (i : Nat) : x_ui (x_wg f cl g i) i (x_kp f (nI (cl i))) = x_wg f cl g (i + 1) := by
  funext j
  unfold x_ui x_wg
  by_cases h : j = i
  · rw [if_pos h, if_pos (by omega), h]
  · rw [if_neg h]
    by_cases h2 : j < i
    · rw [if_pos h2, if_pos (by omega)]
    · rw [if_neg h2, if_neg (by omega)]
theorem x_uj_uj (it : Nat → Nat → Int32) (s : Nat) (g h : Nat → Int32) : x_uj (x_uj it s g) s h = x_uj it s h := by
  funext j
  unfold x_uj
  by_cases e : j = s
  · rw [if_pos e, if_pos e]
  · rw [if_neg e, if_neg e, if_neg e]
theorem x_uj_id (it : Nat → Nat → Int32) (s : Nat) : x_uj it s (it s) = it := by
  funext j
  unfold x_uj
  by_cases e : j = s
  · rw [if_pos e, e]
  · rw [if_neg e]
def x_rn (it : Nat → Int32) (sz : Nat) : Nat → Nat → Nat
  | 0, i => i
  | m + 1, i => if i < sz ∧ 1 ≤ it i ∧ it i ≤ 63 then x_rn it sz m (i + 1) else i
def x_rs (sg : Nat → Nat) (g : Nat → Int32) (i : Nat) : Nat → Nat := fun j => if j < i then x_iN g j else sg j
theorem x_rs_0 (sg : Nat → Nat) (g : Nat → Int32) : x_rs sg g 0 = sg := funext (fun j => if_neg (Nat.not_lt_zero j))
theorem x_rs_1 (sg : Nat → Nat) (g : Nat → Int32) (i : Nat) : x_un (x_rs sg g i) i (x_iN g i) = x_rs sg g (i + 1) := by
  funext j
  unfold x_un x_rs
  by_cases h : j = i
  · rw [if_pos h, if_pos (by omega), h]
  · rw [if_neg h]
    by_cases h2 : j < i
    · rw [if_pos h2, if_pos (by omega)]
    · rw [if_neg h2, if_neg (by omega)]
section S57
variable {w w' : qW} {sg pb wb sc sp si oc hb sz : Nat → Nat} {pl wl ns mi ex : Nat} {fi : Int32} {fo : Nat → Int32} {it : Nat → Nat → Int32}
theorem q_RD_k (h27 : w' 27 = w 27) (h31 : w' 31 = w 31) (h32 : w' 32 = w 32) (h33 : w' 33 = w 33) (hR : q_RD w sg pb wb sc sp si oc hb sz pl wl ns mi ex fi fo it) : q_RD w' sg pb wb sc sp si oc hb sz pl wl ns mi ex fi fo it := by
  unfold q_RD q_MP q_MW at hR ⊢
  rw [h27, h31, h32, h33]
  exact hR
theorem m_stretch {s t : Nat} (hs : s < 4) (ht : t < 4) {n1 n2 : Nat} (h1 : w 44 s = nI n1) (h2 : w 44 t = nI n2) (hn1 : n1 ≤ 48) (hn2 : n2 ≤ 48) (i j n : Int32) : qe iX5_copy 62 [some (.ref 27), some (.int (nI s)), some (.int i), some (.int (nI t)), some (.int j), some (.int n), none] [] w = if (x_st n1 i n && x_st n2 j n) = true then qe iX5_copy 117 [some (.ref 27), some (.int (nI s)), some (.int i), some (.int (nI t)), some (.int j), some (.int n), none] [] w else qe iX5_copy 111 [some (.ref 27), some (.int (nI s)), some (.int i), some (.int (nI t)), some (.int j), some (.int n), none] [] w := by
  rw [zX5_copy_62]
  by_cases hi : i < 0
  · rw [if_pos hi, show x_st n1 i n = false from decide_eq_false (fun q => q.1 hi), Bool.false_and, if_neg Bool.false_ne_true]
  · rw [if_neg hi, zX5_copy_66]
    by_cases hj : j < 0
    · rw [if_pos hj, show x_st n2 j n = false from decide_eq_false (fun q => q.1 hj), Bool.and_false, if_neg Bool.false_ne_true]
    · rw [if_neg hj, zX5_copy_71]
      by_cases hn : n < 0
      · rw [if_pos hn, show x_st n1 i n = false from decide_eq_false (fun q => q.2.1 hn), Bool.false_and, if_neg Bool.false_ne_true]
      · obtain ⟨a, ha, rfl⟩ := nI_of hi
        obtain ⟨b, hb2, rfl⟩ := nI_of hj
        obtain ⟨c, hc, rfl⟩ := nI_of hn
        have e1 : x_st n1 (nI a) (nI c) = decide (a + c ≤ n1) := by
          unfold x_st
          rw [nI_clamp ha, nI_clamp hc]
          by_cases h : a + c ≤ n1
          · rw [decide_eq_true h, decide_eq_true ⟨hi, hn, h⟩]
          · rw [decide_eq_false h, decide_eq_false (fun q => h q.2.2)]
        have e2 : x_st n2 (nI b) (nI c) = decide (b + c ≤ n2) := by
          unfold x_st
          rw [nI_clamp hb2, nI_clamp hc]
          by_cases h : b + c ≤ n2
          · rw [decide_eq_true h, decide_eq_true ⟨hj, hn, h⟩]
          · rw [decide_eq_false h, decide_eq_false (fun q => h q.2.2)]
        rw [if_neg hn, zX5_copy_76, if_neg (c_ok hs (by omega)), nI_clamp (by omega), h1, zX5_copy_88, nI_l ha, nI_l hc, nI_l (show n1 < 2 ^ 31 by omega), lN_add, e1, e2]
        by_cases h3 : a + c ≤ n1
        · rw [if_neg (fun q => by have := (pk_lLT (by omega) (by omega)).mp ((lg_cmp_gt _ _).mp q); omega), zX5_copy_93, if_neg (c_ok ht (by omega)), nI_clamp (by omega), h2, zX5_copy_106, nI_l hb2, nI_l hc, nI_l (show n2 < 2 ^ 31 by omega), lN_add, decide_eq_true h3, Bool.true_and]
          by_cases h4 : b + c ≤ n2
          · rw [if_pos ((lg_cmp_le _ _).mpr ((pk_lLE (by omega) (by omega)).mpr h4)), decide_eq_true h4, if_pos rfl]
          · rw [if_neg (fun q => h4 ((pk_lLE (by omega) (by omega)).mp ((lg_cmp_le _ _).mp q))), decide_eq_false h4, if_neg Bool.false_ne_true]
        · rw [if_pos ((lg_cmp_gt _ _).mpr ((pk_lLT (by omega) (by omega)).mpr (by omega))), decide_eq_false h3, Bool.false_and, if_neg Bool.false_ne_true]
theorem m_moveOut {s t a b n : Nat} (hs : s < 4) (ha : a + n ≤ 48) : ∀ m k (w : qW) , k + m = n → (∀ i, i < k → w 46 i = w 45 (48 * s + a + i)) → ∃ w', (∀ i, i ≠ 46 → w' i = w i) ∧ (∀ i, i < n → w' 46 i = w 45 (48 * s + a + i)) ∧ qe iX5_copy 120 [some (.ref 27), some (.int (nI s)), some (.int (nI a)), some (.int (nI t)), some (.int (nI b)), some (.int (nI n)), some (.int (nI k))] [] w = qe iX5_copy 154 [some (.ref 27), some (.int (nI s)), some (.int (nI a)), some (.int (nI t)), some (.int (nI b)), some (.int (nI n)), some (.int (nI n))] [] w' := by
  intro m
  induction m with
  | zero => intro k w hk h; have : k = n := by omega
            subst this; exact ⟨w, fun _ _ => rfl, h, by rw [zX5_copy_120, if_pos (Int32.le_refl _)]⟩
  | succ m ih =>
    intro k w hk h
    have e46 : ∀ i, i ≠ 46 → (q_up w 46 k (w 45 (48 * s + a + k))) i = w i := fun i hi => q_up_ne _ _ _ hi
    obtain ⟨w', r1, r2, r3⟩ := ih (k + 1) (q_up w 46 k (w 45 (48 * s + a + k))) (by omega) (by
      intro i hi
      rw [q_up_at, e46 45 (by decide)]
      by_cases e : i = k
      · rw [e, pk_us]
      · rw [pk_un e]; exact h i (by omega))
    refine ⟨w', fun i hi => (r1 i hi).trans (e46 i hi), fun i hi => by rw [r2 i hi, e46 45 (by decide)], ?_⟩
    rw [zX5_copy_120, if_neg (nI_ge (by omega) (by omega)), zX5_copy_127, q_lit48, nI_add, if_neg (c_ok (by omega) (by omega)), nI_clamp (by omega), zX5_copy_147, if_neg (c_ok (by omega) (by omega)), nI_clamp (by omega), zX5_copy_148, nI_1]
    exact r3
theorem m_moveIn {s t a b n : Nat} (ht : t < 4) (hb2 : b + n ≤ 48) : ∀ m k (w : qW), k + m = n → ∃ w', (∀ i, i ≠ 45 → w' i = w i) ∧ (∀ i, k ≤ i → i < n → w' 45 (48 * t + b + i) = w 46 i) ∧ (∀ i, (i < 48 * t + b + k ∨ 48 * t + b + n ≤ i) → w' 45 i = w 45 i) ∧ qe iX5_copy 157 [some (.ref 27), some (.int (nI s)), some (.int (nI a)), some (.int (nI t)), some (.int (nI b)), some (.int (nI n)), some (.int (nI k))] [] w = some (some (.int 1), w') := by
  intro m
  induction m with
  | zero => intro k w hk; have : k = n := by omega
            subst this; exact ⟨w, fun _ _ => rfl, fun i h1 h2 => by omega, fun _ _ => rfl, by rw [zX5_copy_157, if_pos (Int32.le_refl _), zX5_copy_192]⟩
  | succ m ih =>
    intro k w hk
    have e45 : ∀ i, i ≠ 45 → (q_up w 45 (48 * t + b + k) (w 46 k)) i = w i := fun i hi => q_up_ne _ _ _ hi
    obtain ⟨w', r1, r2, r3, r4⟩ := ih (k + 1) (q_up w 45 (48 * t + b + k) (w 46 k)) (by omega)
    refine ⟨w', fun i hi => (r1 i hi).trans (e45 i hi), fun i h1 h2 => ?_, fun i hi => ?_, ?_⟩
    · by_cases e : i = k
      · rw [e, r3 (48 * t + b + k) (by omega), q_up_at, pk_us]
      · rw [r2 i (by omega) h2, e45 46 (by decide)]
    · rw [r3 i (by omega), q_up_at, pk_un (by omega)]
    · rw [zX5_copy_157, if_neg (nI_ge (by omega) (by omega)), zX5_copy_164, if_neg (c_ok (by omega) (by omega)), nI_clamp (by omega), q_lit48, nI_add, zX5_copy_185, if_neg (c_ok (by omega) (by omega)), nI_clamp (by omega), zX5_copy_186, nI_1]
      exact r4
theorem p_copy (hX : q_X w sg pb wb sc sp si oc hb sz pl wl ns mi ex fi fo it) (hM : q_MB w sg pb wb sc sp si oc hb sz pl wl ns mi ex fi fo it) (v i u j n : Int32) : q_same w (qe iX4_copy 0 [some (.ref 0), some (.int v), some (.int i), some (.int u), some (.int j), some (.int n), none, none] []) (qe iX5_copy 0 [some (.ref 27), some (.int v), some (.int i), some (.int u), some (.int j), some (.int n), none] []) := by
  by_cases h : 0 ≤ v ∧ v ≤ 3
  · obtain ⟨s, hs, rfl⟩ := q_s4v h
    have hk := q_s4 hs
    obtain ⟨S1, S2, S3, S4⟩ := hX.1.2.2.2.2.2.2.2.2 s hs
    by_cases hu : 0 ≤ u ∧ u ≤ 3
    · obtain ⟨t, ht, rfl⟩ := q_s4v hu
      have hk2 := q_s4 ht
      obtain ⟨T1, T2, T3, T4⟩ := hX.1.2.2.2.2.2.2.2.2 t ht
      have xst : ∀ w1, qe iX4_copy 0 [some (.ref 0), some (.int (nI s)), some (.int i), some (.int (nI t)), some (.int j), some (.int n), none, none] [] w1 = qe iX4_copy 27 [some (.ref 0), some (.int (nI s)), some (.int i), some (.int (nI t)), some (.int j), some (.int n), some (.ref (17 + 2 * s)), some (.ref (17 + 2 * t))] [] w1 := by
        intro w1
        rw [zX4_copy_0, e_sheetAt hs, qc_i, zX4_copy_5b hk, e_sheetAt ht, qc_i, zX4_copy_12d hk hk2, zX4_copy_19b hk hk2]
      have mst : ∀ w1, qe iX5_copy 0 [some (.ref 27), some (.int (nI s)), some (.int i), some (.int (nI t)), some (.int j), some (.int n), none] [] w1 = qe iX5_copy 17 [some (.ref 27), some (.int (nI s)), some (.int i), some (.int (nI t)), some (.int j), some (.int n), none] [] w1 := by
        intro w1
        rw [zX5_copy_0, m_isSheet, qc_i, zX5_copy_4, decide_eq_true h, q_bo_t, if_neg (by decide), zX5_copy_7, m_isSheet, qc_i, zX5_copy_11, decide_eq_true hu, q_bo_t, if_pos (by decide)]
      by_cases hl : fo s = -1
      · refine t_find (-10 - 1) 1 hX hM ?_ (fun w1 hM1 => ?_)
        · rw [xst, zX4_copy_27 hk hk2, e_isLost hk, qc_i, zX4_copy_32 hk hk2, S1, decide_eq_true hl, q_bo_t, if_pos (by decide), zX4_copy_43 hk hk2, e_find, qc_i, zX4_copy_48 hk hk2]
        · rw [mst, zX5_copy_17, if_neg (c_ok hs (by omega)), nI_clamp (by omega), m_there hM1 hs, if_pos hl, zX5_copy_23, if_pos rfl, zX5_copy_35, m_meets, qc_i, zX5_copy_40]
      · by_cases hl2 : fo t = -1
        · refine t_find (-10 - 1) 1 hX hM ?_ (fun w1 hM1 => ?_)
          · rw [xst, zX4_copy_27 hk hk2, e_isLost hk, qc_i, zX4_copy_32 hk hk2, S1, decide_eq_false hl, q_bo_f, if_neg (fun q => q rfl), zX4_copy_35 hk hk2, e_isLost hk2, qc_i, zX4_copy_40 hk hk2, T1, decide_eq_true hl2, q_bo_t, if_neg (by decide), zX4_copy_43 hk hk2, e_find, qc_i, zX4_copy_48 hk hk2]
          · rw [mst, zX5_copy_17, if_neg (c_ok hs (by omega)), nI_clamp (by omega), m_there hM1 hs, if_neg hl, zX5_copy_23, if_neg (by decide), zX5_copy_26, if_neg (c_ok ht (by omega)), nI_clamp (by omega), m_there hM1 ht, if_pos hl2, zX5_copy_32, if_neg (fun q => q rfl), zX5_copy_35, m_meets, qc_i, zX5_copy_40]
        · have xst2 : qe iX4_copy 0 [some (.ref 0), some (.int (nI s)), some (.int i), some (.int (nI t)), some (.int j), some (.int n), none, none] [] w = qe iX4_copy 49 [some (.ref 0), some (.int (nI s)), some (.int i), some (.int (nI t)), some (.int j), some (.int n), some (.ref (17 + 2 * s)), some (.ref (17 + 2 * t))] [] w := by
            rw [xst, zX4_copy_27 hk hk2, e_isLost hk, qc_i, zX4_copy_32 hk hk2, S1, decide_eq_false hl, q_bo_f, if_neg (fun q => q rfl), zX4_copy_35 hk hk2, e_isLost hk2, qc_i, zX4_copy_40 hk hk2, T1, decide_eq_false hl2, q_bo_f, if_pos rfl]
          have mst2 : ∀ w1, q_MB w1 sg pb wb sc sp si oc hb sz pl wl ns mi ex fi fo it → qe iX5_copy 0 [some (.ref 27), some (.int (nI s)), some (.int i), some (.int (nI t)), some (.int j), some (.int n), none] [] w1 = if fo s = fo t then qe iX5_copy 62 [some (.ref 27), some (.int (nI s)), some (.int i), some (.int (nI t)), some (.int j), some (.int n), none] [] w1 else qe iX5_copy 56 [some (.ref 27), some (.int (nI s)), some (.int i), some (.int (nI t)), some (.int j), some (.int n), none] [] w1 := by
            intro w1 hM1
            obtain ⟨d1, d2, d3, d4⟩ := (hM1.2.2.2.2.2.2.2 s hs).2.2 hl
            obtain ⟨f1, f2, f3, f4⟩ := (hM1.2.2.2.2.2.2.2 t ht).2.2 hl2
            rw [mst, zX5_copy_17, if_neg (c_ok hs (by omega)), nI_clamp (by omega), d1, zX5_copy_23, if_neg (by decide), zX5_copy_26, if_neg (c_ok ht (by omega)), nI_clamp (by omega), f1, zX5_copy_32, if_pos (by decide), zX5_copy_41, if_neg (c_ok hs (by omega)), nI_clamp (by omega), d2, zX5_copy_47, if_neg (c_ok ht (by omega)), nI_clamp (by omega), f2, zX5_copy_53]
          by_cases hff : fo s = fo t
          · have xst3 : qe iX4_copy 0 [some (.ref 0), some (.int (nI s)), some (.int i), some (.int (nI t)), some (.int j), some (.int n), none, none] [] w = if (x_st (sz s) i n && x_st (sz t) j n) = true then qe iX4_copy 97 [some (.ref 0), some (.int (nI s)), some (.int i), some (.int (nI t)), some (.int j), some (.int n), some (.ref (17 + 2 * s)), some (.ref (17 + 2 * t))] [] w else qe iX4_copy 91 [some (.ref 0), some (.int (nI s)), some (.int i), some (.int (nI t)), some (.int j), some (.int n), some (.ref (17 + 2 * s)), some (.ref (17 + 2 * t))] [] w := by
              rw [xst2, zX4_copy_49 hk hk2, S1, T1, if_pos hff, zX4_copy_68 hk hk2, e_hasStretch hk S2 S3, qc_i, zX4_copy_76 hk hk2]
              cases hx : x_st (sz s) i n with
              | false => rw [q_bo_f, if_pos rfl, Bool.false_and, if_neg Bool.false_ne_true]
              | true =>
                rw [q_bo_t, if_neg (by decide), zX4_copy_79 hk hk2, e_hasStretch hk2 T2 T3, qc_i, zX4_copy_88 hk hk2, Bool.true_and]
                cases hy : x_st (sz t) j n with
                | false => rw [q_bo_f, if_neg (fun q => q rfl), if_neg Bool.false_ne_true]
                | true => rw [q_bo_t, if_pos (by decide), if_pos rfl]
            have mst3 : ∀ w1, q_MB w1 sg pb wb sc sp si oc hb sz pl wl ns mi ex fi fo it → qe iX5_copy 0 [some (.ref 27), some (.int (nI s)), some (.int i), some (.int (nI t)), some (.int j), some (.int n), none] [] w1 = if (x_st (sz s) i n && x_st (sz t) j n) = true then qe iX5_copy 117 [some (.ref 27), some (.int (nI s)), some (.int i), some (.int (nI t)), some (.int j), some (.int n), none] [] w1 else qe iX5_copy 111 [some (.ref 27), some (.int (nI s)), some (.int i), some (.int (nI t)), some (.int j), some (.int n), none] [] w1 := by
              intro w1 hM1
              obtain ⟨d1, d2, d3, d4⟩ := (hM1.2.2.2.2.2.2.2 s hs).2.2 hl
              obtain ⟨f1, f2, f3, f4⟩ := (hM1.2.2.2.2.2.2.2 t ht).2.2 hl2
              rw [mst2 w1 hM1, if_pos hff, m_stretch hs ht d3 f3 S3 T3]
            by_cases hst : (x_st (sz s) i n && x_st (sz t) j n) = true
            · obtain ⟨q1, q2⟩ := (Bool.and_eq_true _ _).mp hst
              obtain ⟨o1, o2, o3⟩ := of_decide_eq_true q1
              obtain ⟨o4, -, o5⟩ := of_decide_eq_true q2
              obtain ⟨a, ha, rfl⟩ := nI_of o1
              obtain ⟨b, hb2, rfl⟩ := nI_of o4
              obtain ⟨c, hc, rfl⟩ := nI_of o2
              rw [nI_clamp ha, nI_clamp hc] at o3
              rw [nI_clamp hb2, nI_clamp hc] at o5
              refine t_move 1 hM ⟨q_row w (17 + 2 * t + 1) (va_cpy (w (17 + 2 * s + 1)) (w (17 + 2 * t + 1)) a b c), x_X_sh (sz' := sz) (fo' := fo) (it' := x_uj it t (va_cpy (it s) (it t) a b c)) (fun k hk3 => q_row_ne _ _ (by omega)) ?_ hX, fun k hk3 => q_row_ne _ _ (by omega), ?_⟩ (fun wm hM1 => ?_)
              · intro r hr
                obtain ⟨R1, R2, R3, R4⟩ := hX.1.2.2.2.2.2.2.2.2 r hr
                rw [q_row_ne _ _ (show 17 + 2 * r ≠ 17 + 2 * t + 1 by omega)]
                refine ⟨R1, R2, R3, fun x hx => ?_⟩
                by_cases e : r = t
                · subst e
                  rw [x_uj_s, show 18 + 2 * r = 17 + 2 * r + 1 by omega, q_row_at]
                  by_cases hin : b ≤ x ∧ x < b + c
                  · rw [pk_cpy_in hin.1 hin.2, pk_cpy_in hin.1 hin.2, show 17 + 2 * s + 1 = 18 + 2 * s by omega]
                    exact S4 _ (by omega)
                  · rw [pk_cpy_out (by omega), pk_cpy_out (by omega), show 17 + 2 * r + 1 = 18 + 2 * r by omega]
                    exact R4 x hx
                · rw [x_uj_n _ _ e, q_row_ne _ _ (by omega)]
                  exact R4 x hx
              · rw [xst3, if_pos hst, zX4_copy_97 hk hk2, nI_clamp ha, nI_clamp hb2, nI_clamp hc, if_neg (fun q => q.elim o1 (fun q => q.elim o4 (fun q => q.elim o2 (fun q => q.elim (fun q => q (by omega)) (fun q => q (by omega)))))), zX4_copy_115 hk hk2]
              · obtain ⟨d1, d2, d3, d4⟩ := (hM1.2.2.2.2.2.2.2 s hs).2.2 hl
                obtain ⟨w2, g1, g2, g3⟩ := m_moveOut (s := s) (t := t) (a := a) (b := b) (n := c) hs (by omega) c 0 wm (by omega) (fun x hx => by omega)
                obtain ⟨w3, k1, k2, k3, k4⟩ := m_moveIn (s := s) (t := t) (a := a) (b := b) (n := c) ht (by omega) c 0 w2 (by omega)
                refine ⟨w3, x_MB_sh (fun k _ _ _ e f => (k1 k e).trans (g1 k f)) ?_ hM1, fun k hk3 => (k1 k (by omega)).trans (g1 k (by omega)), ?_⟩
                · intro r hr
                  obtain ⟨a1, a2, a3⟩ := hM1.2.2.2.2.2.2.2 r hr
                  rw [k1 42 (by decide), k1 43 (by decide), k1 44 (by decide), g1 42 (by decide), g1 43 (by decide), g1 44 (by decide)]
                  refine ⟨a1, a2, fun q => ?_⟩
                  obtain ⟨e1, e2, e3, e4⟩ := a3 q
                  refine ⟨e1, e2, e3, fun x hx => ?_⟩
                  by_cases e : r = t
                  · subst e
                    rw [x_uj_s]
                    by_cases hin : b ≤ x ∧ x < b + c
                    · have m1 := k2 (x - b) (Nat.zero_le _) (by omega)
                      rw [show 48 * r + b + (x - b) = 48 * r + x by omega] at m1
                      rw [m1, g2 (x - b) (by omega), pk_cpy_in hin.1 hin.2, show 48 * s + a + (x - b) = 48 * s + (a + (x - b)) by omega]
                      exact d4 _ (by omega)
                    · rw [k3 (48 * r + x) (by omega), g1 45 (by decide), pk_cpy_out (by omega)]
                      exact e4 x hx
                  · rw [x_uj_n _ _ e, k3 (48 * r + x) (by omega), g1 45 (by decide)]
                    exact e4 x hx
                · rw [nI_0] at g3 k4
                  rw [mst3 wm hM1, if_pos hst, zX5_copy_117, g3, zX5_copy_154, k4]
            · refine t_find (-10 - 2) 2 hX hM ?_ (fun w1 hM1 => ?_)
              · rw [xst3, if_neg hst, zX4_copy_91 hk hk2, e_find, qc_i, zX4_copy_96 hk hk2]
              · rw [mst3 w1 hM1, if_neg hst, zX5_copy_111, m_meets, qc_i, zX5_copy_116]
          · refine t_find (-10 - 4) 4 hX hM ?_ (fun w1 hM1 => ?_)
            · rw [xst2, zX4_copy_49 hk hk2, S1, T1, if_neg hff, zX4_copy_62 hk hk2, e_find, qc_i, zX4_copy_67 hk hk2]
            · rw [mst2 w1 hM1, if_neg hff, zX5_copy_56, m_meets, qc_i, zX5_copy_61]
    · refine t_ask (-2) hX hM ⟨w, q_GX_r w, ?_⟩ (fun w1 hM1 => ⟨w1, q_GM_r w1, ?_⟩)
      · rw [zX4_copy_0, e_sheetAt hs, qc_i, zX4_copy_5b hk, e_sheetAtN hu, qc_i, zX4_copy_12c hk, zX4_copy_19 hk, zX4_copy_24c hk]
      · rw [zX5_copy_0, m_isSheet, qc_i, zX5_copy_4, decide_eq_true h, q_bo_t, if_neg (by decide), zX5_copy_7, m_isSheet, qc_i, zX5_copy_11, decide_eq_false hu, q_bo_f, if_neg (fun q => q rfl), zX5_copy_14]
  · refine t_ask (-2) hX hM ⟨w, q_GX_r w, ?_⟩ (fun w1 hM1 => ⟨w1, q_GM_r w1, ?_⟩)
    · rw [zX4_copy_0, e_sheetAtN h, qc_i, zX4_copy_5]
      by_cases hu : 0 ≤ u ∧ u ≤ 3
      · obtain ⟨t, ht, rfl⟩ := q_s4v hu
        have hk2 := q_s4 ht
        rw [e_sheetAt ht, qc_i, zX4_copy_12b hk2, zX4_copy_24b hk2]
      · rw [e_sheetAtN hu, qc_i, zX4_copy_12, zX4_copy_24]
    · rw [zX5_copy_0, m_isSheet, qc_i, zX5_copy_4, decide_eq_false h, q_bo_f, if_pos rfl, zX5_copy_14]
theorem x_writeLoop {s N : Nat} (hs : s < 4) (hN : N ≤ (x_pc pb pl)) (hN2 : N ≤ 48) (v : Int32) : ∀ m i (w : qW), i + m = N → q_X w sg pb wb sc sp si oc hb sz pl wl ns mi ex fi fo (x_uj it s (x_wg (fo s) (x_cl sg (x_pg pb) sc sp si ns) (it s) i)) → ∃ w', q_X w' sg pb wb sc sp si oc hb sz pl wl ns mi ex fi fo (x_uj it s (x_wg (fo s) (x_cl sg (x_pg pb) sc sp si ns) (it s) N)) ∧ (∀ k, 27 ≤ k → w' k = w k) ∧ qe iX4_write 41 [some (.ref 0), some (.int v), some (.ref (17 + 2 * s)), some (.int (nI N)), some (.int (nI i))] [] w = some (some (.int (nI N)), w') := by
  have hk := q_s4 hs
  intro m
  induction m with
  | zero => intro i w hi hX; have : i = N := by omega
            subst this; exact ⟨w, hX, fun _ _ => rfl, by rw [zX4_write_41 hk, if_pos (Int32.le_refl _), zX4_write_68 hk]⟩
  | succ m ih =>
    intro i w hi hX
    have hc := hX.2.1.2.1
    obtain ⟨S1, S2, S3, S4⟩ := hX.1.2.2.2.2.2.2.2.2 s hs
    have hX1 := x_X_sh (fun k hk2 => q_up_ne w i (x_kp (fo s) (nI ((x_cl sg (x_pg pb) sc sp si ns) i))) (show k ≠ 17 + 2 * s + 1 by omega)) (x_XS_it hs hX.1.2.2.2.2.2.2.2.2) hX
    rw [x_uj_s, x_wg_1, x_uj_uj] at hX1
    obtain ⟨w', r1, r2, r3⟩ := ih (i + 1) _ (by omega) hX1
    refine ⟨w', r1, fun k hk2 => (r2 k hk2).trans (q_up_ne _ _ _ (by omega)), ?_⟩
    rw [zX4_write_41 hk, if_neg (nI_ge (by omega) (by omega)), zX4_write_47 hk, e_at (n := 24) w rfl (by omega) (by omega), qc_i, zX4_write_59 hk hk, e_store hk (by omega), qc_v, S1, (hX.2.1.2.2 i (by omega)).1, zX4_write_62 hk, nI_1]
    exact r3
theorem m_writeLoop {s N : Nat} (hs : s < 4) (hl : ¬ fo s = -1) (hN : N = min (sz s) (x_pc pb pl)) (hN2 : sz s ≤ 48) : ∀ m i (w : qW), i + m = N → q_MB w sg pb wb sc sp si oc hb sz pl wl ns mi ex fi fo (x_uj it s (x_wg (fo s) (x_cl sg (x_pg pb) sc sp si ns) (it s) i)) → q_RD w sg pb wb sc sp si oc hb sz pl wl ns mi ex fi fo it → ∃ w', q_MB w' sg pb wb sc sp si oc hb sz pl wl ns mi ex fi fo (x_uj it s (x_wg (fo s) (x_cl sg (x_pg pb) sc sp si ns) (it s) N)) ∧ (∀ k, k < 27 → w' k = w k) ∧ qe iX5_write 31 [some (.ref 27), some (.int (nI s)), some (.int (nI i))] [] w = some (some (.int (nI N)), w') := by
  intro m
  induction m with
  | zero =>
    intro i w hi hM hR
    have : i = N := by omega
    subst this
    obtain ⟨d1, d2, d3, d4⟩ := (hM.2.2.2.2.2.2.2 s hs).2.2 hl
    refine ⟨w, hM, fun _ _ => rfl, ?_⟩
    have hc := hR.1.2.1
    rw [zX5_write_31, if_neg (c_ok hs (by omega)), nI_clamp (by omega), d3, zX5_write_38]
    by_cases h : sz s ≤ i
    · rw [if_pos (nI_le h (by omega)), zX5_write_66]
    · rw [if_neg (nI_ge (by omega) (by omega)), zX5_write_41, hR.1.1, if_pos (nI_le (by omega) (by omega)), zX5_write_66]
  | succ m ih =>
    intro i w hi hM hR
    have hc := hR.1.2.1
    obtain ⟨d1, d2, d3, d4⟩ := (hM.2.2.2.2.2.2.2 s hs).2.2 hl
    have hM1 := x_MB_sh (fun k _ _ _ a _ => q_up_ne w (48 * s + i) (x_kp (fo s) (nI ((x_cl sg (x_pg pb) sc sp si ns) i))) a) (x_MSH_it hs (by omega) hM.2.2.2.2.2.2.2) hM
    rw [x_uj_s, x_wg_1, x_uj_uj] at hM1
    obtain ⟨w', r1, r2, r3⟩ := ih (i + 1) _ (by omega) hM1 (q_RD_k (q_up_ne _ _ _ (by decide)) (q_up_ne _ _ _ (by decide)) (q_up_ne _ _ _ (by decide)) (q_up_ne _ _ _ (by decide)) hR)
    refine ⟨w', r1, fun k hk2 => (r2 k hk2).trans (q_up_ne _ _ _ (by omega)), ?_⟩
    rw [zX5_write_31, if_neg (c_ok hs (by omega)), nI_clamp (by omega), d3, zX5_write_38, if_neg (nI_ge (by omega) (by omega)), zX5_write_41, hR.1.1, if_neg (nI_ge (by omega) (by omega)), zX5_write_49, m_cellOf hM.1 hR.1 hM.2.2.1 (by omega), qc_i, zX5_write_57, m_keep hM hs hl (by omega), qc_v, zX5_write_60, nI_1]
    exact r3
theorem p_write (hX : q_X w sg pb wb sc sp si oc hb sz pl wl ns mi ex fi fo it) (hM : q_MB w sg pb wb sc sp si oc hb sz pl wl ns mi ex fi fo it) (v : Int32) : q_same w (qe iX4_write 0 [some (.ref 0), some (.int v), none, none, none] []) (qe iX5_write 0 [some (.ref 27), some (.int v), none] []) := by
  by_cases h : 0 ≤ v ∧ v ≤ 3
  · obtain ⟨s, hs, rfl⟩ := q_s4v h
    have hk := q_s4 hs
    obtain ⟨S1, S2, S3, S4⟩ := hX.1.2.2.2.2.2.2.2.2 s hs
    by_cases hl : fo s = -1
    · refine t_find (-10 - 1) 1 hX hM ?_ (fun w1 hM1 => ?_)
      · rw [zX4_write_0, e_sheetAt hs, qc_i, zX4_write_5b hk, zX4_write_13 hk, e_isLost hk, qc_i, zX4_write_17 hk, S1, decide_eq_true hl, q_bo_t, if_neg (by decide), zX4_write_20 hk, e_find, qc_i, zX4_write_25 hk]
      · rw [zX5_write_0, m_isSheet, qc_i, zX5_write_4, decide_eq_true h, q_bo_t, if_pos (by decide), zX5_write_10, if_neg (c_ok hs (by omega)), nI_clamp (by omega), m_there hM1 hs, if_pos hl, zX5_write_16, if_neg (fun q => q rfl), zX5_write_19, m_meets, qc_i, zX5_write_24]
    · have hc := hX.2.1.2.1
      have e0 : x_uj it s (x_wg (fo s) (x_cl sg (x_pg pb) sc sp si ns) (it s) 0) = it := by rw [x_wg_0, x_uj_id]
      have hX0 : q_X w sg pb wb sc sp si oc hb sz pl wl ns mi ex fi fo (x_uj it s (x_wg (fo s) (x_cl sg (x_pg pb) sc sp si ns) (it s) 0)) := by rw [e0]; exact hX
      obtain ⟨w2, g1, g2, g3⟩ := x_writeLoop (N := min (sz s) (x_pc pb pl)) hs (Nat.min_le_right _ _) (by omega) (nI s) (min (sz s) (x_pc pb pl)) 0 w (by omega) hX0
      refine t_move (nI (min (sz s) (x_pc pb pl))) hM ⟨w2, g1, g2, ?_⟩ (fun wm hM1 => ?_)
      · have emin : (if nI (x_pc pb pl) < nI (sz s) then nI (x_pc pb pl) else nI (sz s)) = nI (min (sz s) (x_pc pb pl)) := by
          by_cases hlt : (x_pc pb pl) < sz s
          · rw [if_pos (nI_lt hlt (by omega)), Nat.min_eq_right (by omega)]
          · rw [if_neg (nI_nlt (by omega) (by omega)), Nat.min_eq_left (by omega)]
        rw [nI_0] at g3
        rw [zX4_write_0, e_sheetAt hs, qc_i, zX4_write_5b hk, zX4_write_13 hk, e_isLost hk, qc_i, zX4_write_17 hk, S1, decide_eq_false hl, q_bo_f, if_pos rfl, zX4_write_26 hk, hX.2.1.1, S2, emin, zX4_write_37 hk, g3]
      · obtain ⟨w1, a1, a2, a3, a4⟩ := n_reads hM1
        have hM0 : q_MB w1 sg pb wb sc sp si oc hb sz pl wl ns mi ex fi fo (x_uj it s (x_wg (fo s) (x_cl sg (x_pg pb) sc sp si ns) (it s) 0)) := by rw [e0]; exact a2
        obtain ⟨w3, r1, r2, r3⟩ := m_writeLoop hs hl rfl S3 (min (sz s) (x_pc pb pl)) 0 w1 (by omega) hM0 a3
        refine ⟨w3, r1, fun k hk2 => (r2 k hk2).trans (a1.1 k (by omega) (by omega) (by omega) (by omega) (by omega) (by omega) (by omega) (by omega)), ?_⟩
        rw [nI_0] at r3
        rw [zX5_write_0, m_isSheet, qc_i, zX5_write_4, decide_eq_true h, q_bo_t, if_pos (by decide), zX5_write_10, if_neg (c_ok hs (by omega)), nI_clamp (by omega), m_there hM1 hs, if_neg hl, zX5_write_16, if_pos (by decide), zX5_write_25, a4, qc_v, zX5_write_29, r3]
  · refine t_ask (-2) hX hM ⟨w, q_GX_r w, ?_⟩ (fun w1 hM1 => ⟨w1, q_GM_r w1, ?_⟩)
    · rw [zX4_write_0, e_sheetAtN h, qc_i, zX4_write_5, zX4_write_10]
    · rw [zX5_write_0, m_isSheet, qc_i, zX5_write_4, decide_eq_false h, q_bo_f, if_neg (fun q => q rfl), zX5_write_7]
theorem x_clashIn {s : Nat} (hs : s < 4) (hX : q_X w sg pb wb sc sp si oc hb sz pl wl ns mi ex fi fo it) (v : Int32) : ∀ n j : Nat, j + n = sz s → qe iX4_clash 28 [some (.ref 0), some (.int v), some (.ref (17 + 2 * s)), some (.int (nI j))] [] w = if x_ck (it s) n j = true then qe iX4_clash 62 [some (.ref 0), some (.int v), some (.ref (17 + 2 * s)), some (.int (nI (sz s)))] [] w else some (some (.int (-3)), w) := by
  have hk := q_s4 hs
  obtain ⟨S1, S2, S3, S4⟩ := hX.1.2.2.2.2.2.2.2.2 s hs
  intro n
  induction n with
  | zero =>
    intro j hj
    have : j = sz s := by omega
    subst this
    rw [zX4_clash_28 hk, S2, if_pos (Int32.le_refl _), x_ck, q_all, if_pos rfl]
  | succ n ih =>
    intro j hj
    rw [zX4_clash_28 hk, S2, if_neg (nI_ge (by omega) (by omega)), zX4_clash_36 hk, e_at (n := 48) w (q_sS1 hk) (by omega) (by omega), qc_i, show 17 + 2 * s + 1 = 18 + 2 * s by omega, S4 j (by omega), zX4_clash_44 hk, e_isWithin, qc_i, zX4_clash_50 hk, x_ck, q_all]
    by_cases h : 0 ≤ it s j ∧ it s j ≤ 63
    · rw [decide_eq_true h, q_bo_t, if_pos (by decide), zX4_clash_56 hk, nI_1, if_pos rfl]
      exact ih (j + 1) (by omega)
    · rw [decide_eq_false h, q_bo_f, if_neg (fun q => q rfl), zX4_clash_53 hk, if_neg Bool.false_ne_true, if_neg Bool.false_ne_true]
theorem x_clashOut {s : Nat} (hs : s < 4) (hX : q_X w sg pb wb sc sp si oc hb sz pl wl ns mi ex fi fo it) (hck : x_ck (it s) (sz s) 0 = true) : ∀ (n i : Nat) (u3 u4 : Option Value), i + n = (x_pc pb pl) → qe iX4_firstClash 2 [some (.ref 0), some (.ref (17 + 2 * s)), some (.int (nI i)), u3, u4] [] w = some (some (.int (q_fq (x_cp (x_cl sg (x_pg pb) sc sp si ns) (it s) (sz s) (x_pc pb pl)) n i)), w) := by
  have hk := q_s4 hs
  have hc := hX.2.1.2.1
  obtain ⟨S1, S2, S3, S4⟩ := hX.1.2.2.2.2.2.2.2.2 s hs
  intro n
  induction n with
  | zero => intro i u3 u4 hi; rw [zX4_firstClash_2 hk, hX.2.1.1, if_pos (nI_le (by omega) (by omega)), zX4_firstClash_74 hk]; rfl
  | succ n ih =>
    intro i u3 u4 hi
    have hcl := hX.2.1.2.2 i (by omega)
    rw [zX4_firstClash_2 hk, hX.2.1.1, if_neg (nI_ge (by omega) (by omega)), zX4_firstClash_10 hk, hX.2.1.1, q_back (show i < (x_pc pb pl) by omega) (by omega), zX4_firstClash_23 hk, S2, q_fq, x_cp]
    by_cases h : (x_pc pb pl) - 1 - i < sz s
    · have h1 := (q_all_iff _ _ _).mp hck ((x_pc pb pl) - 1 - i) (Nat.zero_le _) (by omega)
      obtain ⟨h2, h3⟩ := x_iN_ok (of_decide_eq_true h1)
      have h5 := x_and0_all ⟨_, hcl.2⟩ ⟨_, q_sw_lt h3⟩
      dsimp only at h5
      rw [if_neg (nI_ge h (by omega)), zX4_firstClash_31 hk, zX4_firstClash_36 hk, if_neg (by decide), zX4_firstClash_43 hk, e_at (n := 24) w rfl (by omega) (by omega), qc_i, hcl.1, zX4_firstClash_51 hk, e_at (n := 48) w (q_sS1 hk) (by omega) (by omega), qc_i, show 17 + 2 * s + 1 = 18 + 2 * s by omega, S4 _ (by omega), h2, zX4_firstClash_59 hk, e_swapN h3, qc_i, zX4_firstClash_62 hk]
      by_cases h6 : (x_cl sg (x_pg pb) sc sp si ns) i &&& q_sw (x_iN (it s) ((x_pc pb pl) - 1 - i)) = 0
      · rw [if_pos (h5.mpr h6), zX4_firstClash_68 hk, nI_1, decide_eq_false (fun q => q.2 h6), if_neg Bool.false_ne_true]
        exact ih (i + 1) _ _ (by omega)
      · rw [if_neg (fun q => h6 (h5.mp q)), zX4_firstClash_66 hk, decide_eq_true ⟨h, h6⟩, if_pos rfl]
    · rw [if_pos (nI_le (by omega) (by omega)), zX4_firstClash_35 hk, zX4_firstClash_36 hk, if_pos rfl, zX4_firstClash_68 hk, nI_1, decide_eq_false (fun q => h q.1), if_neg Bool.false_ne_true]
      exact ih (i + 1) _ _ (by omega)
theorem p_clash (hX : q_X w sg pb wb sc sp si oc hb sz pl wl ns mi ex fi fo it) (hM : q_MB w sg pb wb sc sp si oc hb sz pl wl ns mi ex fi fo it) (v : Int32) : q_same w (qe iX4_clash 0 [some (.ref 0), some (.int v), none, none] []) (qe iX5_clash 0 [some (.ref 27), some (.int v)] []) := by
  by_cases h : 0 ≤ v ∧ v ≤ 3
  · obtain ⟨s, hs, rfl⟩ := q_s4v h
    have hk := q_s4 hs
    obtain ⟨S1, S2, S3, S4⟩ := hX.1.2.2.2.2.2.2.2.2 s hs
    by_cases hl : fo s = -1
    · refine t_find (-10 - 1) 1 hX hM ?_ (fun w1 hM1 => ?_)
      · rw [zX4_clash_0, e_sheetAt hs, qc_i, zX4_clash_5b hk, zX4_clash_13 hk, e_isLost hk, qc_i, zX4_clash_17 hk, S1, decide_eq_true hl, q_bo_t, if_neg (by decide), zX4_clash_20 hk, e_find, qc_i, zX4_clash_25 hk]
      · rw [zX5_clash_0, m_isSheet, qc_i, zX5_clash_4, decide_eq_true h, q_bo_t, if_pos (by decide), zX5_clash_10, if_neg (c_ok hs (by omega)), nI_clamp (by omega), m_there hM1 hs, if_pos hl, zX5_clash_16, if_pos rfl, zX5_clash_27, m_meets, qc_i, zX5_clash_32]
    · refine t_ask (x_ca (x_cl sg (x_pg pb) sc sp si ns) (it s) (sz s) (x_pc pb pl)) hX hM ⟨w, q_GX_r w, ?_⟩ (fun w1 hM1 => ?_)
      · have g := x_clashIn hs hX (nI s) (sz s) 0 (by omega)
        rw [nI_0] at g
        rw [zX4_clash_0, e_sheetAt hs, qc_i, zX4_clash_5b hk, zX4_clash_13 hk, e_isLost hk, qc_i, zX4_clash_17 hk, S1, decide_eq_false hl, q_bo_f, if_pos rfl, zX4_clash_26 hk, g, x_ca]
        cases hck : x_ck (it s) (sz s) 0 with
        | false => rw [if_neg Bool.false_ne_true, if_neg Bool.false_ne_true]
        | true =>
          have g2 := x_clashOut hs hX hck (x_pc pb pl) 0 none none (by omega)
          rw [nI_0] at g2
          rw [if_pos rfl, if_pos rfl, zX4_clash_62 hk, zX4_firstClash_0 hk, g2, qc_i, zX4_clash_67 hk]
      · obtain ⟨w2, a1, a2, a3, a4⟩ := n_reads hM1
        obtain ⟨d1, d2, d3, d4⟩ := (a2.2.2.2.2.2.2.2 s hs).2.2 hl
        refine ⟨w2, a1, ?_⟩
        rw [zX5_clash_0, m_isSheet, qc_i, zX5_clash_4, decide_eq_true h, q_bo_t, if_pos (by decide), zX5_clash_10, if_neg (c_ok hs (by omega)), nI_clamp (by omega), m_there hM1 hs, if_neg hl, zX5_clash_16, if_neg (by decide), zX5_clash_19, zX5_clashOf_0, a4, qc_v, m_clashOf a2.1 a3.1 a2.2.2.1 hs d3 S3 d4, qc_i, zX5_clash_24, zX5_clash_32]
  · refine t_ask (-2) hX hM ⟨w, q_GX_r w, ?_⟩ (fun w1 hM1 => ⟨w1, q_GM_r w1, ?_⟩)
    · rw [zX4_clash_0, e_sheetAtN h, qc_i, zX4_clash_5, zX4_clash_10]
    · rw [zX5_clash_0, m_isSheet, qc_i, zX5_clash_4, decide_eq_false h, q_bo_f, if_neg (fun q => q rfl), zX5_clash_7]
theorem x_sgn_iN {g : Nat → Int32} {i : Nat} (h : 1 ≤ g i ∧ g i ≤ 63) : g i = nI (x_iN g i) ∧ 1 ≤ x_iN g i ∧ x_iN g i < 64 := by
  obtain ⟨n, h1, h2, e⟩ := q_sgn h
  unfold x_iN
  rw [e, nI_clamp (by omega)]
  exact ⟨rfl, h1, h2⟩
theorem x_readLoop {s : Nat} (hs : s < 4) (v : Int32) : ∀ m i (w : qW), i + m = 10 → q_XB w (x_rs sg (it s) i) pb wb sc sp si oc hb sz pl wl ns mi ex fi fo it → q_WD w (x_nw wb wl) (x_L wb wl) (x_lt2 wb wl) → w 3 4 = x_wF wb wl → ∃ w', q_X w' (x_rs sg (it s) (x_rn (it s) (sz s) m i)) pb wb sc sp si oc hb sz pl wl ns mi ex fi fo it ∧ (∀ k, 27 ≤ k → w' k = w k) ∧ qe iX4_read 28 [some (.ref 0), some (.int v), some (.ref (17 + 2 * s)), some (.int (nI i))] [] w = some (some (.int (nI (x_rn (it s) (sz s) m i))), w') := by
  have hk := q_s4 hs
  have fin : ∀ i (w : qW), q_XB w (x_rs sg (it s) i) pb wb sc sp si oc hb sz pl wl ns mi ex fi fo it → q_WD w (x_nw wb wl) (x_L wb wl) (x_lt2 wb wl) → w 3 4 = x_wF wb wl → ∃ w', q_X w' (x_rs sg (it s) i) pb wb sc sp si oc hb sz pl wl ns mi ex fi fo it ∧ (∀ k, 27 ≤ k → w' k = w k) ∧ qe iX4_read 78 [some (.ref 0), some (.int v), some (.ref (17 + 2 * s)), some (.int (nI i))] [] w = some (some (.int (nI i)), w') := by
    intro i w hB hWD h34
    obtain ⟨w', g1, g2, g3, g4⟩ := x_layCells hB hWD h34
    exact ⟨w', g1, fun k hk2 => g2 k (by omega) (by omega), by rw [zX4_read_78 hk, g4, qc_v, zX4_read_82 hk]⟩
  intro m
  induction m with
  | zero =>
    intro i w hi hB hWD h34
    rw [zX4_read_28 hk, if_pos (q_lit10 (by omega) (by omega)), x_rn]
    exact fin i w hB hWD h34
  | succ m ih =>
    intro i w hi hB hWD h34
    obtain ⟨S1, S2, S3, S4⟩ := hB.2.2.2.2.2.2.2.2 s hs
    rw [zX4_read_28 hk, if_neg (q_nlit10 (by omega)), zX4_read_34 hk, S2, x_rn]
    by_cases h1 : i < sz s
    · rw [if_neg (nI_ge h1 (by omega)), zX4_read_42 hk, e_at (n := 48) w (q_sS1 hk) (by omega) (by omega), qc_i, show 17 + 2 * s + 1 = 18 + 2 * s by omega, S4 i (by omega), zX4_read_50 hk, e_isSign, qc_i, zX4_read_53 hk]
      by_cases h2 : 1 ≤ it s i ∧ it s i ≤ 63
      · obtain ⟨n1, n2, n3⟩ := x_sgn_iN h2
        have e12 : ∀ k, k ≠ 12 → (q_up w 12 i (nI (x_iN (it s) i))) k = w k := fun k a => q_up_ne _ _ _ a
        have hB1 := x_XB_sg e12 (x_un_SG (l := i) hB.1 n2 n3) hB
        rw [x_rs_1] at hB1
        obtain ⟨w', r1, r2, r3⟩ := ih (i + 1) _ (by omega) hB1 (q_WD_c (e12 3 (by decide)) (e12 7 (by decide)) (e12 6 (by decide)) hWD) (by rw [e12 3 (by decide)]; exact h34)
        rw [if_pos (show i < sz s ∧ 1 ≤ it s i ∧ it s i ≤ 63 from ⟨h1, h2⟩), decide_eq_true h2, q_bo_t, if_neg (by decide), zX4_read_56 hk, e_at (n := 48) w (q_sS1 hk) (by omega) (by omega), qc_i, show 17 + 2 * s + 1 = 18 + 2 * s by omega, S4 i (by omega), zX4_read_69 hk, n1, e_lay (n := 10) _ w rfl (by omega) (by omega), qc_v, zX4_read_72 hk, nI_1]
        exact ⟨w', r1, fun k hk2 => (r2 k hk2).trans (e12 k (by omega)), r3⟩
      · rw [decide_eq_false h2, q_bo_f, if_pos rfl, if_neg (fun q => h2 q.2)]
        exact fin i w hB hWD h34
    · rw [if_pos (nI_le (by omega) (by omega)), if_neg (fun q => h1 q.1)]
      exact fin i w hB hWD h34
theorem m_readLoop2 {s : Nat} (hs : s < 4) (hl : ¬ fo s = -1) : ∀ m i (w : qW), i + m = 10 → q_MB w (x_rs sg (it s) i) pb wb sc sp si oc hb sz pl wl ns mi ex fi fo it → ∃ w', q_MB w' (x_rs sg (it s) (x_rn (it s) (sz s) m i)) pb wb sc sp si oc hb sz pl wl ns mi ex fi fo it ∧ (∀ k, k < 27 → w' k = w k) ∧ qe iX5_read 27 [some (.ref 27), some (.int (nI s)), some (.int (nI i))] [] w = some (some (.int (nI (x_rn (it s) (sz s) m i))), w') := by
  intro m
  induction m with
  | zero =>
    intro i w hi hM
    obtain ⟨c1, c2, c3⟩ := hM.2.2.2.2.2.2.2 s hs
    obtain ⟨d1, d2, d3, d4⟩ := c3 hl
    refine ⟨w, hM, fun _ _ => rfl, ?_⟩
    rw [zX5_read_27, if_neg (c_ok hs (by omega)), nI_clamp (by omega), d3, zX5_read_34, x_rn]
    by_cases h : sz s ≤ i
    · rw [if_pos (nI_le h (by omega)), zX5_read_86]
    · rw [if_neg (nI_ge (by omega) (by omega)), zX5_read_37, if_pos (q_lit10 (by omega) (by omega)), zX5_read_86]
  | succ m ih =>
    intro i w hi hM
    obtain ⟨c1, c2, c3⟩ := hM.2.2.2.2.2.2.2 s hs
    obtain ⟨d1, d2, d3, d4⟩ := c3 hl
    rw [zX5_read_27, if_neg (c_ok hs (by omega)), nI_clamp (by omega), d3, zX5_read_34, x_rn]
    by_cases h1 : i < sz s
    · rw [if_neg (nI_ge h1 (by omega)), zX5_read_37, if_neg (q_nlit10 (by omega)), zX5_read_43, q_lit48, if_neg (c_ok (by omega) (by omega)), nI_clamp (by omega), d4 i (by omega), zX5_read_54, m_in, qc_i, zX5_read_60]
      by_cases h2 : 1 ≤ it s i ∧ it s i ≤ 63
      · obtain ⟨n1, n2, n3⟩ := x_sgn_iN h2
        have hM1 := x_MB_sg (fun k a => q_up_ne w i (nI (x_iN (it s) i)) a) (x_un_MS (l := i) hM.1 n2 n3) hM
        rw [x_rs_1] at hM1
        obtain ⟨w', r1, r2, r3⟩ := ih (i + 1) _ (by omega) hM1
        rw [if_pos (show i < sz s ∧ 1 ≤ it s i ∧ it s i ≤ 63 from ⟨h1, h2⟩), decide_eq_true h2, q_bo_t, if_neg (by decide), zX5_read_63, q_lit48, if_neg (c_ok (by omega) (by omega)), nI_clamp (by omega), d4 i (by omega), zX5_read_79, if_neg (c_ok (by omega) (by omega)), nI_clamp (by omega), zX5_read_80, nI_1, n1]
        exact ⟨w', r1, fun k hk2 => (r2 k hk2).trans (q_up_ne _ _ _ (by omega)), r3⟩
      · rw [decide_eq_false h2, q_bo_f, if_pos rfl, zX5_read_86, if_neg (fun q => h2 q.2)]
        exact ⟨w, hM, fun _ _ => rfl, rfl⟩
    · rw [if_pos (nI_le (by omega) (by omega)), zX5_read_86, if_neg (fun q => h1 q.1)]
      exact ⟨w, hM, fun _ _ => rfl, rfl⟩
theorem p_read (hX : q_X w sg pb wb sc sp si oc hb sz pl wl ns mi ex fi fo it) (hM : q_MB w sg pb wb sc sp si oc hb sz pl wl ns mi ex fi fo it) (v : Int32) : q_same w (qe iX4_read 0 [some (.ref 0), some (.int v), none, none] []) (qe iX5_read 0 [some (.ref 27), some (.int v), none] []) := by
  by_cases h : 0 ≤ v ∧ v ≤ 3
  · obtain ⟨s, hs, rfl⟩ := q_s4v h
    have hk := q_s4 hs
    obtain ⟨S1, S2, S3, S4⟩ := hX.1.2.2.2.2.2.2.2.2 s hs
    by_cases hl : fo s = -1
    · refine t_find (-10 - 1) 1 hX hM ?_ (fun w1 hM1 => ?_)
      · rw [zX4_read_0, e_sheetAt hs, qc_i, zX4_read_5b hk, zX4_read_13 hk, e_isLost hk, qc_i, zX4_read_17 hk, S1, decide_eq_true hl, q_bo_t, if_neg (by decide), zX4_read_20 hk, e_find, qc_i, zX4_read_25 hk]
      · rw [zX5_read_0, m_isSheet, qc_i, zX5_read_4, decide_eq_true h, q_bo_t, if_pos (by decide), zX5_read_10, if_neg (c_ok hs (by omega)), nI_clamp (by omega), m_there hM1 hs, if_pos hl, zX5_read_16, if_neg (fun q => q rfl), zX5_read_19, m_meets, qc_i, zX5_read_24]
    · have hB0 : q_XB w (x_rs sg (it s) 0) pb wb sc sp si oc hb sz pl wl ns mi ex fi fo it := by rw [x_rs_0]; exact hX.1
      obtain ⟨w2, g1, g2, g3⟩ := x_readLoop hs (nI s) 10 0 w (by omega) hB0 hX.2.2.1 hX.2.2.2
      refine t_move (nI (x_rn (it s) (sz s) 10 0)) hM ⟨w2, g1, g2, ?_⟩ (fun wm hM1 => ?_)
      · rw [nI_0] at g3
        rw [zX4_read_0, e_sheetAt hs, qc_i, zX4_read_5b hk, zX4_read_13 hk, e_isLost hk, qc_i, zX4_read_17 hk, S1, decide_eq_false hl, q_bo_f, if_pos rfl, zX4_read_26 hk, g3]
      · have hM0 : q_MB wm (x_rs sg (it s) 0) pb wb sc sp si oc hb sz pl wl ns mi ex fi fo it := by rw [x_rs_0]; exact hM1
        obtain ⟨w3, r1, r2, r3⟩ := m_readLoop2 hs hl 10 0 wm (by omega) hM0
        refine ⟨w3, r1, r2, ?_⟩
        rw [nI_0] at r3
        rw [zX5_read_0, m_isSheet, qc_i, zX5_read_4, decide_eq_true h, q_bo_t, if_pos (by decide), zX5_read_10, if_neg (c_ok hs (by omega)), nI_clamp (by omega), m_there hM1 hs, if_neg hl, zX5_read_16, if_pos (by decide), zX5_read_25, r3]
  · refine t_ask (-2) hX hM ⟨w, q_GX_r w, ?_⟩ (fun w1 hM1 => ⟨w1, q_GM_r w1, ?_⟩)
    · rw [zX4_read_0, e_sheetAtN h, qc_i, zX4_read_5, zX4_read_10]
    · rw [zX5_read_0, m_isSheet, qc_i, zX5_read_4, decide_eq_false h, q_bo_f, if_neg (fun q => q rfl), zX5_read_7]
end S57
