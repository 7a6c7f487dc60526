/-! the reference: under, line -/
theorem q_room {ln cc f : Nat} (h1 : ln ≤ 6) (h2 : cc ≤ 24) (hf : f < 2 ^ 31) : nI cc - nI ln < nI f ↔ ¬ (f + ln ≤ cc) := by
  rw [Int32.lt_iff_toInt_lt, pk_sub_toInt (by omega) (by omega), nI_toInt hf]
  omega
def q_MA (w : qW) (sg pg sc sp si ln : Nat → Nat) (lt : Nat → Nat → Nat) (cc ns nw mi ex : Nat) : Prop := q_MS w sg ∧ q_MP w cc pg ∧ q_ML w ns sc sp si ∧ q_MW w nw ln lt ∧ q_MO w mi ex
theorem q_MA_c {w w' : qW} {sg pg sc sp si ln : Nat → Nat} {lt : Nat → Nat → Nat} {cc ns nw mi ex : Nat} (h : ∀ k, k ≠ 38 → k ≠ 39 → k ≠ 41 → w' k = w k) (hA : q_MA w sg pg sc sp si ln lt cc ns nw mi ex) : q_MA w' sg pg sc sp si ln lt cc ns nw mi ex := by
  unfold q_MA q_MS q_MP q_ML q_MW q_MO at hA ⊢
  rw [h 27 (by decide) (by decide) (by decide), h 28 (by decide) (by decide) (by decide), h 31 (by decide) (by decide) (by decide), h 32 (by decide) (by decide) (by decide), h 33 (by decide) (by decide) (by decide), h 35 (by decide) (by decide) (by decide), h 36 (by decide) (by decide) (by decide), h 37 (by decide) (by decide) (by decide)]
  exact hA
section M33
variable {w : qW} {sg pg sc sp si ln oc : Nat → Nat} {lt : Nat → Nat → Nat} {cc ns nw mi ex k f i c a : Nat}
theorem m_underIn (hS : q_MS w sg) (hP : q_MP w cc pg) (hL : q_ML w ns sc sp si) (hW : q_MW w nw ln lt) {o : Nat} (hk : k < nw) (ho : o < nw) (hlo : ln o = ln k) (hf : f + ln k ≤ cc) (v4 : Int32) : ∀ n i : Nat, i + n = ln k → ∃ j : Int32, qe iX5_underOf 53 [some (.ref 27), some (.int (nI k)), some (.int (nI f)), some (.int (nI (ln k))), some (.int v4), some (.int (nI o)), some (.int 1), some (.int (nI i))] [] w = qe iX5_underOf 124 [some (.ref 27), some (.int (nI k)), some (.int (nI f)), some (.int (nI (ln k))), some (.int v4), some (.int (nI o)), some (.int (q_bo (q_all (fun i => decide (sg (lt k i) ||| sg (lt o i) = x_cl sg pg sc sp si ns (f + i))) n i))), some (.int j)] [] w := by
  obtain ⟨h4, h5, h6, h7⟩ := hW.2.2 k hk
  obtain ⟨g4, g5, g6, g7⟩ := hW.2.2 o ho
  have hn := hW.2.1
  have hc := hP.2.1
  intro n
  induction n with
  | zero => intro i hi; exact ⟨nI i, by rw [zX5_underOf_53, if_pos (nI_le (by omega) (by omega))]; rfl⟩
  | succ n ih =>
    intro i hi
    have a1 := h7 i (by omega)
    have b1 := hS _ a1.2
    have a2 := g7 i (by omega)
    have b2 := hS _ a2.2
    have a3 := x_cl_lt hS hP hL (c := f + i) (by omega)
    have e1 := q_or_lt b1.2.2 b2.2.2
    rw [zX5_underOf_53, if_neg (nI_ge (by omega) (by omega)), zX5_underOf_59, if_neg (by decide), zX5_underOf_64, nI_add, m_cellOf hS hP hL (by omega), qc_i, zX5_underOf_72, q_lit6, if_neg (c_ok (by omega) (by omega)), nI_clamp (by omega), a1.1, zX5_underOf_88, if_neg (c_ok a1.2 (by omega)), nI_clamp (by omega), b1.1, zX5_underOf_89, q_lit6, if_neg (c_ok (by omega) (by omega)), nI_clamp (by omega), a2.1, zX5_underOf_106, if_neg (c_ok a2.2 (by omega)), nI_clamp (by omega), b2.1, zX5_underOf_107, q_or_I b1.2.2 b2.2.2, q_all]
    by_cases h : sg (lt k i) ||| sg (lt o i) = x_cl sg pg sc sp si ns (f + i)
    · rw [if_neg (fun q => q (by rw [h])), zX5_underOf_111, zX5_underOf_116, nI_1, if_pos (decide_eq_true h)]
      exact ih (i + 1) (by omega)
    · refine ⟨nI (i + 1), ?_⟩
      rw [if_pos (fun q => h ((nI_eq (by omega) (by omega)).mp q).symm), zX5_underOf_115, zX5_underOf_116, nI_1, if_neg (by rw [decide_eq_true_eq]; exact h), zX5_underOf_53]
      by_cases h2 : i + 1 < ln k
      · rw [if_neg (nI_ge h2 (by omega)), zX5_underOf_59, if_pos rfl]; rfl
      · rw [if_pos (nI_le (by omega) (by omega))]; rfl
theorem m_underLoop (hS : q_MS w sg) (hP : q_MP w cc pg) (hL : q_ML w ns sc sp si) (hW : q_MW w nw ln lt) (hk : k < nw) (hf : f < 2 ^ 31) : ∀ (n o : Nat) (b : Int32) (u6 u7 : Option Value), o + n = nw → qe iX5_underOf 13 [some (.ref 27), some (.int (nI k)), some (.int (nI f)), some (.int (nI (ln k))), some (.int b), some (.int (nI o)), u6, u7] [] w = some (some (.int (q_ob (fun o => q_li sg cc (x_cl sg pg sc sp si ns) ln lt f k o) n o b)), w) := by
  have hn := hW.2.1
  have hc := hP.2.1
  obtain ⟨h4, h5, h6, h7⟩ := hW.2.2 k hk
  intro n
  induction n with
  | zero => intro o b u6 u7 ho; rw [zX5_underOf_13, hW.1, if_pos (nI_le (by omega) (by omega)), zX5_underOf_148]; rfl
  | succ n ih =>
    intro o b u6 u7 ho
    have hon : o < nw := by omega
    obtain ⟨g4, g5, g6, g7⟩ := hW.2.2 o hon
    rw [zX5_underOf_13, hW.1, if_neg (nI_ge hon (by omega)), zX5_underOf_22, hP.1]
    by_cases hr : f + ln k ≤ cc
    · rw [if_neg (fun q => (q_room h6 hc hf).mp q hr), zX5_underOf_32, if_neg (c_ok (by omega) (by omega)), nI_clamp (by omega), g4, zX5_underOf_39, q_ob]
      have no : ∀ y, qe iX5_underOf 124 [some (.ref 27), some (.int (nI k)), some (.int (nI f)), some (.int (nI (ln k))), some (.int b), some (.int (nI o)), some (.int 0), some (.int y)] [] w = some (some (.int (q_ob (fun o => q_li sg cc (x_cl sg pg sc sp si ns) ln lt f k o) n (o + 1) b)), w) := by
        intro y
        rw [zX5_underOf_124, if_pos rfl, zX5_underOf_138, zX5_underOf_139, nI_1, Int32.or_zero]
        exact ih (o + 1) b _ _ (by omega)
      rw [q_li]
      by_cases hl : ln o = ln k
      · rw [if_neg (fun q => q (by rw [hl])), zX5_underOf_43, zX5_underOf_48]
        obtain ⟨j, hj⟩ := m_underIn hS hP hL hW hk hon hl hr b (ln k) 0 (by omega)
        rw [nI_0] at hj
        rw [hj, decide_eq_true ⟨hl, hr⟩, Bool.true_and]
        cases hq : q_all (fun i => decide (sg (lt k i) ||| sg (lt o i) = x_cl sg pg sc sp si ns (f + i))) (ln k) 0 with
        | false => rw [q_bo_f, if_neg Bool.false_ne_true]; exact no _
        | true =>
          rw [q_bo_t, if_pos rfl, zX5_underOf_124, if_neg (by decide), zX5_underOf_131, zX5_underOf_139, nI_1]
          exact ih (o + 1) _ _ _ (by omega)
      · rw [if_pos (fun q => hl ((nI_eq (by omega) (by omega)).mp q)), zX5_underOf_47, zX5_underOf_48, zX5_underOf_53, if_neg (show ¬ nI (ln k) ≤ 0 from nI_nle (by omega) (by omega)), zX5_underOf_59, if_pos rfl, decide_eq_false (fun q => hl q.1), Bool.false_and, if_neg Bool.false_ne_true]
        exact no _
    · rw [if_pos ((q_room h6 hc hf).mpr hr), zX5_underOf_148, q_ob_none (fun o => by rw [q_li, decide_eq_false (fun q => hr q.2), Bool.false_and])]
theorem m_underOf (hS : q_MS w sg) (hP : q_MP w cc pg) (hL : q_ML w ns sc sp si) (hW : q_MW w nw ln lt) (hk : k < nw) (hf : f < 2 ^ 31) : qe iX5_underOf 0 [some (.ref 27), some (.int (nI k)), some (.int (nI f)), none, none, none, none, none] [] w = some (some (.int (q_ob (fun o => q_li sg cc (x_cl sg pg sc sp si ns) ln lt f k o) nw 0 0)), w) := by
  have hn := hW.2.1
  rw [zX5_underOf_0, if_neg (c_ok (by omega) (by omega)), zX5_underOf_6, nI_clamp (by omega), (hW.2.2 k hk).1]
  exact m_underLoop hS hP hL hW hk hf nw 0 0 none none (by omega)
/-- the rows of what is behind, in the reference: base 100 -/
theorem m_fit_648 (hO : q_MO w mi ex) (hW : q_MW w nw ln lt) {cl : Nat → Nat} {c : Nat} (hk : k < nw) (h : q_fit mi ex sg cc cl ln lt f k = some c) : c ≤ 648 ∧ f + ln k ≤ cc ∧ 1 ≤ ln k := by
  obtain ⟨h4, h5, h6, -⟩ := hW.2.2 k hk
  unfold q_fit at h
  split at h
  · rename_i hf
    cases h
    have := q_cs_le mi ex (fun i => sg (lt k i)) (fun i => cl (f + i)) hO.2.1 hO.2.2.2 (ln k)
    exact ⟨by omega, hf, h5⟩
  · cases h
theorem m_lineIn {T : Nat → Nat × Nat} (hT : x_ok cc T) (hf : f < cc) (v1 : Int32) : ∀ (n i : Nat) (w : qW) (b : Nat × Nat) (u4 u5 : Option Value), q_MA w sg pg sc sp si ln lt cc ns nw mi ex → (∀ j, f ≤ j → j ≤ cc → w 39 j = nI (x_en 100 (x_bb ex cc (x_cl sg pg sc sp si ns) T j))) → w 38 f = nI (x_en 100 b) → i + n = nw → b.1 ≤ 2592 * (cc - f) → b.2 ≤ cc - f →
    ∃ w' v4 v5, (∀ k, k ≠ 38 → w' k = w k) ∧ (∀ j, j ≠ f → w' 38 j = w 38 j) ∧ w' 38 f = nI (x_en 100 (x_lw (q_fit mi ex sg cc (x_cl sg pg sc sp si ns) ln lt f) ln (x_bb ex cc (x_cl sg pg sc sp si ns) T) f n i b)) ∧ qe iX5_lineOf 80 [some (.ref 27), some (.int v1), some (.int (nI f)), some (.int (nI i)), u4, u5] [] w = qe iX5_lineOf 159 [some (.ref 27), some (.int v1), some (.int (nI f)), some (.int (nI nw)), v4, v5] [] w' := by
  intro n
  induction n with
  | zero =>
    intro i w b u4 u5 hA h39 h38 hi h1 h2
    have : i = nw := by omega
    subst this
    exact ⟨w, u4, u5, fun _ _ => rfl, fun _ _ => rfl, h38, by rw [zX5_lineOf_80, hA.2.2.2.1.1, if_pos (Int32.le_refl _)]⟩
  | succ n ih =>
    intro i w b u4 u5 hA h39 h38 hi h1 h2
    obtain ⟨hS, hP, hL, hW, hO⟩ := id hA
    have hn := hW.2.1
    have hc := hP.2.1
    have hin : i < nw := by omega
    rw [zX5_lineOf_80, hW.1, if_neg (nI_ge hin (by omega)), zX5_lineOf_88, m_fitsOf hS hP hL hW hO hin (by omega), qc_i, zX5_lineOf_94, x_lw]
    cases hfit : q_fit mi ex sg cc (x_cl sg pg sc sp si ns) ln lt f i with
    | none =>
      rw [q_oi_n, if_pos rfl, zX5_lineOf_153, nI_1]
      exact ih (i + 1) w b _ _ hA h39 h38 (by omega) h1 h2
    | some c =>
      obtain ⟨g1, g2, g3⟩ := m_fit_648 (sg := sg) hO hW hin hfit
      have hb2 := x_bb_ok (cl := x_cl sg pg sc sp si ns) hT hO.2.2.2 (f + ln i)
      have e1 : 100 * nI c + 1 + nI (x_en 100 (x_bb ex cc (x_cl sg pg sc sp si ns) T (f + ln i))) = nI (x_en 100 (c + (x_bb ex cc (x_cl sg pg sc sp si ns) T (f + ln i)).1, 1 + (x_bb ex cc (x_cl sg pg sc sp si ns) T (f + ln i)).2)) := by
        rw [show (100 : Int32) = nI 100 from rfl, pk_mul, show (1 : Int32) = nI 1 from rfl, nI_add, nI_add]
        congr 1
        unfold x_en
        dsimp only
        rw [Nat.mul_add]
        omega
      rw [q_oi_s, if_neg (q_m1 (by omega)), zX5_lineOf_102, if_neg (c_ok (by omega) (by omega)), nI_clamp (by omega), (hW.2.2 i hin).1, zX5_lineOf_120, nI_add, if_neg (c_ok (by omega) (by omega)), nI_clamp (by omega), h39 _ (by omega) g2, zX5_lineOf_122, e1, if_neg (c_ok (by omega) (by omega)), nI_clamp (by omega), h38, zX5_lineOf_138]
      have lt1 : x_en 100 (c + (x_bb ex cc (x_cl sg pg sc sp si ns) T (f + ln i)).1, 1 + (x_bb ex cc (x_cl sg pg sc sp si ns) T (f + ln i)).2) < 2 ^ 31 := by unfold x_en; dsimp only; omega
      have lt2 : x_en 100 b < 2 ^ 31 := by unfold x_en; omega
      have key := x_en_lt (B := 100) (a := (c + (x_bb ex cc (x_cl sg pg sc sp si ns) T (f + ln i)).1, 1 + (x_bb ex cc (x_cl sg pg sc sp si ns) T (f + ln i)).2)) (b := b) (by dsimp only; omega) (by omega)
      have fin : ∀ (x : Nat × Nat) (y4 y5 : Int32), x.1 ≤ 2592 * (cc - f) → x.2 ≤ cc - f → ∃ w' v4 v5, (∀ k, k ≠ 38 → w' k = w k) ∧ (∀ j, j ≠ f → w' 38 j = w 38 j) ∧ w' 38 f = nI (x_en 100 (x_lw (q_fit mi ex sg cc (x_cl sg pg sc sp si ns) ln lt f) ln (x_bb ex cc (x_cl sg pg sc sp si ns) T) f n (i + 1) x)) ∧ qe iX5_lineOf 152 [some (.ref 27), some (.int v1), some (.int (nI f)), some (.int (nI i)), some (.int y4), some (.int y5)] [.int (nI (x_en 100 x)), .int (nI f), .ref 38] w = qe iX5_lineOf 159 [some (.ref 27), some (.int v1), some (.int (nI f)), some (.int (nI nw)), v4, v5] [] w' := by
        intro x y4 y5 b1 b2
        rw [zX5_lineOf_152, if_neg (c_ok (by omega) (by omega)), nI_clamp (by omega), zX5_lineOf_153, nI_1]
        have e0 : ∀ k, k ≠ 38 → (q_up w 38 f (nI (x_en 100 x))) k = w k := fun k hk => q_up_ne w _ _ hk
        obtain ⟨w', v4, v5, p1, p2, p3, p4⟩ := ih (i + 1) (q_up w 38 f (nI (x_en 100 x))) x (some (.int y4)) (some (.int y5)) (q_MA_c (fun k h1 _ _ => e0 k h1) hA) (by rw [e0 39 (by decide)]; exact h39) (by rw [q_up_at]; simp [upd]) (by omega) b1 b2
        refine ⟨w', v4, v5, fun k hk => (p1 k hk).trans (e0 k hk), fun j hj => (p2 j hj).trans ?_, p3, p4⟩
        rw [q_up_at]
        simp [upd, hj]
      dsimp only
      by_cases h : x_lt (c + (x_bb ex cc (x_cl sg pg sc sp si ns) T (f + ln i)).1, 1 + (x_bb ex cc (x_cl sg pg sc sp si ns) T (f + ln i)).2) b = true
      · rw [if_neg (nI_ge (key.mpr h) lt2), zX5_lineOf_141, if_pos h]
        exact fin _ _ _ (by dsimp only; omega) (by dsimp only; omega)
      · rw [if_pos (nI_le (Nat.not_lt.mp (fun q => h (key.mp q))) lt1), zX5_lineOf_146, if_neg (c_ok (by omega) (by omega)), nI_clamp (by omega), h38, if_neg h]
        exact fin _ _ _ h1 h2
theorem m_lineOut (hex : ex ≤ 9) (v1 : Int32) : ∀ (f d : Nat) (w : qW) (u3 u4 u5 : Option Value), q_MA w sg pg sc sp si ln lt cc ns nw mi ex → f + d = cc → (∀ j, f ≤ j → j ≤ cc → w 38 j = nI (x_en 100 (x_T (q_fit mi ex sg cc (x_cl sg pg sc sp si ns) ln lt) ln nw ex cc (x_cl sg pg sc sp si ns) d j))) → (∀ j, f ≤ j → j ≤ cc → w 39 j = nI (x_en 100 (x_bb ex cc (x_cl sg pg sc sp si ns) (x_T (q_fit mi ex sg cc (x_cl sg pg sc sp si ns) ln lt) ln nw ex cc (x_cl sg pg sc sp si ns) d) j))) →
    ∃ w' v2 v3 v4 v5, (∀ k, k ≠ 38 → k ≠ 39 → w' k = w k) ∧ w' 38 0 = nI (x_en 100 (x_T (q_fit mi ex sg cc (x_cl sg pg sc sp si ns) ln lt) ln nw ex cc (x_cl sg pg sc sp si ns) cc 0)) ∧ qe iX5_lineOf 31 [some (.ref 27), some (.int v1), some (.int (nI f - 1)), u3, u4, u5] [] w = qe iX5_lineOf 165 [some (.ref 27), some (.int v1), some (.int v2), v3, v4, v5] [] w' := by
  intro f
  induction f with
  | zero =>
    intro d w u3 u4 u5 hA hd h38 h39
    have hd' : d = cc := by omega
    subst hd'
    exact ⟨w, _, u3, u4, u5, fun _ _ _ => rfl, h38 0 (Nat.le_refl _) (Nat.zero_le _), by rw [zX5_lineOf_31, if_pos (by decide)]⟩
  | succ f ih =>
    intro d w u3 u4 u5 hA hd h38 h39
    obtain ⟨hS, hP, hL, hW, hO⟩ := id hA
    have hc := hP.2.1
    have hfc : f = cc - (d + 1) := by omega
    have hT : x_ok cc (x_T (q_fit mi ex sg cc (x_cl sg pg sc sp si ns) ln lt) ln nw ex cc (x_cl sg pg sc sp si ns) d) := x_T_ok hex (fun f k c hk h => m_fit_648 (sg := sg) hO hW hk h) d (by omega)
    have hb := x_bb_ok (cl := x_cl sg pg sc sp si ns) hT hex f
    have hcl := x_cl_lt hS hP hL (c := f) (by omega)
    have ebb : 100 * nI ex * nI (q_pop (x_cl sg pg sc sp si ns f)) + nI (x_en 100 (x_T (q_fit mi ex sg cc (x_cl sg pg sc sp si ns) ln lt) ln nw ex cc (x_cl sg pg sc sp si ns) d (f + 1))) = nI (x_en 100 (x_bb ex cc (x_cl sg pg sc sp si ns) (x_T (q_fit mi ex sg cc (x_cl sg pg sc sp si ns) ln lt) ln nw ex cc (x_cl sg pg sc sp si ns) d) f)) := by
      rw [show (100 : Int32) = nI 100 from rfl, pk_mul, pk_mul, nI_add, x_bb, if_pos (show f < cc by omega)]
      congr 1
      unfold x_en
      dsimp only
      rw [Nat.mul_add, Nat.mul_assoc, Nat.add_assoc]
    rw [nI_pred, zX5_lineOf_31, if_neg (c_ge0 f (by omega)), zX5_lineOf_35, hO.2.2.1, m_cellOf hS hP hL (by omega), qc_i, zX5_lineOf_52, m_ones hcl, qc_i, zX5_lineOf_55, nI_1, if_neg (c_ok (by omega) (by omega)), nI_clamp (by omega), h38 (f + 1) (Nat.le_refl _) (by omega), zX5_lineOf_64, if_neg (c_ok (by omega) (by omega)), nI_clamp (by omega), ebb, zX5_lineOf_66, if_neg (c_ok (by omega) (by omega)), nI_clamp (by omega), zX5_lineOf_77, if_neg (c_ok (by omega) (by omega)), nI_clamp (by omega), q_up_at, pk_us, zX5_lineOf_78]
    generalize hw1 : q_up (q_up w 39 f (nI (x_en 100 (x_bb ex cc (x_cl sg pg sc sp si ns) (x_T (q_fit mi ex sg cc (x_cl sg pg sc sp si ns) ln lt) ln nw ex cc (x_cl sg pg sc sp si ns) d) f)))) 38 f (nI (x_en 100 (x_bb ex cc (x_cl sg pg sc sp si ns) (x_T (q_fit mi ex sg cc (x_cl sg pg sc sp si ns) ln lt) ln nw ex cc (x_cl sg pg sc sp si ns) d) f))) = w1
    have f1 : ∀ k, k ≠ 38 → k ≠ 39 → w1 k = w k := by
      intro k h1 h2
      rw [← hw1, q_up_ne _ _ _ h1, q_up_ne _ _ _ h2]
    have f39 : w1 39 = upd (w 39) f (nI (x_en 100 (x_bb ex cc (x_cl sg pg sc sp si ns) (x_T (q_fit mi ex sg cc (x_cl sg pg sc sp si ns) ln lt) ln nw ex cc (x_cl sg pg sc sp si ns) d) f))) := by
      rw [← hw1, q_up_ne _ _ _ (by decide), q_up_at]
    have f38 : w1 38 = upd (w 38) f (nI (x_en 100 (x_bb ex cc (x_cl sg pg sc sp si ns) (x_T (q_fit mi ex sg cc (x_cl sg pg sc sp si ns) ln lt) ln nw ex cc (x_cl sg pg sc sp si ns) d) f))) := by
      rw [← hw1, q_up_at, q_up_ne _ _ _ (by decide)]
    have hA1 : q_MA w1 sg pg sc sp si ln lt cc ns nw mi ex := q_MA_c (fun k h1 h2 _ => f1 k h1 h2) hA
    have h391 : ∀ j, f ≤ j → j ≤ cc → w1 39 j = nI (x_en 100 (x_bb ex cc (x_cl sg pg sc sp si ns) (x_T (q_fit mi ex sg cc (x_cl sg pg sc sp si ns) ln lt) ln nw ex cc (x_cl sg pg sc sp si ns) d) j)) := by
      intro j h1 h2
      rw [f39]
      by_cases hj : j = f
      · subst hj; rw [pk_us]
      · rw [pk_un hj]; exact h39 j (by omega) h2
    obtain ⟨w2, v4, v5, p1, p2, p3, p4⟩ := m_lineIn (ns := ns) (sg := sg) (pg := pg) (sc := sc) (sp := sp) (si := si) (lt := lt) (ln := ln) (nw := nw) (mi := mi) hT (show f < cc by omega) v1 nw 0 w1 (x_bb ex cc (x_cl sg pg sc sp si ns) (x_T (q_fit mi ex sg cc (x_cl sg pg sc sp si ns) ln lt) ln nw ex cc (x_cl sg pg sc sp si ns) d) f) u4 u5 hA1 h391 (by rw [f38, pk_us]) (by omega) hb.1 hb.2
    rw [nI_0] at p4
    rw [p4, zX5_lineOf_159, ← Int32.sub_eq_add_neg]
    have hA2 : q_MA w2 sg pg sc sp si ln lt cc ns nw mi ex := q_MA_c (fun k h1 _ _ => p1 k h1) hA1
    have tne : ∀ j, f < j → x_T (q_fit mi ex sg cc (x_cl sg pg sc sp si ns) ln lt) ln nw ex cc (x_cl sg pg sc sp si ns) (d + 1) j = x_T (q_fit mi ex sg cc (x_cl sg pg sc sp si ns) ln lt) ln nw ex cc (x_cl sg pg sc sp si ns) d j := fun j hj => x_T_ne _ _ _ _ _ _ _ (by omega)
    obtain ⟨w3, y2, y3, y4, y5, r1, r2, r3⟩ := ih (d + 1) w2 (some (.int (nI nw))) v4 v5 hA2 (by omega) (by
      intro j h1 h2
      by_cases hj : j = f
      · subst hj
        rw [p3]
        congr 2
        rw [hfc, x_T_at]
      · rw [p2 j hj, f38, pk_un hj, tne j (by omega)]
        exact h38 j (by omega) h2) (by
      intro j h1 h2
      rw [p1 39 (by decide), h391 j h1 h2]
      congr 2
      unfold x_bb
      rw [tne (j + 1) (by omega)])
    exact ⟨w3, y2, y3, y4, y5, fun k h1 h2 => (r1 k h1 h2).trans ((p1 k h1).trans (f1 k h1 h2)), r2, r3⟩
theorem m_lineOf (hA : q_MA w sg pg sc sp si ln lt cc ns nw mi ex) (v1 : Int32) : ∃ w', (∀ k, k ≠ 38 → k ≠ 39 → w' k = w k) ∧ qe iX5_lineOf 4 [some (.ref 27), some (.int v1), none, none, none, none] [] w = some (some (.int (if v1 = 0 then nI (x_T (q_fit mi ex sg cc (x_cl sg pg sc sp si ns) ln lt) ln nw ex cc (x_cl sg pg sc sp si ns) cc 0).1 else nI (x_T (q_fit mi ex sg cc (x_cl sg pg sc sp si ns) ln lt) ln nw ex cc (x_cl sg pg sc sp si ns) cc 0).2)), w') := by
  obtain ⟨hS, hP, hL, hW, hO⟩ := id hA
  have hc := hP.2.1
  have hT := x_T_ok (fit := q_fit mi ex sg cc (x_cl sg pg sc sp si ns) ln lt) (ln := ln) (nw := nw) (cl := x_cl sg pg sc sp si ns) hO.2.2.2 (fun f k c hk h => m_fit_648 (sg := sg) (cc := cc) hO hW hk h) cc (Nat.le_refl _) 0
  rw [zX5_lineOf_4, hP.1, if_neg (c_ok (by omega) (by omega)), nI_clamp (by omega), zX5_lineOf_14, q_up_ne _ _ _ (show (27 : Nat) ≠ 38 by decide), hP.1, if_neg (c_ok (by omega) (by omega)), nI_clamp (by omega), zX5_lineOf_24, q_up_ne _ _ _ (show (27 : Nat) ≠ 39 by decide), q_up_ne _ _ _ (show (27 : Nat) ≠ 38 by decide), hP.1]
  have f1 : ∀ k, k ≠ 38 → k ≠ 39 → q_up (q_up w 38 cc 0) 39 cc 0 k = w k := fun k h1 h2 => by rw [q_up_ne _ _ _ h2, q_up_ne _ _ _ h1]
  obtain ⟨w2, y2, y3, y4, y5, r1, r2, r3⟩ := m_lineOut (ns := ns) (sg := sg) (pg := pg) (sc := sc) (sp := sp) (si := si) (lt := lt) (ln := ln) (nw := nw) (cc := cc) (mi := mi) hO.2.2.2 v1 cc 0 (q_up (q_up w 38 cc 0) 39 cc 0) none none none (q_MA_c (fun k h1 h2 _ => f1 k h1 h2) hA) (by omega) (by
    intro j h1 h2
    have : j = cc := by omega
    subst this
    rw [q_up_ne _ _ _ (by decide), q_up_at, pk_us]
    simp [x_T, x_en, nI]) (by
    intro j h1 h2
    have : j = cc := by omega
    subst this
    rw [q_up_at, pk_us]
    simp [x_bb, x_en, nI])
  refine ⟨w2, fun k h1 h2 => (r1 k h1 h2).trans (f1 k h1 h2), ?_⟩
  rw [r3, zX5_lineOf_165]
  have lt2 : x_en 100 (x_T (q_fit mi ex sg cc (x_cl sg pg sc sp si ns) ln lt) ln nw ex cc (x_cl sg pg sc sp si ns) cc 0) < 2 ^ 31 := by unfold x_en; omega
  by_cases h0 : v1 = 0
  · rw [if_neg (fun q => q h0), zX5_lineOf_169, if_neg (show ¬ ((0 : Int32) < 0 ∨ 26 ≤ (0 : Int32).toNatClampNeg) by decide), show (0 : Int32).toNatClampNeg = 0 from rfl, r2, zX5_lineOf_175, zX5_lineOf_190, if_pos h0, show (100 : Int32) = nI 100 from rfl, pk_div lt2 (by omega) (by omega), show x_en 100 (x_T (q_fit mi ex sg cc (x_cl sg pg sc sp si ns) ln lt) ln nw ex cc (x_cl sg pg sc sp si ns) cc 0) / 100 = (x_T (q_fit mi ex sg cc (x_cl sg pg sc sp si ns) ln lt) ln nw ex cc (x_cl sg pg sc sp si ns) cc 0).1 from by unfold x_en; omega]
  · rw [if_pos h0, zX5_lineOf_181, if_neg (show ¬ ((0 : Int32) < 0 ∨ 26 ≤ (0 : Int32).toNatClampNeg) by decide), show (0 : Int32).toNatClampNeg = 0 from rfl, r2, zX5_lineOf_187, zX5_lineOf_190, if_neg h0, show (100 : Int32) = nI 100 from rfl, pk_rem lt2 (by omega) (by omega), show x_en 100 (x_T (q_fit mi ex sg cc (x_cl sg pg sc sp si ns) ln lt) ln nw ex cc (x_cl sg pg sc sp si ns) cc 0) % 100 = (x_T (q_fit mi ex sg cc (x_cl sg pg sc sp si ns) ln lt) ln nw ex cc (x_cl sg pg sc sp si ns) cc 0).2 from by unfold x_en; omega]
end M33
