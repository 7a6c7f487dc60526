/-! the reference: what is read, words both ways, what was meant (behind reads()) -/
section M31
variable {w : qW} {sg pg sc sp si ln : Nat → Nat} {lt : Nat → Nat → Nat} {cc ns nw mi ex k f i c a : Nat}
theorem m_judgedLoop (hS : q_MS w sg) (hP : q_MP w cc pg) (hL : q_ML w ns sc sp si) : ∀ n i : Nat, i + n = cc → qe iX5_judgedNow 6 [some (.ref 27), some (.int (nI i))] [] w = some (some (.int (q_fq (fun i => decide (q_rd sg (x_cl sg pg sc sp si ns i) = -1)) n i)), w) := by
  have hc := hP.2.1
  intro n
  induction n with
  | zero => intro i hi; rw [zX5_judgedNow_6, hP.1, if_pos (nI_le (by omega) (by omega)), zX5_judgedNow_35]; rfl
  | succ n ih =>
    intro i hi
    rw [zX5_judgedNow_6, hP.1, if_neg (nI_ge (by omega) (by omega)), zX5_judgedNow_14, m_cellOf hS hP hL (by omega), qc_i, zX5_judgedNow_20, m_readAs hS (x_cl_lt hS hP hL (by omega)), qc_i, zX5_judgedNow_23, q_fq]
    by_cases h : q_rd sg (x_cl sg pg sc sp si ns i) = -1
    · rw [if_neg (fun q => q h), zX5_judgedNow_27, if_pos (decide_eq_true h)]
    · rw [if_pos h, zX5_judgedNow_29, nI_1, if_neg (by rw [decide_eq_true_eq]; exact h)]
      exact ih (i + 1) (by omega)
theorem m_wrongOf (hS : q_MS w sg) (hP : q_MP w cc pg) (hL : q_ML w ns sc sp si) (hi : i < cc) : qe iX5_wrongOf 0 [some (.ref 27), some (.int (nI i))] [] w = some (some (.int (q_rd sg (q_sw (x_cl sg pg sc sp si ns (cc - 1 - i))))), w) := by
  have hc := hP.2.1
  have h1 := x_cl_lt hS hP hL (c := cc - 1 - i) (by omega)
  rw [zX5_wrongOf_0, hP.1, q_back hi (by omega), m_cellOf hS hP hL (by omega), qc_i, zX5_wrongOf_13, m_turned h1, qc_i, zX5_wrongOf_16, m_readAs hS (q_sw_lt h1), qc_i, zX5_wrongOf_19]
theorem m_bothIn (hS : q_MS w sg) (hW : q_MW w nw ln lt) {o : Nat} (hk : k < nw) (ho : o < nw) (hlo : ln o = ln k) : ∀ n i : Nat, i + n = ln k → ∃ j : Int32, qe iX5_bothOf 37 [some (.ref 27), some (.int (nI k)), some (.int (nI (ln k))), some (.int (nI o)), some (.int 1), some (.int (nI i))] [] w = qe iX5_bothOf 104 [some (.ref 27), some (.int (nI k)), some (.int (nI (ln k))), some (.int (nI o)), some (.int (q_bo (q_all (fun i => decide (q_rd sg (q_sw (sg (lt k (ln k - 1 - i)))) = nI (lt o i))) n i))), some (.int j)] [] w := by
  obtain ⟨h4, h5, h6, h7⟩ := hW.2.2 k hk
  obtain ⟨g4, g5, g6, g7⟩ := hW.2.2 o ho
  have hn := hW.2.1
  intro n
  induction n with
  | zero => intro i hi; exact ⟨nI i, by rw [zX5_bothOf_37, if_pos (nI_le (by omega) (by omega))]; rfl⟩
  | succ n ih =>
    intro i hi
    have a1 := h7 (ln k - 1 - i) (by omega)
    have a2 := hS _ a1.2
    have a3 := g7 i (by omega)
    have e1 : 6 * nI k + nI (ln k) - 1 - nI i = nI (6 * k + (ln k - 1 - i)) := by
      rw [q_lit6, show nI (6 * k + ln k) - 1 = nI (6 * k + ln k) - nI 1 from rfl, pk_sub (by omega), pk_sub (by omega)]
      congr 1
      omega
    rw [zX5_bothOf_37, if_neg (nI_ge (by omega) (by omega)), zX5_bothOf_43, if_neg (by decide), zX5_bothOf_48, e1, if_neg (c_ok (by omega) (by omega)), zX5_bothOf_69, nI_clamp (by omega), a1.1, if_neg (c_ok a1.2 (by omega)), zX5_bothOf_70, nI_clamp (by omega), a2.1, m_turned a2.2.2, qc_i, zX5_bothOf_73, m_readAs hS (q_sw_lt a2.2.2), qc_i, zX5_bothOf_76, q_lit6, if_neg (c_ok (by omega) (by omega)), zX5_bothOf_88, nI_clamp (by omega), a3.1, q_all]
    by_cases h : q_rd sg (q_sw (sg (lt k (ln k - 1 - i)))) = nI (lt o i)
    · rw [if_neg (fun q => q h), zX5_bothOf_91, zX5_bothOf_96, nI_1, if_pos (decide_eq_true h)]
      exact ih (i + 1) (by omega)
    · refine ⟨nI (i + 1), ?_⟩
      rw [if_pos h, zX5_bothOf_95, zX5_bothOf_96, nI_1, if_neg (by rw [decide_eq_true_eq]; exact h), zX5_bothOf_37]
      by_cases h2 : i + 1 < ln k
      · rw [if_neg (nI_ge h2 (by omega)), zX5_bothOf_43, if_pos rfl]; rfl
      · rw [if_pos (nI_le (by omega) (by omega))]; rfl
theorem m_bothLoop (hS : q_MS w sg) (hW : q_MW w nw ln lt) (hk : k < nw) : ∀ (n o : Nat) (u4 u5 : Option Value), o + n = nw → qe iX5_bothOf 9 [some (.ref 27), some (.int (nI k)), some (.int (nI (ln k))), some (.int (nI o)), u4, u5] [] w = some (some (.int (q_fq (fun o => q_bw sg ln lt k o) n o)), w) := by
  have hn := hW.2.1
  obtain ⟨h4, h5, h6, h7⟩ := hW.2.2 k hk
  intro n
  induction n with
  | zero => intro o u4 u5 ho; rw [zX5_bothOf_9, hW.1, if_pos (nI_le (by omega) (by omega)), zX5_bothOf_117]; rfl
  | succ n ih =>
    intro o u4 u5 ho
    obtain ⟨g4, g5, g6, g7⟩ := hW.2.2 o (by omega)
    rw [zX5_bothOf_9, hW.1, if_neg (nI_ge (by omega) (by omega)), zX5_bothOf_17, if_neg (c_ok (by omega) (by omega)), zX5_bothOf_23, nI_clamp (by omega), g4, q_fq, q_bw]
    by_cases h : ln o = ln k
    · rw [if_neg (fun q => q (by rw [h])), zX5_bothOf_27, zX5_bothOf_32]
      obtain ⟨j, hj⟩ := m_bothIn hS hW hk (show o < nw by omega) h (ln k) 0 (by omega)
      rw [nI_0] at hj
      rw [hj, zX5_bothOf_104, decide_eq_true h, Bool.true_and]
      cases hq : q_all (fun i => decide (q_rd sg (q_sw (sg (lt k (ln k - 1 - i)))) = nI (lt o i))) (ln k) 0 with
      | true => rw [q_bo_t, if_neg (by decide), zX5_bothOf_109, if_pos rfl]
      | false =>
        rw [q_bo_f, if_pos rfl, zX5_bothOf_111, nI_1, if_neg (by decide)]
        exact ih (o + 1) _ _ (by omega)
    · rw [if_pos (fun q => h ((nI_eq (by omega) (by omega)).mp q)), zX5_bothOf_31, zX5_bothOf_32, zX5_bothOf_37, if_neg (show ¬ nI (ln k) ≤ 0 from nI_nle (by omega) (by omega)), zX5_bothOf_43, if_pos rfl, zX5_bothOf_104, if_pos rfl, zX5_bothOf_111, nI_1, decide_eq_false h, Bool.false_and, if_neg (by decide)]
      exact ih (o + 1) _ _ (by omega)
theorem m_bothOf (hS : q_MS w sg) (hW : q_MW w nw ln lt) (hk : k < nw) : qe iX5_bothOf 0 [some (.ref 27), some (.int (nI k)), none, none, none, none] [] w = some (some (.int (q_wb sg nw ln lt k)), w) := by
  have hn := hW.2.1
  rw [zX5_bothOf_0, if_neg (c_ok (by omega) (by omega)), zX5_bothOf_6, nI_clamp (by omega), (hW.2.2 k hk).1]
  exact m_bothLoop hS hW hk nw 0 none none (by omega)
theorem m_bothAllLoop (hS : q_MS w sg) (hW : q_MW w nw ln lt) : ∀ (n i : Nat) (b : Int32), i + n = nw → qe iX5_bothAll 8 [some (.ref 27), some (.int b), some (.int (nI i))] [] w = some (some (.int (q_ob (fun k => decide (¬ q_wb sg nw ln lt k = -1)) n i b)), w) := by
  have hn := hW.2.1
  intro n
  induction n with
  | zero => intro i b hi; rw [zX5_bothAll_8, hW.1, if_pos (nI_le (by omega) (by omega)), zX5_bothAll_41]; rfl
  | succ n ih =>
    intro i b hi
    rw [zX5_bothAll_8, hW.1, if_neg (nI_ge (by omega) (by omega)), zX5_bothAll_16, m_bothOf hS hW (by omega), qc_i, zX5_bothAll_22, q_ob]
    by_cases h : q_wb sg nw ln lt i = -1
    · rw [if_neg (fun q => q h), zX5_bothAll_26, zX5_bothAll_33, nI_1, if_neg (by rw [decide_eq_true_eq]; exact fun q => q h), Int32.or_zero]
      exact ih (i + 1) b (by omega)
    · rw [if_pos h, zX5_bothAll_30, zX5_bothAll_33, nI_1, if_pos (decide_eq_true h)]
      exact ih (i + 1) _ (by omega)
def q_chl (b : Option (Nat × Nat)) : Int32 := q_oi (b.map Prod.snd)
theorem m_meantLoop (hS : q_MS w sg) (hP : q_MP w cc pg) (hL : q_ML w ns sc sp si) (hW : q_MW w nw ln lt) (hO : q_MO w mi ex) (hf : f < 2 ^ 31) (v2 : Int32) : ∀ (n i : Nat) (b : Option (Nat × Nat)) (u6 u7 : Option Value), i + n = nw → (∀ bi bc, b = some (bi, bc) → bi < nw ∧ bc ≤ 2592) →
    ∃ u6' u7', qe iX5_meantOf 12 [some (.ref 27), some (.int (nI f)), some (.int v2), some (.int (q_chw b)), some (.int (q_chl b)), some (.int (nI i)), u6, u7] [] w = qe iX5_meantOf 110 [some (.ref 27), some (.int (nI f)), some (.int v2), some (.int (q_chw (q_ch (q_fit mi ex sg cc (x_cl sg pg sc sp si ns) ln lt f) ln n i b))), some (.int (q_chl (q_ch (q_fit mi ex sg cc (x_cl sg pg sc sp si ns) ln lt f) ln n i b))), some (.int (nI nw)), u6', u7'] [] w := by
  have hc := hP.2.1
  have hn := hW.2.1
  intro n
  induction n with
  | zero =>
    intro i b u6 u7 hi hb
    have : i = nw := by omega
    subst this
    exact ⟨u6, u7, by rw [zX5_meantOf_12, hW.1, if_pos (Int32.le_refl _)]; rfl⟩
  | succ n ih =>
    intro i b u6 u7 hi hb
    have hin : i < nw := by omega
    rw [zX5_meantOf_12, hW.1, if_neg (nI_ge hin (by omega)), zX5_meantOf_21, m_fitsOf hS hP hL hW hO hin hf, qc_i, zX5_meantOf_28, q_ch]
    have stay : ∀ (x : Int32), ∃ u6' u7', qe iX5_meantOf 75 [some (.ref 27), some (.int (nI f)), some (.int v2), some (.int (q_chw b)), some (.int (q_chl b)), some (.int (nI i)), some (.int x), u7] [] w = qe iX5_meantOf 110 [some (.ref 27), some (.int (nI f)), some (.int v2), some (.int (q_chw (q_ch (q_fit mi ex sg cc (x_cl sg pg sc sp si ns) ln lt f) ln n (i + 1) b))), some (.int (q_chl (q_ch (q_fit mi ex sg cc (x_cl sg pg sc sp si ns) ln lt f) ln n (i + 1) b))), some (.int (nI nw)), u6', u7'] [] w := by
      intro x
      rw [zX5_meantOf_75, zX5_meantOf_76, if_pos rfl, zX5_meantOf_88, zX5_meantOf_89, if_pos rfl, zX5_meantOf_100, zX5_meantOf_102, nI_1]
      exact ih (i + 1) b _ _ (by omega) hb
    cases hfit : q_fit mi ex sg cc (x_cl sg pg sc sp si ns) ln lt f i with
    | none =>
      rw [q_oi_n, if_pos rfl]
      exact stay (-1)
    | some cst =>
      have hc2 := q_fit_le hO.2.1 hO.2.2.2 hc hfit
      rw [q_oi_s, if_neg (show ¬ nI cst = -1 from q_m1 (by omega)), zX5_meantOf_36]
      have go : ∃ u6' u7', qe iX5_meantOf 71 [some (.ref 27), some (.int (nI f)), some (.int v2), some (.int (q_chw b)), some (.int (q_chl b)), some (.int (nI i)), some (.int (nI cst)), u7] [] w = qe iX5_meantOf 110 [some (.ref 27), some (.int (nI f)), some (.int v2), some (.int (q_chw (q_ch (q_fit mi ex sg cc (x_cl sg pg sc sp si ns) ln lt f) ln n (i + 1) (some (i, cst))))), some (.int (q_chl (q_ch (q_fit mi ex sg cc (x_cl sg pg sc sp si ns) ln lt f) ln n (i + 1) (some (i, cst))))), some (.int (nI nw)), u6', u7'] [] w := by
        rw [zX5_meantOf_71, zX5_meantOf_76, if_neg (by decide), zX5_meantOf_83, zX5_meantOf_89, if_neg (by decide), zX5_meantOf_95, zX5_meantOf_102, nI_1]
        exact ih (i + 1) (some (i, cst)) _ _ (by omega) (fun bi bc h => by cases h; exact ⟨hin, hc2⟩)
      cases b with
      | none =>
        rw [show q_chw none = -1 from rfl] at go ⊢
        rw [if_pos rfl]
        exact go
      | some bb =>
        obtain ⟨bi, bc⟩ := bb
        obtain ⟨hb1, hb2⟩ := hb bi bc rfl
        obtain ⟨lb0, lb1, lb2, -⟩ := hW.2.2 bi hb1
        obtain ⟨li0, li1, li2, -⟩ := hW.2.2 i hin
        rw [show q_chw (some (bi, bc)) = nI bi from rfl, show q_chl (some (bi, bc)) = nI bc from rfl] at go stay ⊢
        rw [if_neg (q_m1 (by omega)), zX5_meantOf_41]
        dsimp only
        by_cases h1 : cst < bc
        · rw [if_pos (nI_lt h1 (by omega)), if_pos (Or.inl h1)]
          exact go
        · rw [if_neg (nI_nlt (by omega) (by omega)), zX5_meantOf_48]
          by_cases h0 : cst = bc
          · subst h0
            rw [if_neg (fun q => q rfl), zX5_meantOf_55, if_neg (c_ok (by omega) (by omega)), zX5_meantOf_62, if_neg (c_ok (by omega) (by omega)), zX5_meantOf_68, nI_clamp (n := i) (by omega), nI_clamp (n := bi) (by omega), li0, lb0]
            by_cases h2 : ln bi < ln i
            · rw [if_neg (nI_ge h2 (by omega)), if_pos (Or.inr ⟨rfl, h2⟩)]
              exact go
            · rw [if_pos (nI_le (by omega) (by omega)), if_neg (fun q => q.elim h1 (fun z => h2 z.2))]
              exact stay _
          · rw [if_pos (fun q => h0 ((nI_eq (by omega) (by omega)).mp q)), if_neg (fun q => q.elim h1 (fun z => h0 z.1))]
            exact stay _
/-- within: no more than told -/
def x_wi (fit : Nat → Option Nat) (most : Int32) (k : Nat) : Bool := match fit k with
  | none => false
  | some c => decide (nI c ≤ most)
theorem m_withinLoop (hS : q_MS w sg) (hP : q_MP w cc pg) (hL : q_ML w ns sc sp si) (hW : q_MW w nw ln lt) (hO : q_MO w mi ex) (hf : f < 2 ^ 31) (v2 : Int32) : ∀ (n i : Nat) (b : Int32), i + n = nw → qe iX5_withinOf 9 [some (.ref 27), some (.int (nI f)), some (.int v2), some (.int b), some (.int (nI i))] [] w = some (some (.int (q_ob (x_wi (q_fit mi ex sg cc (x_cl sg pg sc sp si ns) ln lt f) v2) n i b)), w) := by
  have hc := hP.2.1
  have hn := hW.2.1
  intro n
  induction n with
  | zero => intro i b hi; rw [zX5_withinOf_9, hW.1, if_pos (nI_le (by omega) (by omega)), zX5_withinOf_50]; rfl
  | succ n ih =>
    intro i b hi
    have hin : i < nw := by omega
    rw [zX5_withinOf_9, hW.1, if_neg (nI_ge hin (by omega)), zX5_withinOf_18, m_fitsOf hS hP hL hW hO hin hf, qc_i, zX5_withinOf_26, m_in, qc_i, zX5_withinOf_31, q_ob]
    have no : qe iX5_withinOf 41 [some (.ref 27), some (.int (nI f)), some (.int v2), some (.int b), some (.int (nI i))] [.int b] w = some (some (.int (q_ob (x_wi (q_fit mi ex sg cc (x_cl sg pg sc sp si ns) ln lt f) v2) n (i + 1) b)), w) := by
      rw [zX5_withinOf_41, zX5_withinOf_42, nI_1, Int32.or_zero]
      exact ih (i + 1) b (by omega)
    unfold x_wi at no ⊢
    cases hfit : q_fit mi ex sg cc (x_cl sg pg sc sp si ns) ln lt f i with
    | none =>
      rw [q_oi_n, decide_eq_false (fun q => absurd q.1 (by decide)), q_bo_f, if_pos rfl, if_neg Bool.false_ne_true]
      exact no
    | some cst =>
      have hc2 := q_fit_le hO.2.1 hO.2.2.2 hc hfit
      rw [q_oi_s]
      dsimp only
      by_cases h : nI cst ≤ v2
      · rw [decide_eq_true ⟨nI_pos' (by omega), h⟩, q_bo_t, if_neg (by decide), zX5_withinOf_34, zX5_withinOf_42, nI_1, if_pos (decide_eq_true h)]
        exact ih (i + 1) _ (by omega)
      · rw [decide_eq_false (fun q => h q.2), q_bo_f, if_pos rfl, if_neg (by rw [decide_eq_true_eq]; exact h)]
        exact no
end M31
