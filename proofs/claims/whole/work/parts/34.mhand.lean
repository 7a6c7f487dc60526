/-! the reference: clash, whose, wear, counts -/
theorem q_all_iff (p : Nat → Bool) : ∀ n i, q_all p n i = true ↔ ∀ j, i ≤ j → j < i + n → p j = true := by
  intro n
  induction n with
  | zero => intro i; exact ⟨fun _ j h1 h2 => by omega, fun _ => rfl⟩
  | succ n ih =>
    intro i
    rw [q_all]
    constructor
    · intro h j h1 h2
      split at h
      · rename_i hp
        by_cases hj : j = i
        · rw [hj]; exact hp
        · exact (ih (i + 1)).mp h j (by omega) (by omega)
      · cases h
    · intro h
      rw [if_pos (h i (Nat.le_refl _) (by omega))]
      exact (ih (i + 1)).mpr (fun j h1 h2 => h j (by omega) (by omega))
def x_iN (it : Nat → Int32) (j : Nat) : Nat := (it j).toNatClampNeg
theorem x_iN_ok {it : Nat → Int32} {j : Nat} (h : 0 ≤ it j ∧ it j ≤ 63) : it j = nI (x_iN it j) ∧ x_iN it j < 64 := by
  obtain ⟨n, hn, e⟩ := nI_of2 (M := 63) (n := 63) (by decide) (Int32.not_lt.mpr h.1) h.2
  unfold x_iN
  rw [e, nI_clamp (by omega)]
  exact ⟨rfl, by omega⟩
def x_ck (it : Nat → Int32) (sz i : Nat) : Bool := q_all (fun j => decide (0 ≤ it j ∧ it j ≤ 63)) sz i
def x_cp (cl : Nat → Nat) (it : Nat → Int32) (sz cc i : Nat) : Bool := decide (cc - 1 - i < sz ∧ ¬ cl i &&& q_sw (x_iN it (cc - 1 - i)) = 0)
/-- where front and behind clash -/
def x_ca (cl : Nat → Nat) (it : Nat → Int32) (sz cc : Nat) : Int32 := if x_ck it sz 0 = true then q_fq (x_cp cl it sz cc) cc 0 else -3
theorem x_and0_all : ∀ a b : Fin 64, nI a.val &&& nI b.val = 0 ↔ a.val &&& b.val = 0 := by decide +kernel
theorem q_lit48 (k i : Nat) : 48 * nI k + nI i = nI (48 * k + i) := by rw [show (48 : Int32) = nI 48 from rfl, pk_mul, nI_add]
/-- what a hand skipped -/
def x_hm (g hb : Nat → Nat) (h i : Nat) : Nat := x_sv (fun p => hb (h * 6 + p)) (g i) 6
theorem x_ms_or (p : Nat → Nat) : ∀ n i b, x_ms p n i b = (b || x_ms p n i false) := by
  intro n
  induction n with
  | zero => intro i b; rw [x_ms, x_ms, Bool.or_false]
  | succ n ih => intro i b; rw [x_ms, x_ms, ih, ih (i + 1) (false || _), Bool.false_or, Bool.or_assoc]
theorem x_ms_idem (p : Nat → Nat) (n i : Nat) : x_ms p n i (x_ms p n i false) = x_ms p n i false := by rw [x_ms_or, Bool.or_self]
def q_MH (w : qW) (hb : Nat → Nat) : Prop := ∀ j, j < 18 → w 40 j = nI (hb j) ∧ hb j ≤ 99
theorem x_hm_le {hb : Nat → Nat} {w : qW} (hH : q_MH w hb) {g : Nat → Nat} {h : Nat} (hh : h < 3) (i : Nat) : x_hm g hb h i ≤ 594 := by
  have : ∀ n, n ≤ 6 → x_sv (fun p => hb (h * 6 + p)) (g i) n ≤ 99 * n := by
    intro n
    induction n with
    | zero => intro _; exact Nat.le_refl _
    | succ n ih =>
      intro hn
      have h1 := ih (by omega)
      have h2 := (hH (h * 6 + n) (by omega)).2
      rw [x_sv]
      split <;> omega
  exact this 6 (Nat.le_refl _)
theorem m_tst64_all : ∀ (t : Fin 64) (k : Fin 6), (nI t.val >>> (nI k.val &&& 31)) &&& 1 = 1 ↔ t.val.testBit k.val = true := by decide +kernel
theorem m_hi_all : ∀ (t : Fin 64) (k : Fin 6), nI t.val &&& nI (2 ^ k.val) = 0 ↔ t.val.testBit k.val = false := by decide +kernel
theorem m_clr_all : ∀ (t : Fin 64) (k : Fin 6), t.val.testBit k.val = true → nI t.val &&& (nI (2 ^ k.val) ^^^ (-1)) = nI (t.val - 2 ^ k.val) := by decide +kernel
theorem m_any_all : ∀ (t : Fin 64), t.val ≠ 0 → ∃ k : Fin 6, t.val.testBit k.val = true := by decide +kernel
theorem q_pop_all0 : ∀ t : Fin 64, q_pop t.val = 0 ↔ t.val = 0 := by decide +kernel
theorem q_ct_sm (p : Nat → Bool) (g : Nat → Nat) (hg : ∀ i, g i = if p i = true then 1 else 0) : ∀ n i, q_ct p n i (x_sm g i) = x_sm g (i + n) := by
  intro n
  induction n with
  | zero => intro i; rfl
  | succ n ih =>
    intro i
    rw [q_ct, show i + (n + 1) = i + 1 + n by omega, ← ih (i + 1)]
    congr 1
    rw [x_sm, hg i]
    split <;> rfl
theorem x_sm_up (f g : Nat → Nat) {p : Nat} : ∀ n, p < n → (∀ j, j ≠ p → f j = g j) → f p + 1 = g p → x_sm f n + 1 = x_sm g n := by
  intro n
  induction n with
  | zero => intro h; omega
  | succ n ih =>
    intro h h1 h2
    rw [x_sm, x_sm]
    by_cases hp : n = p
    · subst hp
      rw [x_sm_c n (fun j hj => h1 j (by omega))]
      omega
    · have := ih (by omega) h1 h2
      rw [h1 n hp]
      omega
theorem x_sm_0 (f : Nat → Nat) : ∀ n, x_sm f n = 0 ↔ ∀ j, j < n → f j = 0 := by
  intro n
  induction n with
  | zero => exact ⟨fun _ j h => by omega, fun _ => rfl⟩
  | succ n ih =>
    rw [x_sm]
    constructor
    · intro h j hj
      by_cases hp : j = n
      · subst hp; omega
      · exact ih.mp (by omega) j (by omega)
    · intro h
      have h1 := ih.mpr (fun j hj => h j (by omega))
      have h2 := h n (by omega)
      omega
/-- none raised: there is no next -/
theorem x_nr_none {v : Nat → Nat} {cc f : Nat} (hf : f ≤ cc) : x_nr v cc f cc 0 = none ↔ ∀ j, j < cc → v j = 0 := by
  have key : ∀ n k, k + n = cc → (x_nr v cc f n k = none ↔ ∀ q, k ≤ q → q < cc → v (x_pl cc f q) = 0) := by
    intro n
    induction n with
    | zero => intro k hk; exact ⟨fun _ q h1 h2 => by omega, fun _ => rfl⟩
    | succ n ih =>
      intro k hk
      rw [x_nr]
      constructor
      · intro h q h1 h2
        split at h
        · rename_i h0
          by_cases hq : q = k
          · rw [hq]; exact h0
          · exact (ih (k + 1) (by omega)).mp h q (by omega) h2
        · cases h
      · intro h
        rw [if_pos (h k (Nat.le_refl _) (by omega))]
        exact (ih (k + 1) (by omega)).mpr (fun q h1 h2 => h q (by omega) h2)
  rw [key cc 0 (by omega)]
  constructor
  · intro h j hj
    by_cases hjf : f ≤ j
    · have := h (j - f) (Nat.zero_le _) (by omega)
      unfold x_pl at this
      rw [if_pos (by omega), show f + (j - f) = j by omega] at this
      exact this
    · have := h (j + cc - f) (Nat.zero_le _) (by omega)
      unfold x_pl at this
      rw [if_neg (by omega), show f + (j + cc - f) - cc = j by omega] at this
      exact this
  · intro h q _ hq
    apply h
    unfold x_pl
    split <;> omega
section M34
variable {w : qW} {sg pg sc sp si ln oc hb cl v : Nat → Nat} {lt : Nat → Nat → Nat} {cc ns nw mi ex k f i c a sz s : Nat} {it : Nat → Int32}
theorem m_clashIn (hs : s < 4) (hz : w 44 s = nI sz) (hz2 : sz ≤ 48) (hi : ∀ j, j < 48 → w 45 (48 * s + j) = it j) : ∀ n j : Nat, j + n = sz → qe iX5_clashOf 6 [some (.ref 27), some (.int (nI s)), some (.int (nI j)), none] [] w = if x_ck it n j = true then qe iX5_clashOf 45 [some (.ref 27), some (.int (nI s)), some (.int (nI sz)), none] [] w else some (some (.int (-3)), w) := by
  intro n
  induction n with
  | zero =>
    intro j hj
    have : j = sz := by omega
    subst this
    rw [zX5_clashOf_6, if_neg (c_ok hs (by omega)), nI_clamp (by omega), hz, zX5_clashOf_13, if_pos (Int32.le_refl _), x_ck, q_all, if_pos rfl]
  | succ n ih =>
    intro j hj
    rw [zX5_clashOf_6, if_neg (c_ok hs (by omega)), nI_clamp (by omega), hz, zX5_clashOf_13, if_neg (nI_ge (by omega) (by omega)), zX5_clashOf_16, q_lit48, if_neg (c_ok (by omega) (by omega)), nI_clamp (by omega), hi j (by omega), zX5_clashOf_27, m_in, qc_i, zX5_clashOf_33, x_ck, q_all]
    by_cases h : 0 ≤ it j ∧ it j ≤ 63
    · rw [decide_eq_true h, q_bo_t, if_pos (by decide), zX5_clashOf_39, nI_1, if_pos rfl]
      exact ih (j + 1) (by omega)
    · rw [decide_eq_false h, q_bo_f, if_neg (fun q => q rfl), zX5_clashOf_36, if_neg Bool.false_ne_true, if_neg Bool.false_ne_true]
theorem m_clashOut (hS : q_MS w sg) (hP : q_MP w cc pg) (hL : q_ML w ns sc sp si) (hs : s < 4) (hz : w 44 s = nI sz) (hz2 : sz ≤ 48) (hi : ∀ j, j < 48 → w 45 (48 * s + j) = it j) (hk : x_ck it sz 0 = true) : ∀ (n i : Nat) (u : Option Value), i + n = cc → qe iX5_clashOf 47 [some (.ref 27), some (.int (nI s)), some (.int (nI i)), u] [] w = some (some (.int (q_fq (x_cp (x_cl sg pg sc sp si ns) it sz cc) n i)), w) := by
  have hc := hP.2.1
  intro n
  induction n with
  | zero => intro i u hi2; rw [zX5_clashOf_47, hP.1, if_pos (nI_le (by omega) (by omega)), zX5_clashOf_105]; rfl
  | succ n ih =>
    intro i u hi2
    rw [zX5_clashOf_47, hP.1, if_neg (nI_ge (by omega) (by omega)), zX5_clashOf_55, if_neg (c_ok hs (by omega)), nI_clamp (by omega), hz, hP.1, q_back (show i < cc by omega) (by omega), zX5_clashOf_71, q_fq, x_cp]
    by_cases h : cc - 1 - i < sz
    · have h1 := (q_all_iff _ _ _).mp hk (cc - 1 - i) (Nat.zero_le _) (by omega)
      obtain ⟨h2, h3⟩ := x_iN_ok (of_decide_eq_true h1)
      have h4 := x_cl_lt hS hP hL (c := i) (by omega)
      have h5 := x_and0_all ⟨_, h4⟩ ⟨_, q_sw_lt h3⟩
      dsimp only at h5
      rw [if_neg (nI_ge h (by omega)), zX5_clashOf_74, m_cellOf hS hP hL (by omega), qc_i, zX5_clashOf_79, q_lit48, if_neg (c_ok (by omega) (by omega)), nI_clamp (by omega), hi _ (by omega), h2, zX5_clashOf_90, m_turned h3, qc_i, zX5_clashOf_93]
      by_cases h6 : x_cl sg pg sc sp si ns i &&& q_sw (x_iN it (cc - 1 - i)) = 0
      · rw [if_pos (h5.mpr h6), zX5_clashOf_99, nI_1, decide_eq_false (fun q => q.2 h6), if_neg Bool.false_ne_true]
        exact ih (i + 1) _ (by omega)
      · rw [if_neg (fun q => h6 (h5.mp q)), zX5_clashOf_97, decide_eq_true ⟨h, h6⟩, if_pos rfl]
    · rw [if_pos (nI_le (by omega) (by omega)), zX5_clashOf_99, nI_1, decide_eq_false (fun q => h q.1), if_neg Bool.false_ne_true]
      exact ih (i + 1) _ (by omega)
theorem m_clashOf (hS : q_MS w sg) (hP : q_MP w cc pg) (hL : q_ML w ns sc sp si) (hs : s < 4) (hz : w 44 s = nI sz) (hz2 : sz ≤ 48) (hi : ∀ j, j < 48 → w 45 (48 * s + j) = it j) : qe iX5_clashOf 4 [some (.ref 27), some (.int (nI s)), none, none] [] w = some (some (.int (x_ca (x_cl sg pg sc sp si ns) it sz cc)), w) := by
  have h := m_clashIn hs hz hz2 hi sz 0 (by omega)
  rw [nI_0] at h
  rw [zX5_clashOf_4, h, x_ca]
  cases hk : x_ck it sz 0 with
  | true => rw [if_pos rfl, if_pos rfl, zX5_clashOf_45]; exact m_clashOut hS hP hL hs hz hz2 hi hk cc 0 none (by omega)
  | false => rw [if_neg Bool.false_ne_true, if_neg Bool.false_ne_true]
theorem m_handIn (hH : q_MH w hb) {h s t : Nat} (hh : h < 3) (hs : s < 64) (v1 v2 v3 v6 : Int32) : ∀ m p : Nat, p + m = 6 → qe iX5_whoseNow 74 [some (.ref 27), some (.int v1), some (.int v2), some (.int v3), some (.int (nI h)), some (.int (nI (t + x_sv (fun p => hb (h * 6 + p)) s p))), some (.int v6), some (.int (nI s)), some (.int (nI p))] [] w = qe iX5_whoseNow 120 [some (.ref 27), some (.int v1), some (.int v2), some (.int v3), some (.int (nI h)), some (.int (nI (t + x_sv (fun p => hb (h * 6 + p)) s 6))), some (.int v6), some (.int (nI s)), some (.int (nI 6))] [] w := by
  intro m
  induction m with
  | zero => intro p hp; have : p = 6 := by omega
            subst this; rw [zX5_whoseNow_74, if_pos (show (6 : Int32) ≤ nI 6 by decide)]
  | succ m ih =>
    intro p hp
    have key := m_tst64_all ⟨s, hs⟩ ⟨p, by omega⟩
    dsimp only at key
    have h1 := hH (h * 6 + p) (by omega)
    have := ih (p + 1) (by omega)
    rw [x_sv] at this
    rw [zX5_whoseNow_74, if_neg (show ¬ (6 : Int32) ≤ nI p from nI_ge (b := 6) (by omega) (by omega)), zX5_whoseNow_81]
    cases hb1 : s.testBit p with
    | true =>
      rw [hb1, if_pos rfl] at this
      rw [if_neg (fun q => q (key.mpr hb1)), zX5_whoseNow_94, q_lit6, if_neg (c_ok (by omega) (by omega)), nI_clamp (by omega), Nat.mul_comm 6 h, h1.1, zX5_whoseNow_107, zX5_whoseNow_111, nI_1, nI_add, Nat.add_assoc]
      exact this
    | false =>
      rw [hb1, if_neg Bool.false_ne_true, Nat.add_zero] at this
      rw [if_pos (fun q => by rw [hb1] at key; cases key.mp q), zX5_whoseNow_110, zX5_whoseNow_111, nI_1, Int32.add_zero]
      exact this
theorem m_handCells (hS : q_MS w sg) (hP : q_MP w cc pg) (hL : q_ML w ns sc sp si) (hH : q_MH w hb) {h : Nat} (hh : h < 3) (v1 v2 : Int32) : ∀ (m i : Nat) (b : Bool) (u7 u8 : Option Value), i + m = cc → ∃ u7' u8', qe iX5_whoseNow 25 [some (.ref 27), some (.int v1), some (.int v2), some (.int (q_bo b)), some (.int (nI h)), some (.int (nI (x_sm (x_hm (fun c => q_an (x_so sg (pg c)) (x_cl sg pg sc sp si ns c)) hb h) i))), some (.int (nI i)), u7, u8] [] w = qe iX5_whoseNow 126 [some (.ref 27), some (.int v1), some (.int v2), some (.int (q_bo (x_ms (fun c => q_an (x_so sg (pg c)) (x_cl sg pg sc sp si ns c)) m i b))), some (.int (nI h)), some (.int (nI (x_sm (x_hm (fun c => q_an (x_so sg (pg c)) (x_cl sg pg sc sp si ns c)) hb h) cc))), some (.int (nI cc)), u7', u8'] [] w := by
  have hc := hP.2.1
  intro m
  induction m with
  | zero => intro i b u7 u8 hi; have : i = cc := by omega
            subst this; exact ⟨u7, u8, by rw [zX5_whoseNow_25, hP.1, if_pos (Int32.le_refl _)]; rfl⟩
  | succ m ih =>
    intro i b u7 u8 hi
    have p1 := hP.2.2 i (by omega)
    have h1 := x_so_lt hS p1.2
    have h2 := x_cl_lt hS hP hL (c := i) (by omega)
    have h3 := q_an_lt (x_cl sg pg sc sp si ns i) h1
    have go : ∀ y : Bool, ∃ u7' u8', qe iX5_whoseNow 70 [some (.ref 27), some (.int v1), some (.int v2), some (.int (q_bo b)), some (.int (nI h)), some (.int (nI (x_sm (x_hm (fun c => q_an (x_so sg (pg c)) (x_cl sg pg sc sp si ns c)) hb h) i))), some (.int (nI i)), some (.int (nI (q_an (x_so sg (pg i)) (x_cl sg pg sc sp si ns i)))), u8] [.int (q_bo y)] w = qe iX5_whoseNow 126 [some (.ref 27), some (.int v1), some (.int v2), some (.int (q_bo (x_ms (fun c => q_an (x_so sg (pg c)) (x_cl sg pg sc sp si ns c)) m (i + 1) y))), some (.int (nI h)), some (.int (nI (x_sm (x_hm (fun c => q_an (x_so sg (pg c)) (x_cl sg pg sc sp si ns c)) hb h) cc))), some (.int (nI cc)), u7', u8'] [] w := by
      intro y
      have e := m_handIn (t := x_sm (x_hm (fun c => q_an (x_so sg (pg c)) (x_cl sg pg sc sp si ns c)) hb h) i) hH hh h3 v1 v2 (q_bo y) (nI i) 6 0 (by omega)
      rw [x_sv, Nat.add_zero, nI_0] at e
      rw [zX5_whoseNow_70, e, zX5_whoseNow_120, nI_1]
      exact ih (i + 1) y _ _ (by omega)
    rw [zX5_whoseNow_25, hP.1, if_neg (nI_ge (by omega) (by omega)), zX5_whoseNow_34, if_neg (c_ok (by omega) (by omega)), nI_clamp (by omega), p1.1, zX5_whoseNow_42, m_signOf hS p1.2, qc_i, zX5_whoseNow_45, m_cellOf hS hP hL (by omega), qc_i, zX5_whoseNow_51, q_an_I h1 h2, x_ms]
    cases b with
    | true =>
      rw [q_bo_t, if_pos (by decide), zX5_whoseNow_65, Bool.true_or]
      exact go true
    | false =>
      rw [q_bo_f, if_neg (fun q => q rfl), zX5_whoseNow_60, Bool.false_or]
      by_cases h : q_an (x_so sg (pg i)) (x_cl sg pg sc sp si ns i) = 0
      · rw [if_pos (by rw [h]; rfl), zX5_whoseNow_69, decide_eq_false (fun q => q h)]
        exact go false
      · rw [if_neg (fun q => h ((nI_eq (by omega) (by omega)).mp (q.trans nI_0.symm))), zX5_whoseNow_65, decide_eq_true h]
        exact go true
theorem m_whoseNow (hS : q_MS w sg) (hP : q_MP w cc pg) (hL : q_ML w ns sc sp si) (hH : q_MH w hb) : qe iX5_whoseNow 4 [some (.ref 27), none, none, none, none, none, none, none, none] [] w = some (some (.int (if x_ms (fun c => q_an (x_so sg (pg c)) (x_cl sg pg sc sp si ns c)) cc 0 false = true then nI (x_wh (fun h => x_sm (x_hm (fun c => q_an (x_so sg (pg c)) (x_cl sg pg sc sp si ns c)) hb h) cc)) else -1)), w) := by
  have hc := hP.2.1
  generalize hg : (fun c => q_an (x_so sg (pg c)) (x_cl sg pg sc sp si ns c)) = g
  have le : ∀ h, h < 3 → x_sm (x_hm g hb h) cc < 2 ^ 31 := by
    intro h hh
    have h1 : ∀ n, x_sm (x_hm g hb h) n ≤ 594 * n := by
      intro n
      exact x_sm_le (fun j => x_hm_le hH hh j) n
    have := h1 cc
    omega
  have cells : ∀ {h : Nat} (hh : h < 3) (v1 v2 : Int32) (b : Bool) (u5 u6 u7 u8 : Option Value), ∃ u7' u8', qe iX5_whoseNow 13 [some (.ref 27), some (.int v1), some (.int v2), some (.int (q_bo b)), some (.int (nI h)), u5, u6, u7, u8] [] w = qe iX5_whoseNow 126 [some (.ref 27), some (.int v1), some (.int v2), some (.int (q_bo (x_ms g cc 0 b))), some (.int (nI h)), some (.int (nI (x_sm (x_hm g hb h) cc))), some (.int (nI cc)), u7', u8'] [] w := by
    intro h hh v1 v2 b u5 u6 u7 u8
    have := m_handCells hS hP hL hH hh v1 v2 cc 0 b u7 u8 (by omega)
    rw [hg, nI_0] at this
    rw [zX5_whoseNow_13, if_neg (show ¬ (3 : Int32) ≤ nI h from nI_ge (b := 3) hh (by omega)), zX5_whoseNow_19]
    exact this
  have pick : ∀ {h : Nat} (v1 v2 v3 v5 v6 : Int32) (u7 u8 : Option Value), qe iX5_whoseNow 126 [some (.ref 27), some (.int v1), some (.int v2), some (.int v3), some (.int (nI h)), some (.int v5), some (.int v6), u7, u8] [] w = qe iX5_whoseNow 13 [some (.ref 27), some (.int (if v5 ≤ v2 then v1 else nI h)), some (.int (if v5 ≤ v2 then v2 else v5)), some (.int v3), some (.int (nI (h + 1))), some (.int v5), some (.int v6), u7, u8] [] w := by
    intro h v1 v2 v3 v5 v6 u7 u8
    rw [zX5_whoseNow_126]
    by_cases h1 : v5 ≤ v2
    · rw [if_pos h1, zX5_whoseNow_137, zX5_whoseNow_138, if_pos h1, zX5_whoseNow_150, zX5_whoseNow_151, nI_1, if_pos h1, if_pos h1]
    · rw [if_neg h1, zX5_whoseNow_132, zX5_whoseNow_138, if_neg h1, zX5_whoseNow_145, zX5_whoseNow_151, nI_1, if_neg h1, if_neg h1]
  rw [zX5_whoseNow_4]
  obtain ⟨a7, a8, a⟩ := cells (h := 0) (by omega) (-1) (-1) false none none none none
  rw [q_bo_f, nI_0] at a
  rw [a]
  have p0 := pick (h := 0) (-1) (-1) (q_bo (x_ms g cc 0 false)) (nI (x_sm (x_hm g hb 0) cc)) (nI cc) a7 a8
  rw [nI_0] at p0
  have ng : ¬ nI (x_sm (x_hm g hb 0) cc) ≤ -1 := by
    rw [Int32.le_iff_toInt_le, nI_toInt (le 0 (by omega)), show (-1 : Int32).toInt = -1 from rfl]
    omega
  rw [p0, if_neg ng, if_neg ng]
  obtain ⟨b7, b8, b⟩ := cells (h := 1) (by omega) 0 (nI (x_sm (x_hm g hb 0) cc)) (x_ms g cc 0 false) (some (.int (nI (x_sm (x_hm g hb 0) cc)))) (some (.int (nI cc))) a7 a8
  rw [x_ms_idem] at b
  refine Eq.trans b ?_
  rw [pick (h := 1) 0 (nI (x_sm (x_hm g hb 0) cc)) (q_bo (x_ms g cc 0 false)) (nI (x_sm (x_hm g hb 1) cc)) (nI cc) b7 b8]
  have r1 : (if nI (x_sm (x_hm g hb 1) cc) ≤ nI (x_sm (x_hm g hb 0) cc) then (0 : Int32) else nI 1) = nI (if x_sm (x_hm g hb 0) cc < x_sm (x_hm g hb 1) cc then 1 else 0) := by
    by_cases h1 : x_sm (x_hm g hb 0) cc < x_sm (x_hm g hb 1) cc
    · rw [if_neg (nI_ge h1 (le 1 (by omega))), if_pos h1]
    · rw [if_pos (nI_le (by omega) (le 0 (by omega))), if_neg h1]; rfl
  have r2 : (if nI (x_sm (x_hm g hb 1) cc) ≤ nI (x_sm (x_hm g hb 0) cc) then nI (x_sm (x_hm g hb 0) cc) else nI (x_sm (x_hm g hb 1) cc)) = nI (x_sm (x_hm g hb (if x_sm (x_hm g hb 0) cc < x_sm (x_hm g hb 1) cc then 1 else 0)) cc) := by
    by_cases h1 : x_sm (x_hm g hb 0) cc < x_sm (x_hm g hb 1) cc
    · rw [if_neg (nI_ge h1 (le 1 (by omega))), if_pos h1]
    · rw [if_pos (nI_le (by omega) (le 0 (by omega))), if_neg h1]
  rw [r1, r2]
  generalize hbe : (if x_sm (x_hm g hb 0) cc < x_sm (x_hm g hb 1) cc then 1 else 0) = be
  have hbe3 : be < 3 := by rw [← hbe]; split <;> omega
  obtain ⟨c7, c8, c⟩ := cells (h := 2) (by omega) (nI be) (nI (x_sm (x_hm g hb be) cc)) (x_ms g cc 0 false) (some (.int (nI (x_sm (x_hm g hb 1) cc)))) (some (.int (nI cc))) b7 b8
  rw [x_ms_idem] at c
  refine Eq.trans c ?_
  rw [pick (h := 2), zX5_whoseNow_13, if_pos (show (3 : Int32) ≤ nI (2 + 1) from nI_le (a := 3) (by omega) (by omega)), zX5_whoseNow_158]
  cases hm : x_ms g cc 0 false with
  | false => rw [q_bo_f, if_pos rfl, zX5_whoseNow_166, zX5_whoseNow_167, if_neg Bool.false_ne_true]
  | true =>
    rw [q_bo_t, if_neg (by decide), zX5_whoseNow_162, zX5_whoseNow_167, if_pos rfl, x_wh, hbe]
    by_cases h1 : x_sm (x_hm g hb be) cc < x_sm (x_hm g hb 2) cc
    · rw [if_neg (nI_ge h1 (le 2 (by omega))), if_pos h1]
    · rw [if_pos (nI_le (by omega) (le be hbe3)), if_neg h1]
end M34
