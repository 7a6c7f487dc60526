/-! the reference: small methods, cells, costs (behind reads()) -/
theorem m_in (v a b : Int32) (w : qW) : qe iX5_in 0 [some (.int v), some (.int a), some (.int b)] [] w = some (some (.int (q_bo (decide (a ≤ v ∧ v ≤ b)))), w) := by
  rw [zX5_in_0]
  by_cases h1 : v < a
  · rw [if_pos h1, zX5_in_14, zX5_in_15, if_pos q_nb0, decide_eq_false (fun h => (Int32.not_lt.mpr h.1) h1), q_bo_f]
  · rw [if_neg h1, zX5_in_5]
    by_cases h2 : b < v
    · rw [if_pos h2, zX5_in_14, zX5_in_15, if_pos q_nb0, decide_eq_false (fun h => (Int32.not_lt.mpr h.2) h2), q_bo_f]
    · rw [if_neg h2, zX5_in_10, zX5_in_15, if_pos q_nb1, decide_eq_true ⟨Int32.not_lt.mp h1, Int32.not_lt.mp h2⟩, q_bo_t]
def x_on (a : Nat) : Nat → Nat
  | 0 => 0
  | k + 1 => x_on a k + a / 2 ^ k % 2
theorem x_on_all : ∀ a : Fin 64, x_on a.val 8 = q_pop a.val := by decide +kernel
theorem x_shr_all : ∀ (a : Fin 64) (k : Fin 8), (nI a.val >>> (nI k.val &&& 31)) &&& 1 = nI (a.val / 2 ^ k.val % 2) := by decide +kernel
theorem m_onesLoop {a : Nat} (ha : a < 64) (w : qW) : ∀ n k : Nat, k + n = 8 → qe iX5_ones 4 [some (.int (nI a)), some (.int (nI (x_on a k))), some (.int (nI k))] [] w = some (some (.int (nI (x_on a 8))), w) := by
  intro n
  induction n with
  | zero => intro k hk; have : k = 8 := by omega
            subst this; rw [zX5_ones_4, if_pos (show (8 : Int32) ≤ nI 8 from nI_le (a := 8) (Nat.le_refl _) (by omega)), zX5_ones_24]
  | succ n ih =>
    intro k hk
    rw [zX5_ones_4, if_neg (show ¬ (8 : Int32) ≤ nI k from nI_ge (b := 8) (by omega) (by omega)), zX5_ones_10, x_shr_all ⟨a, ha⟩ ⟨k, by omega⟩, nI_add, nI_1]
    exact ih (k + 1) (by omega)
theorem m_ones {a : Nat} (ha : a < 64) (w : qW) : qe iX5_ones 0 [some (.int (nI a)), none, none] [] w = some (some (.int (nI (q_pop a))), w) := by
  rw [zX5_ones_0, ← x_on_all ⟨a, ha⟩]
  exact m_onesLoop ha w 8 0 (by omega)
theorem m_turn_all : ∀ a : Fin 64, ((nI a.val &&& 7) <<< ((3 : Int32) &&& 31)) ||| (nI a.val >>> ((3 : Int32) &&& 31)) = nI (q_sw a.val) := by decide +kernel
theorem m_turned {a : Nat} (ha : a < 64) (w : qW) : qe iX5_turned 0 [some (.int (nI a))] [] w = some (some (.int (nI (q_sw a))), w) := by
  rw [zX5_turned_0, m_turn_all ⟨a, ha⟩]
/-- slips: what is there of a cell -/
def x_pt (sc sp si : Nat → Nat) (c : Nat) (b : Nat) : Nat → Nat
  | 0 => b
  | k + 1 => if sc k = c then (if si k = 1 then x_pt sc sp si c b k ||| 2 ^ sp k else q_an (x_pt sc sp si c b k) (2 ^ sp k)) else x_pt sc sp si c b k
theorem x_pt_lt {sc sp si : Nat → Nat} {c b n : Nat} (hb : b < 64) (hp : ∀ k, k < n → sp k < 6) : ∀ k, k ≤ n → x_pt sc sp si c b k < 64 := by
  intro k
  induction k with
  | zero => intro _; exact hb
  | succ k ih =>
    intro hk
    have h1 := ih (by omega)
    rw [x_pt]
    split
    · split
      · exact q_or_lt h1 (Nat.pow_lt_pow_right (m := sp k) (n := 6) (by omega) (hp k (by omega)))
      · exact q_an_lt _ h1
    · exact h1
theorem x_set_all : ∀ (a : Fin 64) (p : Fin 6), nI a.val ||| (1 <<< (nI p.val &&& 31)) = nI (a.val ||| 2 ^ p.val) := by decide +kernel
theorem x_off_all : ∀ (a : Fin 64) (p : Fin 6), nI a.val &&& ((1 <<< (nI p.val &&& 31)) ^^^ (-1)) = nI (q_an a.val (2 ^ p.val)) := by decide +kernel
def q_ML (w : qW) (ns : Nat) (sc sp si : Nat → Nat) : Prop := w 27 11 = nI ns ∧ ns ≤ 12 ∧ ∀ k, k < ns → w 35 k = nI (sc k) ∧ sc k < 24 ∧ w 36 k = nI (sp k) ∧ sp k < 6 ∧ w 37 k = nI (si k) ∧ si k ≤ 1
def q_MS (w : qW) (sg : Nat → Nat) : Prop := ∀ j, j < 10 → w 28 j = nI (sg j) ∧ 1 ≤ sg j ∧ sg j < 64
def q_MP (w : qW) (cc : Nat) (pg : Nat → Nat) : Prop := w 27 3 = nI cc ∧ cc ≤ 24 ∧ ∀ j, j < cc → w 31 j = nI (pg j) ∧ pg j ≤ 10
def q_MW (w : qW) (nw : Nat) (ln : Nat → Nat) (lt : Nat → Nat → Nat) : Prop := w 27 5 = nI nw ∧ nw ≤ 8 ∧ ∀ k, k < nw → w 33 k = nI (ln k) ∧ 1 ≤ ln k ∧ ln k ≤ 6 ∧ ∀ i, i < ln k → w 32 (6 * k + i) = nI (lt k i) ∧ lt k i < 10
def q_MO (w : qW) (mi ex : Nat) : Prop := w 27 8 = nI mi ∧ mi ≤ 9 ∧ w 27 9 = nI ex ∧ ex ≤ 9
def x_so (sg : Nat → Nat) (p : Nat) : Nat := if p = 10 then 0 else sg p
/-- a cell of the reference -/
def x_cl (sg pg sc sp si : Nat → Nat) (ns : Nat) (c : Nat) : Nat := x_pt sc sp si c (x_so sg (pg c)) ns
section M30
variable {w : qW} {sg pg sc sp si ln : Nat → Nat} {lt : Nat → Nat → Nat} {cc ns nw mi ex k f i c a : Nat}
theorem x_so_lt (hS : q_MS w sg) (h : a ≤ 10) : x_so sg a < 64 := by
  unfold x_so
  split
  · omega
  · exact (hS a (by omega)).2.2
theorem m_signOf (hS : q_MS w sg) (h : a ≤ 10) : qe iX5_signOf 0 [some (.ref 27), some (.int (nI a))] [] w = some (some (.int (nI (x_so sg a))), w) := by
  rw [zX5_signOf_0, x_so]
  by_cases h1 : a = 10
  · subst h1
    rw [if_neg (fun q => q rfl), zX5_signOf_6, zX5_signOf_16, if_pos rfl]
    rfl
  · rw [if_pos (show ¬ nI a = (10 : Int32) from fun q => h1 ((nI_eq (b := 10) (by omega) (by omega)).mp q)), zX5_signOf_10, if_neg (c_ok (by omega) (by omega)), zX5_signOf_16, nI_clamp (by omega), (hS a (by omega)).1, if_neg h1]
theorem x_cl_lt (hS : q_MS w sg) (hP : q_MP w cc pg) (hL : q_ML w ns sc sp si) (hc : c < cc) : x_cl sg pg sc sp si ns c < 64 :=
  x_pt_lt (x_so_lt hS (hP.2.2 c hc).2) (fun k hk => (hL.2.2 k hk).2.2.2.1) ns (Nat.le_refl _)
theorem m_cellLoop (hL : q_ML w ns sc sp si) {b : Nat} (hb : b < 64) (hc : c < 24) : ∀ n k : Nat, k + n = ns → qe iX5_cellOf 13 [some (.ref 27), some (.int (nI c)), some (.int (nI (x_pt sc sp si c b k))), some (.int (nI k))] [] w = some (some (.int (nI (x_pt sc sp si c b ns))), w) := by
  have hn := hL.2.1
  intro n
  induction n with
  | zero => intro k hk; have : k = ns := by omega
            subst this; rw [zX5_cellOf_13, hL.1, if_pos (Int32.le_refl _), zX5_cellOf_73]
  | succ n ih =>
    intro k hk
    obtain ⟨h1, h2, h3, h4, h5, h6⟩ := hL.2.2 k (by omega)
    have hx := x_pt_lt (c := c) (sc := sc) (si := si) hb (fun k hk => (hL.2.2 k hk).2.2.2.1) k (by omega)
    have next := ih (k + 1) (by omega)
    rw [x_pt] at next
    rw [zX5_cellOf_13, hL.1, if_neg (nI_ge (by omega) (by omega)), zX5_cellOf_21, if_neg (c_ok (by omega) (by omega)), zX5_cellOf_27, nI_clamp (by omega), h1]
    by_cases e1 : sc k = c
    · rw [if_neg (fun q => q (by rw [e1])), zX5_cellOf_31, if_neg (c_ok (by omega) (by omega)), zX5_cellOf_37, nI_clamp (by omega), h5]
      rw [if_pos e1] at next
      by_cases e2 : si k = 1
      · rw [if_neg (fun q => q (by rw [e2]; rfl)), zX5_cellOf_41, if_neg (c_ok (by omega) (by omega)), zX5_cellOf_49, nI_clamp (by omega), h3, x_set_all ⟨_, hx⟩ ⟨_, h4⟩, zX5_cellOf_66, zX5_cellOf_67, nI_1]
        rw [if_pos e2] at next
        exact next
      · rw [if_pos (show ¬ nI (si k) = (1 : Int32) from fun q => e2 ((nI_eq (b := 1) (by omega) (by omega)).mp q)), zX5_cellOf_54, if_neg (c_ok (by omega) (by omega)), zX5_cellOf_62, nI_clamp (by omega), h3, x_off_all ⟨_, hx⟩ ⟨_, h4⟩, zX5_cellOf_66, zX5_cellOf_67, nI_1]
        rw [if_neg e2] at next
        exact next
    · rw [if_pos (fun q => e1 ((nI_eq (by omega) (by omega)).mp q)), zX5_cellOf_67, nI_1]
      rw [if_neg e1] at next
      exact next
theorem m_cellOf (hS : q_MS w sg) (hP : q_MP w cc pg) (hL : q_ML w ns sc sp si) (hc : c < cc) : qe iX5_cellOf 0 [some (.ref 27), some (.int (nI c)), none, none] [] w = some (some (.int (nI (x_cl sg pg sc sp si ns c))), w) := by
  have h24 := hP.2.1
  have hp := hP.2.2 c hc
  rw [zX5_cellOf_0, if_neg (c_ok (by omega) (by omega)), zX5_cellOf_7, nI_clamp (by omega), hp.1, m_signOf hS hp.2, qc_i, zX5_cellOf_10]
  exact m_cellLoop hL (x_so_lt hS hp.2) (by omega) ns 0 (by omega)
theorem m_readLoop (hS : q_MS w sg) (ha : a < 64) : ∀ n i : Nat, i + n = 10 → qe iX5_readAs 2 [some (.ref 27), some (.int (nI a)), some (.int (nI i))] [] w = some (some (.int (if a = 0 then 10 else q_fq (fun j => decide (sg j = a)) n i)), w) := by
  intro n
  induction n with
  | zero =>
    intro i hi
    rw [zX5_readAs_2, if_pos (q_lit10 (by omega) (by omega)), zX5_readAs_26]
    by_cases h : a = 0
    · subst h; rw [if_neg (fun q => q rfl), zX5_readAs_30, zX5_readAs_36, if_pos rfl]
    · rw [if_pos (fun q => h ((nI_eq (by omega) (by omega)).mp (q.trans nI_0.symm))), zX5_readAs_35, zX5_readAs_36, if_neg h]; rfl
  | succ n ih =>
    intro i hi
    have hs := hS i (by omega)
    rw [zX5_readAs_2, if_neg (q_nlit10 (by omega)), zX5_readAs_8, if_neg (c_ok (by omega) (by omega)), zX5_readAs_14, nI_clamp (by omega), hs.1]
    by_cases h : sg i = a
    · rw [if_neg (fun q => q (by rw [h])), zX5_readAs_18, if_neg (by omega), q_fq, if_pos (decide_eq_true h)]
    · rw [if_pos (fun q => h ((nI_eq (by omega) (by omega)).mp q)), zX5_readAs_20, nI_1, q_fq, if_neg (c := decide (sg i = a) = true) (by rw [decide_eq_true_eq]; exact h)]
      exact ih (i + 1) (by omega)
theorem m_readAs (hS : q_MS w sg) (ha : a < 64) : qe iX5_readAs 0 [some (.ref 27), some (.int (nI a)), none] [] w = some (some (.int (q_rd sg a)), w) := by
  rw [zX5_readAs_0]
  exact m_readLoop hS ha 10 0 (by omega)
theorem q_lit6 (k i : Nat) : 6 * nI k + nI i = nI (6 * k + i) := by rw [show (6 : Int32) = nI 6 from rfl, pk_mul, nI_add]
theorem m_fitLoop (hS : q_MS w sg) (hP : q_MP w cc pg) (hL : q_ML w ns sc sp si) (hW : q_MW w nw ln lt) (hO : q_MO w mi ex) (hk : k < nw) (hf : f + ln k ≤ cc) : ∀ (n i : Nat) (u5 u6 : Option Value), i + n = ln k →
    qe iX5_fitsOf 22 [some (.ref 27), some (.int (nI k)), some (.int (nI f)), some (.int (nI (q_cs mi ex (fun i => sg (lt k i)) (fun i => x_cl sg pg sc sp si ns (f + i)) i))), some (.int (nI i)), u5, u6] [] w = some (some (.int (nI (q_cs mi ex (fun i => sg (lt k i)) (fun i => x_cl sg pg sc sp si ns (f + i)) (ln k)))), w) := by
  have hc := hP.2.1
  have hnw := hW.2.1
  obtain ⟨h4, h5, h6, h7⟩ := hW.2.2 k hk
  intro n
  induction n with
  | zero =>
    intro i u5 u6 hi
    have hi' : i = ln k := by omega
    subst hi'
    rw [zX5_fitsOf_22, if_neg (c_ok (by omega) (by omega)), zX5_fitsOf_30, nI_clamp (by omega), h4, if_pos (Int32.le_refl _), zX5_fitsOf_102]
  | succ n ih =>
    intro i u5 u6 hi
    have hil : i < ln k := by omega
    obtain ⟨g1, g2⟩ := h7 i hil
    have hd := hS _ g2
    have ht := x_cl_lt hS hP hL (c := f + i) (by omega)
    rw [zX5_fitsOf_22, if_neg (c_ok (by omega) (by omega)), zX5_fitsOf_30, nI_clamp (by omega), h4, if_neg (nI_ge hil (by omega)), zX5_fitsOf_33, q_lit6, if_neg (c_ok (by omega) (by omega)), zX5_fitsOf_49, nI_clamp (by omega), g1, if_neg (c_ok g2 (by omega)), zX5_fitsOf_50, nI_clamp (by omega), hd.1, nI_add, m_cellOf hS hP hL (by omega), qc_i, zX5_fitsOf_60, q_an_I hd.2.2 ht, m_ones (q_an_lt _ hd.2.2), qc_i, zX5_fitsOf_77, q_an_I ht hd.2.2, m_ones (q_an_lt _ ht), qc_i, zX5_fitsOf_92, hO.1, hO.2.2.1, pk_mul, pk_mul, nI_add, nI_add, nI_1]
    exact ih (i + 1) _ _ (by omega)
theorem m_fitsOf (hS : q_MS w sg) (hP : q_MP w cc pg) (hL : q_ML w ns sc sp si) (hW : q_MW w nw ln lt) (hO : q_MO w mi ex) (hk : k < nw) (hf : f < 2 ^ 31) : qe iX5_fitsOf 0 [some (.ref 27), some (.int (nI k)), some (.int (nI f)), none, none, none, none] [] w = some (some (.int (q_oi (q_fit mi ex sg cc (x_cl sg pg sc sp si ns) ln lt f k))), w) := by
  have hc := hP.2.1
  have hnw := hW.2.1
  obtain ⟨h4, h5, h6, h7⟩ := hW.2.2 k hk
  rw [zX5_fitsOf_0, if_neg (c_ok (by omega) (by omega)), zX5_fitsOf_11, nI_clamp (by omega), h4, hP.1]
  have key : nI f ≤ (nI cc - nI (ln k)) ↔ f + ln k ≤ cc := by
    rw [Int32.le_iff_toInt_le, pk_sub_toInt (by omega) (by omega), nI_toInt hf]
    omega
  unfold q_fit
  by_cases h : f + ln k ≤ cc
  · rw [if_pos h, if_pos (key.mpr h), zX5_fitsOf_17]
    exact m_fitLoop hS hP hL hW hO hk h (ln k) 0 none none (by omega)
  · rw [if_neg h, if_neg (fun q => h (key.mp q)), zX5_fitsOf_15]
    rfl
end M30
