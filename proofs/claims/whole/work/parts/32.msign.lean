/-! the reference's signs -/
theorem m_less_all : ∀ a b : Fin 64, (nI a.val &&& nI b.val = nI b.val ↔ q_an b.val a.val = 0) ∧ (q_an b.val a.val = 0 → (nI (q_pop (q_an a.val b.val)) = 1 ↔ q_pop b.val + 1 = q_pop a.val)) := by decide +kernel
theorem m_isLess {a b : Nat} (ha : a < 64) (hb : b < 64) (w : qW) : qe iX5_isLess 0 [some (.int (nI a)), some (.int (nI b))] [] w = some (some (.int (q_bo (q_one b a))), w) := by
  obtain ⟨h1, h2⟩ := m_less_all ⟨a, ha⟩ ⟨b, hb⟩
  dsimp only at h1 h2
  rw [zX5_isLess_0, q_one]
  by_cases e1 : q_an b a = 0
  · rw [if_neg (fun q => q (h1.mpr e1)), zX5_isLess_7, q_an_I ha hb, m_ones (q_an_lt _ ha), qc_i, zX5_isLess_15]
    by_cases e2 : q_pop b + 1 = q_pop a
    · rw [if_neg (fun q => q ((h2 e1).mpr e2)), zX5_isLess_19, zX5_isLess_24, if_pos q_nb1, decide_eq_true ⟨e1, e2⟩, q_bo_t]
    · rw [if_pos (fun q => e2 ((h2 e1).mp q)), zX5_isLess_23, zX5_isLess_24, if_pos q_nb0, decide_eq_false (fun q => e2 q.2), q_bo_f]
  · rw [if_pos (fun q => e1 (h1.mp q)), zX5_isLess_23, zX5_isLess_24, if_pos q_nb0, decide_eq_false (fun q => e1 q.1), q_bo_f]
theorem q_one_self (a : Nat) : q_one a a = false := decide_eq_false (fun h => by omega)
theorem q_ob_none {p : Nat → Bool} (h : ∀ i, p i = false) : ∀ n i b, q_ob p n i b = b := by
  intro n
  induction n with
  | zero => intro i b; rfl
  | succ n ih => intro i b; rw [q_ob, h i, if_neg Bool.false_ne_true]; exact ih (i + 1) b
section M32
variable {w : qW} {sg pg sc sp si ln oc : Nat → Nat} {lt : Nat → Nat → Nat} {cc ns nw mi ex k f i c a : Nat}
theorem q_lit64 {n : Nat} (h : ¬ n < 64) (hn : n < 2 ^ 31) : (64 : Int32) ≤ nI n := nI_le (a := 64) (by omega) hn
theorem q_nlit64 {n : Nat} (h : n < 64) : ¬ (64 : Int32) ≤ nI n := nI_ge (b := 64) h (by omega)
theorem m_slipIn (hS : q_MS w sg) {a : Nat} (ha : a < 10) : ∀ (n i t : Nat), i + n = 10 → qe iX5_slipperyNow 12 [some (.ref 27), some (.int (nI t)), some (.int (nI a)), some (.int (nI i))] [] w = qe iX5_slipperyNow 55 [some (.ref 27), some (.int (nI (q_ct (fun b => q_one (sg b) (sg a)) n i t))), some (.int (nI a)), some (.int (nI 10))] [] w := by
  have h2 := hS a ha
  intro n
  induction n with
  | zero =>
    intro i t hi
    have : i = 10 := by omega
    subst this
    rw [zX5_slipperyNow_12, if_pos (q_lit10 (by omega) (by omega))]
    rfl
  | succ n ih =>
    intro i t hi
    have h1 := hS i (by omega)
    rw [zX5_slipperyNow_12, if_neg (q_nlit10 (by omega)), zX5_slipperyNow_18, q_ct]
    by_cases e : a = i
    · subst e
      rw [if_pos rfl, zX5_slipperyNow_46, zX5_slipperyNow_47, q_one_self, nI_1, Int32.add_zero, if_neg Bool.false_ne_true]
      exact ih (a + 1) t (by omega)
    · rw [if_neg (fun q => e ((nI_eq (by omega) (by omega)).mp q)), zX5_slipperyNow_24, if_neg (c_ok (by omega) (by omega)), nI_clamp (by omega), h2.1, zX5_slipperyNow_30, if_neg (c_ok (by omega) (by omega)), nI_clamp (by omega), h1.1, zX5_slipperyNow_36, m_isLess h2.2.2 h1.2.2, qc_i, zX5_slipperyNow_39]
      cases h : q_one (sg i) (sg a) with
      | true => rw [q_bo_t, if_neg (by decide), zX5_slipperyNow_42, zX5_slipperyNow_47, nI_1, nI_1, if_pos rfl]; exact ih (i + 1) (t + 1) (by omega)
      | false => rw [q_bo_f, if_pos rfl, zX5_slipperyNow_46, zX5_slipperyNow_47, nI_1, Int32.add_zero, if_neg Bool.false_ne_true]; exact ih (i + 1) t (by omega)
theorem m_slipOut (hS : q_MS w sg) : ∀ (n a t : Nat) (u : Option Value), a + n = 10 → qe iX5_slipperyNow 4 [some (.ref 27), some (.int (nI t)), some (.int (nI a)), u] [] w = some (some (.int (nI (q_sl sg n a t))), w) := by
  intro n
  induction n with
  | zero => intro a t u hi; rw [zX5_slipperyNow_4, if_pos (q_lit10 (by omega) (by omega)), zX5_slipperyNow_61]; rfl
  | succ n ih =>
    intro a t u hi
    rw [zX5_slipperyNow_4, if_neg (q_nlit10 (by omega)), zX5_slipperyNow_10, show (0 : Int32) = nI 0 from rfl, m_slipIn hS (by omega) 10 0 t (by omega), zX5_slipperyNow_55, nI_1, q_sl]
    exact ih (a + 1) _ _ (by omega)
theorem m_slipperyNow (hS : q_MS w sg) : qe iX5_slipperyNow 0 [some (.ref 27), none, none, none] [] w = some (some (.int (nI (q_sl sg 10 0 0))), w) := by
  rw [zX5_slipperyNow_0]
  exact m_slipOut hS 10 0 0 none (by omega)
theorem m_mayLoop (hS : q_MS w sg) {v l : Nat} (hv : v < 64) (hl : l < 10) (b0 : Int32) : ∀ (n i : Nat) (b : Bool), i + n = 10 → qe iX5_betterOf 16 [some (.ref 27), some (.int (nI l)), some (.int b0), some (.int (nI v)), some (.int (q_bo b)), some (.int (nI i))] [] w = qe iX5_betterOf 86 [some (.ref 27), some (.int (nI l)), some (.int b0), some (.int (nI v)), some (.int (q_bo (b && q_all (fun o => decide (o = l) || !(decide (sg o = v) || q_one (sg o) v || q_one v (sg o))) n i))), some (.int (nI 10))] [] w := by
  intro n
  induction n with
  | zero =>
    intro i b hi
    have : i = 10 := by omega
    subst this
    rw [zX5_betterOf_16, if_pos (q_lit10 (by omega) (by omega)), q_all, Bool.and_true]
  | succ n ih =>
    intro i b hi
    have h1 := hS i (by omega)
    have no : qe iX5_betterOf 77 [some (.ref 27), some (.int (nI l)), some (.int b0), some (.int (nI v)), some (.int (q_bo b)), some (.int (nI i))] [] w = qe iX5_betterOf 86 [some (.ref 27), some (.int (nI l)), some (.int b0), some (.int (nI v)), some (.int 0), some (.int (nI 10))] [] w := by
      rw [zX5_betterOf_77, zX5_betterOf_78, nI_1]
      have := ih (i + 1) false (by omega)
      rw [q_bo_f, Bool.false_and, q_bo_f] at this
      exact this
    rw [zX5_betterOf_16, if_neg (q_nlit10 (by omega)), zX5_betterOf_23, q_all]
    cases b with
    | false => rw [q_bo_f] at no ⊢; rw [if_pos rfl, Bool.false_and, q_bo_f]; exact no
    | true =>
      rw [q_bo_t] at no ⊢
      have yes : qe iX5_betterOf 73 [some (.ref 27), some (.int (nI l)), some (.int b0), some (.int (nI v)), some (.int 1), some (.int (nI i))] [] w = qe iX5_betterOf 86 [some (.ref 27), some (.int (nI l)), some (.int b0), some (.int (nI v)), some (.int (q_bo (q_all (fun o => decide (o = l) || !(decide (sg o = v) || q_one (sg o) v || q_one v (sg o))) n (i + 1)))), some (.int (nI 10))] [] w := by
        rw [zX5_betterOf_73, zX5_betterOf_78, nI_1]
        have := ih (i + 1) true (by omega)
        rw [q_bo_t, Bool.true_and] at this
        exact this
      rw [if_neg (by decide), zX5_betterOf_28, Bool.true_and]
      by_cases e1 : i = l
      · subst e1
        rw [if_pos rfl, decide_eq_true rfl, Bool.true_or, if_pos rfl]
        exact yes
      · rw [if_neg (fun q => e1 ((nI_eq (by omega) (by omega)).mp q)), zX5_betterOf_34, if_neg (c_ok (by omega) (by omega)), nI_clamp (by omega), h1.1, zX5_betterOf_41, decide_eq_false e1, Bool.false_or]
        by_cases e2 : sg i = v
        · rw [if_pos (by rw [e2]), decide_eq_true e2, Bool.true_or, Bool.true_or, Bool.not_true, if_neg (by decide), q_bo_f]
          exact no
        · rw [if_neg (fun q => e2 ((nI_eq (by omega) (by omega)).mp q)), zX5_betterOf_45, if_neg (c_ok (by omega) (by omega)), nI_clamp (by omega), h1.1, zX5_betterOf_53, m_isLess hv h1.2.2, qc_i, zX5_betterOf_56, decide_eq_false e2, Bool.false_or]
          cases e3 : q_one (sg i) v with
          | true => rw [q_bo_t, if_pos (by decide), Bool.true_or, Bool.not_true, if_neg (by decide), q_bo_f]; exact no
          | false =>
            rw [q_bo_f, if_neg (fun q => q rfl), zX5_betterOf_59, if_neg (c_ok (by omega) (by omega)), nI_clamp (by omega), h1.1, zX5_betterOf_66, m_isLess h1.2.2 hv, qc_i, zX5_betterOf_70, Bool.false_or]
            cases e4 : q_one v (sg i) with
            | true => rw [q_bo_t, if_pos (by decide), Bool.not_true, if_neg (by decide), q_bo_f]; exact no
            | false => rw [q_bo_f, if_neg (fun q => q rfl), Bool.not_false, if_pos rfl]; exact yes
theorem m_betterLoop (hS : q_MS w sg) {l : Nat} (hl : l < 10) : ∀ (n v : Nat) (b : Option Nat) (u4 u5 : Option Value), v + n = 64 → (∀ x, b = some x → x < 64) → qe iX5_betterOf 4 [some (.ref 27), some (.int (nI l)), some (.int (q_oi b)), some (.int (nI v)), u4, u5] [] w = some (some (.int (q_oi (q_bt (q_ap sg l) n v b))), w) := by
  intro n
  induction n with
  | zero => intro v b u4 u5 hv hb; rw [zX5_betterOf_4, if_pos (q_lit64 (by omega) (by omega)), zX5_betterOf_119]; rfl
  | succ n ih =>
    intro v b u4 u5 hv hb
    have hv64 : v < 64 := by omega
    have h0 := m_mayLoop hS hv64 hl (q_oi b) 10 0 true (by omega)
    rw [q_bo_t, nI_0, Bool.true_and] at h0
    rw [zX5_betterOf_4, if_neg (q_nlit64 hv64), zX5_betterOf_10, h0, zX5_betterOf_86, q_bt]
    change (if q_bo (q_ap sg l v) = 0 then _ else _) = _
    have stay : ∀ x y, qe iX5_betterOf 111 [some (.ref 27), some (.int (nI l)), some (.int (q_oi b)), some (.int (nI v)), some (.int x), some (.int y)] [] w = some (some (.int (q_oi (q_bt (q_ap sg l) n (v + 1) b))), w) := by
      intro x y
      rw [zX5_betterOf_111, zX5_betterOf_112, nI_1]
      exact ih (v + 1) b _ _ (by omega) hb
    have go : ∀ x y, qe iX5_betterOf 107 [some (.ref 27), some (.int (nI l)), some (.int (q_oi b)), some (.int (nI v)), some (.int x), some (.int y)] [] w = some (some (.int (q_oi (q_bt (q_ap sg l) n (v + 1) (some v)))), w) := by
      intro x y
      rw [zX5_betterOf_107, zX5_betterOf_112, nI_1]
      exact ih (v + 1) (some v) _ _ (by omega) (fun x h => by cases h; exact hv64)
    cases ha : q_ap sg l v with
    | false => rw [q_bo_f, if_pos rfl, Bool.and_false, if_neg Bool.false_ne_true]; exact stay _ _
    | true =>
      rw [q_bo_t, if_neg (by decide), zX5_betterOf_91, Bool.and_true]
      cases b with
      | none => rw [q_oi_n] at go ⊢; rw [if_pos rfl, q_few_n, if_pos rfl]; exact go _ _
      | some x =>
        have hx := hb x rfl
        have p1 := q_pop_le v
        have p2 := q_pop_le x
        rw [q_oi_s] at go stay ⊢
        rw [if_neg (q_m1 (by omega)), zX5_betterOf_96, m_ones hv64, qc_i, zX5_betterOf_100, m_ones hx, qc_i, zX5_betterOf_104, q_few_s]
        by_cases h : q_pop v < q_pop x
        · rw [if_neg (nI_ge h (by omega)), decide_eq_true h, if_pos rfl]; exact go _ _
        · rw [if_pos (nI_le (by omega) (by omega)), decide_eq_false h, if_neg Bool.false_ne_true]; exact stay _ _
theorem m_betterOf (hS : q_MS w sg) {l : Nat} (hl : l < 10) : qe iX5_betterOf 0 [some (.ref 27), some (.int (nI l)), none, none, none, none] [] w = some (some (.int (q_oi (q_bt (q_ap sg l) 63 1 none))), w) := by
  rw [zX5_betterOf_0]
  exact m_betterLoop hS hl 63 1 none none none (by omega) (fun x h => by cases h)
theorem m_freeLoop (hS : q_MS w sg) : ∀ (n v t : Nat), v + n = 64 → qe iX5_freeSigns 4 [some (.ref 27), some (.int (nI t)), some (.int (nI v))] [] w = some (some (.int (nI (q_ct (fun v => decide (q_rd sg v = -1)) n v t))), w) := by
  intro n
  induction n with
  | zero => intro v t hv; rw [zX5_freeSigns_4, if_pos (q_lit64 (by omega) (by omega)), zX5_freeSigns_33]; rfl
  | succ n ih =>
    intro v t hv
    rw [zX5_freeSigns_4, if_neg (q_nlit64 (by omega)), zX5_freeSigns_10, m_readAs hS (by omega), qc_i, zX5_freeSigns_16, q_ct]
    by_cases h : q_rd sg v = -1
    · rw [if_neg (fun q => q h), zX5_freeSigns_20, zX5_freeSigns_25, nI_1, nI_1, if_pos (decide_eq_true h)]
      exact ih (v + 1) (t + 1) (by omega)
    · rw [if_pos h, zX5_freeSigns_24, zX5_freeSigns_25, nI_1, Int32.add_zero, if_neg (by rw [decide_eq_true_eq]; exact h)]
      exact ih (v + 1) t (by omega)
theorem m_freeSigns (hS : q_MS w sg) : qe iX5_freeSigns 0 [some (.ref 27), none, none] [] w = some (some (.int (nI (q_fs0 sg))), w) := by
  rw [zX5_freeSigns_0]
  exact m_freeLoop hS 63 1 0 (by omega)
theorem m_tst_all : ∀ (t : Fin 256) (k : Fin 8), (nI t.val >>> (nI k.val &&& 31)) &&& 1 = 1 ↔ t.val.testBit k.val = true := by decide +kernel
def q_MOC (w : qW) (oc : Nat → Nat) : Prop := ∀ j, j < 8 → w 34 j = nI (oc j) ∧ oc j ≤ 99
theorem m_v_le (hW : q_MW w nw ln lt) (hO : q_MOC w oc) (hk : k < nw) : oc k * (ln k - 1) ≤ 495 := by
  have h1 := (hO k (by have := hW.2.1; omega)).2
  have h2 := (hW.2.2 k hk).2.2.1
  exact Nat.mul_le_mul h1 (show ln k - 1 ≤ 5 by omega)
theorem m_mostLoop (hW : q_MW w nw ln lt) (hO : q_MOC w oc) {t : Nat} (ht : t < 256) (v1 v2 v3 v5 v6 : Int32) : ∀ (n i : Nat) (b : Option Nat × Nat) (u : Option Value), i + n = nw → b.2 ≤ 495 → ∃ u' , qe iX5_shortsOf 45 [some (.ref 27), some (.int v1), some (.int v2), some (.int v3), some (.int (nI t)), some (.int v5), some (.int v6), some (.int (q_oi b.1)), some (.int (nI b.2)), some (.int (nI i)), u] [] w = qe iX5_shortsOf 126 [some (.ref 27), some (.int v1), some (.int v2), some (.int v3), some (.int (nI t)), some (.int v5), some (.int v6), some (.int (q_oi (q_mo (fun k => oc k * (ln k - 1)) t n i b).1)), some (.int (nI (q_mo (fun k => oc k * (ln k - 1)) t n i b).2)), some (.int (nI nw)), u'] [] w := by
  have hn := hW.2.1
  intro n
  induction n with
  | zero =>
    intro i b u hi hb
    have : i = nw := by omega
    subst this
    exact ⟨u, by rw [zX5_shortsOf_45, hW.1, if_pos (Int32.le_refl _)]; rfl⟩
  | succ n ih =>
    intro i b u hi hb
    have hin : i < nw := by omega
    have hv := m_v_le hW hO hin
    obtain ⟨l1, l2, l3, -⟩ := hW.2.2 i hin
    have o1 := hO i (by omega)
    rw [zX5_shortsOf_45, hW.1, if_neg (nI_ge hin (by omega)), zX5_shortsOf_54, q_mo]
    have key := m_tst_all ⟨t, ht⟩ ⟨i, by omega⟩
    dsimp only at key
    cases hb1 : t.testBit i with
    | true =>
      rw [if_neg (fun q => q (key.mpr hb1)), zX5_shortsOf_65, zX5_shortsOf_86, if_pos (show (0 : Int32) ≤ nI b.2 from nI_le (a := 0) (by omega) (by omega)), zX5_shortsOf_100, zX5_shortsOf_102, if_pos (show (0 : Int32) ≤ nI b.2 from nI_le (a := 0) (by omega) (by omega)), zX5_shortsOf_116, zX5_shortsOf_118, nI_1, if_neg (fun q => by cases q.1)]
      exact ih (i + 1) b _ (by omega) hb
    | false =>
      have e1 : nI (oc i) * (nI (ln i) - 1) = nI (oc i * (ln i - 1)) := by
        rw [show (1 : Int32) = nI 1 from rfl, pk_sub (by omega), pk_mul]
      rw [if_pos (fun q => by rw [hb1] at key; cases key.mp q), zX5_shortsOf_69, if_neg (c_ok (by omega) (by omega)), nI_clamp (by omega), o1.1, zX5_shortsOf_76, if_neg (c_ok (by omega) (by omega)), nI_clamp (by omega), l1, zX5_shortsOf_83, e1, zX5_shortsOf_86]
      by_cases h : b.2 < oc i * (ln i - 1)
      · rw [if_neg (nI_ge h (by omega)), zX5_shortsOf_95, zX5_shortsOf_102, if_neg (nI_ge h (by omega)), zX5_shortsOf_111, zX5_shortsOf_118, nI_1, if_pos ⟨rfl, h⟩]
        exact ih (i + 1) (some i, oc i * (ln i - 1)) _ (by omega) hv
      · rw [if_pos (nI_le (by omega) (by omega)), zX5_shortsOf_100, zX5_shortsOf_102, if_pos (nI_le (by omega) (by omega)), zX5_shortsOf_116, zX5_shortsOf_118, nI_1, if_neg (fun q => h q.2)]
        exact ih (i + 1) b _ (by omega) hb
theorem q_mo_none (v : Nat → Nat) (t : Nat) : ∀ (n i : Nat) (b : Option Nat × Nat), (b.1 = none → b.2 = 0) → (q_mo v t n i b).1 = none → (q_mo v t n i b).2 = 0 := by
  intro n
  induction n with
  | zero => intro i b hb h; exact hb h
  | succ n ih =>
    intro i b hb h
    rw [q_mo] at h ⊢
    split at h
    · rename_i c; rw [if_pos c]; exact ih _ _ (fun q => by cases q) h
    · rename_i c; rw [if_neg c]; exact ih _ _ hb h
theorem q_sh_none (v : Nat → Nat) (nw t a : Nat) (h : (q_mo v t nw 0 (none, 0)).1 = none) : ∀ n, q_sh v nw n t a = (t, a) := by
  intro n
  cases n with
  | zero => rfl
  | succ n => rw [q_sh, h]
theorem m_shortLoop (hW : q_MW w nw ln lt) (hO : q_MOC w oc) {mm : Nat} (v1 v2 : Int32) (hm : mm ≤ 63) : ∀ (n t i a : Nat) (u7 u8 u9 u10 : Option Value), i + n = mm → t < 256 → ∃ u7' u8' u9' u10', qe iX5_shortsOf 30 [some (.ref 27), some (.int v1), some (.int v2), some (.int (nI mm)), some (.int (nI t)), some (.int (nI a)), some (.int (nI i)), u7, u8, u9, u10] [] w = qe iX5_shortsOf 158 [some (.ref 27), some (.int v1), some (.int v2), some (.int (nI mm)), some (.int (nI (q_sh (fun k => oc k * (ln k - 1)) nw n t a).1)), some (.int (nI (q_sh (fun k => oc k * (ln k - 1)) nw n t a).2)), some (.int (nI mm)), u7', u8', u9', u10'] [] w := by
  have hn := hW.2.1
  intro n
  induction n with
  | zero =>
    intro t i a u7 u8 u9 u10 hi ht
    have : i = mm := by omega
    subst this
    exact ⟨u7, u8, u9, u10, by rw [zX5_shortsOf_30, if_pos (Int32.le_refl _)]; rfl⟩
  | succ n ih =>
    intro t i a u7 u8 u9 u10 hi ht
    obtain ⟨u', hu⟩ := m_mostLoop hW hO ht v1 v2 (nI mm) (nI a) (nI i) nw 0 (none, 0) u10 (by omega) (by decide)
    rw [nI_0, q_oi_n] at hu
    rw [zX5_shortsOf_30, if_neg (nI_ge (by omega) (by omega)), zX5_shortsOf_36, hu, zX5_shortsOf_126]
    have ok := q_mo_ok (fun k => oc k * (ln k - 1)) t nw 0 (none, 0) (fun _ h => by cases h)
    cases hx : (q_mo (fun k => oc k * (ln k - 1)) t nw 0 (none, 0)).1 with
    | none =>
      have z := q_mo_none (fun k => oc k * (ln k - 1)) t nw 0 (none, 0) (fun _ => rfl) hx
      rw [q_oi_n, if_neg (fun q => q rfl), zX5_shortsOf_134, zX5_shortsOf_142, z, nI_1, Int32.or_zero, nI_0, Int32.add_zero, q_sh_none _ _ _ _ hx, ← q_sh_none _ _ _ _ hx n]
      obtain ⟨x7, x8, x9, x10, h⟩ := ih t (i + 1) a (some (.int (-1))) (some (.int 0)) (some (.int (nI nw))) u' (by omega) ht
      rw [q_sh_none _ _ _ _ hx] at h ⊢
      exact ⟨x7, x8, x9, x10, h⟩
    | some x =>
      obtain ⟨g1, g2, g3⟩ := ok x hx
      have e1 : nI t ||| (1 <<< (nI x &&& 31)) = nI (t ||| 2 ^ x) := q_set_all ⟨t, ht⟩ ⟨x, by omega⟩
      rw [q_oi_s, if_pos (q_m1 (by omega)), zX5_shortsOf_138, zX5_shortsOf_142, e1, nI_1, nI_add, q_sh, hx]
      exact ih _ (i + 1) _ _ _ _ _ (by omega) (q_set_lt ht (by omega))
theorem m_shortsOf (hS : q_MS w sg) (hW : q_MW w nw ln lt) (hO : q_MOC w oc) {mm : Nat} (hm : mm ≤ 8) (v2 : Int32) : qe iX5_shortsOf 4 [some (.ref 27), some (.int (nI mm)), some (.int v2), none, none, none, none, none, none, none, none] [] w = some (some (.int (if v2 = 0 then nI (q_sh (fun k => oc k * (ln k - 1)) nw (min mm (q_fs0 sg)) 0 0).1 else if v2 = 1 then nI (q_sh (fun k => oc k * (ln k - 1)) nw (min mm (q_fs0 sg)) 0 0).2 else nI (q_fs0 sg))), w) := by
  have hf : q_fs0 sg ≤ 63 := by have := q_ct_le (fun v => decide (q_rd sg v = -1)) 63 1 0; unfold q_fs0; omega
  obtain ⟨x7, x8, x9, x10, h⟩ := m_shortLoop (mm := min mm (q_fs0 sg)) hW hO (nI mm) v2 (by omega) (min mm (q_fs0 sg)) 0 0 0 none none none none (by omega) (by omega)
  rw [nI_0] at h
  have fin : qe iX5_shortsOf 20 [some (.ref 27), some (.int (nI mm)), some (.int v2), none, none, none, none, none, none, none, none] [.int (nI (min mm (q_fs0 sg)))] w = some (some (.int (if v2 = 0 then nI (q_sh (fun k => oc k * (ln k - 1)) nw (min mm (q_fs0 sg)) 0 0).1 else if v2 = 1 then nI (q_sh (fun k => oc k * (ln k - 1)) nw (min mm (q_fs0 sg)) 0 0).2 else nI (q_fs0 sg))), w) := by
    rw [zX5_shortsOf_20, h, zX5_shortsOf_158]
    by_cases h0 : v2 = 0
    · rw [if_neg (fun q => q h0), zX5_shortsOf_162, zX5_shortsOf_181, if_pos h0]
    · rw [if_pos h0, zX5_shortsOf_167, if_neg h0]
      by_cases h1 : v2 = 1
      · rw [if_neg (fun q => q h1), zX5_shortsOf_172, zX5_shortsOf_181, if_pos h1]
      · rw [if_pos h1, zX5_shortsOf_177, m_freeSigns hS, qc_i, zX5_shortsOf_181, if_neg h1]
  rw [zX5_shortsOf_4, m_freeSigns hS, qc_i, zX5_shortsOf_9]
  by_cases hlt : mm < q_fs0 sg
  · rw [if_neg (nI_ge hlt (by omega)), zX5_shortsOf_12]
    rw [Nat.min_eq_left (Nat.le_of_lt hlt)] at fin ⊢
    exact fin
  · rw [if_pos (nI_le (by omega) (by omega)), zX5_shortsOf_16, m_freeSigns hS, qc_i]
    rw [Nat.min_eq_right (Nat.not_lt.mp hlt)] at fin ⊢
    exact fin
end M32
