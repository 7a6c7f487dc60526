/-! words to be shortened, words under words, the line -/
theorem q_or_all : ∀ a b : Fin 64, nI a.val ||| nI b.val = nI (a.val ||| b.val) := by decide +kernel
theorem q_or_I {a b : Nat} (ha : a < 64) (hb : b < 64) : nI a ||| nI b = nI (a ||| b) := q_or_all ⟨a, ha⟩ ⟨b, hb⟩
theorem q_or_lt {a b : Nat} (ha : a < 64) (hb : b < 64) : a ||| b < 64 := Nat.or_lt_two_pow (n := 6) ha hb
theorem q_set_all : ∀ (t : Fin 256) (k : Fin 8), nI t.val ||| (1 <<< (nI k.val &&& 31)) = nI (t.val ||| 2 ^ k.val) := by decide +kernel
theorem q_tst_all : ∀ (t : Fin 256) (k : Fin 8), nI t.val &&& (1 <<< (nI k.val &&& 31)) = 0 ↔ t.val.testBit k.val = false := by decide +kernel
theorem q_bit_all : ∀ k : Fin 8, (1 : Int32) <<< (nI k.val &&& 31) = nI (2 ^ k.val) := by decide +kernel
theorem q_set_lt {t k : Nat} (ht : t < 256) (hk : k < 8) : t ||| 2 ^ k < 256 := Nat.or_lt_two_pow (n := 8) ht (Nat.pow_lt_pow_right (by omega) hk)
def x_sv (v : Nat → Nat) (t : Nat) : Nat → Nat
  | 0 => 0
  | n + 1 => x_sv v t n + (if t.testBit n = true then v n else 0)
def q_OC (w : qW) (oc : Nat → Nat) : Prop := ∀ j, j < 8 → w 14 j = nI (oc j) ∧ oc j ≤ 99
theorem x_sv_one (v : Nat → Nat) (k : Nat) : ∀ n, x_sv v (2 ^ k) n = if k < n then v k else 0 := by
  intro n
  induction n with
  | zero => rfl
  | succ n ih =>
    rw [x_sv, ih, Nat.testBit_two_pow]
    by_cases h : k = n
    · subst h; rw [if_neg (by omega), if_pos (by simp), if_pos (by omega)]; omega
    · by_cases h2 : k < n
      · rw [if_pos h2, if_neg (by simp [h]), if_pos (by omega)]; omega
      · rw [if_neg h2, if_neg (by simp [h]), if_neg (by omega)]
theorem x_sv_set (v : Nat → Nat) {t k : Nat} (ht : t.testBit k = false) : ∀ n, x_sv v (t ||| 2 ^ k) n = x_sv v t n + (if k < n then v k else 0) := by
  intro n
  induction n with
  | zero => rfl
  | succ n ih =>
    rw [x_sv, x_sv, ih, Nat.testBit_or, Nat.testBit_two_pow]
    by_cases h : k = n
    · subst h; rw [if_neg (by omega), if_pos (by simp), ht, if_neg (by decide), if_pos (by omega)]
    · by_cases h2 : k < n
      · rw [if_pos h2, if_pos (show k < n + 1 by omega)]; simp [h]; omega
      · rw [if_neg h2, if_neg (show ¬ k < n + 1 by omega)]; simp [h]
/-- the word that saves most, of those not taken -/
def q_mo (v : Nat → Nat) (t : Nat) : Nat → Nat → Option Nat × Nat → Option Nat × Nat
  | 0, _, b => b
  | n + 1, i, b => q_mo v t n (i + 1) (if t.testBit i = false ∧ b.2 < v i then (some i, v i) else b)
theorem q_mo_ok (v : Nat → Nat) (t : Nat) : ∀ (n i : Nat) (b : Option Nat × Nat), (∀ x, b.1 = some x → x < i ∧ t.testBit x = false ∧ b.2 = v x) → ∀ x, (q_mo v t n i b).1 = some x → x < i + n ∧ t.testBit x = false ∧ (q_mo v t n i b).2 = v x := by
  intro n
  induction n with
  | zero => intro i b hb x h; exact hb x h
  | succ n ih =>
    intro i b hb x h
    rw [q_mo] at h ⊢
    have := ih (i + 1) _ (fun x h => ?_) x h
    · exact ⟨by omega, this.2⟩
    · split at h
      · rename_i hc
        cases h
        rw [if_pos hc]
        exact ⟨by omega, hc.1, rfl⟩
      · rename_i hc
        rw [if_neg hc]
        have := hb x h
        exact ⟨by omega, this.2⟩
def q_sh (v : Nat → Nat) (nw : Nat) : Nat → Nat → Nat → Nat × Nat
  | 0, t, a => (t, a)
  | n + 1, t, a => match (q_mo v t nw 0 (none, 0)).1 with
    | none => (t, a)
    | some x => q_sh v nw n (t ||| 2 ^ x) (a + (q_mo v t nw 0 (none, 0)).2)
theorem q_sh_sv (v : Nat → Nat) (nw : Nat) : ∀ (n t a : Nat), a = x_sv v t nw → (q_sh v nw n t a).2 = x_sv v (q_sh v nw n t a).1 nw := by
  intro n
  induction n with
  | zero => intro t a h; exact h
  | succ n ih =>
    intro t a h
    rw [q_sh]
    split
    · exact h
    · rename_i x hx
      apply ih
      obtain ⟨h1, h2, h3⟩ := q_mo_ok v t nw 0 (none, 0) (fun _ h => by cases h) x hx
      rw [x_sv_set v h2, if_pos (by omega), h3, h]
theorem q_sh_lt (v : Nat → Nat) {nw : Nat} (hn : nw ≤ 8) : ∀ (n t a : Nat), t < 256 → (q_sh v nw n t a).1 < 256 := by
  intro n
  induction n with
  | zero => intro t a h; exact h
  | succ n ih =>
    intro t a h
    rw [q_sh]
    split
    · exact h
    · rename_i x hx
      obtain ⟨h1, h2, h3⟩ := q_mo_ok v t nw 0 (none, 0) (fun _ h => by cases h) x hx
      exact ih _ _ (q_set_lt h (by omega))
theorem x_sv_le {v : Nat → Nat} {nw : Nat} (hv : ∀ k, k < nw → v k ≤ 495) (t : Nat) : ∀ n, n ≤ nw → x_sv v t n ≤ 495 * n := by
  intro n
  induction n with
  | zero => intro _; exact Nat.le_refl _
  | succ n ih =>
    intro h
    have h1 := ih (by omega)
    have h2 := hv n (by omega)
    rw [x_sv]
    by_cases hb : t.testBit n = true
    · rw [if_pos hb]; omega
    · rw [if_neg hb]; omega
section H23
variable {w : qW} {sg cl ln oc : Nat → Nat} {lt : Nat → Nat → Nat} {nw cc mi ex k f i a : Nat}
theorem e_savedLoop (hW : q_WD w nw ln lt) (hO : q_OC w oc) {t : Nat} (ht : t < 256) : ∀ n i : Nat, i + n = nw → qe iX4_savedBy 4 [some (.ref 0), some (.int (nI t)), some (.int (nI (x_sv (fun k => oc k * (ln k - 1)) t i))), some (.int (nI i))] [] w = some (some (.int (nI (x_sv (fun k => oc k * (ln k - 1)) t nw))), w) := by
  have hn := hW.2.1
  intro n
  induction n with
  | zero => intro i hi; have : i = nw := by omega
            subst this; rw [zX4_savedBy_4, hW.1, if_pos (Int32.le_refl _), zX4_savedBy_51]
  | succ n ih =>
    intro i hi
    obtain ⟨l1, l2, -⟩ := (hW.2.2 i (by omega)).2
    have ho := hO i (by omega)
    have key := q_tst_all ⟨t, ht⟩ ⟨i, by omega⟩
    have next := ih (i + 1) (by omega)
    rw [x_sv] at next
    rw [zX4_savedBy_4, hW.1, if_neg (nI_ge (by omega) (by omega)), zX4_savedBy_15]
    by_cases h : t.testBit i = true
    · rw [if_neg (fun q => by rw [key.mp q] at h; cases h), zX4_savedBy_23, e_at (n := 8) w rfl (by omega) (by omega), qc_i, zX4_savedBy_32, e_lettersOf hW (by omega), qc_i, zX4_savedBy_40, zX4_savedBy_45, ho.1, show nI (ln i) - 1 = nI (ln i) - nI 1 from rfl, pk_sub l1, pk_mul, nI_add, nI_1]
      rw [if_pos h] at next
      exact next
    · rw [if_pos (key.mpr (by simpa using h)), zX4_savedBy_45, nI_1]
      rw [if_neg h] at next
      exact next
theorem e_savedBy (hW : q_WD w nw ln lt) (hO : q_OC w oc) {t : Nat} (ht : t < 256) : qe iX4_savedBy 0 [some (.ref 0), some (.int (nI t)), none, none] [] w = some (some (.int (nI (x_sv (fun k => oc k * (ln k - 1)) t nw))), w) := by
  rw [zX4_savedBy_0]
  exact e_savedLoop hW hO ht nw 0 (by omega)
theorem q_v_le (hW : q_WD w nw ln lt) (hO : q_OC w oc) (hk : k < nw) : oc k * (ln k - 1) ≤ 495 := by
  have hn := hW.2.1
  obtain ⟨l1, l2, -⟩ := (hW.2.2 k hk).2
  have ho := (hO k (by omega)).2
  have := Nat.mul_le_mul ho (show ln k - 1 ≤ 5 by omega)
  omega
theorem e_mostLoop (hW : q_WD w nw ln lt) (hO : q_OC w oc) {t : Nat} (ht : t < 256) : ∀ (n i : Nat) (b : Option Nat × Nat) (u : Option Value), i + n = nw → b.2 ≤ 495 → qe iX4_mostSavingBut 7 [some (.ref 0), some (.int (nI t)), some (.int (q_oi b.1)), some (.int (nI b.2)), some (.int (nI i)), u] [] w = some (some (.int (q_oi (q_mo (fun k => oc k * (ln k - 1)) t n i b).1)), w) := by
  have hn := hW.2.1
  intro n
  induction n with
  | zero => intro i b u hi hb; rw [zX4_mostSavingBut_7, hW.1, if_pos (nI_le (by omega) (by omega)), zX4_mostSavingBut_56]; rfl
  | succ n ih =>
    intro i b u hi hb
    have hv := q_v_le hW hO (k := i) (by omega)
    have key := q_tst_all ⟨t, ht⟩ ⟨i, by omega⟩
    have hp : 2 ^ i < 256 := Nat.pow_lt_pow_right (m := i) (n := 8) (by omega) (by omega)
    rw [zX4_mostSavingBut_7, hW.1, if_neg (nI_ge (by omega) (by omega)), zX4_mostSavingBut_19, q_bit_all ⟨i, by omega⟩, e_savedBy hW hO hp, qc_i, x_sv_one, if_pos (by omega), zX4_mostSavingBut_27, q_mo]
    by_cases h1 : t.testBit i = false
    · rw [if_neg (fun q => q (key.mpr h1)), zX4_mostSavingBut_38]
      by_cases h2 : b.2 < oc i * (ln i - 1)
      · rw [if_neg (nI_ge h2 (by omega)), zX4_mostSavingBut_44, zX4_mostSavingBut_50, nI_1, if_pos ⟨h1, h2⟩]
        exact ih (i + 1) (some i, oc i * (ln i - 1)) _ (by omega) hv
      · rw [if_pos (nI_le (by omega) (by omega)), zX4_mostSavingBut_50, nI_1, if_neg (fun q => h2 q.2)]
        exact ih (i + 1) b _ (by omega) hb
    · rw [if_pos (fun q => h1 (key.mp q)), zX4_mostSavingBut_50, nI_1, if_neg (fun q => h1 q.1)]
      exact ih (i + 1) b _ (by omega) hb
theorem e_mostSaving (hW : q_WD w nw ln lt) (hO : q_OC w oc) {t : Nat} (ht : t < 256) : qe iX4_mostSavingBut 0 [some (.ref 0), some (.int (nI t)), none, none, none, none] [] w = some (some (.int (q_oi (q_mo (fun k => oc k * (ln k - 1)) t nw 0 (none, 0)).1)), w) := by
  rw [zX4_mostSavingBut_0]
  exact e_mostLoop hW hO ht nw 0 (none, 0) none (by omega) (Nat.zero_le _)
theorem e_shortLoop (hW : q_WD w nw ln lt) (hO : q_OC w oc) {mm : Nat} (v1 : Int32) (hm : mm ≤ 63) : ∀ (n t i a : Nat) (u : Option Value), i + n = mm → t < 256 → qe iX4_shortened 14 [some (.ref 0), some (.int v1), some (.int (nI mm)), some (.int (nI t)), some (.int (nI i)), u] [] w = some (some (.int (nI (q_sh (fun k => oc k * (ln k - 1)) nw n t a).1)), w) := by
  have hn := hW.2.1
  intro n
  induction n with
  | zero => intro t i a u hi ht; rw [zX4_shortened_14, if_pos (nI_le (by omega) (by omega)), zX4_shortened_49]; rfl
  | succ n ih =>
    intro t i a u hi ht
    rw [zX4_shortened_14, if_neg (nI_ge (by omega) (by omega)), zX4_shortened_20, e_mostSaving hW hO ht, qc_i, zX4_shortened_25, q_sh]
    cases hx : (q_mo (fun k => oc k * (ln k - 1)) t nw 0 (none, 0)).1 with
    | none => rw [q_oi_n, if_neg (fun q => q rfl), zX4_shortened_33, zX4_shortened_49]
    | some x =>
      obtain ⟨h1, h2, h3⟩ := q_mo_ok _ t nw 0 (none, 0) (fun _ h => by cases h) x hx
      have hx8 : x < 8 := by omega
      rw [q_oi_s, if_pos (q_m1 (by omega)), zX4_shortened_36, q_set_all ⟨t, ht⟩ ⟨x, hx8⟩, nI_1]
      exact ih _ (i + 1) _ _ (by omega) (q_set_lt ht hx8)
theorem e_shortened (hW : q_WD w nw ln lt) (hO : q_OC w oc) (hS : q_SG w sg) {mm : Nat} (hm : mm ≤ 8) : qe iX4_shortened 0 [some (.ref 0), some (.int (nI mm)), none, none, none, none] [] w = some (some (.int (nI (q_sh (fun k => oc k * (ln k - 1)) nw (min mm (q_fs0 sg)) 0 0).1)), w) := by
  have hf : q_fs0 sg ≤ 63 := by have := q_ct_le (fun v => decide (q_rd sg v = -1)) 63 1 0; unfold q_fs0; omega
  have hmin : (if nI (q_fs0 sg) < nI mm then nI (q_fs0 sg) else nI mm) = nI (min mm (q_fs0 sg)) := by
    by_cases h : q_fs0 sg < mm
    · rw [if_pos (nI_lt h (by omega)), Nat.min_eq_right (by omega)]
    · rw [if_neg (nI_nlt (by omega) (by omega)), Nat.min_eq_left (by omega)]
  rw [zX4_shortened_0, e_freeSigns hS, qc_i, zX4_shortened_5, hmin, zX4_shortened_8]
  exact e_shortLoop hW hO _ (by omega) (min mm (q_fs0 sg)) 0 0 0 none (by omega) (by omega)
/-- under -/
def q_li (sg : Nat → Nat) (cc : Nat) (cl ln : Nat → Nat) (lt : Nat → Nat → Nat) (f k o : Nat) : Bool := decide (ln o = ln k ∧ f + ln k ≤ cc) && q_all (fun i => decide (sg (lt k i) ||| sg (lt o i) = cl (f + i))) (ln k) 0
theorem e_lieLoop (hS : q_SG w sg) (hW : q_WD w nw ln lt) (hC : q_CL w cc cl) {o : Nat} (hk : k < nw) (ho : o < nw) (hlo : ln o = ln k) (hf : f + ln k ≤ cc) : ∀ n i : Nat, i + n = ln k → qe iX4_lieTogether 37 [some (.ref 0), some (.int (nI k)), some (.int (nI o)), some (.int (nI f)), some (.int (nI (ln k))), some (.int (nI i))] [] w = some (some (.int (q_bo (q_all (fun i => decide (sg (lt k i) ||| sg (lt o i) = cl (f + i))) n i))), w) := by
  obtain ⟨h4, h5, h6, h7⟩ := hW.2.2 k hk
  obtain ⟨g4, g5, g6, g7⟩ := hW.2.2 o ho
  have hc := hC.2.1
  intro n
  induction n with
  | zero => intro i hi; rw [zX4_lieTogether_37, if_pos (nI_le (by omega) (by omega)), zX4_lieTogether_81, if_pos q_nb1]; rfl
  | succ n ih =>
    intro i hi
    have a1 := hS _ (h7 i (by omega)).2
    have a2 := hS _ (g7 i (by omega)).2
    have a3 := hC.2.2 (f + i) (by omega)
    have a4 := q_or_lt a1.2.2 a2.2.2
    rw [zX4_lieTogether_37, if_neg (nI_ge (by omega) (by omega)), zX4_lieTogether_44, e_signOf hW hS hk (by omega), qc_i, zX4_lieTogether_51, e_signOf hW hS ho (by omega), qc_i, zX4_lieTogether_58, q_or_I a1.2.2 a2.2.2, nI_add, e_at (n := 24) w rfl (by omega) (by omega), qc_i, zX4_lieTogether_70, a3.1, q_all]
    by_cases h : sg (lt k i) ||| sg (lt o i) = cl (f + i)
    · rw [if_pos (by rw [h]), zX4_lieTogether_75, nI_1, if_pos (decide_eq_true h)]
      exact ih (i + 1) (by omega)
    · rw [if_neg (fun q => h ((nI_eq (by omega) (by omega)).mp q)), zX4_lieTogether_73, if_pos q_nb0, if_neg (by rw [decide_eq_true_eq]; exact h), q_bo_f]
theorem e_lie (hS : q_SG w sg) (hW : q_WD w nw ln lt) (hC : q_CL w cc cl) {o : Nat} (hk : k < nw) (ho : o < nw) (hf : f < 2 ^ 31) : qe iX4_lieTogether 0 [some (.ref 0), some (.int (nI k)), some (.int (nI o)), some (.int (nI f)), none, none] [] w = some (some (.int (q_bo (q_li sg cc cl ln lt f k o))), w) := by
  obtain ⟨h4, h5, h6, h7⟩ := hW.2.2 k hk
  obtain ⟨g4, g5, g6, g7⟩ := hW.2.2 o ho
  rw [zX4_lieTogether_0, e_lettersOf hW hk, qc_i, zX4_lieTogether_8, e_lettersOf hW ho, qc_i, zX4_lieTogether_18, q_li]
  by_cases h : ln o = ln k
  · rw [if_neg (fun q => q (by rw [h])), zX4_lieTogether_23, e_hasCells hW hC hk hf, qc_i, zX4_lieTogether_29]
    by_cases h2 : f + ln k ≤ cc
    · rw [decide_eq_true h2, q_bo_t, if_pos (by decide), zX4_lieTogether_34, decide_eq_true ⟨h, h2⟩, Bool.true_and]
      exact e_lieLoop hS hW hC hk ho h h2 (ln k) 0 (by omega)
    · rw [decide_eq_false h2, q_bo_f, if_neg (fun q => q rfl), zX4_lieTogether_32, if_pos q_nb0, decide_eq_false (fun q => h2 q.2), Bool.false_and, q_bo_f]
  · rw [if_pos (fun q => h ((nI_eq (by omega) (by omega)).mp q)), zX4_lieTogether_32, if_pos q_nb0, decide_eq_false (fun q => h q.1), Bool.false_and, q_bo_f]
theorem e_underLoop (hS : q_SG w sg) (hW : q_WD w nw ln lt) (hC : q_CL w cc cl) (hk : k < nw) (hf : f < 2 ^ 31) : ∀ (n i : Nat) (b : Int32), i + n = nw → qe iX4_under 23 [some (.ref 0), some (.int (nI k)), some (.int (nI f)), some (.int b), some (.int (nI i))] [] w = some (some (.int (q_ob (fun o => q_li sg cc cl ln lt f k o) n i b)), w) := by
  have hn := hW.2.1
  intro n
  induction n with
  | zero => intro i b hi; rw [zX4_under_23, hW.1, if_pos (nI_le (by omega) (by omega)), zX4_under_59]; rfl
  | succ n ih =>
    intro i b hi
    rw [zX4_under_23, hW.1, if_neg (nI_ge (by omega) (by omega)), zX4_under_35, e_lie hS hW hC hk (by omega) hf, qc_i, zX4_under_43, q_ob]
    cases h : q_li sg cc cl ln lt f k i with
    | true => rw [q_bo_t, if_neg (by decide), zX4_under_46, zX4_under_53, nI_1, if_pos rfl]; exact ih (i + 1) _ (by omega)
    | false => rw [q_bo_f, if_pos rfl, zX4_under_53, nI_1, if_neg (by decide)]; exact ih (i + 1) _ (by omega)
end H23
