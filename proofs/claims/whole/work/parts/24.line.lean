/-! the line: costs and numbers of words, from each place on -/
/-- cost and number from place cc - d on, out of those behind -/
def x_bb (ex : Nat) (cc : Nat) (cl : Nat → Nat) (T : Nat → Nat × Nat) (f : Nat) : Nat × Nat := if f < cc then (ex * q_pop (cl f) + (T (f + 1)).1, (T (f + 1)).2) else (0, 0)
def x_lt (a b : Nat × Nat) : Bool := decide (a.1 < b.1 ∨ (a.1 = b.1 ∧ a.2 < b.2))
def x_lw (fit : Nat → Option Nat) (ln : Nat → Nat) (bb : Nat → Nat × Nat) (f : Nat) : Nat → Nat → Nat × Nat → Nat × Nat
  | 0, _, b => b
  | n + 1, k, b => x_lw fit ln bb f n (k + 1) (match fit k with
    | none => b
    | some c => if x_lt (c + (bb (f + ln k)).1, 1 + (bb (f + ln k)).2) b = true then (c + (bb (f + ln k)).1, 1 + (bb (f + ln k)).2) else b)
def x_T (fit : Nat → Nat → Option Nat) (ln : Nat → Nat) (nw ex cc : Nat) (cl : Nat → Nat) : Nat → Nat → Nat × Nat
  | 0 => fun _ => (0, 0)
  | d + 1 => fun j => if j = cc - (d + 1) then x_lw (fit (cc - (d + 1))) ln (x_bb ex cc cl (x_T fit ln nw ex cc cl d)) (cc - (d + 1)) nw 0 (x_bb ex cc cl (x_T fit ln nw ex cc cl d) (cc - (d + 1))) else x_T fit ln nw ex cc cl d j
theorem x_T_at (fit : Nat → Nat → Option Nat) (ln : Nat → Nat) (nw ex cc : Nat) (cl : Nat → Nat) (d : Nat) : x_T fit ln nw ex cc cl (d + 1) (cc - (d + 1)) = x_lw (fit (cc - (d + 1))) ln (x_bb ex cc cl (x_T fit ln nw ex cc cl d)) (cc - (d + 1)) nw 0 (x_bb ex cc cl (x_T fit ln nw ex cc cl d) (cc - (d + 1))) := if_pos rfl
theorem x_T_ne (fit : Nat → Nat → Option Nat) (ln : Nat → Nat) (nw ex cc : Nat) (cl : Nat → Nat) (d : Nat) {j : Nat} (h : ¬ j = cc - (d + 1)) : x_T fit ln nw ex cc cl (d + 1) j = x_T fit ln nw ex cc cl d j := if_neg h
/-- bounds: a cell costs at most 2592 and one word -/
def x_ok (cc : Nat) (T : Nat → Nat × Nat) : Prop := ∀ j, (T j).1 ≤ 2592 * (cc - j) ∧ (T j).2 ≤ cc - j
theorem x_bb_ok {ex cc : Nat} {cl : Nat → Nat} {T : Nat → Nat × Nat} (h : x_ok cc T) (hex : ex ≤ 9) (f : Nat) : (x_bb ex cc cl T f).1 ≤ 2592 * (cc - f) ∧ (x_bb ex cc cl T f).2 ≤ cc - f := by
  unfold x_bb
  split
  · have h1 := h (f + 1)
    have h2 : ex * q_pop (cl f) ≤ 9 * 6 := Nat.mul_le_mul hex (q_pop_le _)
    dsimp only
    omega
  · exact ⟨Nat.zero_le _, Nat.zero_le _⟩
theorem x_bb_ok2 {ex cc : Nat} {cl : Nat → Nat} {T : Nat → Nat × Nat} (h : x_ok cc T) (hex : ex ≤ 9) {f : Nat} (hf : f < cc) : (x_bb ex cc cl T f).1 ≤ 54 + 2592 * (cc - (f + 1)) ∧ (x_bb ex cc cl T f).2 ≤ cc - (f + 1) := by
  unfold x_bb
  rw [if_pos hf]
  have h1 := h (f + 1)
  have h2 : ex * q_pop (cl f) ≤ 9 * 6 := Nat.mul_le_mul hex (q_pop_le _)
  dsimp only
  omega
theorem x_lw_ok {fit : Nat → Option Nat} {ln : Nat → Nat} {bb : Nat → Nat × Nat} {f M N nw : Nat} (hfit : ∀ k c, k < nw → fit k = some c → c + (bb (f + ln k)).1 ≤ M ∧ 1 + (bb (f + ln k)).2 ≤ N) : ∀ (n k : Nat) (b : Nat × Nat), k + n = nw → b.1 ≤ M → b.2 ≤ N → (x_lw fit ln bb f n k b).1 ≤ M ∧ (x_lw fit ln bb f n k b).2 ≤ N := by
  intro n
  induction n with
  | zero => intro k b _ h1 h2; exact ⟨h1, h2⟩
  | succ n ih =>
    intro k b hk h1 h2
    rw [x_lw]
    apply ih _ _ (by omega)
    · split
      · exact h1
      · rename_i c hc
        have := hfit k c (by omega) hc
        split
        · exact this.1
        · exact h1
    · split
      · exact h2
      · rename_i c hc
        have := hfit k c (by omega) hc
        split
        · exact this.2
        · exact h2
theorem x_T_ok {fit : Nat → Nat → Option Nat} {ln : Nat → Nat} {nw ex cc : Nat} {cl : Nat → Nat} (hex : ex ≤ 9) (hfit : ∀ f k c, k < nw → fit f k = some c → c ≤ 648 ∧ f + ln k ≤ cc ∧ 1 ≤ ln k) : ∀ d, d ≤ cc → x_ok cc (x_T fit ln nw ex cc cl d) := by
  intro d
  induction d with
  | zero => intro _ j; exact ⟨Nat.zero_le _, Nat.zero_le _⟩
  | succ d ih =>
    intro hd j
    have h0 := ih (by omega)
    by_cases hj : j = cc - (d + 1)
    · subst hj
      rw [x_T_at]
      have hb := x_bb_ok (cl := cl) h0 hex (cc - (d + 1))
      apply x_lw_ok (nw := nw) _ nw 0 _ (by omega) hb.1 hb.2
      intro k c hk hc
      obtain ⟨g1, g2, g3⟩ := hfit _ k c hk hc
      have hb2 := x_bb_ok (cl := cl) h0 hex (cc - (d + 1) + ln k)
      omega
    · rw [x_T_ne _ _ _ _ _ _ _ hj]
      exact h0 j
/-- in one number, by a base above all numbers of words -/
def x_en (B : Nat) (p : Nat × Nat) : Nat := B * p.1 + p.2
theorem x_en_lt {B : Nat} {a b : Nat × Nat} (ha : a.2 < B) (hb : b.2 < B) : x_en B a < x_en B b ↔ x_lt a b = true := by
  unfold x_en x_lt
  rw [decide_eq_true_eq]
  constructor
  · intro h
    by_cases h1 : a.1 < b.1
    · exact Or.inl h1
    · by_cases h2 : a.1 = b.1
      · rw [h2] at h; exact Or.inr ⟨h2, by omega⟩
      · have h3 : b.1 + 1 ≤ a.1 := by omega
        have h4 := Nat.mul_le_mul_left B h3
        rw [Nat.mul_add, Nat.mul_one] at h4
        omega
  · rintro (h1 | ⟨h1, h2⟩)
    · have h3 : a.1 + 1 ≤ b.1 := by omega
      have h4 := Nat.mul_le_mul_left B h3
      rw [Nat.mul_add, Nat.mul_one] at h4
      omega
    · rw [h1]; omega
section L24
variable {w : qW} {sg cl ln : Nat → Nat} {lt : Nat → Nat → Nat} {nw cc mi ex k f i a : Nat}
theorem q_fit_648 (hO : q_CO w mi ex) (hW : q_WD w nw ln lt) {c : Nat} (hk : k < nw) (h : q_fit mi ex sg cc cl ln lt f k = some c) : c ≤ 648 ∧ f + ln k ≤ cc ∧ 1 ≤ ln k := by
  obtain ⟨h4, h5, h6, -⟩ := hW.2.2 k hk
  unfold q_fit at h
  split at h
  · rename_i hf
    cases h
    have := q_cs_le mi ex (fun i => sg (lt k i)) (fun i => cl (f + i)) hO.2.1 hO.2.2.2 (ln k)
    exact ⟨by omega, hf, h5⟩
  · cases h
/-- the row of what is behind, in the class: base 64 -/
def x_R (w : qW) (cc : Nat) (T : Nat → Nat × Nat) (f : Nat) : Prop := ∀ j, f ≤ j → j ≤ cc → w 26 j = nI (x_en 64 (T j))
theorem e_bbw (hC : q_CL w cc cl) (hO : q_CO w mi ex) {T : Nat → Nat × Nat} {f0 : Nat} (hR : x_R w cc T f0) (hf : f0 ≤ f + 1) (hfc : f ≤ cc) : qe iX4_bestBehindWord 0 [some (.ref 0), some (.int (nI f)), none] [] w = some (some (.int (nI (x_en 64 (x_bb ex cc cl T f)))), w) := by
  have hc := hC.2.1
  rw [zX4_bestBehindWord_0, hC.1, x_bb]
  by_cases h : f < cc
  · have hl := hC.2.2 f h
    rw [if_pos (nI_lt h (by omega)), zX4_bestBehindWord_10, e_at (n := 24) w rfl (by omega) (by omega), qc_i, zX4_bestBehindWord_22, hl.1, e_bitCount hl.2, qc_i, zX4_bestBehindWord_25, nI_1, e_at (n := 25) w rfl (by omega) (by omega), qc_i, zX4_bestBehindWord_41, hO.2.2.1, hR (f + 1) hf (by omega), if_pos h, pk_mul, show (64 : Int32) = nI 64 from rfl, pk_mul, nI_add]
    congr 4
    unfold x_en
    dsimp only
    rw [Nat.mul_add, Nat.mul_comm 64 (ex * q_pop (cl f)), Nat.add_assoc]
  · rw [if_neg (nI_nlt (by omega) (by omega)), zX4_bestBehindWord_8, if_neg h]
    rfl
theorem e_lineIn (hS : q_SG w sg) (hW : q_WD w nw ln lt) (hC : q_CL w cc cl) (hO : q_CO w mi ex) {T : Nat → Nat × Nat} (hT : x_ok cc T) (hR : x_R w cc T (f + 1)) (hf : f < cc) : ∀ (n i : Nat) (b : Nat × Nat) (u4 u5 : Option Value), i + n = nw → b.1 ≤ 2592 * (cc - f) → b.2 ≤ cc - f →
    ∃ v4 v5, qe iX4_bestLine 31 [some (.ref 0), some (.int (nI f)), some (.int (nI (x_en 64 b))), some (.int (nI i)), u4, u5] [] w = qe iX4_bestLine 93 [some (.ref 0), some (.int (nI f)), some (.int (nI (x_en 64 (x_lw (q_fit mi ex sg cc cl ln lt f) ln (x_bb ex cc cl T) f n i b)))), some (.int (nI nw)), v4, v5] [] w := by
  have hc := hC.2.1
  have hn := hW.2.1
  intro n
  induction n with
  | zero =>
    intro i b u4 u5 hi h1 h2
    have : i = nw := by omega
    subst this
    exact ⟨u4, u5, by rw [zX4_bestLine_31, hW.1, if_pos (Int32.le_refl _)]; rfl⟩
  | succ n ih =>
    intro i b u4 u5 hi h1 h2
    have hin : i < nw := by omega
    rw [zX4_bestLine_31, hW.1, if_neg (nI_ge hin (by omega)), zX4_bestLine_42, e_costAt hW hS hC hO hin (by omega), qc_i, zX4_bestLine_48, x_lw]
    cases hfit : q_fit mi ex sg cc cl ln lt f i with
    | none =>
      rw [q_oi_n, if_pos rfl, zX4_bestLine_87, nI_1]
      exact ih (i + 1) b _ _ (by omega) h1 h2
    | some c =>
      obtain ⟨g1, g2, g3⟩ := q_fit_648 (sg := sg) hO hW hin hfit
      have hb2 := x_bb_ok (cl := cl) hT hO.2.2.2 (f + ln i)
      rw [q_oi_s, if_neg (q_m1 (by omega)), zX4_bestLine_56, e_lettersOf hW hin, qc_i, zX4_bestLine_73, nI_add, e_bbw hC hO hR (by omega) g2, qc_i, zX4_bestLine_77, zX4_bestLine_86, zX4_bestLine_87, nI_1]
      have e1 : nI c * 64 + 1 + nI (x_en 64 (x_bb ex cc cl T (f + ln i))) = nI (x_en 64 (c + (x_bb ex cc cl T (f + ln i)).1, 1 + (x_bb ex cc cl T (f + ln i)).2)) := by
        rw [show (64 : Int32) = nI 64 from rfl, pk_mul, show (1 : Int32) = nI 1 from rfl, nI_add, nI_add]
        congr 1
        unfold x_en
        dsimp only
        rw [Nat.mul_add, Nat.mul_comm 64 c]
        omega
      rw [e1]
      have lt1 : x_en 64 (c + (x_bb ex cc cl T (f + ln i)).1, 1 + (x_bb ex cc cl T (f + ln i)).2) < 2 ^ 31 := by unfold x_en; dsimp only; omega
      have lt2 : x_en 64 b < 2 ^ 31 := by unfold x_en; omega
      have key := x_en_lt (B := 64) (a := (c + (x_bb ex cc cl T (f + ln i)).1, 1 + (x_bb ex cc cl T (f + ln i)).2)) (b := b) (by dsimp only; omega) (by omega)
      dsimp only
      by_cases h : x_lt (c + (x_bb ex cc cl T (f + ln i)).1, 1 + (x_bb ex cc cl T (f + ln i)).2) b = true
      · rw [if_pos (nI_lt (key.mpr h) lt2), if_pos h]
        exact ih (i + 1) _ _ _ (by omega) (by dsimp only; omega) (by dsimp only; omega)
      · rw [if_neg (nI_nlt (Nat.not_lt.mp (fun q => h (key.mp q))) lt1), if_neg h]
        exact ih (i + 1) b _ _ (by omega) h1 h2
theorem q_SG_c {w' : qW} (h : w' 12 = w 12) (hS : q_SG w sg) : q_SG w' sg := fun j hj => by rw [h]; exact hS j hj
theorem q_WD_c {w' : qW} (h3 : w' 3 = w 3) (h7 : w' 7 = w 7) (h6 : w' 6 = w 6) (hW : q_WD w nw ln lt) : q_WD w' nw ln lt := by unfold q_WD; rw [h3, h7, h6]; exact hW
theorem q_CL_c {w' : qW} (h0 : w' 0 = w 0) (h13 : w' 13 = w 13) (hC : q_CL w cc cl) : q_CL w' cc cl := by unfold q_CL; rw [h0, h13]; exact hC
theorem q_CO_c {w' : qW} (h0 : w' 0 = w 0) (hO : q_CO w mi ex) : q_CO w' mi ex := by unfold q_CO; rw [h0]; exact hO
theorem e_lineOut (hex : ex ≤ 9) : ∀ (f d : Nat) (w : qW) (u2 u3 u4 u5 : Option Value), q_SG w sg → q_WD w nw ln lt → q_CL w cc cl → q_CO w mi ex → f + d = cc → x_R w cc (x_T (q_fit mi ex sg cc cl ln lt) ln nw ex cc cl d) f →
    ∃ w', (∀ k, k ≠ 26 → w' k = w k) ∧ qe iX4_bestLine 19 [some (.ref 0), some (.int (nI f - 1)), u2, u3, u4, u5] [] w = some (some (.int (nI (x_en 64 (x_T (q_fit mi ex sg cc cl ln lt) ln nw ex cc cl cc 0)))), w') := by
  intro f
  induction f with
  | zero =>
    intro d w u2 u3 u4 u5 hS hW hC hO hd hR
    have hd' : d = cc := by omega
    subst hd'
    refine ⟨w, fun _ _ => rfl, ?_⟩
    rw [zX4_bestLine_19, if_pos (by decide), zX4_bestLine_108, show (0 : Int32) = nI 0 from rfl, e_at (n := 25) w rfl (by omega) (by omega), qc_i, zX4_bestLine_116, hR 0 (Nat.le_refl _) (Nat.zero_le _)]
  | succ f ih =>
    intro d w u2 u3 u4 u5 hS hW hC hO hd hR
    have hc := hC.2.1
    have hfc : f = cc - (d + 1) := by omega
    have hT : x_ok cc (x_T (q_fit mi ex sg cc cl ln lt) ln nw ex cc cl d) := x_T_ok hex (fun f k c hk h => q_fit_648 (sg := sg) hO hW hk h) d (by omega)
    have hb := x_bb_ok (cl := cl) hT hex f
    rw [nI_pred, zX4_bestLine_19, if_neg (c_ge0 f (by omega)), zX4_bestLine_23, e_bbw hC hO hR (by omega) (by omega), qc_i, zX4_bestLine_28]
    obtain ⟨v4, v5, h⟩ := e_lineIn hS hW hC hO hT hR (by omega) nw 0 (x_bb ex cc cl (x_T (q_fit mi ex sg cc cl ln lt) ln nw ex cc cl d) f) u4 u5 (by omega) hb.1 hb.2
    rw [show (0 : Int32) = nI 0 from rfl, h, zX4_bestLine_93, e_lay (n := 25) _ w rfl (by omega) (by omega), qc_v, zX4_bestLine_102, ← Int32.sub_eq_add_neg]
    have e0 : ∀ k, k ≠ 26 → (q_up w 26 f (nI (x_en 64 (x_lw (q_fit mi ex sg cc cl ln lt f) ln (x_bb ex cc cl (x_T (q_fit mi ex sg cc cl ln lt) ln nw ex cc cl d)) f nw 0 (x_bb ex cc cl (x_T (q_fit mi ex sg cc cl ln lt) ln nw ex cc cl d) f))))) k = w k := fun k hk => q_up_ne w _ _ hk
    obtain ⟨w', hw', h'⟩ := ih (d + 1) _ _ _ v4 v5 (q_SG_c (e0 12 (by decide)) hS) (q_WD_c (e0 3 (by decide)) (e0 7 (by decide)) (e0 6 (by decide)) hW) (q_CL_c (e0 0 (by decide)) (e0 13 (by decide)) hC) (q_CO_c (e0 0 (by decide)) hO) (by omega) (by
      intro j h1 h2
      rw [q_up_at]
      by_cases hj : j = f
      · subst hj
        rw [hfc, x_T_at]
        simp [upd]
      · rw [x_T_ne _ _ _ _ _ _ _ (by omega)]
        simp only [upd, if_neg hj]
        exact hR j (by omega) h2)
    exact ⟨w', fun k hk => (hw' k hk).trans (e0 k hk), h'⟩
theorem e_bestLine (hS : q_SG w sg) (hW : q_WD w nw ln lt) (hC : q_CL w cc cl) (hO : q_CO w mi ex) : ∃ w', (∀ k, k ≠ 26 → w' k = w k) ∧ qe iX4_bestLine 0 [some (.ref 0), none, none, none, none, none] [] w = some (some (.int (nI (x_en 64 (x_T (q_fit mi ex sg cc cl ln lt) ln nw ex cc cl cc 0)))), w') := by
  have hc := hC.2.1
  rw [zX4_bestLine_0, hC.1, e_lay (n := 25) _ w rfl (by omega) (by omega), qc_v, zX4_bestLine_12]
  have e0 : ∀ k, k ≠ 26 → (q_up w 26 cc 0) k = w k := fun k hk => q_up_ne w _ _ hk
  rw [e0 0 (by decide), hC.1]
  obtain ⟨w', hw', h'⟩ := e_lineOut (sg := sg) (nw := nw) (cc := cc) (cl := cl) (ln := ln) (lt := lt) (mi := mi) hO.2.2.2 cc 0 (q_up w 26 cc 0) none none none none (q_SG_c (e0 12 (by decide)) hS) (q_WD_c (e0 3 (by decide)) (e0 7 (by decide)) (e0 6 (by decide)) hW) (q_CL_c (e0 0 (by decide)) (e0 13 (by decide)) hC) (q_CO_c (e0 0 (by decide)) hO) (by omega) (by
    intro j h1 h2
    have : j = cc := by omega
    subst this
    rw [q_up_at]
    simp [upd, x_T, x_en, nI])
  exact ⟨w', fun k hk => (hw' k hk).trans (e0 k hk), h'⟩
end L24
