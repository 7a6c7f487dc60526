/-! the words of both -/
def q_WB (w : qW) (wl : Nat) (wb : Nat → Nat) : Prop := w 4 1 = nI wl ∧ wl ≤ 60 ∧ ∀ j, j < wl → w 5 j = nI (wb j) ∧ wb j ≤ 255
theorem x_ok1_t {b : Nat → Nat} {i : Nat} (h1 : (x_ps b i).1 < 8) (h2 : (x_le (b i) ∧ (x_ps b i).2 < 6) ∨ (b i = 59 ∧ 0 < (x_ps b i).2)) : x_ok1 b i = true := decide_eq_true (show (x_ps b i).1 < 8 ∧ ((x_le (b i) ∧ (x_ps b i).2 < 6) ∨ (b i = 59 ∧ 0 < (x_ps b i).2)) from ⟨h1, h2⟩)
theorem x_ok1_f {b : Nat → Nat} {i : Nat} (h : (x_ps b i).1 < 8 → (x_le (b i) → 6 ≤ (x_ps b i).2) ∧ (b i = 59 → (x_ps b i).2 = 0)) : ¬ x_ok1 b i = true := by
  intro q
  obtain ⟨q1, q2⟩ := of_decide_eq_true q
  obtain ⟨h1, h2⟩ := h q1
  rcases q2 with ⟨a1, a2⟩ | ⟨a1, a2⟩
  · have := h1 a1; omega
  · have := h2 a1; omega
section W41
variable {w : qW} {wb pb : Nat → Nat} {wl pl i : Nat}
theorem e_ffLoop (hW : q_WB w wl wb) : ∀ (n i : Nat) (u4 u5 : Option Value), i + n = wl → x_good wb i → qe iX3_firstFault 6 [some (.ref 3), some (.int (nI (x_ps wb i).1)), some (.int (nI (x_ps wb i).2)), some (.int (nI i)), u4, u5] [] w = some (some (.int (x_wf wb wl n i)), w) := by
  have hwl := hW.2.1
  intro n
  induction n with
  | zero =>
    intro i u4 u5 hi hg
    have : i = wl := by omega
    subst this
    have fin : qe iX3_firstFault 137 [some (.ref 3), some (.int (nI (x_ps wb i).1)), some (.int (nI (x_ps wb i).2)), some (.int (nI i)), u4, u5] [] w = some (some (.int (-1)), w) := by
      rw [zX3_firstFault_137, zX3_firstFault_138, if_pos rfl, zX3_firstFault_153, zX3_firstFault_154]
    have g2 := hg.2.1
    rw [zX3_firstFault_6, hW.1, if_pos (Int32.le_refl _), zX3_firstFault_119, hW.1, x_wf]
    by_cases h0 : i = 0
    · rw [if_pos (by rw [h0]; decide), if_neg (by omega)]
      exact fin
    · rw [if_neg (nI_nle (by omega) (by omega)), zX3_firstFault_129]
      by_cases h2 : (x_ps wb i).2 = 0
      · rw [if_neg (fun q => q (by rw [h2]; rfl)), zX3_firstFault_133, zX3_firstFault_138, if_neg (by decide), zX3_firstFault_143, zX3_firstFault_154, hW.1, if_pos ⟨by omega, h2⟩]
      · rw [if_pos (fun q => h2 ((nI_eq (by omega) (by omega)).mp (q.trans nI_0.symm))), if_neg (fun q => h2 q.2)]
        exact fin
  | succ n ih =>
    intro i u4 u5 hi hg
    have hb := hW.2.2 i (by omega)
    obtain ⟨g1, g2, g3, -⟩ := id hg
    rw [zX3_firstFault_6, hW.1, if_neg (nI_ge (by omega) (by omega)), zX3_firstFault_17, e_at (n := 60) w rfl (by omega) (by omega), qc_i, zX3_firstFault_28, hb.1, e_isLetter, qc_i, zX3_firstFault_35, x_wf]
    have bad : ∀ u, ¬ x_ok1 wb i = true → qe iX3_firstFault 68 [some (.ref 3), some (.int (nI (x_ps wb i).1)), some (.int (nI (x_ps wb i).2)), some (.int (nI i)), some (.int (nI (wb i))), u] [.int 0] w = some (some (.int (if x_ok1 wb i = true then x_wf wb wl n (i + 1) else nI i)), w) := by
      intro u h
      rw [if_neg h, zX3_firstFault_68]
      by_cases h8 : (8 : Int32) ≤ nI (x_ps wb i).1
      · rw [if_pos h8, zX3_firstFault_81]
      · rw [if_neg h8, zX3_firstFault_76, if_neg (fun q => q rfl), zX3_firstFault_81]
    have good : ∀ u, ((x_le (wb i) ∧ (x_ps wb i).2 < 6) ∨ (wb i = 59 ∧ 0 < (x_ps wb i).2)) → qe iX3_firstFault 68 [some (.ref 3), some (.int (nI (x_ps wb i).1)), some (.int (nI (x_ps wb i).2)), some (.int (nI i)), some (.int (nI (wb i))), u] [.int 1] w = some (some (.int (if x_ok1 wb i = true then x_wf wb wl n (i + 1) else nI i)), w) := by
      intro u h
      rw [zX3_firstFault_68]
      by_cases h8 : (x_ps wb i).1 < 8
      · have hok := x_ok1_t h8 h
        have hg1 := x_good1 hg hok
        rw [if_neg (show ¬ (8 : Int32) ≤ nI (x_ps wb i).1 from nI_ge (b := 8) h8 (by omega)), zX3_firstFault_76, if_pos (by decide), zX3_firstFault_83, if_pos hok]
        rcases h with ⟨h1, h2⟩ | ⟨h1, h2⟩
        · have hne : ¬ nI (wb i) = 59 := fun q => by
            have := (nI_eq (b := 59) (by omega) (by omega)).mp q
            unfold x_le at h1
            omega
          rw [if_pos hne, zX3_firstFault_94, zX3_firstFault_97, if_pos hne, zX3_firstFault_111, zX3_firstFault_112, nI_1, nI_1]
          have := ih (i + 1) (some (.int (nI (wb i)))) (some (.int 1)) (by omega) hg1
          rw [x_ps_let h1] at this
          exact this
        · have hne : nI (wb i) = 59 := by rw [h1]; rfl
          rw [if_neg (fun q => q hne), zX3_firstFault_90, zX3_firstFault_97, if_neg (fun q => q hne), zX3_firstFault_105, zX3_firstFault_112, nI_1, nI_1]
          have := ih (i + 1) (some (.int (nI (wb i)))) (some (.int 1)) (by omega) hg1
          rw [x_ps_semi h1, nI_0] at this
          exact this
      · rw [if_pos (show (8 : Int32) ≤ nI (x_ps wb i).1 from nI_le (a := 8) (by omega) (by omega)), zX3_firstFault_81, if_neg (x_ok1_f (fun q => absurd q h8))]
    by_cases hl : x_le (wb i)
    · rw [decide_eq_true ((q_isle _ (by omega)).mpr hl), q_bo_t, if_neg (by decide), zX3_firstFault_38]
      by_cases h6 : (x_ps wb i).2 < 6
      · rw [if_neg (show ¬ (6 : Int32) ≤ nI (x_ps wb i).2 from nI_ge (b := 6) h6 (by omega)), zX3_firstFault_44]
        exact good _ (Or.inl ⟨hl, h6⟩)
      · rw [if_pos (show (6 : Int32) ≤ nI (x_ps wb i).2 from nI_le (a := 6) (by omega) (by omega)), zX3_firstFault_48]
        exact bad _ (x_ok1_f (fun _ => ⟨fun _ => by omega, fun q => by unfold x_le at hl; omega⟩))
    · rw [decide_eq_false (fun q => hl ((q_isle _ (by omega)).mp q)), q_bo_f, if_pos rfl, zX3_firstFault_52]
      by_cases h59 : wb i = 59
      · rw [if_neg (fun q => q (by rw [h59]; rfl)), zX3_firstFault_59]
        by_cases h0 : (x_ps wb i).2 = 0
        · rw [if_pos (by rw [h0]; decide), zX3_firstFault_67]
          exact bad _ (x_ok1_f (fun _ => ⟨fun q => absurd q hl, fun _ => h0⟩))
        · rw [if_neg (nI_nle (by omega) (by omega)), zX3_firstFault_63]
          exact good _ (Or.inr ⟨h59, by omega⟩)
      · rw [if_pos (show ¬ nI (wb i) = 59 from fun q => h59 ((nI_eq (b := 59) (by omega) (by omega)).mp q)), zX3_firstFault_67]
        exact bad _ (x_ok1_f (fun _ => ⟨fun q => absurd q hl, fun q => absurd q h59⟩))
theorem e_firstFault (hW : q_WB w wl wb) : qe iX3_firstFault 0 [some (.ref 3), none, none, none, none, none] [] w = some (some (.int (x_wF wb wl)), w) := by
  rw [zX3_firstFault_0]
  exact e_ffLoop hW wl 0 none none (by omega) (x_good0 wb)
theorem e_splitLoop (hok : ∀ j, j < wl → x_ok1 wb j = true) : ∀ (n i : Nat) (w : qW) (u3 u4 : Option Value), q_WB w wl wb → i + n = wl → x_good wb i → (∀ k, k < 8 → w 7 k = nI (x_L wb i k)) → (∀ k m, m < x_L wb i k → w 6 (k * 6 + m) = nI (x_TT wb i (6 * k + m))) →
    ∃ w', (∀ k, k ≠ 3 → k ≠ 6 → k ≠ 7 → w' k = w k) ∧ w' 3 = upd (w 3) 3 (nI ((x_ps wb wl).1 + 1)) ∧ (∀ k, k < 8 → w' 7 k = nI (x_L wb wl k)) ∧ (∀ k m, m < x_L wb wl k → w' 6 (k * 6 + m) = nI (x_TT wb wl (6 * k + m))) ∧ qe iX3_split 44 [some (.ref 3), some (.int (nI (x_ps wb i).1)), some (.int (nI i)), u3, u4] [] w = some (none, w') := by
  intro n
  induction n with
  | zero =>
    intro i w u3 u4 hW hi hg h7 h6
    have : i = wl := by omega
    subst this
    refine ⟨q_up w 3 3 (nI ((x_ps wb i).1 + 1)), fun k h1 _ _ => q_up_ne _ _ _ h1, by rw [q_up_at], ?_, ?_, ?_⟩
    · intro k hk; rw [q_up_ne _ _ _ (by decide)]; exact h7 k hk
    · intro k m hm; rw [q_up_ne _ _ _ (by decide)]; exact h6 k m hm
    · rw [zX3_split_44, hW.1, if_pos (Int32.le_refl _), zX3_split_125, nI_1]
  | succ n ih =>
    intro i w u3 u4 hW hi hg h7 h6
    have hwl := hW.2.1
    have hb := hW.2.2 i (by omega)
    have ho := hok i (by omega)
    have hg1 := x_good1 hg ho
    obtain ⟨g1, g2, g3, g4, g5, g6, g7⟩ := id hg
    obtain ⟨o1, o2⟩ := of_decide_eq_true ho
    rw [zX3_split_44, hW.1, if_neg (nI_ge (by omega) (by omega)), zX3_split_55, e_at (n := 60) w rfl (by omega) (by omega), qc_i, zX3_split_66, hb.1]
    rcases o2 with ⟨h, hm6⟩ | ⟨h, hm0⟩
    · have hne : ¬ nI (wb i) = 59 := fun q => by
        have := (nI_eq (b := 59) (by omega) (by omega)).mp q
        unfold x_le at h
        omega
      have e1 : nI (x_ps wb i).1 * 6 + nI (x_ps wb i).2 = nI ((x_ps wb i).1 * 6 + (x_ps wb i).2) := by
        rw [show (6 : Int32) = nI 6 from rfl, pk_mul, nI_add]
      rw [if_pos hne, zX3_split_79, e_at (n := 8) w rfl o1 (by omega), qc_i, zX3_split_87, h7 _ o1, g4, e1, show (97 : Int32) = nI 97 from rfl, pk_sub h.1, e_lay (n := 48) _ w rfl (by omega) (by omega), qc_v, zX3_split_107, nI_1, e_lay (n := 8) _ _ rfl o1 (by omega), qc_v, zX3_split_119, nI_1]
      generalize hw1 : q_up (q_up w 6 ((x_ps wb i).1 * 6 + (x_ps wb i).2) (nI (wb i - 97))) 7 (x_ps wb i).1 (nI ((x_ps wb i).2 + 1)) = w1
      have f1 : ∀ k, k ≠ 6 → k ≠ 7 → w1 k = w k := fun k h1 h2 => by rw [← hw1, q_up_ne _ _ _ h2, q_up_ne _ _ _ h1]
      have f7 : w1 7 = upd (w 7) (x_ps wb i).1 (nI ((x_ps wb i).2 + 1)) := by rw [← hw1, q_up_at, q_up_ne _ _ _ (by decide)]
      have f6 : w1 6 = upd (w 6) ((x_ps wb i).1 * 6 + (x_ps wb i).2) (nI (wb i - 97)) := by rw [← hw1, q_up_ne _ _ _ (by decide), q_up_at]
      obtain ⟨w', r1, r2, r3, r4, r5⟩ := ih (i + 1) w1 (some (.int (nI (wb i)))) (some (.int (nI (x_ps wb i).2))) (by unfold q_WB; rw [f1 4 (by decide) (by decide), f1 5 (by decide) (by decide)]; exact hW) (by omega) hg1 (by
        intro k hk
        rw [f7, x_L_let h]
        dsimp only
        by_cases e : k = (x_ps wb i).1
        · rw [e, pk_us, if_pos rfl]
        · rw [pk_un e, if_neg e]; exact h7 k hk) (by
        intro k m hm
        rw [x_L_let h] at hm
        dsimp only at hm
        rw [f6, x_TT_let h]
        dsimp only
        by_cases e : 6 * k + m = 6 * (x_ps wb i).1 + (x_ps wb i).2
        · rw [if_pos e, show k * 6 + m = (x_ps wb i).1 * 6 + (x_ps wb i).2 by omega, pk_us]
        · rw [if_neg e, pk_un (show k * 6 + m ≠ (x_ps wb i).1 * 6 + (x_ps wb i).2 by omega)]
          apply h6
          by_cases ek : k = (x_ps wb i).1
          · rw [if_pos ek] at hm
            rw [ek, g4]
            rw [ek] at e
            omega
          · rw [if_neg ek] at hm
            exact hm)
      rw [x_ps_let h] at r5
      refine ⟨w', fun k a1 a2 a3 => (r1 k a1 a2 a3).trans (f1 k a2 a3), ?_, r3, r4, r5⟩
      rw [r2, f1 3 (by decide) (by decide)]
    · have hne : nI (wb i) = 59 := by rw [h]; rfl
      rw [if_neg (fun q => q hne), zX3_split_73, zX3_split_119, nI_1, nI_1]
      obtain ⟨w', r1, r2, r3, r4, r5⟩ := ih (i + 1) w (some (.int (nI (wb i)))) u4 hW (by omega) hg1 (by rw [x_L_semi h]; exact h7) (by rw [x_L_semi h, x_TT_semi h]; exact h6)
      rw [x_ps_semi h] at r5
      exact ⟨w', r1, r2, r3, r4, r5⟩
/-- the words are split anew -/
theorem e_split (hW : q_WB w wl wb) : ∃ w', (∀ k, k ≠ 3 → k ≠ 6 → k ≠ 7 → w' k = w k) ∧ w' 3 4 = x_wF wb wl ∧ q_WD w' (x_nw wb wl) (x_L wb wl) (x_lt2 wb wl) ∧ qe iX3_split 0 [some (.ref 3), none, none, none, none] [] w = some (none, w') := by
  have hwl := hW.2.1
  have wo := x_words (b := wb) (wl := wl) (by omega)
  have hW1 : q_WB (q_up w 3 3 0) wl wb := by
    unfold q_WB
    rw [q_up_ne _ _ _ (show (4 : Nat) ≠ 3 by decide), q_up_ne _ _ _ (show (5 : Nat) ≠ 3 by decide)]
    exact hW
  generalize hw2 : q_up (q_up w 3 3 0) 3 4 (x_wF wb wl) = w2
  have f2 : ∀ k, k ≠ 3 → w2 k = w k := fun k h => by rw [← hw2, q_up_ne _ _ _ h, q_up_ne _ _ _ h]
  have f34 : w2 3 4 = x_wF wb wl := by rw [← hw2, q_up_at, pk_us]
  have f33 : w2 3 3 = 0 := by rw [← hw2, q_up_at, pk_un (by decide), q_up_at, pk_us]
  have hW2 : q_WB w2 wl wb := by
    unfold q_WB
    rw [f2 4 (by decide), f2 5 (by decide)]
    exact hW
  rw [zX3_split_0, e_firstFault hW1, qc_i, zX3_split_10, hw2, f34]
  have stop : x_nw wb wl = 0 → ∃ w', (∀ k, k ≠ 3 → k ≠ 6 → k ≠ 7 → w' k = w k) ∧ w' 3 4 = x_wF wb wl ∧ q_WD w' (x_nw wb wl) (x_L wb wl) (x_lt2 wb wl) ∧ qe iX3_split 31 [some (.ref 3), none, none, none, none] [] w2 = some (none, w') := by
    intro h0
    refine ⟨w2, fun k h _ _ => f2 k h, f34, ⟨by rw [h0, nI_0]; exact f33, by omega, fun k hk => by omega⟩, by rw [zX3_split_31]⟩
  by_cases h1 : x_wF wb wl = -1
  · rw [if_neg (fun q => q h1), zX3_split_21, hW2.1]
    by_cases h0 : wl = 0
    · rw [if_neg (fun q => q (by rw [h0]; rfl))]
      exact stop (by unfold x_nw; rw [if_neg (by omega)])
    · have hnw : x_nw wb wl = (x_ps wb wl).1 + 1 := by unfold x_nw; rw [if_pos ⟨h1, by omega⟩]
      obtain ⟨w3, a1, a2, a3⟩ := e_fill (r := 7) (n := 8) rfl (by omega) 0 w2
      rw [if_pos (fun q => h0 ((nI_eq (by omega) (by omega)).mp (q.trans nI_0.symm))), zX3_split_32, a3, qc_v, zX3_split_40]
      obtain ⟨b1, b2⟩ := x_wf_m1 wb wl (by omega) wl 0 (by omega) h1
      obtain ⟨w', r1, r2, r3, r4, r5⟩ := e_splitLoop (fun j hj => b1 j (Nat.zero_le _) hj) wl 0 w3 none none (by unfold q_WB; rw [a1 4 (by decide), a1 5 (by decide)]; exact hW2) (by omega) (x_good0 wb) (fun k hk => a2 k hk) (fun k m hm => absurd hm (Nat.not_lt_zero _))
      refine ⟨w', fun k c1 c2 c3 => (r1 k c1 c2 c3).trans ((a1 k c3).trans (f2 k c1)), ?_, ⟨?_, wo.1, ?_⟩, r5⟩
      · rw [r2, pk_un (by decide), a1 3 (by decide)]; exact f34
      · rw [r2, pk_us, hnw]
      · intro k hk
        obtain ⟨c1, c2, c3⟩ := wo.2 k hk
        refine ⟨r3 k (by have := wo.1; omega), c1, c2, fun i hi => ⟨r4 k i hi, c3 i hi⟩⟩
  · rw [if_pos h1]
    exact stop (by unfold x_nw; rw [if_neg (fun q => h1 q.1)])
end W41
