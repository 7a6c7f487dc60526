/-! the reference reads its texts -/
def q_MT (w : qW) (pl : Nat) (pb : Nat → Nat) (wl : Nat) (wb : Nat → Nat) : Prop := w 29 0 = nI pl ∧ pl ≤ 24 ∧ w 29 1 = nI wl ∧ wl ≤ 60 ∧ (∀ j, j < pl → w 30 j = nI (pb j) ∧ pb j ≤ 255) ∧ (∀ j, j < wl → w 30 (60 + j) = nI (wb j) ∧ wb j ≤ 255)
theorem q_MT_c {w w' : qW} {pl : Nat} {pb : Nat → Nat} {wl : Nat} {wb : Nat → Nat} (h1 : w' 29 = w 29) (h2 : w' 30 = w 30) (h : q_MT w pl pb wl wb) : q_MT w' pl pb wl wb := by unfold q_MT; rw [h1, h2]; exact h
def x_la (b : Nat → Nat) (N k : Nat) : Int32 := if k < N ∧ x_le (b k) then nI (b k - 97) else -1
theorem m_la_all : ∀ b : Fin 256, (0 ≤ nI b.val - 97 ∧ nI b.val - 97 ≤ 9) ↔ x_le b.val := by decide +kernel
theorem q_lit60 (k i : Nat) : 60 * nI k + nI i = nI (60 * k + i) := by rw [show (60 : Int32) = nI 60 from rfl, pk_mul, nI_add]
theorem m_letterAt {w : qW} {b : Nat → Nat} {t N k : Nat} (ht : t < 2) (hl : w 29 t = nI N) (hN : N ≤ 60) (hb : k < N → w 30 (60 * t + k) = nI (b k) ∧ b k ≤ 255) (hk : k ≤ 60) : qe iX5_letterAt 0 [some (.ref 27), some (.int (nI t)), some (.int (nI k)), none] [] w = some (some (.int (x_la b N k)), w) := by
  rw [zX5_letterAt_0, if_neg (c_ok ht (by omega)), nI_clamp (by omega), hl, zX5_letterAt_7]
  unfold x_la
  by_cases h : k < N
  · obtain ⟨h1, h2⟩ := hb h
    have key := m_la_all ⟨b k, by omega⟩
    dsimp only at key
    rw [if_neg (nI_ge h (by omega)), zX5_letterAt_10, q_lit60, if_neg (c_ok (by omega) (by omega)), nI_clamp (by omega), h1, zX5_letterAt_21, zX5_letterAt_28, m_in, qc_i, zX5_letterAt_36]
    by_cases h3 : x_le (b k)
    · rw [decide_eq_true (key.mpr h3), q_bo_t, if_neg (by decide), zX5_letterAt_39, zX5_letterAt_44, if_pos ⟨h, h3⟩, show (97 : Int32) = nI 97 from rfl, pk_sub h3.1]
    · rw [decide_eq_false (fun q => h3 (key.mp q)), q_bo_f, if_pos rfl, zX5_letterAt_43, zX5_letterAt_44, if_neg (fun q => h3 q.2)]
  · rw [if_pos (nI_le (by omega) (by omega)), zX5_letterAt_27, zX5_letterAt_28, m_in, qc_i, zX5_letterAt_36, decide_eq_false (by decide), q_bo_f, if_pos rfl, zX5_letterAt_43, zX5_letterAt_44, if_neg (fun q => h q.1)]
theorem m_letterAt0 {w : qW} {pl wl k : Nat} {pb wb : Nat → Nat} (hT : q_MT w pl pb wl wb) (hk : k ≤ 60) : qe iX5_letterAt 0 [some (.ref 27), some (.int 0), some (.int (nI k)), none] [] w = some (some (.int (x_la pb pl k)), w) := by
  have hp := hT.2.1
  have := m_letterAt (w := w) (b := pb) (t := 0) (N := pl) (k := k) (by omega) hT.1 (by omega) (fun h => by rw [Nat.mul_zero, Nat.zero_add]; exact hT.2.2.2.2.1 k h) hk
  rw [nI_0] at this
  exact this
theorem m_letterAt1 {w : qW} {pl wl k : Nat} {pb wb : Nat → Nat} (hT : q_MT w pl pb wl wb) (hk : k ≤ 60) : qe iX5_letterAt 0 [some (.ref 27), some (.int 1), some (.int (nI k)), none] [] w = some (some (.int (x_la wb wl k)), w) := by
  have := m_letterAt (w := w) (b := wb) (t := 1) (N := wl) (k := k) (by omega) hT.2.2.1 hT.2.2.2.1 (fun h => by rw [Nat.mul_one]; exact hT.2.2.2.2.2 k h) hk
  exact this
def x_postP (pb : Nat → Nat) (pl : Nat) (res : Int32) (w w' : qW) : Prop := (∀ k, k ≠ 27 → k ≠ 31 → w' k = w k) ∧ (∀ j, j ≠ 3 → w' 27 j = w 27 j) ∧ (if res = -1 then w' 27 3 = nI pl ∧ ∀ j, j < pl → w' 31 j = nI (x_pg pb j) else w' 27 3 = 0)
section M42
variable {pb wb : Nat → Nat} {pl wl : Nat}
theorem m_pageLoop : ∀ (n i : Nat) (w : qW) (u : Option Value), q_MT w pl pb wl wb → i + n = pl → w 27 3 = 0 → (∀ j, j < i → w 31 j = nI (x_pg pb j)) → ∃ w', x_postP pb pl (q_fq (x_pp pb) n i) w w' ∧ qe iX5_readsPage 7 [some (.ref 27), some (.int (nI i)), u] [] w = some (some (.int (q_fq (x_pp pb) n i)), w') := by
  intro n
  induction n with
  | zero =>
    intro i w u hT hi h3 h31
    have hp := hT.2.1
    have : i = pl := by omega
    subst this
    refine ⟨q_up w 27 3 (nI i), ⟨fun k h1 h2 => q_up_ne _ _ _ h1, fun j hj => by rw [q_up_at, pk_un hj], ?_⟩, ?_⟩
    · rw [q_fq, if_pos rfl]
      refine ⟨by rw [q_up_at, pk_us], fun j hj => by rw [q_up_ne _ _ _ (by decide)]; exact h31 j hj⟩
    · rw [zX5_readsPage_7, if_neg (by decide), show (0 : Int32).toNatClampNeg = 0 from rfl, hT.1, zX5_readsPage_14, if_pos (Int32.le_refl _), zX5_readsPage_77, if_neg (by decide), show (0 : Int32).toNatClampNeg = 0 from rfl, hT.1, zX5_readsPage_84]
      rfl
  | succ n ih =>
    intro i w u hT hi h3 h31
    have hp := hT.2.1
    obtain ⟨b1, b2⟩ := hT.2.2.2.2.1 i (by omega)
    rw [zX5_readsPage_7, if_neg (by decide), show (0 : Int32).toNatClampNeg = 0 from rfl, hT.1, zX5_readsPage_14, if_neg (nI_ge (by omega) (by omega)), zX5_readsPage_17, if_neg (c_ok (by omega) (by omega)), nI_clamp (by omega), b1, zX5_readsPage_23]
    have go : ∀ (u2 : Int32), x_pp pb i = false → ∃ w', x_postP pb pl (q_fq (x_pp pb) (n + 1) i) w w' ∧ qe iX5_readsPage 71 [some (.ref 27), some (.int (nI i)), some (.int u2)] [] (q_up w 31 i (nI (x_pg pb i))) = some (some (.int (q_fq (x_pp pb) (n + 1) i)), w') := by
      intro u2 h
      have e31 : ∀ k, k ≠ 31 → (q_up w 31 i (nI (x_pg pb i))) k = w k := fun k hk => q_up_ne w _ _ hk
      obtain ⟨w', ⟨r1, r2, r3⟩, r4⟩ := ih (i + 1) (q_up w 31 i (nI (x_pg pb i))) (some (.int u2)) (q_MT_c (e31 29 (by decide)) (e31 30 (by decide)) hT) (by omega) (by rw [e31 27 (by decide)]; exact h3) (by
        intro j hj
        rw [q_up_at]
        by_cases e : j = i
        · subst e; rw [pk_us]
        · rw [pk_un e]; exact h31 j (by omega))
      rw [q_fq, if_neg (show ¬ x_pp pb i = true by rw [h]; exact Bool.false_ne_true)]
      refine ⟨w', ⟨fun k h1 h2 => (r1 k h1 h2).trans (e31 k h2), fun j hj => by rw [r2 j hj, e31 27 (by decide)], r3⟩, ?_⟩
      rw [zX5_readsPage_71, nI_1]
      exact r4
    by_cases h46 : pb i = 46
    · have hpp : x_pp pb i = false := decide_eq_false (show ¬ ¬ (pb i = 46 ∨ x_le (pb i)) from fun q => q (Or.inl h46))
      have hpg : x_pg pb i = 10 := by unfold x_pg; rw [if_neg (by unfold x_le; omega)]
      have := go 1 hpp
      rw [hpg] at this
      rw [if_neg (fun q => q (by rw [h46]; rfl)), zX5_readsPage_28, zX5_readsPage_33, if_pos (by decide), zX5_readsPage_50, if_neg (by decide), zX5_readsPage_59, zX5_readsPage_70, if_neg (c_ok (by omega) (by omega)), nI_clamp (by omega)]
      exact this
    · rw [if_pos (show ¬ nI (pb i) = 46 from fun q => h46 ((nI_eq (b := 46) (by omega) (by omega)).mp q)), zX5_readsPage_32, zX5_readsPage_33, if_neg (fun q => q rfl), zX5_readsPage_38, m_letterAt0 hT (by omega), qc_i, zX5_readsPage_44]
      by_cases hl : x_le (pb i)
      · have hpp : x_pp pb i = false := decide_eq_false (show ¬ ¬ (pb i = 46 ∨ x_le (pb i)) from fun q => q (Or.inr hl))
        have hpg : x_pg pb i = pb i - 97 := by unfold x_pg; rw [if_pos hl]
        have hla : x_la pb pl i = nI (pb i - 97) := by unfold x_la; rw [if_pos ⟨by omega, hl⟩]
        have := go 0 hpp
        rw [hpg] at this
        rw [hla, if_pos (q_m1 (by omega)), zX5_readsPage_50, if_pos rfl, zX5_readsPage_64, m_letterAt0 hT (by omega), qc_i, hla, zX5_readsPage_70, if_neg (c_ok (by omega) (by omega)), nI_clamp (by omega)]
        exact this
      · have hpp : x_pp pb i = true := decide_eq_true (show ¬ (pb i = 46 ∨ x_le (pb i)) from fun q => q.elim h46 hl)
        have hla : x_la pb pl i = -1 := by unfold x_la; rw [if_neg (fun q => hl q.2)]
        rw [hla, if_neg (fun q => q rfl), zX5_readsPage_48, q_fq, if_pos hpp]
        exact ⟨w, ⟨fun _ _ _ => rfl, fun _ _ => rfl, by rw [if_neg (q_m1 (by omega))]; exact h3⟩, rfl⟩
theorem m_readsPage {w : qW} (hT : q_MT w pl pb wl wb) : ∃ w', (∀ k, k ≠ 27 → k ≠ 31 → w' k = w k) ∧ (∀ j, j ≠ 3 → w' 27 j = w 27 j) ∧ q_MP w' (x_pc pb pl) (x_pg pb) ∧ qe iX5_readsPage 0 [some (.ref 27), none, none] [] w = some (some (.int (x_pf pb pl)), w') := by
  have hp := hT.2.1
  have e0 : ∀ k, k ≠ 27 → (q_up w 27 3 0) k = w k := fun k hk => q_up_ne w _ _ hk
  obtain ⟨w', ⟨r1, r2, r3⟩, r4⟩ := m_pageLoop pl 0 (q_up w 27 3 0) none (q_MT_c (e0 29 (by decide)) (e0 30 (by decide)) hT) (by omega) (by rw [q_up_at, pk_us]) (fun j hj => by omega)
  refine ⟨w', fun k h1 h2 => (r1 k h1 h2).trans (e0 k h1), fun j hj => by rw [r2 j hj, q_up_at, pk_un hj], ?_, ?_⟩
  · have hle := x_pc_le pb pl
    unfold q_MP
    by_cases h : x_pf pb pl = -1
    · have hc : x_pc pb pl = pl := by unfold x_pc; rw [if_pos h]
      rw [if_pos (show q_fq (x_pp pb) pl 0 = -1 from h)] at r3
      rw [hc]
      exact ⟨r3.1, hp, fun j hj => ⟨r3.2 j hj, x_pg_le pb j⟩⟩
    · have hc : x_pc pb pl = 0 := by unfold x_pc; rw [if_neg h]
      rw [if_neg (show ¬ q_fq (x_pp pb) pl 0 = -1 from h)] at r3
      rw [hc]
      exact ⟨r3, by omega, fun j hj => by omega⟩
  · rw [nI_0] at r4
    rw [zX5_readsPage_0]
    exact r4
def x_post (b : Nat → Nat) (wl : Nat) (res : Int32) (w w' : qW) : Prop := (∀ k, k ≠ 27 → k ≠ 32 → k ≠ 33 → w' k = w k) ∧ (∀ j, j ≠ 5 → w' 27 j = w 27 j) ∧ (if res = -1 ∧ 0 < wl then w' 27 5 = nI ((x_ps b wl).1 + 1) ∧ (∀ k, k < (x_ps b wl).1 + 1 → w' 33 k = nI (x_L b wl k)) ∧ (∀ k m, m < x_L b wl k → w' 32 (6 * k + m) = nI (x_TT b wl (6 * k + m))) else w' 27 5 = 0)
theorem x_post_c {b : Nat → Nat} {wl : Nat} {res : Int32} {w w1 w' : qW} (h1 : ∀ k, k ≠ 32 → k ≠ 33 → w1 k = w k) (h : x_post b wl res w1 w') : x_post b wl res w w' :=
  ⟨fun k a1 a2 a3 => (h.1 k a1 a2 a3).trans (h1 k a2 a3), fun j hj => by rw [h.2.1 j hj, h1 27 (by decide) (by decide)], h.2.2⟩
theorem m_wordLoops (hwl : wl ≤ 60) : ∀ n : Nat,
    (∀ (i : Nat) (w : qW), i + n = wl → x_good wb i → (x_ps wb i).1 < 8 → (0 < (x_ps wb i).2 ∨ (i < wl ∧ x_le (wb i))) → q_MT w pl pb wl wb → w 27 5 = 0 → (∀ k, k < (x_ps wb i).1 → w 33 k = nI (x_L wb i k)) → (∀ k m, m < x_L wb i k → w 32 (6 * k + m) = nI (x_TT wb i (6 * k + m))) → ∃ w', x_post wb wl (x_wf wb wl n i) w w' ∧ qe iX5_readsWords 43 [some (.ref 27), some (.int (nI (x_ps wb i).1)), some (.int (nI i)), some (.int (nI (x_ps wb i).2))] [] w = some (some (.int (x_wf wb wl n i)), w')) ∧
    (∀ (i : Nat) (w : qW) (u : Option Value), i + n = wl → x_good wb i → (x_ps wb i).2 = 0 → q_MT w pl pb wl wb → w 27 5 = 0 → (∀ k, k < (x_ps wb i).1 → w 33 k = nI (x_L wb i k)) → (∀ k m, m < x_L wb i k → w 32 (6 * k + m) = nI (x_TT wb i (6 * k + m))) → ∃ w', x_post wb wl (x_wf wb wl n i) w w' ∧ qe iX5_readsWords 9 [some (.ref 27), some (.int (nI (x_ps wb i).1)), some (.int (nI i)), u] [] w = some (some (.int (x_wf wb wl n i)), w')) := by
  intro n
  induction n with
  | zero =>
    have stop : ∀ (res : Int32) (w : qW), w 27 5 = 0 → ¬ (res = -1 ∧ 0 < wl) → x_post wb wl res w w := fun res w h0 h => ⟨fun _ _ _ _ => rfl, fun _ _ => rfl, by rw [if_neg h]; exact h0⟩
    constructor
    · intro i w hi hg h8 hlet hT h5 h33 h32
      have : i = wl := by omega
      subst this
      obtain ⟨g1, g2, g3, g4, g5, g6, g7⟩ := id hg
      have hm : 0 < (x_ps wb i).2 := hlet.elim id (fun q => absurd q.1 (Nat.lt_irrefl _))
      have hi0 : 0 < i := by
        rcases Nat.eq_zero_or_pos i with h | h
        · rw [h] at hm; exact absurd hm (Nat.lt_irrefl _)
        · exact h
      have hr : x_wf wb i 0 i = -1 := by rw [x_wf, if_neg (fun q => by omega)]
      rw [hr]
      refine ⟨q_up (q_up w 33 (x_ps wb i).1 (nI (x_ps wb i).2)) 27 5 (nI ((x_ps wb i).1 + 1)), ⟨fun k a1 a2 a3 => by rw [q_up_ne _ _ _ a1, q_up_ne _ _ _ a3], fun j hj => by rw [q_up_at, pk_un hj, q_up_ne _ _ _ (by decide)], ?_⟩, ?_⟩
      · rw [if_pos ⟨rfl, hi0⟩]
        refine ⟨by rw [q_up_at, pk_us], fun k hk => ?_, fun k m hm2 => ?_⟩
        · rw [q_up_ne _ _ _ (by decide), q_up_at]
          by_cases e : k = (x_ps wb i).1
          · rw [e, pk_us, g4]
          · rw [pk_un e]; exact h33 k (by omega)
        · rw [q_up_ne _ _ _ (by decide), q_up_ne _ _ _ (by decide)]
          exact h32 k m hm2
      · rw [zX5_readsWords_43, m_letterAt1 hT (by omega), qc_i, zX5_readsWords_49, show x_la wb i i = -1 by unfold x_la; rw [if_neg (fun q => absurd q.1 (Nat.lt_irrefl _))], if_pos rfl, zX5_readsWords_87, if_neg (c_ok (by omega) (by omega)), nI_clamp (by omega), zX5_readsWords_94, if_neg (by decide), show (1 : Int32).toNatClampNeg = 1 from rfl, q_up_ne _ _ _ (show (29 : Nat) ≠ 33 by decide), hT.2.2.1, zX5_readsWords_104, if_neg (fun q => q rfl), zX5_readsWords_107, nI_1]
    · intro i w u hi hg h0 hT h5 h33 h32
      have : i = wl := by omega
      subst this
      obtain ⟨g1, g2, g3, g4, g5, g6, g7⟩ := id hg
      rw [zX5_readsWords_9, if_neg (by decide), show (1 : Int32).toNatClampNeg = 1 from rfl, hT.2.2.1, zX5_readsWords_16, if_neg (nI_nlt (Nat.le_refl _) (by omega)), zX5_readsWords_19]
      by_cases hi0 : i = 0
      · rw [show x_wf wb i 0 i = -1 by rw [x_wf, if_neg (fun q => by omega)], if_pos (by rw [hi0]; decide), zX5_readsWords_136]
        exact ⟨w, stop _ _ h5 (by omega), rfl⟩
      · rw [show x_wf wb i 0 i = nI i by rw [x_wf, if_pos ⟨by omega, h0⟩], if_neg (nI_nle (by omega) (by omega)), zX5_readsWords_23]
        have fin : ∃ w', x_post wb i (nI i) w w' ∧ qe iX5_readsWords 39 [some (.ref 27), some (.int (nI (x_ps wb i).1)), some (.int (nI i)), u] [] w = some (some (.int (nI i)), w') := ⟨w, stop _ _ h5 (fun q => q_m1 (by omega) q.1), by rw [zX5_readsWords_39]⟩
        by_cases h8 : nI (x_ps wb i).1 = 8
        · rw [if_pos h8]; exact fin
        · rw [if_neg h8, zX5_readsWords_29, m_letterAt1 hT (by omega), qc_i, zX5_readsWords_35, show x_la wb i i = -1 by unfold x_la; rw [if_neg (fun q => absurd q.1 (Nat.lt_irrefl _))], if_neg (fun q => q rfl)]
          exact fin
  | succ n ih =>
    obtain ⟨ihB, ihA⟩ := ih
    have stop : ∀ (i : Nat) (w : qW), i < 2 ^ 31 → w 27 5 = 0 → x_post wb wl (nI i) w w := fun i w hi h0 => ⟨fun _ _ _ _ => rfl, fun _ _ => rfl, by rw [if_neg (fun q => q_m1 hi q.1)]; exact h0⟩
    have hB : ∀ (i : Nat) (w : qW), i + (n + 1) = wl → x_good wb i → (x_ps wb i).1 < 8 → (0 < (x_ps wb i).2 ∨ (i < wl ∧ x_le (wb i))) → q_MT w pl pb wl wb → w 27 5 = 0 → (∀ k, k < (x_ps wb i).1 → w 33 k = nI (x_L wb i k)) → (∀ k m, m < x_L wb i k → w 32 (6 * k + m) = nI (x_TT wb i (6 * k + m))) → ∃ w', x_post wb wl (x_wf wb wl (n + 1) i) w w' ∧ qe iX5_readsWords 43 [some (.ref 27), some (.int (nI (x_ps wb i).1)), some (.int (nI i)), some (.int (nI (x_ps wb i).2))] [] w = some (some (.int (x_wf wb wl (n + 1) i)), w') := by
      intro i w hi hg h8 hlet hT h5 h33 h32
      obtain ⟨g1, g2, g3, g4, g5, g6, g7⟩ := id hg
      have hb := hT.2.2.2.2.2 i (by omega)
      rw [zX5_readsWords_43, m_letterAt1 hT (by omega), qc_i, zX5_readsWords_49]
      by_cases hl : x_le (wb i)
      · have hla : x_la wb wl i = nI (wb i - 97) := by unfold x_la; rw [if_pos ⟨by omega, hl⟩]
        rw [hla, if_neg (q_m1 (by omega)), zX5_readsWords_53]
        by_cases h6 : (x_ps wb i).2 = 6
        · rw [if_neg (fun q => q (by rw [h6]; rfl)), zX5_readsWords_59, x_wf, if_neg (x_ok1_f (fun _ => ⟨fun _ => by omega, fun q => by unfold x_le at hl; omega⟩))]
          exact ⟨w, stop i w (by omega) h5, rfl⟩
        · have ho := x_ok1_t h8 (Or.inl ⟨hl, show (x_ps wb i).2 < 6 by omega⟩)
          have hg1 := x_good1 hg ho
          rw [if_pos (show ¬ nI (x_ps wb i).2 = 6 from fun q => h6 ((nI_eq (b := 6) (by omega) (by omega)).mp q)), zX5_readsWords_61, m_letterAt1 hT (by omega), qc_i, hla, zX5_readsWords_77, q_lit6, if_neg (c_ok (by omega) (by omega)), nI_clamp (by omega), zX5_readsWords_78, nI_1, nI_1, x_wf, if_pos ho]
          have e32 : ∀ k, k ≠ 32 → (q_up w 32 (6 * (x_ps wb i).1 + (x_ps wb i).2) (nI (wb i - 97))) k = w k := fun k hk => q_up_ne w _ _ hk
          obtain ⟨w', r1, r2⟩ := ihB (i + 1) (q_up w 32 (6 * (x_ps wb i).1 + (x_ps wb i).2) (nI (wb i - 97))) (by omega) hg1 (by rw [x_ps_let hl]; exact h8) (Or.inl (by rw [x_ps_let hl]; exact Nat.succ_pos _)) (q_MT_c (e32 29 (by decide)) (e32 30 (by decide)) hT) (by rw [e32 27 (by decide)]; exact h5) (by
            intro k hk
            rw [x_ps_let hl] at hk
            dsimp only at hk
            rw [e32 33 (by decide), x_L_let hl]
            dsimp only
            rw [if_neg (by omega)]
            exact h33 k hk) (by
            intro k m hm
            rw [x_L_let hl] at hm
            dsimp only at hm
            rw [q_up_at, x_TT_let hl]
            dsimp only
            by_cases e : 6 * k + m = 6 * (x_ps wb i).1 + (x_ps wb i).2
            · rw [if_pos e, e, pk_us]
            · rw [if_neg e, pk_un e]
              apply h32
              by_cases ek : k = (x_ps wb i).1
              · rw [if_pos ek] at hm
                rw [ek, g4]
                rw [ek] at e
                omega
              · rw [if_neg ek] at hm
                exact hm)
          rw [x_ps_let hl] at r2
          exact ⟨w', x_post_c (fun k a1 _ => e32 k a1) r1, r2⟩
      · have hm : 0 < (x_ps wb i).2 := hlet.elim id (fun q => absurd q.2 hl)
        have e33 : ∀ k, k ≠ 33 → (q_up w 33 (x_ps wb i).1 (nI (x_ps wb i).2)) k = w k := fun k hk => q_up_ne w _ _ hk
        rw [show x_la wb wl i = -1 by unfold x_la; rw [if_neg (fun q => hl q.2)], if_pos rfl, zX5_readsWords_87, if_neg (c_ok (by omega) (by omega)), nI_clamp (by omega), zX5_readsWords_94, if_neg (by decide), show (1 : Int32).toNatClampNeg = 1 from rfl, e33 29 (by decide), hT.2.2.1, zX5_readsWords_104, if_pos (fun q => by have := (nI_eq (by omega) (by omega)).mp q; omega), zX5_readsWords_114, show (60 : Int32) = nI 60 from rfl, nI_add, if_neg (c_ok (by omega) (by omega)), nI_clamp (by omega), e33 30 (by decide), hb.1, zX5_readsWords_123]
        by_cases h59 : wb i = 59
        · have ho := x_ok1_t h8 (Or.inr ⟨h59, hm⟩)
          have hg1 := x_good1 hg ho
          rw [if_pos (by rw [h59]; rfl), zX5_readsWords_130, nI_1, nI_1, x_wf, if_pos ho]
          obtain ⟨w', r1, r2⟩ := ihA (i + 1) (q_up w 33 (x_ps wb i).1 (nI (x_ps wb i).2)) (some (.int (nI (x_ps wb i).2))) (by omega) hg1 (by rw [x_ps_semi h59]) (q_MT_c (e33 29 (by decide)) (e33 30 (by decide)) hT) (by rw [e33 27 (by decide)]; exact h5) (by
            intro k hk
            rw [x_ps_semi h59] at hk
            dsimp only at hk
            rw [q_up_at, x_L_semi h59]
            by_cases e : k = (x_ps wb i).1
            · rw [e, pk_us, g4]
            · rw [pk_un e]; exact h33 k (by omega)) (by
            intro k m hm2
            rw [x_L_semi h59] at hm2
            rw [e33 32 (by decide), x_TT_semi h59]
            exact h32 k m hm2)
          rw [x_ps_semi h59] at r2
          exact ⟨w', x_post_c (fun k _ a2 => e33 k a2) r1, r2⟩
        · rw [if_neg (show ¬ nI (wb i) = 59 from fun q => h59 ((nI_eq (b := 59) (by omega) (by omega)).mp q)), zX5_readsWords_128, x_wf, if_neg (x_ok1_f (fun _ => ⟨fun q => absurd q hl, fun q => absurd q h59⟩))]
          exact ⟨_, x_post_c (fun k _ a2 => e33 k a2) (stop i _ (by omega) (by rw [e33 27 (by decide)]; exact h5)), rfl⟩
    refine ⟨hB, ?_⟩
    intro i w u hi hg h0 hT h5 h33 h32
    obtain ⟨g1, g2, g3, g4, g5, g6, g7⟩ := id hg
    have fin : (¬ x_ok1 wb i = true) → ∃ w', x_post wb wl (x_wf wb wl (n + 1) i) w w' ∧ qe iX5_readsWords 39 [some (.ref 27), some (.int (nI (x_ps wb i).1)), some (.int (nI i)), u] [] w = some (some (.int (x_wf wb wl (n + 1) i)), w') := by
      intro h
      rw [x_wf, if_neg h]
      exact ⟨w, stop i w (by omega) h5, by rw [zX5_readsWords_39]⟩
    rw [zX5_readsWords_9, if_neg (by decide), show (1 : Int32).toNatClampNeg = 1 from rfl, hT.2.2.1, zX5_readsWords_16, if_pos (nI_lt (by omega) (by omega)), zX5_readsWords_23]
    by_cases h8 : (x_ps wb i).1 = 8
    · rw [if_pos (by rw [h8]; rfl)]
      exact fin (x_ok1_f (fun q => by omega))
    · rw [if_neg (show ¬ nI (x_ps wb i).1 = 8 from fun q => h8 ((nI_eq (b := 8) (by omega) (by omega)).mp q)), zX5_readsWords_29, m_letterAt1 hT (by omega), qc_i, zX5_readsWords_35]
      by_cases hl : x_le (wb i)
      · have hb := hT.2.2.2.2.2 i (by omega)
        rw [show x_la wb wl i = nI (wb i - 97) by unfold x_la; rw [if_pos ⟨by omega, hl⟩], if_pos (q_m1 (by omega)), zX5_readsWords_41]
        have := hB i w hi hg (by omega) (Or.inr ⟨by omega, hl⟩) hT h5 h33 h32
        rw [h0, nI_0] at this
        exact this
      · rw [show x_la wb wl i = -1 by unfold x_la; rw [if_neg (fun q => hl q.2)], if_neg (fun q => q rfl)]
        exact fin (x_ok1_f (fun _ => ⟨fun q => absurd q hl, fun _ => h0⟩))
theorem m_readsWords {w : qW} (hT : q_MT w pl pb wl wb) : ∃ w', (∀ k, k ≠ 27 → k ≠ 32 → k ≠ 33 → w' k = w k) ∧ (∀ j, j ≠ 5 → w' 27 j = w 27 j) ∧ q_MW w' (x_nw wb wl) (x_L wb wl) (x_lt2 wb wl) ∧ qe iX5_readsWords 0 [some (.ref 27), none, none, none] [] w = some (some (.int (x_wF wb wl)), w') := by
  have hwl := hT.2.2.2.1
  have wo := x_words (b := wb) (wl := wl) (by omega)
  have e0 : ∀ k, k ≠ 27 → (q_up w 27 5 0) k = w k := fun k hk => q_up_ne w _ _ hk
  obtain ⟨w', r1, r2⟩ := (m_wordLoops (pb := pb) (pl := pl) (wb := wb) hwl wl).2 0 (q_up w 27 5 0) none (by omega) (x_good0 wb) rfl (q_MT_c (e0 29 (by decide)) (e0 30 (by decide)) hT) (by rw [q_up_at, pk_us]) (fun k hk => absurd hk (Nat.not_lt_zero _)) (fun k m hm => absurd hm (Nat.not_lt_zero _))
  obtain ⟨p1, p2, p3⟩ := r1
  refine ⟨w', fun k a1 a2 a3 => (p1 k a1 a2 a3).trans (e0 k a1), fun j hj => by rw [p2 j hj, q_up_at, pk_un hj], ?_, ?_⟩
  · unfold q_MW
    by_cases h : x_wF wb wl = -1 ∧ 0 < wl
    · have hnw : x_nw wb wl = (x_ps wb wl).1 + 1 := by unfold x_nw; rw [if_pos h]
      rw [if_pos (show x_wf wb wl wl 0 = -1 ∧ 0 < wl from h)] at p3
      obtain ⟨c1, c2, c3⟩ := p3
      refine ⟨by rw [hnw]; exact c1, wo.1, fun k hk => ?_⟩
      obtain ⟨d1, d2, d3⟩ := wo.2 k hk
      exact ⟨c2 k (by omega), d1, d2, fun i hi => ⟨c3 k i hi, d3 i hi⟩⟩
    · have hnw : x_nw wb wl = 0 := by unfold x_nw; rw [if_neg h]
      rw [if_neg (show ¬ (x_wf wb wl wl 0 = -1 ∧ 0 < wl) from h)] at p3
      exact ⟨by rw [hnw]; exact p3, wo.1, fun k hk => by omega⟩
  · rw [zX5_readsWords_0]
    exact r2
/-- what is read, and where it fails -/
theorem m_faultOf {w : qW} (hT : q_MT w pl pb wl wb) (t : Int32) : ∃ w', (∀ k, k ≠ 27 → k ≠ 31 → k ≠ 32 → k ≠ 33 → w' k = w k) ∧ (∀ j, j ≠ 3 → j ≠ 5 → w' 27 j = w 27 j) ∧ q_MP w' (x_pc pb pl) (x_pg pb) ∧ q_MW w' (x_nw wb wl) (x_L wb wl) (x_lt2 wb wl) ∧ qe iX5_faultOf 0 [some (.ref 27), some (.int t), none, none] [] w = some (some (.int (if t = 0 then x_pf pb pl else x_wF wb wl)), w') := by
  obtain ⟨w1, a1, a2, a3, a4⟩ := m_readsPage hT
  obtain ⟨w2, b1, b2, b3, b4⟩ := m_readsWords (q_MT_c (a1 29 (by decide) (by decide)) (a1 30 (by decide) (by decide)) hT)
  refine ⟨w2, fun k c1 c2 c3 c4 => (b1 k c1 c3 c4).trans (a1 k c1 c2), fun j c1 c2 => (b2 j c2).trans (a2 j c1), ?_, b3, ?_⟩
  · unfold q_MP
    rw [b2 3 (by decide), b1 31 (by decide) (by decide) (by decide)]
    exact a3
  · rw [zX5_faultOf_0, a4, qc_i, zX5_faultOf_4, b4, qc_i, zX5_faultOf_9]
    by_cases h : t = 0
    · rw [if_neg (fun q => q h), zX5_faultOf_14, zX5_faultOf_19, if_pos h]
    · rw [if_pos h, zX5_faultOf_18, zX5_faultOf_19, if_neg h]
theorem m_reads {w : qW} (hT : q_MT w pl pb wl wb) : ∃ w', (∀ k, k ≠ 27 → k ≠ 31 → k ≠ 32 → k ≠ 33 → w' k = w k) ∧ (∀ j, j ≠ 3 → j ≠ 5 → w' 27 j = w 27 j) ∧ q_MP w' (x_pc pb pl) (x_pg pb) ∧ q_MW w' (x_nw wb wl) (x_L wb wl) (x_lt2 wb wl) ∧ qe iX5_reads 0 [some (.ref 27), none] [] w = some (none, w') := by
  obtain ⟨w', a1, a2, a3, a4, a5⟩ := m_faultOf hT 0
  exact ⟨w', a1, a2, a3, a4, by rw [zX5_reads_0, a5, qc_i, zX5_reads_5]⟩
end M42
