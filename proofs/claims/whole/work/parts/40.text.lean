/-! the texts: what they tell -/
theorem e_fillLoop {r n : Nat} (hr : q_sA[r]? = some (.inl (0, n))) (hn : n < 2 ^ 31) (v : Int32) : ∀ (m i : Nat) (w : qW), i + m = n → (∀ j, j < i → w r j = v) → ∃ w', (∀ k, k ≠ r → w' k = w k) ∧ (∀ j, j < n → w' r j = v) ∧ qe iJ7_fill_53178 5 [some (.ref r), some (.int v), some (.int (nI i)), some (.int (Int32.ofNat n))] [] w = some (none, w') := by
  intro m
  induction m with
  | zero =>
    intro i w hi h
    have : i = n := by omega
    subst this
    exact ⟨w, fun _ _ => rfl, h, by rw [zJ7_fill_53178_5 hr, if_pos (show Int32.ofNat i ≤ nI i from Int32.le_refl _), zJ7_fill_53178_20 hr]⟩
  | succ m ih =>
    intro i w hi h
    obtain ⟨w', h1, h2, h3⟩ := ih (i + 1) (q_up w r i v) (by omega) (by
      intro j hj
      rw [q_up_at]
      by_cases e : j = i
      · subst e; rw [pk_us]
      · rw [pk_un e]; exact h j (by omega))
    refine ⟨w', fun k hk => (h1 k hk).trans (q_up_ne _ _ _ hk), h2, ?_⟩
    rw [zJ7_fill_53178_5 hr, if_neg (show ¬ Int32.ofNat n ≤ nI i from nI_ge (by omega) hn), zJ7_fill_53178_10 hr, if_neg (c_ok (by omega) hn), nI_clamp (by omega), zJ7_fill_53178_14 hr, nI_1]
    exact h3
theorem e_fill {r n : Nat} (hr : q_sA[r]? = some (.inl (0, n))) (hn : n < 2 ^ 31) (v : Int32) (w : qW) : ∃ w', (∀ k, k ≠ r → w' k = w k) ∧ (∀ j, j < n → w' r j = v) ∧ qe iJ7_fill_53178 0 [some (.ref r), some (.int v), none, none] [] w = some (none, w') := by
  obtain ⟨w', h1, h2, h3⟩ := e_fillLoop hr hn v n 0 w (by omega) (fun j hj => by omega)
  rw [nI_0] at h3
  exact ⟨w', h1, h2, by rw [zJ7_fill_53178_0 hr, h3]⟩
/-- a letter's byte -/
abbrev x_le (b : Nat) : Prop := 97 ≤ b ∧ b ≤ 106
def x_pg (pb : Nat → Nat) (k : Nat) : Nat := if x_le (pb k) then pb k - 97 else 10
theorem x_pg_le (pb : Nat → Nat) (k : Nat) : x_pg pb k ≤ 10 := by
  unfold x_pg
  split
  · rename_i h; have := h.2; omega
  · omega
theorem x_so_pg (sg pb : Nat → Nat) (k : Nat) : x_so sg (x_pg pb k) = q_PR sg pb k := by
  unfold x_so x_pg q_PR
  by_cases h : x_le (pb k)
  · have h2 := h
    unfold x_le at h2
    rw [if_pos h, if_pos h2, if_neg (by omega)]
  · rw [if_neg h, if_pos rfl, if_neg h]
/-- the first byte of a page that is not of one -/
def x_pp (pb : Nat → Nat) (i : Nat) : Bool := decide (¬ (pb i = 46 ∨ x_le (pb i)))
def x_pf (pb : Nat → Nat) (pl : Nat) : Int32 := q_fq (x_pp pb) pl 0
theorem q_fq_m1 (p : Nat → Bool) : ∀ n i, i + n < 2 ^ 31 → (q_fq p n i = -1 ↔ ∀ j, i ≤ j → j < i + n → p j = false) := by
  intro n
  induction n with
  | zero => intro i _; exact ⟨fun _ j h1 h2 => by omega, fun _ => rfl⟩
  | succ n ih =>
    intro i hi
    rw [q_fq]
    constructor
    · intro h j h1 h2
      cases hp : p i with
      | true => rw [hp, if_pos rfl] at h; exact absurd h (q_m1 (by omega))
      | false =>
        rw [hp, if_neg Bool.false_ne_true] at h
        by_cases e : j = i
        · rw [e]; exact hp
        · exact (ih (i + 1) (by omega)).mp h j (by omega) (by omega)
    · intro h
      rw [if_neg (by rw [h i (Nat.le_refl _) (by omega)]; exact Bool.false_ne_true)]
      exact (ih (i + 1) (by omega)).mpr (fun j h1 h2 => h j (by omega) (by omega))
def x_pc (pb : Nat → Nat) (pl : Nat) : Nat := if x_pf pb pl = -1 then pl else 0
theorem x_pc_le (pb : Nat → Nat) (pl : Nat) : x_pc pb pl ≤ pl := by unfold x_pc; split <;> omega
/-- the words: which word, how many letters of it, before a byte -/
def x_ps (b : Nat → Nat) : Nat → Nat × Nat
  | 0 => (0, 0)
  | i + 1 => if b i = 59 then ((x_ps b i).1 + 1, 0) else ((x_ps b i).1, (x_ps b i).2 + 1)
def x_ok1 (b : Nat → Nat) (i : Nat) : Bool := decide ((x_ps b i).1 < 8 ∧ ((x_le (b i) ∧ (x_ps b i).2 < 6) ∨ (b i = 59 ∧ 0 < (x_ps b i).2)))
def x_wf (b : Nat → Nat) (wl : Nat) : Nat → Nat → Int32
  | 0, _ => if 0 < wl ∧ (x_ps b wl).2 = 0 then nI wl else -1
  | n + 1, i => if x_ok1 b i = true then x_wf b wl n (i + 1) else nI i
/-- lengths and letters after some bytes -/
def x_L (b : Nat → Nat) : Nat → Nat → Nat
  | 0 => fun _ => 0
  | i + 1 => if b i = 59 then x_L b i else fun k => if k = (x_ps b i).1 then (x_ps b i).2 + 1 else x_L b i k
def x_TT (b : Nat → Nat) : Nat → Nat → Nat
  | 0 => fun _ => 0
  | i + 1 => if b i = 59 then x_TT b i else fun j => if j = 6 * (x_ps b i).1 + (x_ps b i).2 then b i - 97 else x_TT b i j
def x_good (b : Nat → Nat) (i : Nat) : Prop := (x_ps b i).1 ≤ 8 ∧ (x_ps b i).2 ≤ 6 ∧ (0 < (x_ps b i).2 → (x_ps b i).1 < 8) ∧ x_L b i (x_ps b i).1 = (x_ps b i).2 ∧ (∀ k, (x_ps b i).1 < k → x_L b i k = 0) ∧ (∀ k, k < (x_ps b i).1 → 1 ≤ x_L b i k ∧ x_L b i k ≤ 6) ∧ (∀ k m, m < x_L b i k → x_TT b i (6 * k + m) < 10)
theorem x_good0 (b : Nat → Nat) : x_good b 0 := ⟨Nat.zero_le _, Nat.zero_le _, fun h => absurd h (Nat.lt_irrefl _), rfl, fun _ _ => rfl, fun _ h => absurd h (Nat.not_lt_zero _), fun _ _ h => absurd h (Nat.not_lt_zero _)⟩
theorem x_ps_semi {b : Nat → Nat} {i : Nat} (h : b i = 59) : x_ps b (i + 1) = ((x_ps b i).1 + 1, 0) := by rw [x_ps, if_pos h]
theorem x_ps_let {b : Nat → Nat} {i : Nat} (h : x_le (b i)) : x_ps b (i + 1) = ((x_ps b i).1, (x_ps b i).2 + 1) := by
  rw [x_ps, if_neg (by unfold x_le at h; omega)]
theorem x_L_semi {b : Nat → Nat} {i : Nat} (h : b i = 59) : x_L b (i + 1) = x_L b i := by rw [x_L, if_pos h]
theorem x_L_let {b : Nat → Nat} {i : Nat} (h : x_le (b i)) : x_L b (i + 1) = fun k => if k = (x_ps b i).1 then (x_ps b i).2 + 1 else x_L b i k := by
  rw [x_L, if_neg (by unfold x_le at h; omega)]
theorem x_TT_semi {b : Nat → Nat} {i : Nat} (h : b i = 59) : x_TT b (i + 1) = x_TT b i := by rw [x_TT, if_pos h]
theorem x_TT_let {b : Nat → Nat} {i : Nat} (h : x_le (b i)) : x_TT b (i + 1) = fun j => if j = 6 * (x_ps b i).1 + (x_ps b i).2 then b i - 97 else x_TT b i j := by
  rw [x_TT, if_neg (by unfold x_le at h; omega)]
theorem x_good1 {b : Nat → Nat} {i : Nat} (hg : x_good b i) (ho : x_ok1 b i = true) : x_good b (i + 1) := by
  obtain ⟨g1, g2, g3, g4, g5, g6, g7⟩ := hg
  obtain ⟨o1, o2⟩ := of_decide_eq_true ho
  unfold x_good
  rcases o2 with ⟨h, h6⟩ | ⟨h, h6⟩
  · rw [x_ps_let h, x_L_let h, x_TT_let h]
    dsimp only
    refine ⟨g1, by omega, fun _ => o1, if_pos rfl, ?_, ?_, ?_⟩
    · intro k hk; rw [if_neg (by omega)]; exact g5 k hk
    · intro k hk; rw [if_neg (by omega)]; exact g6 k hk
    · intro k m hm
      unfold x_le at h
      by_cases hk : k = (x_ps b i).1
      · rw [if_pos hk] at hm
        by_cases e : 6 * k + m = 6 * (x_ps b i).1 + (x_ps b i).2
        · rw [if_pos e]; omega
        · rw [if_neg e]
          apply g7
          rw [hk, g4]
          rw [hk] at e
          omega
      · rw [if_neg hk] at hm
        split
        · omega
        · exact g7 k m hm
  · rw [x_ps_semi h, x_L_semi h, x_TT_semi h]
    dsimp only
    refine ⟨by omega, by omega, fun q => by omega, g5 _ (by omega), fun k hk => g5 k (by omega), ?_, g7⟩
    intro k hk
    by_cases e : k = (x_ps b i).1
    · rw [e, g4]; omega
    · exact g6 k (by omega)
theorem x_wf_m1 (b : Nat → Nat) (wl : Nat) (hwl : wl < 2 ^ 31) : ∀ n i, i + n = wl → x_wf b wl n i = -1 → (∀ j, i ≤ j → j < wl → x_ok1 b j = true) ∧ (0 < wl → 0 < (x_ps b wl).2) := by
  intro n
  induction n with
  | zero =>
    intro i hi h
    refine ⟨fun j h1 h2 => by omega, fun h1 => ?_⟩
    rw [x_wf] at h
    split at h
    · exact absurd h (q_m1 (by omega))
    · rename_i h2; omega
  | succ n ih =>
    intro i hi h
    rw [x_wf] at h
    split at h
    · rename_i h1
      obtain ⟨h2, h3⟩ := ih (i + 1) (by omega) h
      refine ⟨fun j g1 g2 => ?_, h3⟩
      by_cases e : j = i
      · rw [e]; exact h1
      · exact h2 j (by omega) g2
    · exact absurd h (q_m1 (by omega))
theorem x_good_to {b : Nat → Nat} {wl : Nat} (h : ∀ j, j < wl → x_ok1 b j = true) : ∀ i, i ≤ wl → x_good b i := by
  intro i
  induction i with
  | zero => intro _; exact x_good0 b
  | succ i ih => intro hi; exact x_good1 (ih (by omega)) (h i (by omega))
def x_wF (b : Nat → Nat) (wl : Nat) : Int32 := x_wf b wl wl 0
def x_nw (b : Nat → Nat) (wl : Nat) : Nat := if x_wF b wl = -1 ∧ 0 < wl then (x_ps b wl).1 + 1 else 0
def x_lt2 (b : Nat → Nat) (wl k m : Nat) : Nat := x_TT b wl (6 * k + m)
/-- what good words are -/
theorem x_words {b : Nat → Nat} {wl : Nat} (hwl : wl < 2 ^ 31) : x_nw b wl ≤ 8 ∧ ∀ k, k < x_nw b wl → 1 ≤ x_L b wl k ∧ x_L b wl k ≤ 6 ∧ ∀ m, m < x_L b wl k → x_lt2 b wl k m < 10 := by
  unfold x_nw
  by_cases h : x_wF b wl = -1 ∧ 0 < wl
  · rw [if_pos h]
    obtain ⟨h1, h2⟩ := x_wf_m1 b wl hwl wl 0 (by omega) h.1
    obtain ⟨g1, g2, g3, g4, g5, g6, g7⟩ := x_good_to (fun j hj => h1 j (Nat.zero_le _) hj) wl (Nat.le_refl _)
    have h3 := h2 h.2
    refine ⟨g3 h3, fun k hk => ?_⟩
    by_cases e : k = (x_ps b wl).1
    · exact ⟨by rw [e, g4]; exact h3, by rw [e, g4]; exact g2, fun m hm => g7 k m hm⟩
    · exact ⟨(g6 k (by omega)).1, (g6 k (by omega)).2, fun m hm => g7 k m hm⟩
  · rw [if_neg h]
    exact ⟨by omega, fun k hk => by omega⟩
section T40
variable {w : qW} {sg pb wb sc sp si : Nat → Nat} {pl wl ns i : Nat}
theorem q_isle (b : Nat) (hb : b < 2 ^ 31) : (97 ≤ nI b ∧ nI b ≤ 106) ↔ x_le b := q_is97 hb
theorem e_pageLoop (hl : w 1 1 = nI pl) (hp : pl ≤ 24) (hB : q_PB w pl pb) : ∀ (n i : Nat) (u : Option Value), i + n = pl → qe iX4_pageFault 2 [some (.ref 0), some (.int (nI i)), u] [] w = some (some (.int (q_fq (x_pp pb) n i)), w) := by
  intro n
  induction n with
  | zero => intro i u hi; rw [zX4_pageFault_2, hl, if_pos (nI_le (by omega) (by omega)), zX4_pageFault_46]; rfl
  | succ n ih =>
    intro i u hi
    have hb := hB i (by omega)
    rw [zX4_pageFault_2, hl, if_neg (nI_ge (by omega) (by omega)), zX4_pageFault_13, e_at (n := 24) w rfl (by omega) (by omega), qc_i, zX4_pageFault_24, hb.1, q_fq, x_pp]
    by_cases h1 : pb i = 46
    · rw [if_pos (by rw [h1]; rfl), zX4_pageFault_40, nI_1, decide_eq_false (fun q => q (Or.inl h1)), if_neg Bool.false_ne_true]
      exact ih (i + 1) _ (by omega)
    · rw [if_neg (show ¬ nI (pb i) = 46 from fun q => h1 ((nI_eq (b := 46) (by omega) (by omega)).mp q)), zX4_pageFault_31, e_isLetter, qc_i, zX4_pageFault_35]
      by_cases h2 : x_le (pb i)
      · rw [decide_eq_true ((q_isle _ (by omega)).mpr h2), q_bo_t, if_pos (by decide), zX4_pageFault_40, nI_1, decide_eq_false (fun q => q (Or.inr h2)), if_neg Bool.false_ne_true]
        exact ih (i + 1) _ (by omega)
      · rw [decide_eq_false (fun q => h2 ((q_isle _ (by omega)).mp q)), q_bo_f, if_neg (fun q => q rfl), zX4_pageFault_38, decide_eq_true (show ¬ (pb i = 46 ∨ x_le (pb i)) from fun q => q.elim h1 h2), if_pos rfl]
theorem e_pageFault (hl : w 1 1 = nI pl) (hp : pl ≤ 24) (hB : q_PB w pl pb) : qe iX4_pageFault 0 [some (.ref 0), none, none] [] w = some (some (.int (x_pf pb pl)), w) := by
  rw [zX4_pageFault_0]
  exact e_pageLoop hl hp hB pl 0 none (by omega)
def q_XL (w : qW) (ns : Nat) (sc sp si : Nat → Nat) : Prop := w 8 3 = nI ns ∧ ns ≤ 12 ∧ ∀ k, k < ns → w 9 k = nI (sc k) ∧ sc k < 24 ∧ w 10 k = nI (sp k) ∧ sp k < 6 ∧ w 11 k = nI (si k) ∧ si k ≤ 1
theorem e_pointsLoop2 (hL : q_XL w ns sc sp si) {b c : Nat} (hb : b < 64) (hc : c < 24) (v2 : Int32) : ∀ (n k : Nat) (u : Option Value), k + n = ns → qe iX1_pointsAt 5 [some (.ref 8), some (.int (nI c)), some (.int v2), some (.int (nI (x_pt sc sp si c b k))), some (.int (nI k)), u] [] w = some (some (.int (nI (x_pt sc sp si c b ns))), w) := by
  have hn := hL.2.1
  intro n
  induction n with
  | zero => intro k u hk; have : k = ns := by omega
            subst this; rw [zX1_pointsAt_5, hL.1, if_pos (Int32.le_refl _), zX1_pointsAt_73]
  | succ n ih =>
    intro k u hk
    obtain ⟨h1, h2, h3, h4, h5, h6⟩ := hL.2.2 k (by omega)
    have hlt := x_pt_lt (sc := sc) (sp := sp) (si := si) (c := c) (n := ns) hb (fun k hk => (hL.2.2 k hk).2.2.2.1) k (by omega)
    have := ih (k + 1)
    rw [x_pt] at this
    rw [zX1_pointsAt_5, hL.1, if_neg (nI_ge (by omega) (by omega)), zX1_pointsAt_14, e_at (n := 12) w rfl (by omega) (by omega), qc_i, zX1_pointsAt_23, h1]
    by_cases e : sc k = c
    · rw [if_pos e] at this
      rw [if_neg (fun q => q (by rw [e])), zX1_pointsAt_27, e_at (n := 12) w rfl (by omega) (by omega), qc_i, zX1_pointsAt_37, e_at (n := 12) w rfl (by omega) (by omega), qc_i, zX1_pointsAt_49, h3, h5]
      by_cases e1 : si k = 1
      · rw [if_pos e1] at this
        rw [if_neg (fun q => q (by rw [e1]; rfl)), zX1_pointsAt_53, x_set_all ⟨_, hlt⟩ ⟨_, h4⟩, zX1_pointsAt_66, zX1_pointsAt_67, nI_1]
        exact this _ (by omega)
      · rw [if_neg e1] at this
        rw [if_pos (show ¬ nI (si k) = 1 from fun q => e1 ((nI_eq (b := 1) (by omega) (by omega)).mp q)), zX1_pointsAt_60, x_off_all ⟨_, hlt⟩ ⟨_, h4⟩, zX1_pointsAt_66, zX1_pointsAt_67, nI_1]
        exact this _ (by omega)
    · rw [if_neg e] at this
      rw [if_pos (fun q => e ((nI_eq (by omega) (by omega)).mp q)), zX1_pointsAt_67, nI_1]
      exact this _ (by omega)
theorem e_pointsAt (hL : q_XL w ns sc sp si) {b c : Nat} (hb : b < 64) (hc : c < 24) : qe iX1_pointsAt 0 [some (.ref 8), some (.int (nI c)), some (.int (nI b)), none, none, none] [] w = some (some (.int (nI (x_pt sc sp si c b ns))), w) := by
  rw [zX1_pointsAt_0]
  exact e_pointsLoop2 hL hb hc _ ns 0 none (by omega)
theorem x_cl_pt (sg pb sc sp si : Nat → Nat) (ns c : Nat) : x_cl sg (x_pg pb) sc sp si ns c = x_pt sc sp si c (q_PR sg pb c) ns := by unfold x_cl; rw [x_so_pg]
theorem e_layLoop {cc : Nat} (hcc : cc ≤ pl) (hp : pl ≤ 24) : ∀ (n i : Nat) (w : qW), q_SG w sg → q_PB w pl pb → q_XL w ns sc sp si → w 0 5 = nI cc → i + n = cc → (∀ j, j < i → w 13 j = nI (x_cl sg (x_pg pb) sc sp si ns j) ∧ x_cl sg (x_pg pb) sc sp si ns j < 64) → ∃ w', (∀ k, k ≠ 13 → w' k = w k) ∧ (∀ j, j < cc → w' 13 j = nI (x_cl sg (x_pg pb) sc sp si ns j) ∧ x_cl sg (x_pg pb) sc sp si ns j < 64) ∧ qe iX4_layCells 25 [some (.ref 0), some (.int (nI i))] [] w = some (none, w') := by
  intro n
  induction n with
  | zero => intro i w hS hB hL h5 hi hV; have : i = cc := by omega
            subst this; exact ⟨w, fun _ _ => rfl, hV, by rw [zX4_layCells_25, h5, if_pos (Int32.le_refl _), zX4_layCells_60]⟩
  | succ n ih =>
    intro i w hS hB hL h5 hi hV
    have h64 : x_cl sg (x_pg pb) sc sp si ns i < 64 := by
      rw [x_cl_pt]
      exact x_pt_lt (n := ns) (q_PR_lt hS i) (fun k hk => (hL.2.2 k hk).2.2.2.1) ns (Nat.le_refl _)
    rw [zX4_layCells_25, h5, if_neg (nI_ge (by omega) (by omega)), zX4_layCells_33, e_printedAt hS hB (by omega) hp, qc_i, zX4_layCells_48, e_pointsAt hL (q_PR_lt hS i) (by omega), qc_i, zX4_layCells_51, ← x_cl_pt, e_lay (n := 24) _ w rfl (by omega) (by omega), qc_v, zX4_layCells_54, nI_1]
    have e13 : ∀ k, k ≠ 13 → (q_up w 13 i (nI (x_cl sg (x_pg pb) sc sp si ns i))) k = w k := fun k hk => q_up_ne w _ _ hk
    obtain ⟨w', g1, g2, g3⟩ := ih (i + 1) (q_up w 13 i (nI (x_cl sg (x_pg pb) sc sp si ns i))) (q_SG_c (e13 12 (by decide)) hS) (by unfold q_PB; rw [e13 2 (by decide)]; exact hB) (by unfold q_XL; rw [e13 8 (by decide), e13 9 (by decide), e13 10 (by decide), e13 11 (by decide)]; exact hL) (by rw [e13 0 (by decide)]; exact h5) (by omega) (by
      intro j hj
      rw [q_up_at]
      by_cases e : j = i
      · subst e; rw [pk_us]; exact ⟨rfl, h64⟩
      · rw [pk_un e]; exact hV j (by omega))
    exact ⟨w', fun k hk => (g1 k hk).trans (e13 k hk), g2, g3⟩
/-- the cells are laid out anew -/
theorem e_layCells (hl : w 1 1 = nI pl) (hp : pl ≤ 24) (hS : q_SG w sg) (hB : q_PB w pl pb) (hL : q_XL w ns sc sp si) : ∃ w', (∀ k, k ≠ 13 → k ≠ 0 → w' k = w k) ∧ (∀ j, j ≠ 5 → w' 0 j = w 0 j) ∧ q_CL w' (x_pc pb pl) (x_cl sg (x_pg pb) sc sp si ns) ∧ qe iX4_layCells 0 [some (.ref 0), none] [] w = some (none, w') := by
  have hle := x_pc_le pb pl
  have e20 : qe iX4_layCells 5 [some (.ref 0), none] [.int (x_pf pb pl), .ref 0] w = qe iX4_layCells 20 [some (.ref 0), none] [.int (nI (x_pc pb pl)), .ref 0] w := by
    rw [zX4_layCells_5]
    unfold x_pc
    by_cases h : x_pf pb pl = -1
    · rw [if_neg (fun q => q h), zX4_layCells_9, hl, if_pos h]
    · rw [if_pos h, zX4_layCells_19, if_neg h]; rfl
  have e0 : ∀ k, k ≠ 0 → (q_up w 0 5 (nI (x_pc pb pl))) k = w k := fun k hk => q_up_ne w _ _ hk
  obtain ⟨w', g1, g2, g3⟩ := e_layLoop (sg := sg) (pb := pb) (ns := ns) (sc := sc) (sp := sp) (si := si) hle hp (x_pc pb pl) 0 (q_up w 0 5 (nI (x_pc pb pl))) (q_SG_c (e0 12 (by decide)) hS) (by unfold q_PB; rw [e0 2 (by decide)]; exact hB) (by unfold q_XL; rw [e0 8 (by decide), e0 9 (by decide), e0 10 (by decide), e0 11 (by decide)]; exact hL) (by rw [q_up_at, pk_us]) (by omega) (fun j hj => by omega)
  refine ⟨w', fun k h1 h2 => (g1 k h1).trans (e0 k h2), fun j hj => ?_, ⟨?_, by omega, g2⟩, ?_⟩
  · rw [g1 0 (by decide), q_up_at, pk_un hj]
  · rw [g1 0 (by decide), q_up_at, pk_us]
  · rw [zX4_layCells_0, e_pageFault hl hp hB, qc_i, e20, zX4_layCells_20, show (0 : Int32) = nI 0 from rfl, g3]
end T40
