/-! digest: both alike -/
def q_mx (h : Int64) (v : Int32) : Int64 := 31 * h + v.toInt64
theorem q_mx_e (h : Int64) (v : Int32) : 31 * h + v.toInt64 = q_mx h v := rfl
def q_mf (f : Nat → Int32) : Nat → Nat → Int64 → Int64
  | 0, _, h => h
  | n + 1, i, h => q_mf f n (i + 1) (q_mx h (f i))
def q_mc (a1 a2 a3 a4 a5 a6 : Nat → Int32) : Nat → Nat → Int64 → Int64
  | 0, _, h => h
  | n + 1, i, h => q_mc a1 a2 a3 a4 a5 a6 n (i + 1) (q_mx (q_mx (q_mx (q_mx (q_mx (q_mx h (a1 i)) (a2 i)) (a3 i)) (a4 i)) (a5 i)) (a6 i))
def q_mw (b1 b2 b3 : Nat → Int32) : Nat → Nat → Int64 → Int64
  | 0, _, h => h
  | n + 1, i, h => q_mw b1 b2 b3 n (i + 1) (q_mx (q_mx (q_mx h (b1 i)) (b2 i)) (b3 i))
section D58
variable {w : qW} {sg pb wb sc sp si oc hb sz : Nat → Nat} {pl wl ns mi ex : Nat} {fi : Int32} {fo : Nat → Int32} {it : Nat → Nat → Int32}
def d_cn (sg pb wb sc sp si oc hb sz : Nat → Nat) (pl wl ns mi ex : Nat) (fi : Int32) (fo : Nat → Int32) (it : Nat → Nat → Int32) (n : Nat) : Int32 := nI (x_cn sg pl wl ns (x_pc pb pl) (x_nw wb wl) (x_cl sg (x_pg pb) sc sp si ns) n)
def d_a4 (sg pb wb sc sp si oc hb sz : Nat → Nat) (pl wl ns mi ex : Nat) (fi : Int32) (fo : Nat → Int32) (it : Nat → Nat → Int32) (v : Int32) (i : Nat) : Int32 := if v = 0 then q_chw (q_ch (q_fit mi ex sg (x_pc pb pl) (x_cl sg (x_pg pb) sc sp si ns) (x_L wb wl) (x_lt2 wb wl) i) (x_L wb wl) (x_nw wb wl) 0 none) else q_chl (q_ch (q_fit mi ex sg (x_pc pb pl) (x_cl sg (x_pg pb) sc sp si ns) (x_L wb wl) (x_lt2 wb wl) i) (x_L wb wl) (x_nw wb wl) 0 none)
def d_a6 (sg pb wb sc sp si oc hb sz : Nat → Nat) (pl wl ns mi ex : Nat) (fi : Int32) (fo : Nat → Int32) (it : Nat → Nat → Int32) (i : Nat) : Int32 := q_ob (x_wi (q_fit mi ex sg (x_pc pb pl) (x_cl sg (x_pg pb) sc sp si ns) (x_L wb wl) (x_lt2 wb wl) i) 5) (x_nw wb wl) 0 0
def d_b2 (sg pb wb sc sp si oc hb sz : Nat → Nat) (pl wl ns mi ex : Nat) (fi : Int32) (fo : Nat → Int32) (it : Nat → Nat → Int32) (k : Nat) : Int32 := q_oi (q_fit mi ex sg (x_pc pb pl) (x_cl sg (x_pg pb) sc sp si ns) (x_L wb wl) (x_lt2 wb wl) 0 k)
def d_b3 (sg pb wb sc sp si oc hb sz : Nat → Nat) (pl wl ns mi ex : Nat) (fi : Int32) (fo : Nat → Int32) (it : Nat → Nat → Int32) (k : Nat) : Int32 := q_ob (fun o => q_li sg (x_pc pb pl) (x_cl sg (x_pg pb) sc sp si ns) (x_L wb wl) (x_lt2 wb wl) 0 k o) (x_nw wb wl) 0 0
def d_ln (sg pb wb sc sp si oc hb sz : Nat → Nat) (pl wl ns mi ex : Nat) (fi : Int32) (fo : Nat → Int32) (it : Nat → Nat → Int32) (v : Int32) : Int32 := if v = 0 then nI (x_T (q_fit mi ex sg (x_pc pb pl) (x_cl sg (x_pg pb) sc sp si ns) (x_L wb wl) (x_lt2 wb wl)) (x_L wb wl) (x_nw wb wl) ex (x_pc pb pl) (x_cl sg (x_pg pb) sc sp si ns) (x_pc pb pl) 0).1 else nI (x_T (q_fit mi ex sg (x_pc pb pl) (x_cl sg (x_pg pb) sc sp si ns) (x_L wb wl) (x_lt2 wb wl)) (x_L wb wl) (x_nw wb wl) ex (x_pc pb pl) (x_cl sg (x_pg pb) sc sp si ns) (x_pc pb pl) 0).2
def d_bt (sg : Nat → Nat) (l : Nat) : Int32 := q_oi (q_bt (q_ap sg l) 63 1 none)
def d_sh (sg pb wb sc sp si oc hb sz : Nat → Nat) (pl wl ns mi ex : Nat) (fi : Int32) (fo : Nat → Int32) (it : Nat → Nat → Int32) (i : Nat) : Int32 := if nI i = 0 then nI (q_sh (fun k => oc k * ((x_L wb wl) k - 1)) (x_nw wb wl) (min 3 (q_fs0 sg)) 0 0).1 else if nI i = 1 then nI (q_sh (fun k => oc k * ((x_L wb wl) k - 1)) (x_nw wb wl) (min 3 (q_fs0 sg)) 0 0).2 else nI (q_fs0 sg)
def d_wh (sg pb wb sc sp si oc hb sz : Nat → Nat) (pl wl ns mi ex : Nat) (fi : Int32) (fo : Nat → Int32) (it : Nat → Nat → Int32) : Int32 := if x_ms (fun c => q_an (x_so sg (x_pg pb c)) ((x_cl sg (x_pg pb) sc sp si ns) c)) (x_pc pb pl) 0 false = true then nI (x_wh (fun h => x_sm (x_hm (fun c => q_an (x_so sg (x_pg pb c)) ((x_cl sg (x_pg pb) sc sp si ns) c)) hb h) (x_pc pb pl))) else -1
def d_wr (sg pb wb sc sp si oc hb sz : Nat → Nat) (pl wl ns mi ex : Nat) (fi : Int32) (fo : Nat → Int32) (it : Nat → Nat → Int32) : Int32 := if (-1 : Int32) = -1 then nI (x_sm (fun j => q_pop (x_wr (x_pc pb pl) 20 (x_cl sg (x_pg pb) sc sp si ns) 0 j)) (x_pc pb pl)) else nI (x_wr (x_pc pb pl) 20 (x_cl sg (x_pg pb) sc sp si ns) 0 (-1 : Int32).toNatClampNeg)
def d_ba (sg pb wb sc sp si oc hb sz : Nat → Nat) (pl wl ns mi ex : Nat) (fi : Int32) (fo : Nat → Int32) (it : Nat → Nat → Int32) : Int32 := q_ob (fun k => decide (¬ q_wb sg (x_nw wb wl) (x_L wb wl) (x_lt2 wb wl) k = -1)) (x_nw wb wl) 0 0
def d_jd (sg pb wb sc sp si oc hb sz : Nat → Nat) (pl wl ns mi ex : Nat) (fi : Int32) (fo : Nat → Int32) (it : Nat → Nat → Int32) : Int32 := q_fq (fun i => decide (q_rd sg ((x_cl sg (x_pg pb) sc sp si ns) i) = -1)) (x_pc pb pl) 0
def d_cells (sg pb wb sc sp si oc hb sz : Nat → Nat) (pl wl ns mi ex : Nat) (fi : Int32) (fo : Nat → Int32) (it : Nat → Nat → Int32) (n i : Nat) (h : Int64) : Int64 := q_mc (fun i => nI ((x_cl sg (x_pg pb) sc sp si ns) i)) (fun i => q_rd sg ((x_cl sg (x_pg pb) sc sp si ns) i)) (fun i => q_rd sg (q_sw ((x_cl sg (x_pg pb) sc sp si ns) ((x_pc pb pl) - 1 - i)))) (d_a4 sg pb wb sc sp si oc hb sz pl wl ns mi ex fi fo it 0) (d_a4 sg pb wb sc sp si oc hb sz pl wl ns mi ex fi fo it 1) (d_a6 sg pb wb sc sp si oc hb sz pl wl ns mi ex fi fo it) n i h
def d_words (sg pb wb sc sp si oc hb sz : Nat → Nat) (pl wl ns mi ex : Nat) (fi : Int32) (fo : Nat → Int32) (it : Nat → Nat → Int32) (n i : Nat) (h : Int64) : Int64 := q_mw (fun k => q_wb sg (x_nw wb wl) (x_L wb wl) (x_lt2 wb wl) k) (d_b2 sg pb wb sc sp si oc hb sz pl wl ns mi ex fi fo it) (d_b3 sg pb wb sc sp si oc hb sz pl wl ns mi ex fi fo it) n i h
def d_all (sg pb wb sc sp si oc hb sz : Nat → Nat) (pl wl ns mi ex : Nat) (fi : Int32) (fo : Nat → Int32) (it : Nat → Nat → Int32) : Int64 := q_mx (q_mx (q_mf (d_sh sg pb wb sc sp si oc hb sz pl wl ns mi ex fi fo it) 3 0 (q_mf (d_bt sg) 10 0 (q_mx (q_mx (q_mx (q_mx (d_words sg pb wb sc sp si oc hb sz pl wl ns mi ex fi fo it (x_nw wb wl) 0 (d_cells sg pb wb sc sp si oc hb sz pl wl ns mi ex fi fo it (x_pc pb pl) 0 (q_mx (q_mx (q_mx (q_mf (d_cn sg pb wb sc sp si oc hb sz pl wl ns mi ex fi fo it) 8 0 17) (if (0 : Int32) = 0 then x_pf pb pl else x_wF wb wl)) (if (1 : Int32) = 0 then x_pf pb pl else x_wF wb wl)) (d_jd sg pb wb sc sp si oc hb sz pl wl ns mi ex fi fo it)))) (d_ba sg pb wb sc sp si oc hb sz pl wl ns mi ex fi fo it)) (d_ln sg pb wb sc sp si oc hb sz pl wl ns mi ex fi fo it 0)) (d_ln sg pb wb sc sp si oc hb sz pl wl ns mi ex fi fo it 1)) (nI (q_sl sg 10 0 0))))) (d_wh sg pb wb sc sp si oc hb sz pl wl ns mi ex fi fo it)) (d_wr sg pb wb sc sp si oc hb sz pl wl ns mi ex fi fo it)
theorem x_dgCells (hX : q_X w sg pb wb sc sp si oc hb sz pl wl ns mi ex fi fo it) (l1 : Int64) : ∀ n i h, i + n = (x_pc pb pl) → qe iX4_mixCells 5 [some (.ref 0), some (.long l1), none, some (.long h), none, some (.int (nI i))] [] w = some (some (.long (d_cells sg pb wb sc sp si oc hb sz pl wl ns mi ex fi fo it n i h)), w) := by
  have hc := hX.2.1.2.1
  intro n
  induction n with
  | zero => intro i h hi; rw [zX4_mixCells_5, hX.2.1.1, if_pos (nI_le (by omega) (by omega)), zX4_mixCells_93]; rfl
  | succ n ih =>
    intro i h hi
    have hi2 : i < (x_pc pb pl) := by omega
    rw [zX4_mixCells_5, hX.2.1.1, if_neg (nI_ge hi2 (by omega)), zX4_mixCells_14, xa_cell hX hi2, qc_i, zX4_mixCells_21, e_mix, qc_i, zX4_mixCells_25, xa_letter hX hi2, qc_i, zX4_mixCells_33, e_mix, qc_i, zX4_mixCells_37, xa_wrong hX hi2, qc_i, zX4_mixCells_45, e_mix, qc_i, zX4_mixCells_49, xa_meant hX hi2 (v := 0) (by decide), qc_i, zX4_mixCells_58, e_mix, qc_i, zX4_mixCells_62, xa_meant hX hi2 (v := 1) (by decide), qc_i, zX4_mixCells_69, e_mix, qc_i, zX4_mixCells_73, xa_within hX hi2 (v := 5) (by decide), qc_i, zX4_mixCells_82, e_mix, qc_i, zX4_mixCells_86, nI_1]
    exact ih (i + 1) _ (by omega)
theorem x_dgWords (hX : q_X w sg pb wb sc sp si oc hb sz pl wl ns mi ex fi fo it) (l1 : Int64) : ∀ n i h, i + n = (x_nw wb wl) → qe iX4_mixWords 5 [some (.ref 0), some (.long l1), none, some (.long h), none, some (.int (nI i))] [] w = some (some (.long (d_words sg pb wb sc sp si oc hb sz pl wl ns mi ex fi fo it n i h)), w) := by
  have hn := hX.2.2.1.2.1
  intro n
  induction n with
  | zero => intro i h hi; rw [zX4_mixWords_5, hX.2.2.1.1, if_pos (nI_le (by omega) (by omega)), zX4_mixWords_61]; rfl
  | succ n ih =>
    intro i h hi
    have hi2 : i < (x_nw wb wl) := by omega
    have f0 := xa_fits hX hi2 (f := 0) (by omega)
    have u0 := xa_under hX hi2 (f := 0) (by omega)
    rw [nI_0] at f0 u0
    rw [zX4_mixWords_5, hX.2.2.1.1, if_neg (nI_ge hi2 (by omega)), zX4_mixWords_17, xa_both hX hi2, qc_i, zX4_mixWords_24, e_mix, qc_i, zX4_mixWords_28, f0, qc_i, zX4_mixWords_37, e_mix, qc_i, zX4_mixWords_41, u0, qc_i, zX4_mixWords_50, e_mix, qc_i, zX4_mixWords_54, nI_1]
    exact ih (i + 1) _ (by omega)
theorem x_dgCount (hX : q_X w sg pb wb sc sp si oc hb sz pl wl ns mi ex fi fo it) : ∀ n i h, i + n = 8 → qe iX4_digest 6 [some (.ref 0), some (.long h), none, some (.int (nI i))] [] w = qe iX4_digest 29 [some (.ref 0), some (.long (q_mf (d_cn sg pb wb sc sp si oc hb sz pl wl ns mi ex fi fo it) n i h)), none, some (.int (nI 8))] [] w := by
  intro n
  induction n with
  | zero => intro i h hi; have : i = 8 := by omega
            subst this; rw [zX4_digest_6, if_pos (show (8 : Int32) ≤ nI 8 by decide)]; rfl
  | succ n ih =>
    intro i h hi
    rw [zX4_digest_6, if_neg (show ¬ (8 : Int32) ≤ nI i from nI_ge (b := 8) (by omega) (by omega)), zX4_digest_12, xa_count hX (show i < 8 by omega), qc_i, zX4_digest_18, e_mix, qc_i, zX4_digest_22, nI_1]
    exact ih (i + 1) _ (by omega)
theorem x_dgBetter (hX : q_X w sg pb wb sc sp si oc hb sz pl wl ns mi ex fi fo it) : ∀ n i h, i + n = 10 → qe iX4_digest 114 [some (.ref 0), some (.long h), none, some (.int (nI i))] [] w = qe iX4_digest 137 [some (.ref 0), some (.long (q_mf (d_bt sg) n i h)), none, some (.int (nI 10))] [] w := by
  intro n
  induction n with
  | zero => intro i h hi; have : i = 10 := by omega
            subst this; rw [zX4_digest_114, if_pos (show (10 : Int32) ≤ nI 10 by decide)]; rfl
  | succ n ih =>
    intro i h hi
    rw [zX4_digest_114, if_neg (q_nlit10 (by omega)), zX4_digest_120, xa_better hX (show i < 10 by omega), qc_i, zX4_digest_126, e_mix, qc_i, zX4_digest_130, nI_1]
    exact ih (i + 1) _ (by omega)
theorem x_dgShorts (hX : q_X w sg pb wb sc sp si oc hb sz pl wl ns mi ex fi fo it) : ∀ n i h, i + n = 3 → qe iX4_digest 139 [some (.ref 0), some (.long h), none, some (.int (nI i))] [] w = qe iX4_digest 162 [some (.ref 0), some (.long (q_mf (d_sh sg pb wb sc sp si oc hb sz pl wl ns mi ex fi fo it) n i h)), none, some (.int (nI 3))] [] w := by
  intro n
  induction n with
  | zero => intro i h hi; have : i = 3 := by omega
            subst this; rw [zX4_digest_139, if_pos (show (2 : Int32) < nI 3 by decide)]; rfl
  | succ n ih =>
    intro i h hi
    have s0 := xa_shorts hX (mm := 3) (by omega) (v := nI i) ⟨nI_pos' (by omega), show nI i ≤ (2 : Int32) from nI_le (b := 2) (by omega) (by omega)⟩
    rw [show nI 3 = (3 : Int32) from rfl] at s0
    rw [zX4_digest_139, if_neg (show ¬ (2 : Int32) < nI i from nI_nlt (a := 2) (by omega) (by omega)), zX4_digest_144, s0, qc_i, zX4_digest_151, e_mix, qc_i, zX4_digest_155, nI_1]
    exact ih (i + 1) _ (by omega)
theorem xa_digest (hX : q_X w sg pb wb sc sp si oc hb sz pl wl ns mi ex fi fo it) : ∃ w', q_GX w w' ∧ qe iX4_digest 0 [some (.ref 0), none, none, none] [] w = some (some (.long (d_all sg pb wb sc sp si oc hb sz pl wl ns mi ex fi fo it)), w') := by
  obtain ⟨w1, g1, h1⟩ := xa_line hX (v := 0) (by decide)
  have hX1 : q_X w1 sg pb wb sc sp si oc hb sz pl wl ns mi ex fi fo it := q_X_c (fun k hk => g1 k (by omega) (by omega)) hX
  obtain ⟨w2, g2, h2⟩ := xa_line hX1 (v := 1) (by decide)
  have hX2 : q_X w2 sg pb wb sc sp si oc hb sz pl wl ns mi ex fi fo it := q_X_c (fun k hk => g2 k (by omega) (by omega)) hX1
  obtain ⟨w3, g3, h3⟩ := xa_wear hX2 (N := 20) (by omega) (v := -1) (Or.inl rfl)
  rw [show nI 20 = (20 : Int32) from rfl] at h3
  refine ⟨w3, q_GX_t (q_GX_t g1 g2) g3, ?_⟩
  have c1 := x_dgCount hX 8 0 17 (by omega)
  have c2 := fun l1 h => x_dgCells hX l1 (x_pc pb pl) 0 h (by omega)
  have c3 := fun l1 h => x_dgWords hX l1 (x_nw wb wl) 0 h (by omega)
  have c4 := fun h => x_dgBetter hX2 10 0 h (by omega)
  have c5 := fun h => x_dgShorts hX2 3 0 h (by omega)
  rw [nI_0] at c1
  simp only [nI_0] at c2 c3 c4 c5
  rw [zX4_digest_0, c1, zX4_digest_29, xa_fault hX (v := 0) (by decide), qc_i, zX4_digest_35, e_mix, qc_i, zX4_digest_39, xa_fault hX (v := 1) (by decide), qc_i, zX4_digest_44, e_mix, qc_i, zX4_digest_48, e_judged hX.1.1 hX.2.1, qc_i, zX4_digest_54, e_mix, qc_i, zX4_digest_58, zX4_mixCells_0, c2, qc_i, zX4_digest_64, zX4_mixWords_0, c3, qc_i, zX4_digest_70, xa_bothAll hX, qc_i, zX4_digest_77, e_mix, qc_i, zX4_digest_81, h1, qc_i, zX4_digest_88, e_mix, qc_i, zX4_digest_92, h2, qc_i, zX4_digest_97, e_mix, qc_i, zX4_digest_101, e_slippery hX2.1.1, qc_i, zX4_digest_107, e_mix, qc_i, zX4_digest_111, c4, zX4_digest_137, c5, zX4_digest_162, xa_whose hX2, qc_i, zX4_digest_167, e_mix, qc_i, zX4_digest_171, h3, qc_i, zX4_digest_178, e_mix, qc_i, zX4_digest_182]
  rfl
theorem n_dgCells : ∀ n i h (w : qW), i + n = (x_pc pb pl) → q_MB w sg pb wb sc sp si oc hb sz pl wl ns mi ex fi fo it → q_RD w sg pb wb sc sp si oc hb sz pl wl ns mi ex fi fo it → ∃ w', q_GM w w' ∧ q_MB w' sg pb wb sc sp si oc hb sz pl wl ns mi ex fi fo it ∧ q_RD w' sg pb wb sc sp si oc hb sz pl wl ns mi ex fi fo it ∧ qe iX5_digest 71 [some (.ref 27), some (.long h), none, some (.int (nI i))] [] w = qe iX5_digest 170 [some (.ref 27), some (.long (d_cells sg pb wb sc sp si oc hb sz pl wl ns mi ex fi fo it n i h)), none, some (.int (nI (x_pc pb pl)))] [] w' := by
  intro n
  induction n with
  | zero => intro i h w hi hM hR; have : i = (x_pc pb pl) := by omega
            rw [this]; exact ⟨w, q_GM_r w, hM, hR, by rw [zX5_digest_71, hR.1.1, if_pos (Int32.le_refl _)]; rfl⟩
  | succ n ih =>
    intro i h w hi hM hR
    have hc := hR.1.2.1
    have hi2 : i < (x_pc pb pl) := by omega
    obtain ⟨w1, a1, a2, a3, a4⟩ := n_meantOf hM (f := i) (by omega) 0
    obtain ⟨w2, b1, b2, b3, b4⟩ := n_meantOf a2 (f := i) (by omega) 1
    obtain ⟨w3, c1, c2, c3, c4⟩ := n_withinOf b2 (f := i) (by omega) 5
    obtain ⟨w', r1, r2, r3, r4⟩ := ih (i + 1) (q_mx (q_mx (q_mx (q_mx (q_mx (q_mx h (nI ((x_cl sg (x_pg pb) sc sp si ns) i))) (q_rd sg ((x_cl sg (x_pg pb) sc sp si ns) i))) (q_rd sg (q_sw ((x_cl sg (x_pg pb) sc sp si ns) ((x_pc pb pl) - 1 - i))))) (d_a4 sg pb wb sc sp si oc hb sz pl wl ns mi ex fi fo it 0 i)) (d_a4 sg pb wb sc sp si oc hb sz pl wl ns mi ex fi fo it 1 i)) (d_a6 sg pb wb sc sp si oc hb sz pl wl ns mi ex fi fo it i)) w3 (by omega) c2 c3
    refine ⟨w', q_GM_t (q_GM_t (q_GM_t a1 b1) c1) r1, r2, r3, ?_⟩
    rw [zX5_digest_71, hR.1.1, if_neg (nI_ge hi2 (by omega)), zX5_digest_79, m_cellOf hM.1 hR.1 hM.2.2.1 hi2, qc_i, zX5_digest_89, m_cellOf hM.1 hR.1 hM.2.2.1 hi2, qc_i, zX5_digest_103, m_readAs hM.1 (x_cl_lt hM.1 hR.1 hM.2.2.1 hi2), qc_i, zX5_digest_106, m_wrongOf hM.1 hR.1 hM.2.2.1 hi2, qc_i, zX5_digest_119, a4, qc_i, zX5_digest_133, b4, qc_i, zX5_digest_147, c4, qc_i, zX5_digest_161, nI_1]
    exact r4
theorem n_dgWords : ∀ n i h (w : qW), i + n = (x_nw wb wl) → q_MB w sg pb wb sc sp si oc hb sz pl wl ns mi ex fi fo it → q_RD w sg pb wb sc sp si oc hb sz pl wl ns mi ex fi fo it → qe iX5_digest 172 [some (.ref 27), some (.long h), none, some (.int (nI i))] [] w = qe iX5_digest 227 [some (.ref 27), some (.long (d_words sg pb wb sc sp si oc hb sz pl wl ns mi ex fi fo it n i h)), none, some (.int (nI (x_nw wb wl)))] [] w := by
  intro n
  induction n with
  | zero => intro i h w hi hM hR; have : i = (x_nw wb wl) := by omega
            rw [this, zX5_digest_172, hR.2.1, if_pos (Int32.le_refl _)]; rfl
  | succ n ih =>
    intro i h w hi hM hR
    have hn := hR.2.2.1
    have hi2 : i < (x_nw wb wl) := by omega
    have f0 := m_fitsOf hM.1 hR.1 hM.2.2.1 hR.2 hM.2.2.2.1 hi2 (f := 0) (by omega)
    have u0 := m_underOf hM.1 hR.1 hM.2.2.1 hR.2 hi2 (f := 0) (by omega)
    rw [nI_0] at f0 u0
    rw [zX5_digest_172, hR.2.1, if_neg (nI_ge hi2 (by omega)), zX5_digest_180, m_bothOf hM.1 hR.2 hi2, qc_i, zX5_digest_190, f0, qc_i, zX5_digest_204, u0, qc_i, zX5_digest_218, nI_1]
    exact ih (i + 1) _ w (by omega) hM hR
theorem n_dgCount : ∀ n i h (w : qW), i + n = 8 → q_MB w sg pb wb sc sp si oc hb sz pl wl ns mi ex fi fo it → ∃ w', q_GM w w' ∧ q_MB w' sg pb wb sc sp si oc hb sz pl wl ns mi ex fi fo it ∧ qe iX5_digest 6 [some (.ref 27), some (.long h), none, some (.int (nI i))] [] w = qe iX5_digest 31 [some (.ref 27), some (.long (q_mf (d_cn sg pb wb sc sp si oc hb sz pl wl ns mi ex fi fo it) n i h)), none, some (.int (nI 8))] [] w' := by
  intro n
  induction n with
  | zero => intro i h w hi hM; have : i = 8 := by omega
            subst this; exact ⟨w, q_GM_r w, hM, by rw [zX5_digest_6, if_pos (show (8 : Int32) ≤ nI 8 by decide)]; rfl⟩
  | succ n ih =>
    intro i h w hi hM
    obtain ⟨w1, a1, a2, a3⟩ := n_count hM (show i < 8 by omega)
    obtain ⟨w', r1, r2, r3⟩ := ih (i + 1) (q_mx h (d_cn sg pb wb sc sp si oc hb sz pl wl ns mi ex fi fo it i)) w1 (by omega) a2
    refine ⟨w', q_GM_t a1 r1, r2, ?_⟩
    rw [zX5_digest_6, if_neg (show ¬ (8 : Int32) ≤ nI i from nI_ge (b := 8) (by omega) (by omega)), zX5_digest_12, a3, qc_i, zX5_digest_22, nI_1]
    exact r3
theorem n_dgBetter (hS : q_MS w sg) : ∀ n i h, i + n = 10 → qe iX5_digest 279 [some (.ref 27), some (.long h), none, some (.int (nI i))] [] w = qe iX5_digest 304 [some (.ref 27), some (.long (q_mf (d_bt sg) n i h)), none, some (.int (nI 10))] [] w := by
  intro n
  induction n with
  | zero => intro i h hi; have : i = 10 := by omega
            subst this; rw [zX5_digest_279, if_pos (show (10 : Int32) ≤ nI 10 by decide)]; rfl
  | succ n ih =>
    intro i h hi
    rw [zX5_digest_279, if_neg (q_nlit10 (by omega)), zX5_digest_285, m_betterOf hS (show i < 10 by omega), qc_i, zX5_digest_295, nI_1]
    exact ih (i + 1) _ (by omega)
theorem n_dgShorts : ∀ n i h (w : qW), i + n = 3 → q_MB w sg pb wb sc sp si oc hb sz pl wl ns mi ex fi fo it → ∃ w', q_GM w w' ∧ q_MB w' sg pb wb sc sp si oc hb sz pl wl ns mi ex fi fo it ∧ qe iX5_digest 306 [some (.ref 27), some (.long h), none, some (.int (nI i))] [] w = qe iX5_digest 331 [some (.ref 27), some (.long (q_mf (d_sh sg pb wb sc sp si oc hb sz pl wl ns mi ex fi fo it) n i h)), none, some (.int (nI 3))] [] w' := by
  intro n
  induction n with
  | zero => intro i h w hi hM; have : i = 3 := by omega
            subst this; exact ⟨w, q_GM_r w, hM, by rw [zX5_digest_306, if_pos (show (3 : Int32) ≤ nI 3 by decide)]; rfl⟩
  | succ n ih =>
    intro i h w hi hM
    obtain ⟨w1, a1, a2, a3, a4⟩ := n_shortsOf hM (mm := 3) (by omega) (nI i)
    rw [show nI 3 = (3 : Int32) from rfl] at a4
    obtain ⟨w', r1, r2, r3⟩ := ih (i + 1) (q_mx h (d_sh sg pb wb sc sp si oc hb sz pl wl ns mi ex fi fo it i)) w1 (by omega) a2
    refine ⟨w', q_GM_t a1 r1, r2, ?_⟩
    rw [zX5_digest_306, if_neg (show ¬ (3 : Int32) ≤ nI i from nI_ge (b := 3) (by omega) (by omega)), zX5_digest_311, a4, qc_i, zX5_digest_322, nI_1]
    exact r3
theorem n_digest (hM : q_MB w sg pb wb sc sp si oc hb sz pl wl ns mi ex fi fo it) : ∃ w', q_GM w w' ∧ qe iX5_digest 0 [some (.ref 27), none, none, none] [] w = some (some (.long (d_all sg pb wb sc sp si oc hb sz pl wl ns mi ex fi fo it)), w') := by
  obtain ⟨w1, a1, a2, a3⟩ := n_dgCount 8 0 17 w (by omega) hM
  obtain ⟨w2, b1, b2, b3, b4⟩ := n_faultOf a2 0
  obtain ⟨w3, c1, c2, c3, c4⟩ := n_faultOf b2 1
  obtain ⟨w4, d1, d2, d3, d4⟩ := n_judgedNow c2
  obtain ⟨w5, e1, e2, e3, e4⟩ := n_dgCells (x_pc pb pl) 0 (q_mx (q_mx (q_mx (q_mf (d_cn sg pb wb sc sp si oc hb sz pl wl ns mi ex fi fo it) 8 0 17) (if (0 : Int32) = 0 then x_pf pb pl else x_wF wb wl)) (if (1 : Int32) = 0 then x_pf pb pl else x_wF wb wl)) (d_jd sg pb wb sc sp si oc hb sz pl wl ns mi ex fi fo it)) w4 (by omega) d2 d3
  have f4 := fun h => n_dgWords (x_nw wb wl) 0 h w5 (by omega) e2 e3
  obtain ⟨w6, g1, g2, g3, g4⟩ := n_bothAll e2
  obtain ⟨w7, h1, h2, h3, h4⟩ := n_lineOf g2 0
  obtain ⟨w8, i1, i2, i3, i4⟩ := n_lineOf h2 1
  have j4 := fun h => n_dgBetter i2.1 10 0 h (by omega)
  obtain ⟨w9, k1, k2, k3⟩ := n_dgShorts 3 0 (q_mf (d_bt sg) 10 0 (q_mx (q_mx (q_mx (q_mx (d_words sg pb wb sc sp si oc hb sz pl wl ns mi ex fi fo it (x_nw wb wl) 0 (d_cells sg pb wb sc sp si oc hb sz pl wl ns mi ex fi fo it (x_pc pb pl) 0 (q_mx (q_mx (q_mx (q_mf (d_cn sg pb wb sc sp si oc hb sz pl wl ns mi ex fi fo it) 8 0 17) (if (0 : Int32) = 0 then x_pf pb pl else x_wF wb wl)) (if (1 : Int32) = 0 then x_pf pb pl else x_wF wb wl)) (d_jd sg pb wb sc sp si oc hb sz pl wl ns mi ex fi fo it)))) (d_ba sg pb wb sc sp si oc hb sz pl wl ns mi ex fi fo it)) (d_ln sg pb wb sc sp si oc hb sz pl wl ns mi ex fi fo it 0)) (d_ln sg pb wb sc sp si oc hb sz pl wl ns mi ex fi fo it 1)) (nI (q_sl sg 10 0 0)))) w8 (by omega) i2
  obtain ⟨wa, l1, l2, l3, l4⟩ := n_whoseNow k2
  obtain ⟨wc, m1, m2, m3, m4⟩ := n_wearOf l2 (N := 20) (by omega) (v := -1) (Or.inl rfl)
  rw [show nI 20 = (20 : Int32) from rfl] at m4
  rw [nI_0] at a3 e4 k3
  simp only [nI_0] at f4 j4
  refine ⟨wc, q_GM_t (q_GM_t (q_GM_t (q_GM_t (q_GM_t (q_GM_t (q_GM_t (q_GM_t (q_GM_t (q_GM_t a1 b1) c1) d1) e1) g1) h1) i1) k1) l1) m1, ?_⟩
  rw [zX5_digest_0, a3, zX5_digest_31, b4, qc_i, zX5_digest_41, c4, qc_i, zX5_digest_54, d4, qc_i, zX5_digest_66, q_mx_e, q_mx_e, q_mx_e]
  refine Eq.trans e4 ?_
  rw [zX5_digest_170, f4, zX5_digest_227, g4, qc_i, zX5_digest_236, h4, qc_i, zX5_digest_249, i4, qc_i, zX5_digest_262, m_slipperyNow i2.1, qc_i, zX5_digest_274, j4, zX5_digest_304]
  refine Eq.trans k3 ?_
  rw [zX5_digest_331, l4, qc_i, zX5_digest_340, m4, qc_i, zX5_digest_355]
  rfl
def q_sameL (w : qW) (f g : qW → Option (Option Value × qW)) : Prop := ∃ (A : Int64) (w1 w2 : qW), f w = some (some (.long A), w1) ∧ g w1 = some (some (.long A), w2) ∧ q_Rel w2
theorem p_digest (hX : q_X w sg pb wb sc sp si oc hb sz pl wl ns mi ex fi fo it) (hM : q_MB w sg pb wb sc sp si oc hb sz pl wl ns mi ex fi fo it) : q_sameL w (qe iX4_digest 0 [some (.ref 0), none, none, none] []) (qe iX5_digest 0 [some (.ref 27), none, none, none] []) := by
  obtain ⟨w1, h1, h2⟩ := xa_digest hX
  have hM1 : q_MB w1 sg pb wb sc sp si oc hb sz pl wl ns mi ex fi fo it := q_MB_x (fun k hk => h1 k (by omega) (by omega)) hM
  obtain ⟨w2, h3, h4⟩ := n_digest hM1
  refine ⟨_, w1, w2, h2, h4, q_rel_i (q_X_c (fun k hk => ?_) hX) (q_MB_c h3 hM1)⟩
  rw [h3.1 k (by omega) (by omega) (by omega) (by omega) (by omega) (by omega) (by omega) (by omega), h1 k (by omega) (by omega)]
end D58
