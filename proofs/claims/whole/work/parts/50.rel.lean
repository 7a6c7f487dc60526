/-! what both states tell -/
def q_XS (w : qW) (sz : Nat → Nat) (fo : Nat → Int32) (it : Nat → Nat → Int32) : Prop := ∀ s, s < 4 → w (17 + 2 * s) 1 = fo s ∧ w (17 + 2 * s) 2 = nI (sz s) ∧ sz s ≤ 48 ∧ (∀ j, j < 48 → w (18 + 2 * s) j = it s j)
def q_MSH (w : qW) (sz : Nat → Nat) (fo : Nat → Int32) (it : Nat → Nat → Int32) : Prop := ∀ s, s < 4 → sz s ≤ 48 ∧ (fo s = -1 → w 42 s = 0) ∧ (¬ fo s = -1 → w 42 s = 1 ∧ w 43 s = fo s ∧ w 44 s = nI (sz s) ∧ ∀ j, j < 48 → w 45 (48 * s + j) = it s j)
def q_XB (w : qW) (sg pb wb sc sp si oc hb sz : Nat → Nat) (pl wl ns mi ex : Nat) (fi : Int32) (fo : Nat → Int32) (it : Nat → Nat → Int32) : Prop := q_SG w sg ∧ (w 1 1 = nI pl ∧ pl ≤ 24 ∧ q_PB w pl pb) ∧ q_WB w wl wb ∧ q_XL w ns sc sp si ∧ q_CO w mi ex ∧ q_OC w oc ∧ q_HB w hb ∧ w 0 11 = fi ∧ q_XS w sz fo it
def q_XC (w : qW) (sg pb wb sc sp si oc hb sz : Nat → Nat) (pl wl ns mi ex : Nat) (fi : Int32) (fo : Nat → Int32) (it : Nat → Nat → Int32) : Prop := q_CL w (x_pc pb pl) (x_cl sg (x_pg pb) sc sp si ns) ∧ q_WD w (x_nw wb wl) (x_L wb wl) (x_lt2 wb wl) ∧ w 3 4 = x_wF wb wl
def q_X (w : qW) (sg pb wb sc sp si oc hb sz : Nat → Nat) (pl wl ns mi ex : Nat) (fi : Int32) (fo : Nat → Int32) (it : Nat → Nat → Int32) : Prop := q_XB w sg pb wb sc sp si oc hb sz pl wl ns mi ex fi fo it ∧ q_XC w sg pb wb sc sp si oc hb sz pl wl ns mi ex fi fo it
def q_MB (w : qW) (sg pb wb sc sp si oc hb sz : Nat → Nat) (pl wl ns mi ex : Nat) (fi : Int32) (fo : Nat → Int32) (it : Nat → Nat → Int32) : Prop := q_MS w sg ∧ q_MT w pl pb wl wb ∧ q_ML w ns sc sp si ∧ q_MO w mi ex ∧ q_MOC w oc ∧ q_MH w hb ∧ w 27 24 = fi ∧ q_MSH w sz fo it
def q_RD (w : qW) (sg pb wb sc sp si oc hb sz : Nat → Nat) (pl wl ns mi ex : Nat) (fi : Int32) (fo : Nat → Int32) (it : Nat → Nat → Int32) : Prop := q_MP w (x_pc pb pl) (x_pg pb) ∧ q_MW w (x_nw wb wl) (x_L wb wl) (x_lt2 wb wl)
def q_Rel (w : qW) : Prop := ∃ (sg pb wb sc sp si oc hb sz : Nat → Nat) (pl wl ns mi ex : Nat) (fi : Int32) (fo : Nat → Int32) (it : Nat → Nat → Int32), q_X w sg pb wb sc sp si oc hb sz pl wl ns mi ex fi fo it ∧ q_MB w sg pb wb sc sp si oc hb sz pl wl ns mi ex fi fo it
def q_GX (w w' : qW) : Prop := ∀ k, k ≠ 25 → k ≠ 26 → w' k = w k
def q_GM (w w' : qW) : Prop := (∀ k, k ≠ 27 → k ≠ 31 → k ≠ 32 → k ≠ 33 → k ≠ 38 → k ≠ 39 → k ≠ 41 → k ≠ 46 → w' k = w k) ∧ (∀ j, j ≠ 3 → j ≠ 5 → w' 27 j = w 27 j)
theorem q_GX_r (w : qW) : q_GX w w := fun _ _ _ => rfl
theorem q_GM_r (w : qW) : q_GM w w := ⟨fun _ _ _ _ _ _ _ _ _ => rfl, fun _ _ _ => rfl⟩
theorem q_GM_t {w w1 w2 : qW} (h1 : q_GM w w1) (h2 : q_GM w1 w2) : q_GM w w2 := ⟨fun k a b c d e f g h => (h2.1 k a b c d e f g h).trans (h1.1 k a b c d e f g h), fun j a b => (h2.2 j a b).trans (h1.2 j a b)⟩
theorem q_GX_t {w w1 w2 : qW} (h1 : q_GX w w1) (h2 : q_GX w1 w2) : q_GX w w2 := fun k a b => (h2 k a b).trans (h1 k a b)
/-- frames of few cells -/
theorem q_GM_of {w w' : qW} (h : ∀ k, k ≠ 38 → k ≠ 39 → k ≠ 41 → k ≠ 46 → w' k = w k) : q_GM w w' := ⟨fun k _ _ _ _ e f g i => h k e f g i, fun j _ _ => by rw [h 27 (by decide) (by decide) (by decide) (by decide)]⟩
section R50
variable {w w' : qW} {sg pb wb sc sp si oc hb sz : Nat → Nat} {pl wl ns mi ex : Nat} {fi : Int32} {fo : Nat → Int32} {it : Nat → Nat → Int32}
theorem q_X_c (h : ∀ k, k < 25 → w' k = w k) (hX : q_X w sg pb wb sc sp si oc hb sz pl wl ns mi ex fi fo it) : q_X w' sg pb wb sc sp si oc hb sz pl wl ns mi ex fi fo it := by
  have e : ∀ s, s < 4 → w' (17 + 2 * s) = w (17 + 2 * s) ∧ w' (18 + 2 * s) = w (18 + 2 * s) := fun s hs => ⟨h _ (by omega), h _ (by omega)⟩
  unfold q_X q_XB q_XC q_SG q_PB q_WB q_XL q_CO q_OC q_HB q_CL q_WD at hX ⊢
  rw [h 0 (by decide), h 1 (by decide), h 2 (by decide), h 3 (by decide), h 4 (by decide), h 5 (by decide), h 6 (by decide), h 7 (by decide), h 8 (by decide), h 9 (by decide), h 10 (by decide), h 11 (by decide), h 12 (by decide), h 13 (by decide), h 14 (by decide), h 15 (by decide)]
  obtain ⟨⟨a1, a2, a3, a4, a5, a6, a7, a8, a9⟩, b⟩ := hX
  refine ⟨⟨a1, a2, a3, a4, a5, a6, a7, a8, fun s hs => ?_⟩, b⟩
  rw [(e s hs).1, (e s hs).2]
  exact a9 s hs
theorem q_MB_c (h : q_GM w w') (hM : q_MB w sg pb wb sc sp si oc hb sz pl wl ns mi ex fi fo it) : q_MB w' sg pb wb sc sp si oc hb sz pl wl ns mi ex fi fo it := by
  obtain ⟨h1, h2⟩ := h
  unfold q_MB q_MS q_MT q_ML q_MO q_MOC q_MH q_MSH at hM ⊢
  rw [h2 8 (by decide) (by decide), h2 9 (by decide) (by decide), h2 11 (by decide) (by decide), h2 24 (by decide) (by decide)]
  rw [h1 28 (by decide) (by decide) (by decide) (by decide) (by decide) (by decide) (by decide) (by decide), h1 29 (by decide) (by decide) (by decide) (by decide) (by decide) (by decide) (by decide) (by decide), h1 30 (by decide) (by decide) (by decide) (by decide) (by decide) (by decide) (by decide) (by decide), h1 34 (by decide) (by decide) (by decide) (by decide) (by decide) (by decide) (by decide) (by decide), h1 35 (by decide) (by decide) (by decide) (by decide) (by decide) (by decide) (by decide) (by decide), h1 36 (by decide) (by decide) (by decide) (by decide) (by decide) (by decide) (by decide) (by decide), h1 37 (by decide) (by decide) (by decide) (by decide) (by decide) (by decide) (by decide) (by decide), h1 40 (by decide) (by decide) (by decide) (by decide) (by decide) (by decide) (by decide) (by decide), h1 42 (by decide) (by decide) (by decide) (by decide) (by decide) (by decide) (by decide) (by decide), h1 43 (by decide) (by decide) (by decide) (by decide) (by decide) (by decide) (by decide) (by decide), h1 44 (by decide) (by decide) (by decide) (by decide) (by decide) (by decide) (by decide) (by decide), h1 45 (by decide) (by decide) (by decide) (by decide) (by decide) (by decide) (by decide) (by decide)]
  exact hM
theorem q_MA_of (hM : q_MB w sg pb wb sc sp si oc hb sz pl wl ns mi ex fi fo it) (hR : q_RD w sg pb wb sc sp si oc hb sz pl wl ns mi ex fi fo it) : q_MA w sg (x_pg pb) sc sp si (x_L wb wl) (x_lt2 wb wl) (x_pc pb pl) ns (x_nw wb wl) mi ex := ⟨hM.1, hR.1, hM.2.2.1, hR.2, hM.2.2.2.1⟩
theorem q_RD_c (h : ∀ k, k ≠ 38 → k ≠ 39 → k ≠ 41 → k ≠ 46 → w' k = w k) (hR : q_RD w sg pb wb sc sp si oc hb sz pl wl ns mi ex fi fo it) : q_RD w' sg pb wb sc sp si oc hb sz pl wl ns mi ex fi fo it := by
  unfold q_RD q_MP q_MW at hR ⊢
  rw [h 27 (by decide) (by decide) (by decide) (by decide), h 31 (by decide) (by decide) (by decide) (by decide), h 32 (by decide) (by decide) (by decide) (by decide), h 33 (by decide) (by decide) (by decide) (by decide)]
  exact hR
/-- the reference reads -/
theorem n_reads (hM : q_MB w sg pb wb sc sp si oc hb sz pl wl ns mi ex fi fo it) : ∃ w', q_GM w w' ∧ q_MB w' sg pb wb sc sp si oc hb sz pl wl ns mi ex fi fo it ∧ q_RD w' sg pb wb sc sp si oc hb sz pl wl ns mi ex fi fo it ∧ qe iX5_reads 0 [some (.ref 27), none] [] w = some (none, w') := by
  obtain ⟨w', a1, a2, a3, a4, a5⟩ := m_reads hM.2.1
  have hF : q_GM w w' := ⟨fun k a b c d _ _ _ _ => a1 k a b c d, a2⟩
  exact ⟨w', hF, q_MB_c hF hM, ⟨a3, a4⟩, a5⟩
theorem q_MB_x (h : ∀ k, 27 ≤ k → w' k = w k) (hM : q_MB w sg pb wb sc sp si oc hb sz pl wl ns mi ex fi fo it) : q_MB w' sg pb wb sc sp si oc hb sz pl wl ns mi ex fi fo it := by
  unfold q_MB q_MS q_MT q_ML q_MO q_MOC q_MH q_MSH at hM ⊢
  rw [h 27 (by decide), h 28 (by decide), h 29 (by decide), h 30 (by decide), h 34 (by decide), h 35 (by decide), h 36 (by decide), h 37 (by decide), h 40 (by decide), h 42 (by decide), h 43 (by decide), h 44 (by decide), h 45 (by decide)]
  exact hM
end R50
/-- an answer of both is the same, and what both tell goes on -/
def q_same (w : qW) (f g : qW → Option (Option Value × qW)) : Prop := ∃ (A : Int32) (w1 w2 : qW), f w = some (some (.int A), w1) ∧ g w1 = some (some (.int A), w2) ∧ q_Rel w2
theorem q_rel_i {w : qW} {sg pb wb sc sp si oc hb sz : Nat → Nat} {pl wl ns mi ex : Nat} {fi : Int32} {fo : Nat → Int32} {it : Nat → Nat → Int32} (hX : q_X w sg pb wb sc sp si oc hb sz pl wl ns mi ex fi fo it) (hM : q_MB w sg pb wb sc sp si oc hb sz pl wl ns mi ex fi fo it) : q_Rel w := ⟨sg, pb, wb, sc, sp, si, oc, hb, sz, pl, wl, ns, mi, ex, fi, fo, it, hX, hM⟩
section S50
variable {w : qW} {sg pb wb sc sp si oc hb sz : Nat → Nat} {pl wl ns mi ex : Nat} {fi : Int32} {fo : Nat → Int32} {it : Nat → Nat → Int32}
theorem t_ask {f g : qW → Option (Option Value × qW)} (A : Int32) (hX : q_X w sg pb wb sc sp si oc hb sz pl wl ns mi ex fi fo it) (hM : q_MB w sg pb wb sc sp si oc hb sz pl wl ns mi ex fi fo it) (hf : ∃ w1, q_GX w w1 ∧ f w = some (some (.int A), w1)) (hg : ∀ w1, q_MB w1 sg pb wb sc sp si oc hb sz pl wl ns mi ex fi fo it → ∃ w2, q_GM w1 w2 ∧ g w1 = some (some (.int A), w2)) : q_same w f g := by
  obtain ⟨w1, h1, h2⟩ := hf
  have hM1 : q_MB w1 sg pb wb sc sp si oc hb sz pl wl ns mi ex fi fo it := q_MB_x (fun k hk => h1 k (by omega) (by omega)) hM
  obtain ⟨w2, h3, h4⟩ := hg w1 hM1
  refine ⟨A, w1, w2, h2, h4, q_rel_i (q_X_c (fun k hk => ?_) hX) (q_MB_c h3 hM1)⟩
  rw [h3.1 k (by omega) (by omega) (by omega) (by omega) (by omega) (by omega) (by omega) (by omega), h1 k (by omega) (by omega)]
theorem t_move {sg' pb' wb' sc' sp' si' oc' hb' sz' : Nat → Nat} {pl' wl' ns' mi' ex' : Nat} {fi' : Int32} {fo' : Nat → Int32} {it' : Nat → Nat → Int32} {f g : qW → Option (Option Value × qW)} (A : Int32) (hM : q_MB w sg pb wb sc sp si oc hb sz pl wl ns mi ex fi fo it) (hf : ∃ w1, q_X w1 sg' pb' wb' sc' sp' si' oc' hb' sz' pl' wl' ns' mi' ex' fi' fo' it' ∧ (∀ k, 27 ≤ k → w1 k = w k) ∧ f w = some (some (.int A), w1)) (hg : ∀ w1, q_MB w1 sg pb wb sc sp si oc hb sz pl wl ns mi ex fi fo it → ∃ w2, q_MB w2 sg' pb' wb' sc' sp' si' oc' hb' sz' pl' wl' ns' mi' ex' fi' fo' it' ∧ (∀ k, k < 27 → w2 k = w1 k) ∧ g w1 = some (some (.int A), w2)) : q_same w f g := by
  obtain ⟨w1, h1, h2, h3⟩ := hf
  obtain ⟨w2, h4, h5, h6⟩ := hg w1 (q_MB_x h2 hM)
  exact ⟨A, w1, w2, h3, h6, q_rel_i (q_X_c (fun k hk => h5 k (by omega)) h1) h4⟩
end S50
