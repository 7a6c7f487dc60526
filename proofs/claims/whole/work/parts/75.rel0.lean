/-! what both tell, as they are made -/
def n_w0 (f : Nat → Int32) (M : qW) : qW := fun k => if k < 27 then n_wX f k else M (k - 27)
def n_vals (M : qW) : Prop := (∀ j, j < 25 → M 0 j = n_vM 0 j) ∧ (∀ j, j < 10 → M 1 j = n_vM 1 j) ∧ (∀ j, j < 2 → M 2 j = n_vM 2 j) ∧ (∀ j, j < 8 → M 7 j = n_vM 7 j) ∧ (∀ j, j < 18 → M 13 j = n_vM 13 j) ∧ (∀ j, j < 4 → M 15 j = n_vM 15 j)
theorem n_gotM : ∃ M : qW, n_runsM M ∧ n_vals M := ⟨n_M, n_runM, fun _ h => n_range n_valM0 h, fun _ h => n_range n_valM1 h, fun _ h => n_range n_valM2 h, fun _ h => n_range n_valM7 h, fun _ h => n_range n_valM13 h, fun _ h => n_range n_valM15 h⟩
theorem n_gotF : ∃ wF : qW, n_runsF wF ∧ ∀ j, j < 8 → wF 0 j = 1 := ⟨n_wF, n_runF, fun _ h => n_oneF h⟩
theorem n_sg_ok : ∀ j, j < 10 → 1 ≤ n_sg j ∧ n_sg j < 64 := by decide
theorem n_pc0 : x_pc (fun _ => 0) 0 = 0 := Nat.le_zero.mp (x_pc_le _ 0)
theorem n_nw0 : x_nw (fun _ => 0) 0 = 0 := by unfold x_nw; rw [if_neg (fun h => Nat.lt_irrefl 0 h.2)]
theorem n_wF0 : x_wF (fun _ => 0) 0 = -1 := by unfold x_wF x_wf; rw [if_neg (fun h => Nat.lt_irrefl 0 h.1)]
section N5
variable {f : Nat → Int32} {M : qW}
theorem n_X0 (hf : ∀ j, j < 8 → f j = 1) : q_X (n_w0 f M) n_sg (fun _ => 0) (fun _ => 0) (fun _ => 0) (fun _ => 0) (fun _ => 0) (fun _ => 1) (fun _ => 0) (fun _ => 0) 0 0 0 1 2 0 (fun _ => -1) (fun _ _ => 0) := by
  refine ⟨⟨fun j hj => ⟨rfl, n_sg_ok j hj⟩, ⟨rfl, by decide, fun j hj => absurd hj (Nat.not_lt_zero j)⟩, ⟨rfl, by decide, fun j hj => absurd hj (Nat.not_lt_zero j)⟩, ⟨rfl, by decide, fun j hj => absurd hj (Nat.not_lt_zero j)⟩, ⟨rfl, by decide, rfl, by decide⟩, fun j hj => ⟨hf j hj, show 1 ≤ 99 by decide⟩, fun j hj => ⟨rfl, show 0 ≤ 99 by decide⟩, rfl, fun s hs => ?_⟩, ?_, ?_, ?_⟩
  · match s, hs with
    | 0, _ => exact ⟨rfl, rfl, by decide, fun _ _ => rfl⟩
    | 1, _ => exact ⟨rfl, rfl, by decide, fun _ _ => rfl⟩
    | 2, _ => exact ⟨rfl, rfl, by decide, fun _ _ => rfl⟩
    | 3, _ => exact ⟨rfl, rfl, by decide, fun _ _ => rfl⟩
  · rw [n_pc0]
    exact ⟨rfl, by decide, fun j hj => absurd hj (Nat.not_lt_zero j)⟩
  · rw [n_nw0]
    exact ⟨rfl, by decide, fun j hj => absurd hj (Nat.not_lt_zero j)⟩
  · rw [n_wF0]
    rfl
theorem n_MB0 (h : n_vals M) : q_MB (n_w0 f M) n_sg (fun _ => 0) (fun _ => 0) (fun _ => 0) (fun _ => 0) (fun _ => 0) (fun _ => 1) (fun _ => 0) (fun _ => 0) 0 0 0 1 2 0 (fun _ => -1) (fun _ _ => 0) := by
  obtain ⟨h0, h1, h2, h7, h13, h15⟩ := h
  refine ⟨fun j hj => ⟨h1 j hj, n_sg_ok j hj⟩, ⟨h2 0 (by decide), by decide, h2 1 (by decide), by decide, fun j hj => absurd hj (Nat.not_lt_zero j), fun j hj => absurd hj (Nat.not_lt_zero j)⟩, ⟨h0 11 (by decide), by decide, fun j hj => absurd hj (Nat.not_lt_zero j)⟩, ⟨h0 8 (by decide), by decide, h0 9 (by decide), by decide⟩, fun j hj => ⟨h7 j hj, show 1 ≤ 99 by decide⟩, fun j hj => ⟨h13 j hj, show 0 ≤ 99 by decide⟩, h0 24 (by decide), fun s hs => ⟨show 0 ≤ 48 by decide, fun _ => h15 s hs, fun h => absurd rfl h⟩⟩
theorem n_rel0 (hf : ∀ j, j < 8 → f j = 1) (h : n_vals M) : q_Rel (n_w0 f M) := q_rel_i (n_X0 hf) (n_MB0 h)
end N5
