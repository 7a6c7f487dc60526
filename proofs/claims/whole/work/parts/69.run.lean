/-! RUNS OF THE PURE MACHINE that are computed: Arrays.fill over eight cells, the reference's constructor behind its last new array -/
/-- what a run of the pure machine leaves, computed -/
def n_out (o : Option (Option Value × qW)) : qW := match o with
  | some r => r.2
  | none => fun _ _ => 0
def n_is (o : Option (Option Value × qW)) : Bool := match o with
  | some (none, _) => true
  | _ => false
theorem n_of {o : Option (Option Value × qW)} (h : n_is o = true) : o = some (none, n_out o) := by
  match o, h with
  | some (none, w), _ => rfl
def n_oF : Option (Option Value × qW) := q_ex q_tb [.inl (0, 8)] 200 none iJ7_fill_53178 0 [some (.ref 0), some (.int 1), none, none] [] (fun _ _ => 0)
def n_wF : qW := n_out n_oF
set_option maxRecDepth 100000 in
theorem n_isF : n_is n_oF = true := by decide +kernel
theorem n_runF : q_ex q_tb [.inl (0, 8)] 200 none iJ7_fill_53178 0 [some (.ref 0), some (.int 1), none, none] [] (fun _ _ => 0) = some (none, n_wF) := n_of n_isF
set_option maxRecDepth 100000 in
theorem n_valF : (List.range 8).all (fun j => decide (n_wF 0 j = 1)) = true := by decide +kernel
theorem n_oneF {j : Nat} (h : j < 8) : n_wF 0 j = 1 := of_decide_eq_true (List.all_eq_true.mp n_valF j (List.mem_range.mpr h))
def n_oM : Option (Option Value × qW) := q_ex q_tb q_sM 2000 none iX5_init 153 [some (.ref 0), none] [] (fun _ _ => 0)
def n_M : qW := n_out n_oM
set_option maxRecDepth 100000 in
theorem n_isM : n_is n_oM = true := by decide +kernel
theorem n_runM : q_ex q_tb q_sM 2000 none iX5_init 153 [some (.ref 0), none] [] (fun _ _ => 0) = some (none, n_M) := n_of n_isM
def n_sg (j : Nat) : Nat := match j with
  | 0 => 1
  | 1 => 3
  | 2 => 9
  | 3 => 25
  | 4 => 17
  | 5 => 11
  | 6 => 27
  | 7 => 19
  | 8 => 10
  | _ => 26
/-- what the reference's constructor leaves -/
def n_vM (k j : Nat) : Int32 := if k = 0 then (if j = 8 then 1 else if j = 9 then 2 else 0) else if k = 1 then nI (n_sg j) else if k = 7 then 1 else 0
set_option maxRecDepth 100000 in
theorem n_valM0 : (List.range 25).all (fun j => decide (n_M 0 j = n_vM 0 j)) = true := by decide +kernel
set_option maxRecDepth 100000 in
theorem n_valM1 : (List.range 10).all (fun j => decide (n_M 1 j = n_vM 1 j)) = true := by decide +kernel
set_option maxRecDepth 100000 in
theorem n_valM2 : (List.range 2).all (fun j => decide (n_M 2 j = n_vM 2 j)) = true := by decide +kernel
set_option maxRecDepth 100000 in
theorem n_valM7 : (List.range 8).all (fun j => decide (n_M 7 j = n_vM 7 j)) = true := by decide +kernel
set_option maxRecDepth 100000 in
theorem n_valM13 : (List.range 18).all (fun j => decide (n_M 13 j = n_vM 13 j)) = true := by decide +kernel
set_option maxRecDepth 100000 in
theorem n_valM15 : (List.range 4).all (fun j => decide (n_M 15 j = n_vM 15 j)) = true := by decide +kernel
theorem n_range {N k : Nat} (h : (List.range N).all (fun j => decide (n_M k j = n_vM k j)) = true) {j : Nat} (hj : j < N) : n_M k j = n_vM k j := of_decide_eq_true (List.all_eq_true.mp h j (List.mem_range.mpr hj))
