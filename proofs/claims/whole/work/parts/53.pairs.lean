/-! ===== each call on the class, then on the reference: the same answer, and both are tied again ===== -/
section PZ
variable {S S' S1 : hs_T} {A A' : A_T} {mX mM : md_T} {as bs : List av_T} {a : Int32}
theorem ShM_of {k : Nat} {o : st_T} (h0 : S'.1 1230 0 k = S.1 1230 0 k) (h1 : S'.1 1231 0 k = S.1 1231 0 k) (h2 : ∀ i, i < 40 → S'.1 1232 0 (40 * k + i) = S.1 1232 0 (40 * k + i)) (h : ShM S k o) : ShM S' k o := by
  cases o with
  | none => unfold ShM at h ⊢; rw [h0]; exact h
  | some q => exact ⟨by rw [h0]; exact h.1, by rw [h1]; exact h.2.1, h.2.2.1, h.2.2.2.1, fun i hi => by rw [h2 i (by have := h.2.2.2.1; omega)]; exact h.2.2.2.2 i hi⟩
theorem exM_1 {k f : Nat} (h : k = 1200 ∨ k = 1202 ∨ k = 1204 ∨ k = 1205 ∨ k = 1207 ∨ k = 1230 ∨ k = 1231 ∨ k = 1232) : exM k f := by
  unfold exM
  rcases h with h | h | h | h | h | h | h | h <;> simp [h]
theorem IMe (he : eM S S') (h : IM S A) : IM S' A := IM_e he h (fun k _ hk => ShM_of (he 1230 0 k (exM_1 (by simp))) (he 1231 0 k (exM_1 (by simp))) (fun i _ => he 1232 0 _ (exM_1 (by simp))) hk)
theorem pr_m (hI : IX S A) (hJ : IM S A) (hX : Ci 9 mX as S (fun v S1 => v = a ∧ eM S S1 ∧ IX S1 A')) (hM : ∀ S1, IM S1 A → Ci 9 mM bs S1 (fun v S2 => v = a ∧ eX S1 S2 ∧ IM S2 A')) : Ci 9 mX as S (fun v S1 => Ci 9 mM bs S1 (fun v' S2 => v' = v ∧ Inv S2)) := by
  refine hX.imp ?_
  rintro v S1 ⟨rfl, h1, h2⟩
  refine (hM S1 (IMe h1 hJ)).imp ?_
  rintro v' S2 ⟨rfl, h3, h4⟩
  exact ⟨rfl, A', IX_e h3 h2, h4⟩
theorem pr_q (hI : IX S A) (hJ : IM S A) (hX : Ci 9 mX as S (fun v S1 => v = a ∧ Kp S S1)) (hM : ∀ S1, IM S1 A → Ci 9 mM bs S1 (fun v S2 => v = a ∧ Kp S1 S2)) : Ci 9 mX as S (fun v S1 => Ci 9 mM bs S1 (fun v' S2 => v' = v ∧ Inv S2)) :=
  pr_m (a := a) (A' := A) hI hJ (hX.imp (fun v S1 h => ⟨h.1, Kp_eM h.2, IX_e (Kp_eX h.2) hI⟩)) (fun S1 h1 => (hM S1 h1).imp (fun v S2 h => ⟨h.1, Kp_eX h.2, IMe (Kp_eM h.2) h1⟩))
theorem q_s (h : Ci 9 mX as S (fun v S1 => v = a ∧ S1 = S)) : Ci 9 mX as S (fun v S1 => v = a ∧ Kp S S1) := h.imp (fun v S1 h => ⟨h.1, by rw [h.2]; exact Kp_rf S⟩)
theorem q_x (h : Ci 9 mX as S (fun v S1 => v = a ∧ scX S S1)) : Ci 9 mX as S (fun v S1 => v = a ∧ Kp S S1) := h.imp (fun v S1 h => ⟨h.1, scX_Kp h.2⟩)
theorem q_m (h : Ci 9 mX as S (fun v S1 => v = a ∧ scM S S1)) : Ci 9 mX as S (fun v S1 => v = a ∧ Kp S S1) := h.imp (fun v S1 h => ⟨h.1, scM_Kp h.2⟩)
end PZ
section PO
variable {S : hs_T} {x y z u : Int32}
theorem pr_at (hS : Inv S) : Ci 9 mX10_at [vR 10 0, vI x] S (fun v S1 => Ci 9 mX11_at [vR 11 0, vI x] S1 (fun v' S2 => v' = v ∧ Inv S2)) := by
  obtain ⟨A, hI, hJ⟩ := hS
  exact pr_q hI hJ (q_s (kX10_at hI.1)) (fun S1 h => q_s (kM_at h.1))
theorem pr_runs (hS : Inv S) : Ci 9 mX10_runs [vR 10 0] S (fun v S1 => Ci 9 mX11_runs [vR 11 0] S1 (fun v' S2 => v' = v ∧ Inv S2)) := by
  obtain ⟨A, hI, hJ⟩ := hS
  exact pr_q hI hJ (q_s (kX10_runs hI.1)) (fun S1 h => q_s (kM_runs h.1))
theorem pr_fills (hS : Inv S) : Ci 9 mX10_fills [vR 10 0, vI x, vI y] S (fun v S1 => Ci 9 mX11_fills [vR 11 0, vI x, vI y] S1 (fun v' S2 => v' = v ∧ Inv S2)) := by
  obtain ⟨A, hI, hJ⟩ := hS
  exact pr_q hI hJ (q_s (kX10_fills hI.1)) (fun S1 h => q_s (kM_fills h.1))
theorem pr_rule (hS : Inv S) : Ci 9 mX10_rule [vR 10 0, vI x] S (fun v S1 => Ci 9 mX11_rule [vR 11 0, vI x] S1 (fun v' S2 => v' = v ∧ Inv S2)) := by
  obtain ⟨A, hI, hJ⟩ := hS
  exact pr_q hI hJ (q_s (kX10_rule rfl hI.2.2.1.1 hI.2.2.2.2.1 hI.2.2.2.1)) (fun S1 h => q_s (kM_rule h.2.2.2.1 h.2.2.1))
theorem pr_branch (hS : Inv S) : Ci 9 mX10_branch [vR 10 0, vI x, vI y, vI z] S (fun v S1 => Ci 9 mX11_branch [vR 11 0, vI x, vI y, vI z] S1 (fun v' S2 => v' = v ∧ Inv S2)) := by
  obtain ⟨A, hI, hJ⟩ := hS
  exact pr_q hI hJ (q_s (kX10_branch rfl hI.2.2.1.1 hI.2.2.2.2.1 hI.2.2.2.1)) (fun S1 h => q_s (kM_branch h.2.2.2.1 h.2.2.1))
theorem pr_next (hS : Inv S) : Ci 9 mX10_next [vR 10 0, vI x] S (fun v S1 => Ci 9 mX11_next [vR 11 0, vI x] S1 (fun v' S2 => v' = v ∧ Inv S2)) := by
  obtain ⟨A, hI, hJ⟩ := hS
  exact pr_q hI hJ (q_s (kX10_next rfl hI.2.2.1.1 hI.1 hI.2.2.2.2.1 hI.2.2.2.1)) (fun S1 h => q_s (kM_next h.1 h.2.2.2.1 h.2.2.1))
theorem pr_duty (hS : Inv S) : Ci 9 mX10_duty [vR 10 0, vI x, vI y] S (fun v S1 => Ci 9 mX11_duty [vR 11 0, vI x, vI y] S1 (fun v' S2 => v' = v ∧ Inv S2)) := by
  obtain ⟨A, hI, hJ⟩ := hS
  exact pr_q hI hJ (q_s (kX10_duty hI.1)) (fun S1 h => q_s (kM_duty h.1))
theorem pr_seen (hS : Inv S) : Ci 9 mX10_seen [vR 10 0, vI x, vI y, vI z] S (fun v S1 => Ci 9 mX11_seen [vR 11 0, vI x, vI y, vI z] S1 (fun v' S2 => v' = v ∧ Inv S2)) := by
  obtain ⟨A, hI, hJ⟩ := hS
  exact pr_q hI hJ (q_s (kX10_seen hI.1)) (fun S1 h => q_s (kM_seen h.1))
theorem pr_unlike (hS : Inv S) : Ci 9 mX10_unlike [vR 10 0, vI x, vI y] S (fun v S1 => Ci 9 mX11_unlike [vR 11 0, vI x, vI y] S1 (fun v' S2 => v' = v ∧ Inv S2)) := by
  obtain ⟨A, hI, hJ⟩ := hS
  exact pr_q hI hJ (q_s (kX10_unlike hI.1 hI.2.2.2.2.2.1)) (fun S1 h => q_s (kM_unlike h.1 h.2.2.2.2.1))
theorem pr_shift (hS : Inv S) : Ci 9 mX10_shift [vR 10 0, vI x, vI y] S (fun v S1 => Ci 9 mX11_shift [vR 11 0, vI x, vI y] S1 (fun v' S2 => v' = v ∧ Inv S2)) := by
  obtain ⟨A, hI, hJ⟩ := hS
  exact pr_q hI hJ (q_s (kX10_shift hI.1 hI.2.2.2.2.2.1)) (fun S1 h => q_s (kM_shift h.1 h.2.2.2.2.1))
theorem pr_run (hS : Inv S) : Ci 9 mX10_run [vR 10 0, vI x] S (fun v S1 => Ci 9 mX11_run [vR 11 0, vI x] S1 (fun v' S2 => v' = v ∧ Inv S2)) := by
  obtain ⟨A, hI, hJ⟩ := hS
  exact pr_q hI hJ (q_x (kX10_run rfl hI.2.2.1.1 hI.1 hI.2.2.2.2.1 hI.2.2.2.1)) (fun S1 h => q_m (kM_run h.1 h.2.2.2.1 h.2.2.1))
theorem pr_state (hS : Inv S) : Ci 9 mX10_state [vR 10 0, vI x] S (fun v S1 => Ci 9 mX11_state [vR 11 0, vI x] S1 (fun v' S2 => v' = v ∧ Inv S2)) := by
  obtain ⟨A, hI, hJ⟩ := hS
  exact pr_q hI hJ (q_x (kX10_state rfl hI.2.2.1.1 hI.1 hI.2.2.2.2.1 hI.2.2.2.1)) (fun S1 h => q_m (kM_state h.1 h.2.2.2.1 h.2.2.1))
theorem pr_stored (hS : Inv S) : Ci 9 mX10_stored [vR 10 0, vI x] S (fun v S1 => Ci 9 mX11_stored [vR 11 0, vI x] S1 (fun v' S2 => v' = v ∧ Inv S2)) := by
  obtain ⟨A, hI, hJ⟩ := hS
  exact pr_q hI hJ ( (kX10_stored rfl hI.2.2.1.1 hI.1 hI.2.2.2.2.1 hI.2.2.2.1)) (fun S1 h =>  (kM_stored h.1 h.2.2.2.1 h.2.2.1))
theorem pr_pulse (hS : Inv S) : Ci 9 mX10_pulse [vR 10 0, vI x, vI y, vI z] S (fun v S1 => Ci 9 mX11_pulse [vR 11 0, vI x, vI y, vI z] S1 (fun v' S2 => v' = v ∧ Inv S2)) := by
  obtain ⟨A, hI, hJ⟩ := hS
  exact pr_q hI hJ ( (kX10_pulse hI.1)) (fun S1 h =>  (kM_pulse h.1))
theorem pr_shorter (hS : Inv S) : Ci 9 mX10_shorter [vR 10 0, vI x, vI y] S (fun v S1 => Ci 9 mX11_shorter [vR 11 0, vI x, vI y] S1 (fun v' S2 => v' = v ∧ Inv S2)) := by
  obtain ⟨A, hI, hJ⟩ := hS
  exact pr_q hI hJ ( (kX10_shorter hI.1)) (fun S1 h =>  (kM_shorter h.1))
theorem pr_widest (hS : Inv S) : Ci 9 mX10_widest [vR 10 0] S (fun v S1 => Ci 9 mX11_widest [vR 11 0] S1 (fun v' S2 => v' = v ∧ Inv S2)) := by
  obtain ⟨A, hI, hJ⟩ := hS
  exact pr_q hI hJ ( (kX10_widest hI.1)) (fun S1 h =>  (kM_widest h.1))
theorem pr_setup (hS : Inv S) : Ci 9 mX10_setup [vR 10 0, vI x, vI y, vI z] S (fun v S1 => Ci 9 mX11_setup [vR 11 0, vI x, vI y, vI z] S1 (fun v' S2 => v' = v ∧ Inv S2)) := by
  obtain ⟨A, hI, hJ⟩ := hS
  exact pr_q hI hJ ( (kX10_setup hI.1)) (fun S1 h =>  (kM_setup h.1))
theorem pr_tight (hS : Inv S) : Ci 9 mX10_tight [vR 10 0, vI x, vI y, vI z, vI u] S (fun v S1 => Ci 9 mX11_tight [vR 11 0, vI x, vI y, vI z, vI u] S1 (fun v' S2 => v' = v ∧ Inv S2)) := by
  obtain ⟨A, hI, hJ⟩ := hS
  exact pr_q hI hJ ( (kX10_tight hI.1)) (fun S1 h =>  (kM_tight h.1))
theorem pr_bits (hS : Inv S) : Ci 9 mX10_bits [vR 10 0, vI x, vI y, vI z, vI u] S (fun v S1 => Ci 9 mX11_bits [vR 11 0, vI x, vI y, vI z, vI u] S1 (fun v' S2 => v' = v ∧ Inv S2)) := by
  obtain ⟨A, hI, hJ⟩ := hS
  exact pr_q hI hJ ( (kX10_bits hI.1)) (fun S1 h =>  (kM_bits h.1))
theorem pr_serial (hS : Inv S) : Ci 9 mX10_serial [vR 10 0, vI x, vI y, vI z] S (fun v S1 => Ci 9 mX11_serial [vR 11 0, vI x, vI y, vI z] S1 (fun v' S2 => v' = v ∧ Inv S2)) := by
  obtain ⟨A, hI, hJ⟩ := hS
  exact pr_q hI hJ ( (kX10_serial hI.1)) (fun S1 h =>  (kM_serial h.1))
theorem pr_rate (hS : Inv S) : Ci 9 mX10_rate [vR 10 0, vI x, vI y] S (fun v S1 => Ci 9 mX11_rate [vR 11 0, vI x, vI y] S1 (fun v' S2 => v' = v ∧ Inv S2)) := by
  obtain ⟨A, hI, hJ⟩ := hS
  exact pr_q hI hJ ( (kX10_rate hI.1)) (fun S1 h =>  (kM_rate h.1))
theorem pr_values (hS : Inv S) : Ci 9 mX10_values [vR 10 0, vI x] S (fun v S1 => Ci 9 mX11_values [vR 11 0, vI x] S1 (fun v' S2 => v' = v ∧ Inv S2)) := by
  obtain ⟨A, hI, hJ⟩ := hS
  exact pr_q hI hJ ( (kX10_values hI.1)) (fun S1 h =>  (kM_values h.1))
theorem pr_count (hS : Inv S) : Ci 9 mX10_count [vR 10 0, vI x] S (fun v S1 => Ci 9 mX11_count [vR 11 0, vI x] S1 (fun v' S2 => v' = v ∧ Inv S2)) := by
  obtain ⟨A, hI, hJ⟩ := hS
  exact pr_q hI hJ (q_s (kX10_count hI.1.1 hI.2.1.1 hI.2.2.2.2.2.1 (hI.2.2.2.2.2.2.1 0 (by omega)))) (fun S1 h => q_s (kM_count h.1.1 h.2.1.1 h.2.2.2.2.1 (h.2.2.2.2.2.1 0 (by omega))))
theorem pr_edges {c : Bool} (hS : Inv S) : Ci 9 mX10_edges [vR 10 0, vI x, vI (bi_ c)] S (fun v S1 => Ci 9 mX11_edges [vR 11 0, vI x, vI (bi_ c)] S1 (fun v' S2 => v' = v ∧ Inv S2)) := by
  obtain ⟨A, hI, hJ⟩ := hS
  exact pr_q hI hJ (q_s (kX10_edges hI.1)) (fun S1 h => q_s (kM_edges h.1))
theorem pr_edge {c : Bool} (hS : Inv S) : Ci 9 mX10_edge [vR 10 0, vI x, vI (bi_ c), vI y] S (fun v S1 => Ci 9 mX11_edge [vR 11 0, vI x, vI (bi_ c), vI y] S1 (fun v' S2 => v' = v ∧ Inv S2)) := by
  obtain ⟨A, hI, hJ⟩ := hS
  exact pr_q hI hJ (q_s (kX10_edge hI.1)) (fun S1 h => q_s (kM_edge h.1))
theorem pr_fault (hS : Inv S) : Ci 9 mX10_fault [vR 10 0] S (fun v S1 => Ci 9 mX11_fault [vR 11 0] S1 (fun v' S2 => v' = v ∧ Inv S2)) := by
  obtain ⟨A, hI, hJ⟩ := hS
  exact pr_q hI hJ (q_s (kX10_fault.imp (fun v S1 h => ⟨h.1.trans hI.2.2.2.2.2.2.2.1, h.2⟩))) (fun S1 h => q_s (kM_fault.imp (fun v S2 h2 => ⟨h2.1.trans h.2.2.2.2.2.2.1, h2.2⟩)))
theorem pr_torn (hS : Inv S) : Ci 9 mX10_torn [vR 10 0] S (fun v S1 => Ci 9 mX11_torn [vR 11 0] S1 (fun v' S2 => v' = v ∧ Inv S2)) := by
  obtain ⟨A, hI, hJ⟩ := hS
  exact pr_q hI hJ (q_s (kX10_torn.imp (fun v S1 h => ⟨h.1.trans hI.2.2.2.2.2.2.2.2, h.2⟩))) (fun S1 h => q_s (kM_torn.imp (fun v S2 h2 => ⟨h2.1.trans h.2.2.2.2.2.2.2, h2.2⟩)))
end PO
