/-! ===== the two sides tied: what both hold ===== -/
abbrev A_T : Type := (Nat × (Nat → Nat)) × (Nat × (Nat → Nat)) × (Nat → Nat) × (Nat → im_T) × (Nat → st_T) × Int32 × Int32
def IX (S : hs_T) (A : A_T) : Prop := TrX S 0 A.1.1 A.1.2 ∧ TpX S A.2.1.1 A.2.1.2 ∧ (S.2.2 0 < 2 ∧ S.2.2 1 < 2 ∧ S.2.2 0 ≠ S.2.2 1) ∧ PrX S (S.2.2 0) A.2.2.1 ∧ WFp A.2.2.1 ∧ (∀ k, k < 2 → ImX S k (A.2.2.2.1 k)) ∧ (∀ k, k < 4 → ShX S k (A.2.2.2.2.1 k)) ∧ S.1 10 0 11 = A.2.2.2.2.2.1 ∧ S.1 10 0 12 = A.2.2.2.2.2.2
def IM (S : hs_T) (A : A_T) : Prop := TrM S A.1.1 A.1.2 ∧ TpM S A.2.1.1 A.2.1.2 ∧ PrM S A.2.2.1 ∧ WFp A.2.2.1 ∧ (∀ k, k < 2 → ImM S k (A.2.2.2.1 k)) ∧ (∀ k, k < 4 → ShM S k (A.2.2.2.2.1 k)) ∧ S.1 11 0 13 = A.2.2.2.2.2.1 ∧ S.1 11 0 33 = A.2.2.2.2.2.2
def Inv (S : hs_T) : Prop := ∃ A, IX S A ∧ IM S A
def exX (k j f : Nat) : Prop := k = 5 ∨ (600 ≤ k ∧ k ≤ 605) ∨ k = 6 ∨ k = 700 ∨ k = 800 ∨ k = 10 ∨ (k = 7 ∧ f = 1) ∨ ((k = 8 ∨ k = 900) ∧ j ≠ 1)
def exM (k f : Nat) : Prop := k = 1200 ∨ k = 1202 ∨ k = 1204 ∨ k = 1205 ∨ k = 1207 ∨ k = 1230 ∨ k = 1231 ∨ k = 1232 ∨ (k = 11 ∧ (f = 3 ∨ f = 8 ∨ f = 13 ∨ f = 33))
theorem exX_e {k j f : Nat} (h : exX k j f) : ess k j f = true := by
  unfold ess
  simp only [Bool.or_eq_true, Bool.and_eq_true, decide_eq_true_eq, Bool.not_eq_true', decide_eq_false_iff_not, List.mem_cons, List.not_mem_nil, or_false]
  unfold exX at h
  omega
theorem exM_e {k j f : Nat} (h : exM k f) : ess k j f = true := by
  unfold ess
  simp only [Bool.or_eq_true, Bool.and_eq_true, decide_eq_true_eq, Bool.not_eq_true', decide_eq_false_iff_not, List.mem_cons, List.not_mem_nil, or_false]
  unfold exM at h
  omega
def eX (S S' : hs_T) : Prop := S'.2.2 = S.2.2 ∧ ∀ k j f, exX k j f → S'.1 k j f = S.1 k j f
def eM (S S' : hs_T) : Prop := ∀ k j f, exM k f → S'.1 k j f = S.1 k j f
theorem Kp_eX {S S' : hs_T} (h : Kp S S') : eX S S' := ⟨h.1, fun k j f e => h.2 k j f (exX_e e)⟩
theorem Kp_eM {S S' : hs_T} (h : Kp S S') : eM S S' := fun k j f e => h.2 k j f (exM_e e)
section CG
variable {S S' : hs_T} {r n : Nat} {t p : Nat → Nat} {A : A_T}
theorem TrX_of {j : Nat} (h8 : S'.1 8 j 1 = S.1 8 j 1) (h9 : S'.1 900 j = S.1 900 j) (h : TrX S j n t) : TrX S' j n t := by
  unfold TrX; rw [h8, h9]; exact h
theorem TpX_of (h7 : S'.1 7 0 1 = S.1 7 0 1) (h8 : S'.1 800 0 = S.1 800 0) (h : TpX S n t) : TpX S' n t := by
  unfold TpX; rw [h7, h8]; exact h
theorem PrX_of (h5 : S'.1 5 r = S.1 5 r) (h0 : S'.1 600 r = S.1 600 r) (h1 : S'.1 601 r = S.1 601 r) (h2 : S'.1 602 r = S.1 602 r) (h3 : S'.1 603 r = S.1 603 r) (h4 : S'.1 604 r = S.1 604 r) (h6 : S'.1 605 r = S.1 605 r) (h : PrX S r p) : PrX S' r p := by
  unfold PrX CdX; rw [h5, h0, h1, h2, h3, h4, h6]; exact h
theorem ImX_of {k : Nat} {o : im_T} (h8 : S'.1 8 (2 + k) = S.1 8 (2 + k)) (h9 : S'.1 900 (2 + k) = S.1 900 (2 + k)) (h : ImX S k o) : ImX S' k o := by
  cases o with
  | none => unfold ImX at h ⊢; rw [h8]; exact h
  | some q => exact ⟨by rw [h8]; exact h.1, TrX_of (by rw [h8]) h9 h.2⟩
theorem ShX_of {k : Nat} {o : st_T} (h6 : S'.1 6 k = S.1 6 k) (h7 : S'.1 700 k = S.1 700 k) (h : ShX S k o) : ShX S' k o := by
  cases o with
  | none => unfold ShX at h ⊢; rw [h6]; exact h
  | some q => unfold ShX at h ⊢; rw [h6, h7]; exact h
theorem TrM_of (h8 : S'.1 11 0 3 = S.1 11 0 3) (h9 : S'.1 1202 0 = S.1 1202 0) (h : TrM S n t) : TrM S' n t := by
  unfold TrM; rw [h8, h9]; exact h
theorem TpM_of (h7 : S'.1 11 0 8 = S.1 11 0 8) (h8 : S'.1 1207 0 = S.1 1207 0) (h : TpM S n t) : TpM S' n t := by
  unfold TpM; rw [h7, h8]; exact h
theorem PrM_of (h5 : S'.1 1200 0 = S.1 1200 0) (h : PrM S p) : PrM S' p := by
  unfold PrM; rw [h5]; exact h
theorem IX_e (he : eX S S') (h : IX S A) : IX S' A := by
  obtain ⟨h1, h2, h3, h4, h5, h6, h7, h8, h9⟩ := h
  have e : ∀ k j, (∀ f, exX k j f) → S'.1 k j = S.1 k j := fun k j hh => funext fun f => he.2 k j f (hh f)
  have er : S'.2.2 0 = S.2.2 0 := by rw [he.1]
  have er1 : S'.2.2 1 = S.2.2 1 := by rw [he.1]
  refine ⟨TrX_of (he.2 8 0 1 (by unfold exX; omega)) (e 900 0 (fun f => by unfold exX; omega)) h1, TpX_of (he.2 7 0 1 (by unfold exX; omega)) (e 800 0 (fun f => by unfold exX; omega)) h2, by rw [er, er1]; exact h3, ?_, h5, fun k hk => ImX_of (e 8 _ (fun f => by unfold exX; omega)) (e 900 _ (fun f => by unfold exX; omega)) (h6 k hk), fun k hk => ShX_of (e 6 k (fun f => by unfold exX; omega)) (e 700 k (fun f => by unfold exX; omega)) (h7 k hk), by rw [he.2 10 0 11 (by unfold exX; omega)]; exact h8, by rw [he.2 10 0 12 (by unfold exX; omega)]; exact h9⟩
  rw [er]
  exact PrX_of (e 5 _ (fun f => by unfold exX; omega)) (e 600 _ (fun f => by unfold exX; omega)) (e 601 _ (fun f => by unfold exX; omega)) (e 602 _ (fun f => by unfold exX; omega)) (e 603 _ (fun f => by unfold exX; omega)) (e 604 _ (fun f => by unfold exX; omega)) (e 605 _ (fun f => by unfold exX; omega)) h4
theorem ImM_of {k : Nat} {o : im_T} (h5 : S'.1 1205 0 k = S.1 1205 0 k) (h4 : ∀ i, i < 400 → S'.1 1204 0 (400 * k + i) = S.1 1204 0 (400 * k + i)) (h : ImM S k o) : ImM S' k o := by
  cases o with
  | none => unfold ImM at h ⊢; rw [h5]; exact h
  | some q => exact ⟨by rw [h5]; exact h.1, h.2.1, fun i hi => by rw [h4 i (by have := h.2.1; omega)]; exact h.2.2 i hi⟩
theorem IM_e (he : eM S S') (h : IM S A) (hs : ∀ k, k < 4 → ShM S k (A.2.2.2.2.1 k) → ShM S' k (A.2.2.2.2.1 k)) : IM S' A := by
  obtain ⟨h1, h2, h3, h4, h5, h6, h7, h8⟩ := h
  have e : ∀ k, (∀ f, exM k f) → S'.1 k 0 = S.1 k 0 := fun k hh => funext fun f => he k 0 f (hh f)
  exact ⟨TrM_of (he 11 0 3 (by unfold exM; omega)) (e 1202 (fun f => by unfold exM; omega)) h1, TpM_of (he 11 0 8 (by unfold exM; omega)) (e 1207 (fun f => by unfold exM; omega)) h2, PrM_of (e 1200 (fun f => by unfold exM; omega)) h3, h4, fun k hk => ImM_of (he 1205 0 k (by unfold exM; omega)) (fun i _ => he 1204 0 _ (by unfold exM; omega)) (h5 k hk), fun k hk => hs k hk (h6 k hk), by rw [he 11 0 13 (by unfold exM; omega)]; exact h7, by rw [he 11 0 33 (by unfold exM; omega)]; exact h8⟩
end CG
