/-! ===== the calls that change something ===== -/
theorem xk5 {j f : Nat} : exX 5 j f := Or.inl rfl
theorem xkr {k j f : Nat} (h : 600 ≤ k ∧ k ≤ 605) : exX k j f := Or.inr (Or.inl h)
theorem xk6 {j f : Nat} : exX 6 j f := Or.inr (Or.inr (Or.inl rfl))
theorem xk700 {j f : Nat} : exX 700 j f := Or.inr (Or.inr (Or.inr (Or.inl rfl)))
theorem xk800 {j f : Nat} : exX 800 j f := Or.inr (Or.inr (Or.inr (Or.inr (Or.inl rfl))))
theorem xk10 {j f : Nat} : exX 10 j f := Or.inr (Or.inr (Or.inr (Or.inr (Or.inr (Or.inl rfl)))))
theorem xk7 {j : Nat} : exX 7 j 1 := Or.inr (Or.inr (Or.inr (Or.inr (Or.inr (Or.inr (Or.inl ⟨rfl, rfl⟩))))))
theorem xk8 {j f : Nat} (h : j ≠ 1) : exX 8 j f := Or.inr (Or.inr (Or.inr (Or.inr (Or.inr (Or.inr (Or.inr ⟨Or.inl rfl, h⟩))))))
theorem xk900 {j f : Nat} (h : j ≠ 1) : exX 900 j f := Or.inr (Or.inr (Or.inr (Or.inr (Or.inr (Or.inr (Or.inr ⟨Or.inr rfl, h⟩))))))
theorem mk11 {f : Nat} (h : f = 3 ∨ f = 8 ∨ f = 13 ∨ f = 33) : exM 11 f := Or.inr (Or.inr (Or.inr (Or.inr (Or.inr (Or.inr (Or.inr (Or.inr ⟨rfl, h⟩)))))))
theorem exX_lt {k j f : Nat} (h : exX k j f) : k < 1000 ∧ k ≠ 11 := by
  rcases h with h | h | h | h | h | h | h | h <;> omega
theorem exM_lt {k f : Nat} (h : exM k f) : 1200 ≤ k ∨ k = 11 := by
  rcases h with h | h | h | h | h | h | h | h | h <;> omega
abbrev ep_T : Type := Nat → Nat → Nat → Prop
def eXE (E : ep_T) (S S' : hs_T) : Prop := S'.2.2 = S.2.2 ∧ ∀ k j f, exX k j f → ¬ E k j f → S'.1 k j f = S.1 k j f
def eME (E : ep_T) (S S' : hs_T) : Prop := ∀ k j f, exM k f → ¬ E k j f → S'.1 k j f = S.1 k j f
theorem Kz_X {E : ep_T} {S S' : hs_T} (h : Kz E S S') : eXE E S S' := ⟨h.1, fun k j f e n => h.2 k j f (exX_e e) n⟩
theorem Kz_M {E : ep_T} {S S' : hs_T} (h : Kz E S S') : eME E S S' := fun k j f e n => h.2 k j f (exM_e e) n
/-- nothing of the other side is touched -/
theorem Kz_eM {E : ep_T} {S S' : hs_T} (h : Kz E S S') (hE : ∀ k j f, E k j f → k < 1200 ∧ k ≠ 11) : eM S S' := fun k j f e => h.2 k j f (exM_e e) (fun z => by have := hE k j f z; have := exM_lt e; omega)
theorem Kz_eX {E : ep_T} {S S' : hs_T} (h : Kz E S S') (hE : ∀ k j f, E k j f → 1200 ≤ k ∨ k = 11) : eX S S' := ⟨h.1, fun k j f e => h.2 k j f (exX_e e) (fun z => by have := hE k j f z; have := exX_lt e; omega)⟩
theorem sk_eM {S S' : hs_T} {k j : Nat} {g : Nat → Int32} (h : eM S S') (hk : k < 1200 ∧ k ≠ 11) : eM S (sk_ S' k j g) := fun k' j' f e => by
  have := exM_lt e
  rw [sk_ne _ _ (by omega)]; exact h k' j' f e
theorem sk_eX {S S' : hs_T} {k j : Nat} {g : Nat → Int32} (h : eX S S') (hk : 1000 ≤ k ∨ k = 11) : eX S (sk_ S' k j g) := ⟨h.1, fun k' j' f e => by
  have := exX_lt e
  rw [sk_ne _ _ (by omega)]; exact h.2 k' j' f e⟩
theorem eM_rf (S : hs_T) : eM S S := fun _ _ _ _ => rfl
theorem eX_rf (S : hs_T) : eX S S := ⟨rfl, fun _ _ _ _ => rfl⟩
theorem sk_XE {E : ep_T} {S S' : hs_T} {k j : Nat} {g : Nat → Int32} (h : eXE E S S') (hg : ∀ f, exX k j f → E k j f) : eXE E S (sk_ S' k j g) := ⟨h.1, fun k' j' f e n => by
  by_cases c : k' = k ∧ j' = j
  · obtain ⟨rfl, rfl⟩ := c; exact absurd (hg f e) n
  · rw [sk_ne _ _ c]; exact h.2 k' j' f e n⟩
theorem sk_ME {E : ep_T} {S S' : hs_T} {k j : Nat} {g : Nat → Int32} (h : eME E S S') (hg : ∀ f, exM k f → ¬ E k j f → g f = S'.1 k j f) : eME E S (sk_ S' k j g) := fun k' j' f e n => by
  by_cases c : k' = k ∧ j' = j
  · obtain ⟨rfl, rfl⟩ := c; rw [sk_at, hg f e n]; exact h _ _ f e n
  · rw [sk_ne _ _ c]; exact h k' j' f e n
theorem XE_rf (E : ep_T) (S : hs_T) : eXE E S S := ⟨rfl, fun _ _ _ _ _ => rfl⟩
theorem ME_rf (E : ep_T) (S : hs_T) : eME E S S := fun _ _ _ _ _ => rfl
section IU
variable {S S' : hs_T} {A : A_T} {E : ep_T} {n : Nat} {t : Nat → Nat}
theorem fe_ (he : eXE E S S') {k j : Nat} (h1 : ∀ f, exX k j f) (h2 : ∀ f, ¬ E k j f) : S'.1 k j = S.1 k j := funext fun f => he.2 k j f (h1 f) (h2 f)
theorem fm_ (he : eME E S S') {k j : Nat} (h1 : ∀ f, exM k f) (h2 : ∀ f, ¬ E k j f) : S'.1 k j = S.1 k j := funext fun f => he k j f (h1 f) (h2 f)
/-- the told program stays -/
theorem Pr_k (he : eXE E S S') (hE : ∀ k j f, E k j f → ¬ (k = 5 ∨ (600 ≤ k ∧ k ≤ 605))) {r : Nat} {p : Nat → Nat} (h : PrX S r p) : PrX S' r p :=
  PrX_of (fe_ he (fun _ => xk5) (fun f z => hE _ _ _ z (by omega))) (fe_ he (fun _ => xkr (by omega)) (fun f z => hE _ _ _ z (by omega))) (fe_ he (fun _ => xkr (by omega)) (fun f z => hE _ _ _ z (by omega))) (fe_ he (fun _ => xkr (by omega)) (fun f z => hE _ _ _ z (by omega))) (fe_ he (fun _ => xkr (by omega)) (fun f z => hE _ _ _ z (by omega))) (fe_ he (fun _ => xkr (by omega)) (fun f z => hE _ _ _ z (by omega))) (fe_ he (fun _ => xkr (by omega)) (fun f z => hE _ _ _ z (by omega))) h
theorem IX_rd {w : Int32} (h : IX S A) (he : eXE EX S S') (hT : TrX S' 0 n t) (hw : S'.1 10 0 12 = w) : IX S' ((n, t), A.2.1, A.2.2.1, A.2.2.2.1, A.2.2.2.2.1, A.2.2.2.2.2.1, w) := by
  obtain ⟨h1, h2, h3, h4, h5, h6, h7, h8, h9⟩ := h
  refine ⟨hT, TpX_of (he.2 7 0 1 xk7 (by unfold EX; omega)) (fe_ he (fun _ => xk800) (fun f => by unfold EX; omega)) h2, by rw [he.1]; exact h3, ?_, h5, fun k hk => ImX_of (fe_ he (fun _ => xk8 (by omega)) (fun f => by unfold EX; omega)) (fe_ he (fun _ => xk900 (by omega)) (fun f => by unfold EX; omega)) (h6 k hk), fun k hk => ShX_of (fe_ he (fun _ => xk6) (fun f => by unfold EX; omega)) (fe_ he (fun _ => xk700) (fun f => by unfold EX; omega)) (h7 k hk), by rw [he.2 10 0 11 xk10 (by unfold EX; omega)]; exact h8, hw⟩
  rw [he.1]
  exact Pr_k he (fun k j f z => by unfold EX at z; omega) h4
theorem IX_tr (h : IX S A) (he : eXE (fun k j _ => (k = 8 ∨ k = 900) ∧ j = 0) S S') (hT : TrX S' 0 n t) : IX S' ((n, t), A.2) :=
  IX_rd h ⟨he.1, fun k j f e z => he.2 k j f e (fun y => z (Or.inl y))⟩ hT (by rw [he.2 10 0 12 xk10 (by omega)]; exact h.2.2.2.2.2.2.2.2)
theorem IX_tp (h : IX S A) (he : eXE (fun k _ _ => k = 7 ∨ k = 800) S S') (hT : TpX S' n t) : IX S' (A.1, (n, t), A.2.2) := by
  obtain ⟨h1, h2, h3, h4, h5, h6, h7, h8, h9⟩ := h
  refine ⟨TrX_of (he.2 8 0 1 (xk8 (by omega)) (by omega)) (fe_ he (fun _ => xk900 (by omega)) (fun f => by omega)) h1, hT, by rw [he.1]; exact h3, ?_, h5, fun k hk => ImX_of (fe_ he (fun _ => xk8 (by omega)) (fun f => by omega)) (fe_ he (fun _ => xk900 (by omega)) (fun f => by omega)) (h6 k hk), fun k hk => ShX_of (fe_ he (fun _ => xk6) (fun f => by omega)) (fe_ he (fun _ => xk700) (fun f => by omega)) (h7 k hk), by rw [he.2 10 0 11 xk10 (by omega)]; exact h8, by rw [he.2 10 0 12 xk10 (by omega)]; exact h9⟩
  rw [he.1]
  exact Pr_k he (fun k j f z => by omega) h4
theorem IX_im {k0 : Nat} {o : im_T} (h : IX S A) (hk0 : k0 < 2) (he : eXE (fun k j _ => (k = 8 ∨ k = 900) ∧ j = 2 + k0) S S') (hI : ImX S' k0 o) : IX S' (A.1, A.2.1, A.2.2.1, (fun k => if k = k0 then o else A.2.2.2.1 k), A.2.2.2.2) := by
  obtain ⟨h1, h2, h3, h4, h5, h6, h7, h8, h9⟩ := h
  refine ⟨TrX_of (he.2 8 0 1 (xk8 (by omega)) (by omega)) (fe_ he (fun _ => xk900 (by omega)) (fun f => by omega)) h1, TpX_of (he.2 7 0 1 xk7 (by omega)) (fe_ he (fun _ => xk800) (fun f => by omega)) h2, by rw [he.1]; exact h3, ?_, h5, fun k hk => ?_, fun k hk => ShX_of (fe_ he (fun _ => xk6) (fun f => by omega)) (fe_ he (fun _ => xk700) (fun f => by omega)) (h7 k hk), by rw [he.2 10 0 11 xk10 (by omega)]; exact h8, by rw [he.2 10 0 12 xk10 (by omega)]; exact h9⟩
  · rw [he.1]
    exact Pr_k he (fun k j f z => by omega) h4
  · show ImX S' k (if k = k0 then o else A.2.2.2.1 k)
    by_cases e : k = k0
    · rw [if_pos e, e]; exact hI
    · rw [if_neg e]
      exact ImX_of (fe_ he (fun _ => xk8 (by omega)) (fun f => by omega)) (fe_ he (fun _ => xk900 (by omega)) (fun f => by omega)) (h6 k hk)
theorem IX_sh {k0 : Nat} {o : st_T} (h : IX S A) (he : eXE (fun k j _ => (k = 6 ∨ k = 700) ∧ j = k0) S S') (hI : ShX S' k0 o) : IX S' (A.1, A.2.1, A.2.2.1, A.2.2.2.1, (fun k => if k = k0 then o else A.2.2.2.2.1 k), A.2.2.2.2.2) := by
  obtain ⟨h1, h2, h3, h4, h5, h6, h7, h8, h9⟩ := h
  refine ⟨TrX_of (he.2 8 0 1 (xk8 (by omega)) (by omega)) (fe_ he (fun _ => xk900 (by omega)) (fun f => by omega)) h1, TpX_of (he.2 7 0 1 xk7 (by omega)) (fe_ he (fun _ => xk800) (fun f => by omega)) h2, by rw [he.1]; exact h3, ?_, h5, fun k hk => ImX_of (fe_ he (fun _ => xk8 (by omega)) (fun f => by omega)) (fe_ he (fun _ => xk900 (by omega)) (fun f => by omega)) (h6 k hk), fun k hk => ?_, by rw [he.2 10 0 11 xk10 (by omega)]; exact h8, by rw [he.2 10 0 12 xk10 (by omega)]; exact h9⟩
  · rw [he.1]
    exact Pr_k he (fun k j f z => by omega) h4
  · show ShX S' k (if k = k0 then o else A.2.2.2.2.1 k)
    by_cases e : k = k0
    · rw [if_pos e, e]; exact hI
    · rw [if_neg e]
      exact ShX_of (fe_ he (fun _ => xk6) (fun f => by omega)) (fe_ he (fun _ => xk700) (fun f => by omega)) (h7 k hk)
/-! the reference's -/
theorem IM_gen {A' : A_T} (h : IM S A) (hTr : TrM S' A'.1.1 A'.1.2) (hTp : TpM S' A'.2.1.1 A'.2.1.2) (hp : A'.2.2.1 = A.2.2.1) (h12 : S'.1 1200 0 = S.1 1200 0) (him : ∀ k, k < 2 → ImM S' k (A'.2.2.2.1 k)) (hsh : ∀ k, k < 4 → ShM S' k (A'.2.2.2.2.1 k)) (h13 : S'.1 11 0 13 = A'.2.2.2.2.2.1) (h33 : S'.1 11 0 33 = A'.2.2.2.2.2.2) : IM S' A' :=
  ⟨hTr, hTp, by rw [hp]; exact PrM_of h12 h.2.2.1, by rw [hp]; exact h.2.2.2.1, him, hsh, h13, h33⟩
theorem im_k (he : eME E S S') (hE : ∀ k j f, E k j f → ¬ (k = 1204 ∨ k = 1205)) {o : Nat → im_T} (h : ∀ k, k < 2 → ImM S k (o k)) : ∀ k, k < 2 → ImM S' k (o k) := fun k hk =>
  ImM_of (he 1205 0 k (exM_1 (by omega)) (fun z => hE _ _ _ z (by omega))) (fun i _ => he 1204 0 _ (exM_1 (by omega)) (fun z => hE _ _ _ z (by omega))) (h k hk)
theorem sh_k (he : eME E S S') (hE : ∀ k j f, E k j f → ¬ (k = 1230 ∨ k = 1231 ∨ k = 1232)) {o : Nat → st_T} (h : ∀ k, k < 4 → ShM S k (o k)) : ∀ k, k < 4 → ShM S' k (o k) := fun k hk =>
  ShM_of (he 1230 0 k (exM_1 (by omega)) (fun z => hE _ _ _ z (by omega))) (he 1231 0 k (exM_1 (by omega)) (fun z => hE _ _ _ z (by omega))) (fun i _ => he 1232 0 _ (exM_1 (by omega)) (fun z => hE _ _ _ z (by omega))) (h k hk)
theorem tp_k (he : eME E S S') (hE : ∀ k j f, E k j f → ¬ (k = 1207 ∨ (k = 11 ∧ f = 8))) (h : TpM S n t) : TpM S' n t := TpM_of (he 11 0 8 (mk11 (by omega)) (fun z => hE _ _ _ z (by omega))) (fm_ he (fun _ => exM_1 (by omega)) (fun f z => hE _ _ _ z (by omega))) h
theorem tr_k (he : eME E S S') (hE : ∀ k j f, E k j f → ¬ (k = 1202 ∨ (k = 11 ∧ f = 3))) (h : TrM S n t) : TrM S' n t := TrM_of (he 11 0 3 (mk11 (by omega)) (fun z => hE _ _ _ z (by omega))) (fm_ he (fun _ => exM_1 (by omega)) (fun f z => hE _ _ _ z (by omega))) h
theorem IM_rd {w : Int32} (h : IM S A) (he : eME EM S S') (hT : TrM S' n t) (hw : S'.1 11 0 33 = w) : IM S' ((n, t), A.2.1, A.2.2.1, A.2.2.2.1, A.2.2.2.2.1, A.2.2.2.2.2.1, w) :=
  IM_gen h hT (tp_k he (fun k j f z => by unfold EM at z; omega) h.2.1) rfl (fm_ he (fun _ => exM_1 (by omega)) (fun f => by unfold EM; omega)) (im_k he (fun k j f z => by unfold EM at z; omega) h.2.2.2.2.1) (sh_k he (fun k j f z => by unfold EM at z; omega) h.2.2.2.2.2.1) (by rw [he 11 0 13 (mk11 (by omega)) (by unfold EM; omega)]; exact h.2.2.2.2.2.2.1) hw
theorem IM_tr (h : IM S A) (he : eME (fun k _ f => k = 1202 ∨ (k = 11 ∧ f = 3)) S S') (hT : TrM S' n t) : IM S' ((n, t), A.2) :=
  IM_rd h (fun k j f e z => he k j f e (fun y => z (y.elim Or.inl (fun y => Or.inr ⟨y.1, Or.inl y.2⟩)))) hT (by rw [he 11 0 33 (mk11 (by omega)) (by omega)]; exact h.2.2.2.2.2.2.2)
theorem IM_tp (h : IM S A) (he : eME (fun k _ f => k = 1207 ∨ (k = 11 ∧ f = 8)) S S') (hT : TpM S' n t) : IM S' (A.1, (n, t), A.2.2) :=
  IM_gen h (tr_k he (fun k j f z => by omega) h.1) hT rfl (fm_ he (fun _ => exM_1 (by omega)) (fun f => by omega)) (im_k he (fun k j f z => by omega) h.2.2.2.2.1) (sh_k he (fun k j f z => by omega) h.2.2.2.2.2.1) (by rw [he 11 0 13 (mk11 (by omega)) (by omega)]; exact h.2.2.2.2.2.2.1) (by rw [he 11 0 33 (mk11 (by omega)) (by omega)]; exact h.2.2.2.2.2.2.2)
theorem IM_im {k0 : Nat} {o : im_T} (h : IM S A) (he : eME (fun k _ f => (k = 1204 ∧ ¬ (f < 400 * k0 ∨ 400 * k0 + 400 ≤ f)) ∨ (k = 1205 ∧ f = k0)) S S') (hI : ImM S' k0 o) : IM S' (A.1, A.2.1, A.2.2.1, (fun k => if k = k0 then o else A.2.2.2.1 k), A.2.2.2.2) := by
  refine IM_gen h (tr_k he (fun k j f z => by omega) h.1) (tp_k he (fun k j f z => by omega) h.2.1) rfl (fm_ he (fun _ => exM_1 (by omega)) (fun f => by omega)) (fun k hk => ?_) (sh_k he (fun k j f z => by omega) h.2.2.2.2.2.1) (by rw [he 11 0 13 (mk11 (by omega)) (by omega)]; exact h.2.2.2.2.2.2.1) (by rw [he 11 0 33 (mk11 (by omega)) (by omega)]; exact h.2.2.2.2.2.2.2)
  show ImM S' k (if k = k0 then o else A.2.2.2.1 k)
  by_cases e : k = k0
  · rw [if_pos e, e]; exact hI
  · rw [if_neg e]
    exact ImM_of (he 1205 0 k (exM_1 (by omega)) (by omega)) (fun i hi => he 1204 0 _ (exM_1 (by omega)) (by omega)) (h.2.2.2.2.1 k hk)
theorem IM_sh {k0 : Nat} {o : st_T} (h : IM S A) (he : eME (fun k _ f => ((k = 1230 ∨ k = 1231) ∧ f = k0) ∨ (k = 1232 ∧ ¬ (f < 40 * k0 ∨ 40 * k0 + 40 ≤ f))) S S') (hI : ShM S' k0 o) : IM S' (A.1, A.2.1, A.2.2.1, A.2.2.2.1, (fun k => if k = k0 then o else A.2.2.2.2.1 k), A.2.2.2.2.2) := by
  refine IM_gen h (tr_k he (fun k j f z => by omega) h.1) (tp_k he (fun k j f z => by omega) h.2.1) rfl (fm_ he (fun _ => exM_1 (by omega)) (fun f => by omega)) (im_k he (fun k j f z => by omega) h.2.2.2.2.1) (fun k hk => ?_) (by rw [he 11 0 13 (mk11 (by omega)) (by omega)]; exact h.2.2.2.2.2.2.1) (by rw [he 11 0 33 (mk11 (by omega)) (by omega)]; exact h.2.2.2.2.2.2.2)
  show ShM S' k (if k = k0 then o else A.2.2.2.2.1 k)
  by_cases e : k = k0
  · rw [if_pos e, e]; exact hI
  · rw [if_neg e]
    exact ShM_of (he 1230 0 k (exM_1 (by omega)) (by omega)) (he 1231 0 k (exM_1 (by omega)) (by omega)) (fun i hi => he 1232 0 _ (exM_1 (by omega)) (by omega)) (h.2.2.2.2.2.1 k hk)
end IU
