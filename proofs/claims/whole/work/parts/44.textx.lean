/-! ===== the whole text on the class's side ===== -/
section TX
variable {d r n a : Nat} {S0 S : hs_T} {b u : Nat → Nat} {e : er_T} {x : ax_T}
/-- the row behind forget -/
def u0_ (S : hs_T) (r : Nat) : Nat → Nat := fun k => if k < 24 then 0 else if k < 48 then tN (S.1 601 r (k - 24)) else if k < 72 then tN (S.1 602 r (k - 48)) else if k < 147 then tN (S.1 604 r (k - 72)) else if k < 222 then tN (S.1 605 r (k - 147)) else if k = 232 then 100 else 0
theorem u0_lo {k : Nat} (h : k < 24) : u0_ S r k = 0 := if_pos h
theorem u0_hi {k : Nat} (h : 222 ≤ k) : u0_ S r k = if k = 232 then 100 else 0 := by
  unfold u0_
  rw [if_neg (by omega), if_neg (by omega), if_neg (by omega), if_neg (by omega), if_neg (by omega)]
theorem DrX_0 {S' : hs_T} (h6 : S'.1 5 r 6 = 0) (h7 : S'.1 5 r 7 = 100) (h8 : S'.1 5 r 8 = 0) (h0 : ∀ s, s < 8 → S'.1 600 r s = 0) (h3 : ∀ c, c < 25 → S'.1 603 r c = 0) (h1 : S'.1 601 r = S.1 601 r) (h2 : S'.1 602 r = S.1 602 r) (h4 : S'.1 604 r = S.1 604 r) (h5 : S'.1 605 r = S.1 605 r) : DrX S' r (u0_ S r) := by
  refine ⟨⟨?_, ?_, ?_⟩, fun s hs => ?_, fun c hc => ?_, fun c hc => ?_, fun i hi => ?_, ?_, fun s hs => ?_, fun c hc => ?_, ?_, ?_⟩
  · rw [h6]; rfl
  · rw [h7]; rfl
  · rw [h8]; rfl
  · rw [h0 s hs, u0_hi (by omega), if_neg (by omega)]; rfl
  · rw [h1, h2]
    unfold u0_
    rw [if_neg (by omega), if_pos (by omega), if_neg (by omega), if_neg (by omega), if_pos (by omega), nI_tN, nI_tN, Nat.add_sub_cancel_left, Nat.add_sub_cancel_left]
    exact ⟨rfl, rfl⟩
  · rw [h3 c (by omega)]
    rcases cx_c hc with ⟨k1, k2⟩ | ⟨k1, k2⟩ <;> rw [k2]
    · rw [u0_lo k1]; rfl
    · rfl
  · rw [h4, h5]
    unfold u0_
    rw [if_neg (by omega), if_neg (by omega), if_neg (by omega), if_pos (by omega), if_neg (by omega), if_neg (by omega), if_neg (by omega), if_neg (by omega), if_pos (by omega), nI_tN, nI_tN, Nat.add_sub_cancel_left, Nat.add_sub_cancel_left]
    exact ⟨rfl, rfl⟩
  · rw [u0_hi (by omega), if_neg (by omega)]; omega
  · rw [u0_hi (by omega), if_neg (by omega)]; omega
  · rcases cx_c hc with ⟨k1, k2⟩ | ⟨k1, k2⟩ <;> rw [k2]
    · rw [u0_lo k1]; omega
    · rw [u0_hi (by omega), if_neg (by omega)]; omega
  · rw [u0_hi (by omega), if_pos rfl]; omega
  · rw [u0_hi (by omega), if_neg (by omega)]; omega
theorem RA_0 (S : hs_T) (r : Nat) : RA (u0_ S r) x0_ := by
  refine ⟨?_, fun s hs => absurd hs (by simp [x0_]), ⟨?_, fun i hi => absurd hi (by simp [x0_])⟩, ?_, ?_⟩
  · rw [u0_hi (by omega), if_neg (by omega)]; rfl
  · rw [show cx 24 = 231 from rfl, u0_hi (by omega), if_neg (by omega)]; rfl
  · rw [u0_hi (by omega), if_pos rfl]; rfl
  · rw [u0_hi (by omega), if_neg (by omega)]; rfl
theorem FZ_0 (S : hs_T) (r : Nat) : FZ (u0_ S r) x0_ := fun s _ hs => ⟨by rw [u0_hi (by omega), if_neg (by omega)], fun q hq => u0_lo (by omega)⟩
theorem AX_0 : AX x0_ := ⟨by simp [x0_], fun s hs => absurd hs (by simp [x0_]), Or.inl rfl, by simp [x0_], by simp [x0_]⟩
theorem kX5_forget (hr : r < 2) : Cv (d + 1) mX5_forget [vR 5 r] S (fun S' => S'.1 4 0 = S.1 4 0 ∧ fX r S S' ∧ (∀ f, S'.1 7 0 f = S.1 7 0 f) ∧ S'.1 802 0 = S.1 802 0 ∧ S'.1 803 0 = S.1 803 0 ∧ S'.1 804 0 = S.1 804 0 ∧ DrX S' r (u0_ S r)) := by
  refine cxX5_forget ?_
  refine bkX5_forget_0 hr (kJ_fill (pl600 hr) (by decide) ak_600 (by decide)) ?_
  rintro _ ⟨g, rfl, hg⟩
  refine bkX5_forget_24 hr (kJ_fill (pl603 hr) (by decide) ak_603 (by decide)) ?_
  rintro _ ⟨h, rfl, hh⟩
  refine bkX5_forget_32 ⟨rfl, rfl, fX_r (fX_r (fX_r (fX_r (fX_r (fX_rf r S) (by omega)) (by omega)) (by omega)) (by omega)) (by omega), fun f => rfl, rfl, rfl, rfl, ?_⟩
  refine DrX_0 ?_ ?_ ?_ (fun s hs => ?_) (fun c hc => ?_) rfl rfl rfl rfl
  · simp [rd_, up_]
  · simp [rd_, up_]
  · simp [rd_, up_]
  · simp [rd_]; exact hg s hs
  · simp [rd_]; exact hh c hc
theorem kX4_advance0 (hE : ExR r b n S S) (h2 : S.1 4 0 2 = -1) (h8 : S.1 4 0 8 = 0) (hD : DrX S r u) : Cv d mX4_advance [vR 4 0] S (fun S' => oc (if t_co b n 0 = 1 then .inl (1, 0) else .inr 0) (BX r b n S S') (fun a' => GX r b n S S' a' u)) := by
  obtain ⟨c, ⟨k1, k2, k3⟩, k4⟩ := hE.2.1
  have hac : 0 < c := k4 0 (fun q hq => by omega)
  refine cxX4_advance ?_
  refine bkX4_advance_0 (fun hh => absurd h8 hh) (fun _ => ?_)
  have e2 : (sk_ S 4 0 (upd (S.1 4 0) 2 ((S.1 4 0 2) + 1))).1 4 0 2 = nI 0 := by
    rw [sk_at, pk_us, h2]; decide
  refine bkX4_advance_17 (fun hh => absurd hh ?_) (fun _ => ?_)
  · show ¬ S.1 7 0 5 ≤ _
    rw [e2, k1]; exact nl_ hac (by omega)
  · have hv : vp_in ((sk_ S 4 0 (upd (S.1 4 0) 2 ((S.1 4 0 2) + 1))).1 4 0 2) 401 := by rw [e2]; exact vp_lt (by omega) (by omega)
    refine bkX4_advance_31 hv hv hv (bkX4_advance_79 ⟨rfl, ?_⟩)
    have hc := k3 0 hac
    have f1 : (S.1 4 0 2 + 1).toNatClampNeg = 0 := by rw [h2]; decide
    have f0 : S.1 4 0 2 + 1 = nI 0 := by rw [h2]; decide
    generalize hS' : sk_ (sk_ (sk_ (sk_ S 4 0 _) 4 0 _) 4 0 _) 4 0 _ = S'
    have c2 : S'.1 4 0 2 = nI 0 := by rw [← hS']; simp [rd_, up_]; exact f0
    have c3 : S'.1 4 0 3 = nI (t_co b n 0) := by rw [← hS']; simp [rd_, up_]; rw [f1]; exact hc.1
    have c4 : S'.1 4 0 4 = nI (t_po b n 0) := by rw [← hS']; simp [rd_, up_]; rw [f1]; exact hc.2.1
    have c5 : S'.1 4 0 5 = nI (t_vl b n 0) := by rw [← hS']; simp [rd_, up_]; rw [f1]; exact hc.2.2
    have c8 : S'.1 4 0 8 = 0 := by rw [← hS']; simp [rd_, up_]; exact h8
    have hE' : ExR r b n S S' := by
      rw [← hS']
      exact ExR_4 (ExR_4 (ExR_4 (ExR_4 hE (by omega)) (by omega)) (by omega)) (by omega)
    have hD' : DrX S' r u := by rw [← hS']; exact hD
    by_cases ht : t_co b n 0 = 1
    · rw [if_pos ht]
      exact ⟨hE', ⟨by rw [c3, ht]; rfl, Or.inr ⟨c8, rfl, c4⟩⟩, u, hD'⟩
    · rw [if_neg ht]
      exact ⟨hE', ⟨c2, c3, c4, c5, c8, ht, fun q hq => by omega⟩, hD'⟩
/-- what the reading may change, over all lines -/
def fA (r : Nat) (S0 S : hs_T) : Prop := S.2.2 = S0.2.2 ∧ ∀ k j f, k ≠ 4 → ¬ (j = r ∧ (k = 5 ∨ (600 ≤ k ∧ k ≤ 605))) → S.1 k j f = S0.1 k j f
theorem fA_fL {S0 S S' : hs_T} (h : fA r S0 S) (h2 : fL r S S') : fA r S0 S' := ⟨h2.1.trans h.1, fun k j f a c => (h2.2.2 k j f a c).trans (h.2 k j f a c)⟩
theorem fA_4 {S0 S : hs_T} {g : Nat → Int32} (h : fA r S0 S) : fA r S0 (sk_ S 4 0 g) := ⟨h.1, fun k j f a c => by rw [sk_ne _ _ (fun hh => a hh.1)]; exact h.2 k j f a c⟩
theorem kX4_begin (hK : TkZ S b n) (hr1 : S.2.2 1 = r) (hr : r < 2) : Cv (d + 2) mX4_begin [vR 4 0] S (fun S' => fA r S S' ∧ S'.1 4 0 10 = 0 ∧ oc (if t_co b n 0 = 1 then .inl (1, 0) else .inr 0) (BX r b n S' S') (fun a => LXs r b n S' a x0_)) := by
  refine cxX4_begin ?_
  refine bkX4_begin_0 (P := fun S' => S'.1 4 0 = S.1 4 0 ∧ fX r S S' ∧ (∀ f, S'.1 7 0 f = S.1 7 0 f) ∧ S'.1 802 0 = S.1 802 0 ∧ S'.1 803 0 = S.1 803 0 ∧ S'.1 804 0 = S.1 804 0 ∧ DrX S' r (u0_ S r)) (by rw [hr1]; exact hr) (by rw [hr1]; exact kX5_forget hr) ?_
  rintro S1 ⟨h4, hF, h7, h82, h83, h84, hD⟩
  have hK1 : TkZ S1 b n := TkZ_of hK (h7 5) h82 h83 h84
  have hA1 : fA r S S1 := by
    refine ⟨hF.1, fun k j f k1 k2 => ?_⟩
    exact hF.2 k j f (fun hh => by rcases hh with hh | hh; exact k1 hh.1; exact k2 hh)
  generalize hS2 : (sk_ (sk_ (sk_ (sk_ (sk_ (sk_ S1 4 0 (upd (S1.1 4 0) 6 0)) 4 0 (upd ((sk_ S1 4 0 (upd (S1.1 4 0) 6 0)).1 4 0) 7 0)) 4 0 (upd ((sk_ (sk_ S1 4 0 (upd (S1.1 4 0) 6 0)) 4 0 (upd ((sk_ S1 4 0 (upd (S1.1 4 0) 6 0)).1 4 0) 7 0)).1 4 0) 8 0)) 4 0 (upd ((sk_ (sk_ (sk_ S1 4 0 (upd (S1.1 4 0) 6 0)) 4 0 (upd ((sk_ S1 4 0 (upd (S1.1 4 0) 6 0)).1 4 0) 7 0)) 4 0 (upd ((sk_ (sk_ S1 4 0 (upd (S1.1 4 0) 6 0)) 4 0 (upd ((sk_ S1 4 0 (upd (S1.1 4 0) 6 0)).1 4 0) 7 0)).1 4 0) 8 0)).1 4 0) 9 0)) 4 0 (upd ((sk_ (sk_ (sk_ (sk_ S1 4 0 (upd (S1.1 4 0) 6 0)) 4 0 (upd ((sk_ S1 4 0 (upd (S1.1 4 0) 6 0)).1 4 0) 7 0)) 4 0 (upd ((sk_ (sk_ S1 4 0 (upd (S1.1 4 0) 6 0)) 4 0 (upd ((sk_ S1 4 0 (upd (S1.1 4 0) 6 0)).1 4 0) 7 0)).1 4 0) 8 0)) 4 0 (upd ((sk_ (sk_ (sk_ S1 4 0 (upd (S1.1 4 0) 6 0)) 4 0 (upd ((sk_ S1 4 0 (upd (S1.1 4 0) 6 0)).1 4 0) 7 0)) 4 0 (upd ((sk_ (sk_ S1 4 0 (upd (S1.1 4 0) 6 0)) 4 0 (upd ((sk_ S1 4 0 (upd (S1.1 4 0) 6 0)).1 4 0) 7 0)).1 4 0) 8 0)).1 4 0) 9 0)).1 4 0) 10 0)) 4 0 (upd ((sk_ (sk_ (sk_ (sk_ (sk_ S1 4 0 (upd (S1.1 4 0) 6 0)) 4 0 (upd ((sk_ S1 4 0 (upd (S1.1 4 0) 6 0)).1 4 0) 7 0)) 4 0 (upd ((sk_ (sk_ S1 4 0 (upd (S1.1 4 0) 6 0)) 4 0 (upd ((sk_ S1 4 0 (upd (S1.1 4 0) 6 0)).1 4 0) 7 0)).1 4 0) 8 0)) 4 0 (upd ((sk_ (sk_ (sk_ S1 4 0 (upd (S1.1 4 0) 6 0)) 4 0 (upd ((sk_ S1 4 0 (upd (S1.1 4 0) 6 0)).1 4 0) 7 0)) 4 0 (upd ((sk_ (sk_ S1 4 0 (upd (S1.1 4 0) 6 0)) 4 0 (upd ((sk_ S1 4 0 (upd (S1.1 4 0) 6 0)).1 4 0) 7 0)).1 4 0) 8 0)).1 4 0) 9 0)) 4 0 (upd ((sk_ (sk_ (sk_ (sk_ S1 4 0 (upd (S1.1 4 0) 6 0)) 4 0 (upd ((sk_ S1 4 0 (upd (S1.1 4 0) 6 0)).1 4 0) 7 0)) 4 0 (upd ((sk_ (sk_ S1 4 0 (upd (S1.1 4 0) 6 0)) 4 0 (upd ((sk_ S1 4 0 (upd (S1.1 4 0) 6 0)).1 4 0) 7 0)).1 4 0) 8 0)) 4 0 (upd ((sk_ (sk_ (sk_ S1 4 0 (upd (S1.1 4 0) 6 0)) 4 0 (upd ((sk_ S1 4 0 (upd (S1.1 4 0) 6 0)).1 4 0) 7 0)) 4 0 (upd ((sk_ (sk_ S1 4 0 (upd (S1.1 4 0) 6 0)) 4 0 (upd ((sk_ S1 4 0 (upd (S1.1 4 0) 6 0)).1 4 0) 7 0)).1 4 0) 8 0)).1 4 0) 9 0)).1 4 0) 10 0)).1 4 0) 2 (-1))) = S2
  have c2 : S2.1 4 0 2 = -1 := by rw [← hS2]; simp [rd_, up_]
  have c6 : S2.1 4 0 6 = 0 := by rw [← hS2]; simp [rd_, up_]
  have c7 : S2.1 4 0 7 = 0 := by rw [← hS2]; simp [rd_, up_]
  have c8 : S2.1 4 0 8 = 0 := by rw [← hS2]; simp [rd_, up_]
  have c10 : S2.1 4 0 10 = 0 := by rw [← hS2]; simp [rd_, up_]
  have hK2 : TkZ S2 b n := by rw [← hS2]; exact TkZ_of hK1 rfl rfl rfl rfl
  have hD2 : DrX S2 r (u0_ S r) := by rw [← hS2]; exact hD
  have hA2 : fA r S S2 := by rw [← hS2]; exact fA_4 (fA_4 (fA_4 (fA_4 (fA_4 (fA_4 hA1)))))
  have hr2 : S2.2.2 1 = r := by rw [hA2.1]; exact hr1
  refine bkX4_begin_7 (P := fun S' => oc (if t_co b n 0 = 1 then .inl (1, 0) else .inr 0) (BX r b n S2 S') (fun a' => GX r b n S2 S' a' (u0_ S r))) (by rw [hS2]; exact kX4_advance0 ⟨fX_rf r S2, hK2, hr2, hr⟩ c2 c8 hD2) ?_
  intro S3 h3
  refine bkX4_begin_41 ⟨rfl, ?_⟩
  by_cases ht : t_co b n 0 = 1
  · rw [if_pos ht] at h3 ⊢
    have h3 : BX r b n S2 S3 (1, 0) := h3
    exact ⟨fA_fL hA2 (fX_fL h3.1.1), (fX_fL h3.1.1).2.1.trans c10, BX_base h3 (fX_rf r S3)⟩
  · rw [if_neg ht] at h3 ⊢
    have h3 : GX r b n S2 S3 0 _ := h3
    refine ⟨fA_fL hA2 (fX_fL h3.1.1), (fX_fL h3.1.1).2.1.trans c10, _, GX_base h3 (fX_rf r S3), RA_0 _ _, FZ_0 _ _, AX_0, ?_, ?_⟩
    · rw [(flag_of h3.1.1).1, c6]; rfl
    · rw [(flag_of h3.1.1).2, c7]; rfl
theorem kX5_bcD {s : Nat} (hD : DrX S r u) (hr : r < 2) (hs : s < u 230) : Ci d mX5_branchCount [vR 5 r, vI (nI s)] S (fun v S' => v = nI (u (222 + s)) ∧ S' = S) := by
  have h8 := hD.2.2.2.2.2.1
  refine cxX5_branchCount ?_
  refine bkX5_branchCount_0 (fun h => absurd h (nI_pos (by omega))) (fun _ => ?_)
  refine bkX5_branchCount_4 hr (fun h2 => absurd h2 (by rw [hD.1.1]; exact nl_ hs (by omega))) (fun _ => ?_)
  refine bkX5_branchCount_12 (fun h3 => absurd h3 (nl_ (b := 8) (by omega) (by omega))) (fun _ => ?_)
  refine bkX5_branchCount_18 hr (vp_lt (by omega) (by omega)) ?_
  refine bkX5_branchCount_28 ⟨_, rfl, ?_, rfl⟩
  rw [nI_clamp (by omega)]; exact hD.2.1 s (by omega)
theorem kX5_bpD {s q : Nat} (hD : DrX S r u) (hr : r < 2) (hs : s < u 230) (hq : q < u (222 + s)) : Ci (d + 1) mX5_branchPlace [vR 5 r, vI (nI s), vI (nI q)] S (fun v S' => v = nI (3 * s + q) ∧ S' = S) := by
  have h8 := hD.2.2.2.2.2.1
  have h3 := hD.2.2.2.2.2.2.1 s (by omega)
  refine cxX5_branchPlace ?_
  refine bkX5_branchPlace_0 (fun h => absurd h (nI_pos (by omega))) (fun _ => ?_)
  refine bkX5_branchPlace_4 hr (kX5_bcD hD hr hs) ?_
  rintro _ S ⟨rfl, rfl⟩
  refine bkX5_branchPlace_10 (fun h2 => absurd h2 (nl_ hq (by omega))) (fun _ => ?_)
  refine bkX5_branchPlace_13 (bkX5_branchPlace_22 ⟨_, rfl, ?_, rfl⟩)
  rw [m3]
/-- a branch that leads nowhere, as the cells tell -/
def nwX (S : hs_T) (r s q : Nat) : Prop := ¬ S.1 602 r (3 * s + q) = 8 ∧ ¬ S.1 602 r (3 * s + q) < S.1 5 r 6
def LdX (S : hs_T) (r : Nat) (u : Nat → Nat) (v : Int32) : Prop := (v = 1 ∧ ∃ s q, s < u 230 ∧ q < u (222 + s) ∧ nwX S r s q) ∨ (v = 0 ∧ ∀ s q, s < u 230 → q < u (222 + s) → ¬ nwX S r s q)
theorem kX5_leadsNowhere (hD : DrX S r u) (hr : r < 2) : Ci (d + 2) mX5_leadsNowhere [vR 5 r] S (fun v S' => LdX S r u v ∧ S' = S) := by
  have h8 := hD.2.2.2.2.2.1
  refine cxX5_leadsNowhere ?_
  refine bkX5_leadsNowhere_0 ?_
  -- the branches of state s from q on
  have inner : ∀ (s : Nat), s < u 230 → (∀ o3, (∀ q, q < u (222 + s) → ¬ nwX S r s q) → Ev (d + 2) mX5_leadsNowhere 54 [some (vR 5 r), some (vI (nI s)), some (vI (nI (u (222 + s)))), o3] [] S (fun r' S' => ∃ v, r' = some (vI v) ∧ LdX S r u v ∧ S' = S)) →
      ∀ (m q : Nat) (o3 : Option av_T), q + m = u (222 + s) → (∀ q', q' < q → ¬ nwX S r s q') → Ev (d + 2) mX5_leadsNowhere 12 [some (vR 5 r), some (vI (nI s)), some (vI (nI q)), o3] [] S (fun r' S' => ∃ v, r' = some (vI v) ∧ LdX S r u v ∧ S' = S) := by
    intro s hs kk m
    have h3 := hD.2.2.2.2.2.2.1 s (by omega)
    induction m with
    | zero =>
      intro q o3 hq hn
      have e : q = u (222 + s) := by omega
      subst e
      refine bkX5_leadsNowhere_12 hr (kX5_bcD hD hr hs) ?_
      rintro _ S ⟨rfl, rfl⟩
      exact bkX5_leadsNowhere_18 (fun _ => kk _ hn) (fun h => absurd (nI_le (Nat.le_refl _) (by omega)) h)
    | succ m ih =>
      intro q o3 hq hn
      refine bkX5_leadsNowhere_12 hr (kX5_bcD hD hr hs) ?_
      rintro _ S ⟨rfl, rfl⟩
      refine bkX5_leadsNowhere_18 (fun h => absurd h (nl_ (by omega) (by omega))) (fun _ => ?_)
      refine bkX5_leadsNowhere_21 hr (kX5_bpD hD hr hs (by omega)) ?_
      rintro _ S ⟨rfl, rfl⟩
      refine bkX5_leadsNowhere_28 hr (kX5_targetOf hr (by omega)) ?_
      rintro _ S ⟨rfl, rfl⟩
      have next : ¬ nwX S r s q → ∀ o3, Ev (d + 2) mX5_leadsNowhere 48 [some (vR 5 r), some (vI (nI s)), some (vI (nI q)), some (vI o3)] [] S (fun r' S' => ∃ v, r' = some (vI v) ∧ LdX S r u v ∧ S' = S) := by
        intro hnw o3
        refine bkX5_leadsNowhere_48 ?_
        rw [nI_1]
        refine ih (q + 1) _ (by omega) (fun q' hq' => ?_)
        by_cases e : q' = q
        · subst e; exact hnw
        · exact hn q' (by omega)
      refine bkX5_leadsNowhere_31 (fun h => next (fun hh => hh.1 h) _) (fun h => ?_)
      refine bkX5_leadsNowhere_38 hr (fun h2 => next (fun hh => hh.2 h2) _) (fun h2 => ?_)
      exact bkX5_leadsNowhere_46 ⟨_, rfl, Or.inl ⟨rfl, s, q, hs, by omega, h, h2⟩, rfl⟩
  have outer : ∀ (m s : Nat) (o2 o3 : Option av_T), s + m = u 230 → (∀ s' q', s' < s → q' < u (222 + s') → ¬ nwX S r s' q') → Ev (d + 2) mX5_leadsNowhere 2 [some (vR 5 r), some (vI (nI s)), o2, o3] [] S (fun r' S' => ∃ v, r' = some (vI v) ∧ LdX S r u v ∧ S' = S) := by
    intro m
    induction m with
    | zero =>
      intro s o2 o3 hs hn
      refine bkX5_leadsNowhere_2 hr (fun _ => bkX5_leadsNowhere_60 ⟨_, rfl, Or.inr ⟨rfl, fun s' q' h1 h2 => hn s' q' (by omega) h2⟩, rfl⟩) (fun h => absurd ?_ h)
      rw [hD.1.1]; exact nI_le (by omega) (by omega)
    | succ m ih =>
      intro s o2 o3 hs hn
      refine bkX5_leadsNowhere_2 hr (fun h => absurd h ?_) (fun _ => ?_)
      · rw [hD.1.1]; exact nl_ (by omega) (by omega)
      · refine bkX5_leadsNowhere_10 ?_
        refine inner s (by omega) (fun o3 hq => ?_) (u (222 + s)) 0 _ (by omega) (fun q' hq' => by omega)
        refine bkX5_leadsNowhere_54 ?_
        rw [nI_1]
        refine ih (s + 1) _ _ (by omega) (fun s' q' h1 h2 => ?_)
        by_cases e : s' = s
        · subst e; exact hq q' h2
        · exact hn s' q' (by omega) h2
  exact outer (u 230) 0 _ _ (by omega) (fun s' q' h1 => by omega)
end TX
