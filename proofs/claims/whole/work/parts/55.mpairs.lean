/-! ===== the calls that change something: paired ===== -/
section PM
variable {S : hs_T} {x y z u : Int32}
theorem pr_feed {q : Int64} (hS : Inv S) : Ci 9 mX10_feed [vR 10 0, vJ q] S (fun v S1 => Ci 9 mX11_feed [vR 11 0, vJ q] S1 (fun v' S2 => v' = v ∧ Inv S2)) := by
  obtain ⟨A, hI, hJ⟩ := hS
  by_cases h8 : A.2.1.1 + 8 ≤ 400
  · refine pr_m (a := sp_feed A.2.1.1) (A' := (A.1, (A.2.1.1 + 8, b_app A.2.1.2 A.2.1.1 q), A.2.2)) hI hJ ((kX10_feed hI.2.1).imp ?_) (fun S1 h => (kM_feed h.2.1).imp ?_)
    · rintro v S1 ⟨rfl, h | ⟨_, g, rfl, hT⟩⟩
      · exact absurd h8 h.1
      · exact ⟨rfl, sk_eM (sk_eM (eM_rf S) (by omega)) (by omega), IX_tp hI (sk_XE (sk_XE (XE_rf _ S) (fun f _ => Or.inr rfl)) (fun f _ => Or.inl rfl)) hT⟩
    · rintro v S2 ⟨rfl, h2 | ⟨_, g, rfl, hT⟩⟩
      · exact absurd h8 h2.1
      · exact ⟨rfl, sk_eX (sk_eX (eX_rf S1) (by omega)) (by omega), IM_tp h (sk_ME (sk_ME (ME_rf _ S1) (fun f _ z => absurd (Or.inl rfl) z)) (fun f _ z => pk_un (fun e => z (Or.inr ⟨rfl, e⟩)))) hT⟩
  · refine pr_m (a := sp_feed A.2.1.1) (A' := A) hI hJ ((kX10_feed hI.2.1).imp ?_) (fun S1 h => (kM_feed h.2.1).imp ?_)
    · rintro v S1 ⟨rfl, ⟨_, rfl⟩ | ⟨h, _⟩⟩
      · exact ⟨rfl, eM_rf S1, hI⟩
      · exact absurd h h8
    · rintro v S2 ⟨rfl, ⟨_, rfl⟩ | ⟨h2, _⟩⟩
      · exact ⟨rfl, eX_rf _, h⟩
      · exact absurd h2 h8
theorem pr_end (hS : Inv S) : Ci 9 mX10_end [vR 10 0, vI x] S (fun v S1 => Ci 9 mX11_end [vR 11 0, vI x] S1 (fun v' S2 => v' = v ∧ Inv S2)) := by
  obtain ⟨A, hI, hJ⟩ := hS
  cases hx : inR x 0 A.2.1.1
  · refine pr_m (a := sp_cut A.2.1.1 x) (A' := A) hI hJ ((kX10_end hI.2.1.1 hI.2.1.2.1).imp ?_) (fun S1 h => (kM_end h.2.1.1 h.2.1.2.1).imp ?_)
    · rintro v S1 ⟨rfl, rfl⟩; rw [hx]; exact ⟨rfl, eM_rf S, hI⟩
    · rintro v S2 ⟨rfl, rfl⟩; rw [hx]; exact ⟨rfl, eX_rf _, h⟩
  · obtain ⟨k, hk, rfl⟩ := inR_get hx
    refine pr_m (a := sp_cut A.2.1.1 (nI k)) (A' := (A.1, (k, A.2.1.2), A.2.2)) hI hJ ((kX10_end hI.2.1.1 hI.2.1.2.1).imp ?_) (fun S1 h => (kM_end h.2.1.1 h.2.1.2.1).imp ?_)
    · rintro v S1 ⟨rfl, rfl⟩
      have hn := hI.2.1.2.1
      rw [hx, if_pos rfl]
      refine ⟨rfl, sk_eM (eM_rf S) (by omega), IX_tp hI (sk_XE (XE_rf _ S) (fun f _ => Or.inl rfl)) ⟨by rw [sk_at, pk_us], by omega, fun i hi => hI.2.1.2.2 i (by omega)⟩⟩
    · rintro v S2 ⟨rfl, rfl⟩
      have hn := h.2.1.2.1
      rw [hx, if_pos rfl]
      refine ⟨rfl, sk_eX (eX_rf S1) (by omega), IM_tp h (sk_ME (ME_rf _ S1) (fun f _ z => pk_un (fun e => z (Or.inr ⟨rfl, e⟩)))) ⟨by rw [sk_at, pk_us], by omega, fun i hi => h.2.1.2.2 i (by omega)⟩⟩
theorem pr_cut (hS : Inv S) : Ci 9 mX10_cut [vR 10 0, vI x] S (fun v S1 => Ci 9 mX11_cut [vR 11 0, vI x] S1 (fun v' S2 => v' = v ∧ Inv S2)) := by
  obtain ⟨A, hI, hJ⟩ := hS
  cases hx : inR x 0 A.1.1
  · refine pr_m (a := sp_cut A.1.1 x) (A' := A) hI hJ ((kX10_cut hI.1.1 hI.1.2.1).imp ?_) (fun S1 h => (kM_cut h.1.1 h.1.2.1).imp ?_)
    · rintro v S1 ⟨rfl, rfl⟩; rw [hx]; exact ⟨rfl, eM_rf S, hI⟩
    · rintro v S2 ⟨rfl, rfl⟩; rw [hx]; exact ⟨rfl, eX_rf _, h⟩
  · obtain ⟨k, hk, rfl⟩ := inR_get hx
    refine pr_m (a := sp_cut A.1.1 (nI k)) (A' := ((k, A.1.2), A.2)) hI hJ ((kX10_cut hI.1.1 hI.1.2.1).imp ?_) (fun S1 h => (kM_cut h.1.1 h.1.2.1).imp ?_)
    · rintro v S1 ⟨rfl, rfl⟩
      have hn := hI.1.2.1
      rw [hx, if_pos rfl]
      refine ⟨rfl, sk_eM (eM_rf S) (by omega), IX_tr hI (sk_XE (XE_rf _ S) (fun f _ => ⟨Or.inl rfl, rfl⟩)) ⟨by rw [sk_at, pk_us], by omega, fun i hi => hI.1.2.2 i (by omega)⟩⟩
    · rintro v S2 ⟨rfl, rfl⟩
      have hn := h.1.2.1
      rw [hx, if_pos rfl]
      refine ⟨rfl, sk_eX (eX_rf S1) (by omega), IM_tr h (sk_ME (ME_rf _ S1) (fun f _ z => pk_un (fun e => z (Or.inr ⟨rfl, e⟩)))) ⟨by rw [sk_at, pk_us], by omega, fun i hi => h.1.2.2 i (by omega)⟩⟩
theorem pr_see (hS : Inv S) : Ci 9 mX10_see [vR 10 0, vI x, vI y] S (fun v S1 => Ci 9 mX11_see [vR 11 0, vI x, vI y] S1 (fun v' S2 => v' = v ∧ Inv S2)) := by
  obtain ⟨A, hI, hJ⟩ := hS
  by_cases h8 : sp_ref A.1.1 x y = 0
  · refine pr_m (a := sp_see A.1.1 x y) (A' := ((A.1.1 + x.toInt.toNat, t_app A.1.2 A.1.1 x.toInt.toNat y.toInt.toNat), A.2)) hI hJ ((kX10_see hI.1).imp ?_) (fun S1 h => (kM_see h.1).imp ?_)
    · rintro v S1 ⟨rfl, h | ⟨_, g, rfl, hT⟩⟩
      · exact absurd h8 h.1
      · exact ⟨rfl, sk_eM (sk_eM (eM_rf S) (by omega)) (by omega), IX_tr hI (sk_XE (sk_XE (XE_rf _ S) (fun f _ => ⟨Or.inr rfl, rfl⟩)) (fun f _ => ⟨Or.inl rfl, rfl⟩)) hT⟩
    · rintro v S2 ⟨rfl, h2 | ⟨_, g, rfl, hT⟩⟩
      · exact absurd h8 h2.1
      · exact ⟨rfl, sk_eX (sk_eX (eX_rf S1) (by omega)) (by omega), IM_tr h (sk_ME (sk_ME (ME_rf _ S1) (fun f _ z => absurd (Or.inl rfl) z)) (fun f _ z => pk_un (fun e => z (Or.inr ⟨rfl, e⟩)))) hT⟩
  · refine pr_m (a := sp_see A.1.1 x y) (A' := A) hI hJ ((kX10_see hI.1).imp ?_) (fun S1 h => (kM_see h.1).imp ?_)
    · rintro v S1 ⟨rfl, ⟨_, rfl⟩ | ⟨h, _⟩⟩
      · exact ⟨rfl, eM_rf S1, hI⟩
      · exact absurd h h8
    · rintro v S2 ⟨rfl, ⟨_, rfl⟩ | ⟨h2, _⟩⟩
      · exact ⟨rfl, eX_rf _, h⟩
      · exact absurd h2 h8
theorem pr_put (hS : Inv S) : Ci 9 mX10_put [vR 10 0, vI x, vI y] S (fun v S1 => Ci 9 mX11_put [vR 11 0, vI x, vI y] S1 (fun v' S2 => v' = v ∧ Inv S2)) := by
  obtain ⟨A, hI, hJ⟩ := hS
  cases hx : ok_put A.1.1 x y
  · refine pr_m (a := sp_put A.1.1 A.1.2 x y) (A' := A) hI hJ ((kX10_put hI.1).imp ?_) (fun S1 h => (kM_put h.1).imp ?_)
    · rintro v S1 ⟨rfl, rfl⟩; rw [hx]; exact ⟨rfl, eM_rf S, hI⟩
    · rintro v S2 ⟨rfl, rfl⟩; rw [hx]; exact ⟨rfl, eX_rf _, h⟩
  · have hx' := hx
    unfold ok_put at hx'
    rw [Bool.and_eq_true] at hx'
    obtain ⟨k, hk, rfl⟩ := inR_get hx'.1
    obtain ⟨w, hw, rfl⟩ := inR_get hx'.2
    refine pr_m (a := sp_put A.1.1 A.1.2 (nI k) (nI w)) (A' := ((A.1.1, un_ A.1.2 k w), A.2)) hI hJ ((kX10_put hI.1).imp ?_) (fun S1 h => (kM_put h.1).imp ?_)
    · rintro v S1 ⟨rfl, rfl⟩
      have hn := hI.1.2.1
      rw [hx, if_pos rfl, nI_tn (by omega)]
      refine ⟨rfl, sk_eM (eM_rf S) (by omega), IX_tr hI (sk_XE (XE_rf _ S) (fun f _ => ⟨Or.inr rfl, rfl⟩)) ⟨hI.1.1, hn, fun i hi => ?_⟩⟩
      rw [sk_at]
      by_cases e : i = k
      · subst e; rw [pk_us, un_s]; exact ⟨rfl, by omega⟩
      · rw [pk_un e, un_n e]; exact hI.1.2.2 i hi
    · rintro v S2 ⟨rfl, rfl⟩
      have hn := h.1.2.1
      rw [hx, if_pos rfl, nI_tn (by omega)]
      refine ⟨rfl, sk_eX (eX_rf S1) (by omega), IM_tr h (sk_ME (ME_rf _ S1) (fun f _ z => absurd (Or.inl rfl) z)) ⟨h.1.1, hn, fun i hi => ?_⟩⟩
      rw [sk_at]
      by_cases e : i = k
      · subst e; rw [pk_us, un_s]; exact ⟨rfl, by omega⟩
      · rw [pk_un e, un_n e]; exact h.1.2.2 i hi
theorem Kq_XE {k0 j0 : Nat} {S S' : hs_T} (h : Kq k0 j0 S S') : Kz (fun k j _ => k = k0 ∧ j = j0) S S' := ⟨h.1, fun k j f e n => h.2 k j f e n⟩
theorem pr_smooth (hS : Inv S) : Ci 9 mX10_smooth [vR 10 0, vI x] S (fun v S1 => Ci 9 mX11_smooth [vR 11 0, vI x] S1 (fun v' S2 => v' = v ∧ Inv S2)) := by
  obtain ⟨A, hI, hJ⟩ := hS
  cases hx : inR x 1 400
  · refine pr_m (a := sp_smooth A.1.1 A.1.2 x) (A' := A) hI hJ ((kX10_smooth hI.1).imp ?_) (fun S1 h => (kM_smooth h.1).imp ?_)
    · rintro v S1 ⟨rfl, ⟨_, rfl⟩ | ⟨h, _⟩⟩
      · exact ⟨rfl, eM_rf S1, hI⟩
      · rw [hx] at h; cases h
    · rintro v S2 ⟨rfl, ⟨_, rfl⟩ | ⟨h2, _⟩⟩
      · exact ⟨rfl, eX_rf _, h⟩
      · rw [hx] at h2; cases h2
  · refine pr_m (a := sp_smooth A.1.1 A.1.2 x) (A' := ((A.1.1, s_S A.1.1 x.toInt.toNat A.1.2 8), A.2)) hI hJ ((kX10_smooth hI.1).imp ?_) (fun S1 h => (kM_smooth h.1).imp ?_)
    · rintro v S1 ⟨rfl, ⟨h, _⟩ | ⟨_, hK, hT⟩⟩
      · rw [hx] at h; cases h
      · have hz := Kq_XE hK
        exact ⟨rfl, Kz_eM hz (fun k j f z => by omega), IX_tr hI ⟨hz.1, fun k j f e n => (Kz_X hz).2 k j f e (fun z => n ⟨Or.inr z.1, z.2⟩)⟩ hT⟩
    · rintro v S2 ⟨rfl, ⟨h2, _⟩ | ⟨_, hK, hT⟩⟩
      · rw [hx] at h2; cases h2
      · have hz := Kq_XE hK
        exact ⟨rfl, Kz_eX hz (fun k j f z => by omega), IM_tr h (fun k j f e n => Kz_M hz k j f e (fun z => n (Or.inl z.1))) hT⟩
theorem pr_keep (hS : Inv S) : Ci 9 mX10_keep [vR 10 0, vI x] S (fun v S1 => Ci 9 mX11_keep [vR 11 0, vI x] S1 (fun v' S2 => v' = v ∧ Inv S2)) := by
  obtain ⟨A, hI, hJ⟩ := hS
  cases hx : inR x 0 1
  · refine pr_m (a := sp_keep A.2.2.2.1 x) (A' := A) hI hJ ((kX10_keep hI.1 hI.2.2.2.2.2.1).imp ?_) (fun S1 h => (kM_keep h.1 h.2.2.2.2.1).imp ?_)
    · rintro v S1 ⟨rfl, ⟨_, rfl⟩ | ⟨h, _⟩⟩
      · exact ⟨rfl, eM_rf S1, hI⟩
      · rw [hx] at h; cases h
    · rintro v S2 ⟨rfl, ⟨_, rfl⟩ | ⟨h2, _⟩⟩
      · exact ⟨rfl, eX_rf _, h⟩
      · rw [hx] at h2; cases h2
  · obtain ⟨k, hk, rfl⟩ := inR_get hx
    refine pr_m (a := sp_keep A.2.2.2.1 (nI k)) (A' := (A.1, A.2.1, A.2.2.1, (fun q => if q = k then some A.1 else A.2.2.2.1 q), A.2.2.2.2)) hI hJ ((kX10_keep hI.1 hI.2.2.2.2.2.1).imp ?_) (fun S1 h => (kM_keep h.1 h.2.2.2.2.1).imp ?_)
    · rintro v S1 ⟨rfl, ⟨h, _⟩ | ⟨_, hK, hT⟩⟩
      · rw [hx] at h; cases h
      · rw [nI_tn (by omega)] at hK hT
        exact ⟨rfl, Kz_eM hK (fun k j f z => by omega), IX_im hI (by omega) (Kz_X hK) hT⟩
    · rintro v S2 ⟨rfl, ⟨h2, _⟩ | ⟨_, hK, hT⟩⟩
      · rw [hx] at h2; cases h2
      · rw [nI_tn (by omega)] at hK hT
        exact ⟨rfl, Kz_eX hK (fun k j f z => by omega), IM_im h (Kz_M hK) hT⟩
theorem pr_back (hS : Inv S) : Ci 9 mX10_back [vR 10 0, vI x] S (fun v S1 => Ci 9 mX11_back [vR 11 0, vI x] S1 (fun v' S2 => v' = v ∧ Inv S2)) := by
  obtain ⟨A, hI, hJ⟩ := hS
  by_cases hn : inR x 0 1 = true ∧ ∃ q, A.2.2.2.1 x.toInt.toNat = some q
  · obtain ⟨hx, q, hq⟩ := hn
    refine pr_m (a := sp_back A.2.2.2.1 x) (A' := (q, A.2)) hI hJ ((kX10_back hI.2.2.2.2.2.1).imp ?_) (fun S1 h => (kM_back h.2.2.2.2.1).imp ?_)
    · rintro v S1 ⟨rfl, ⟨h, _⟩ | ⟨_, h⟩⟩
      · rw [hx] at h; cases h
      · rw [hq] at h
        exact ⟨rfl, Kz_eM h.1 (fun k j f z => by omega), IX_tr hI (Kz_X h.1) h.2⟩
    · rintro v S2 ⟨rfl, ⟨h2, _⟩ | ⟨_, h2⟩⟩
      · rw [hx] at h2; cases h2
      · rw [hq] at h2
        exact ⟨rfl, Kz_eX h2.1 (fun k j f z => by omega), IM_tr h (Kz_M h2.1) h2.2⟩
  · have key : ∀ (P : Nat × (Nat → Nat) → hs_T → Prop) (S S' : hs_T), po_back P A.2.2.2.1 x S S' → S' = S := by
      rintro P S S' (⟨_, h⟩ | ⟨hx, h⟩)
      · exact h
      · cases hq : A.2.2.2.1 x.toInt.toNat with
        | none => rw [hq] at h; exact h
        | some q => exact absurd ⟨hx, q, hq⟩ hn
    refine pr_m (a := sp_back A.2.2.2.1 x) (A' := A) hI hJ ((kX10_back hI.2.2.2.2.2.1).imp ?_) (fun S1 h => (kM_back h.2.2.2.2.1).imp ?_)
    · rintro v S1 ⟨rfl, h⟩
      rw [key _ _ _ h]; exact ⟨rfl, eM_rf S, hI⟩
    · rintro v S2 ⟨rfl, h2⟩
      rw [key _ _ _ h2]; exact ⟨rfl, eX_rf _, h⟩
theorem pr_sheet (hS : Inv S) : Ci 9 mX10_sheet [vR 10 0, vI x, vI y, vI z] S (fun v S1 => Ci 9 mX11_sheet [vR 11 0, vI x, vI y, vI z] S1 (fun v' S2 => v' = v ∧ Inv S2)) := by
  obtain ⟨A, hI, hJ⟩ := hS
  cases hx : ok_sheet x y z
  · refine pr_m (a := sp_sheet x y z) (A' := A) hI hJ (kX10_sheet.imp ?_) (fun S1 h => kM_sheet.imp ?_)
    · rintro v S1 ⟨rfl, ⟨_, rfl⟩ | ⟨h, _⟩⟩
      · exact ⟨rfl, eM_rf S1, hI⟩
      · rw [hx] at h; cases h
    · rintro v S2 ⟨rfl, ⟨_, rfl⟩ | ⟨h2, _⟩⟩
      · exact ⟨rfl, eX_rf _, h⟩
      · rw [hx] at h2; cases h2
  · refine pr_m (a := sp_sheet x y z) (A' := (A.1, A.2.1, A.2.2.1, A.2.2.2.1, (fun q => if q = x.toInt.toNat then some (y.toInt.toNat, z.toInt.toNat, fun _ => 0) else A.2.2.2.2.1 q), A.2.2.2.2.2)) hI hJ (kX10_sheet.imp ?_) (fun S1 h => kM_sheet.imp ?_)
    · rintro v S1 ⟨rfl, ⟨h, _⟩ | ⟨_, hK, hT⟩⟩
      · rw [hx] at h; cases h
      · exact ⟨rfl, Kz_eM hK (fun k j f z => by omega), IX_sh hI (Kz_X hK) hT⟩
    · rintro v S2 ⟨rfl, ⟨h2, _⟩ | ⟨_, hK, hT⟩⟩
      · rw [hx] at h2; cases h2
      · exact ⟨rfl, Kz_eX hK (fun k j f z => by omega), IM_sh h (Kz_M hK) hT⟩
theorem pr_lay (hS : Inv S) : Ci 9 mX10_lay [vR 10 0, vI x, vI y, vI z] S (fun v S1 => Ci 9 mX11_lay [vR 11 0, vI x, vI y, vI z] S1 (fun v' S2 => v' = v ∧ Inv S2)) := by
  obtain ⟨A, hI, hJ⟩ := hS
  by_cases hn : inR x 0 3 = true ∧ ∃ q, A.2.2.2.2.1 x.toInt.toNat = some q ∧ inR y 0 ((q.2.1 : Int) - 1) = true
  · obtain ⟨hx, q, hq, hy⟩ := hn
    refine pr_m (a := sp_lay A.2.2.2.2.1 x y) (A' := (A.1, A.2.1, A.2.2.1, A.2.2.2.1, (fun k => if k = x.toInt.toNat then some (q.1, q.2.1, upd q.2.2 y.toInt.toNat (clv q.1 z)) else A.2.2.2.2.1 k), A.2.2.2.2.2)) hI hJ ((kX10_lay hI.2.2.2.2.2.2.1).imp ?_) (fun S1 h => (kM_lay h.2.2.2.2.2.1).imp ?_)
    · rintro v S1 ⟨rfl, ⟨h, _⟩ | ⟨_, h⟩⟩
      · rw [hx] at h; cases h
      · rw [hq] at h
        simp only [hy, if_true] at h
        exact ⟨rfl, Kz_eM h.1 (fun k j f z => by omega), IX_sh hI ⟨h.1.1, fun k j f e n => (Kz_X h.1).2 k j f e (fun z => n ⟨Or.inr z.1, z.2⟩)⟩ h.2⟩
    · rintro v S2 ⟨rfl, ⟨h2, _⟩ | ⟨_, h2⟩⟩
      · rw [hx] at h2; cases h2
      · rw [hq] at h2
        simp only [hy, if_true] at h2
        exact ⟨rfl, Kz_eX h2.1 (fun k j f z => by omega), IM_sh h (fun k j f e n => Kz_M h2.1 k j f e (fun z => n (Or.inr z))) h2.2⟩
  · have key : ∀ (P : Nat → Nat × Nat × (Nat → Int32) → hs_T → Prop) (S S' : hs_T), po_lay P A.2.2.2.2.1 x y z S S' → S' = S := by
      rintro P S S' (⟨_, h⟩ | ⟨hx, h⟩)
      · exact h
      · cases hq : A.2.2.2.2.1 x.toInt.toNat with
        | none => rw [hq] at h; exact h
        | some q =>
          rw [hq] at h
          by_cases hy : inR y 0 ((q.2.1 : Int) - 1) = true
          · exact absurd ⟨hx, q, hq, hy⟩ hn
          · simp only [if_neg hy] at h; exact h
    refine pr_m (a := sp_lay A.2.2.2.2.1 x y) (A' := A) hI hJ ((kX10_lay hI.2.2.2.2.2.2.1).imp ?_) (fun S1 h => (kM_lay h.2.2.2.2.2.1).imp ?_)
    · rintro v S1 ⟨rfl, h⟩
      rw [key _ _ _ h]; exact ⟨rfl, eM_rf S, hI⟩
    · rintro v S2 ⟨rfl, h2⟩
      rw [key _ _ _ h2]; exact ⟨rfl, eX_rf _, h⟩
theorem pr_read (hS : Inv S) : Ci 9 mX10_read [vR 10 0, vI x, vI y, vI z, vI u] S (fun v S1 => Ci 9 mX11_read [vR 11 0, vI x, vI y, vI z, vI u] S1 (fun v' S2 => v' = v ∧ Inv S2)) := by
  obtain ⟨A, hI, hJ⟩ := hS
  refine pr_m (a := sp_read A.2.2.2.2.1 A.1 x y z u) (A' := ((n_read A.2.2.2.2.1 A.1 A.2.2.2.2.2.2 x y z u).1, A.2.1, A.2.2.1, A.2.2.2.1, A.2.2.2.2.1, A.2.2.2.2.2.1, (n_read A.2.2.2.2.1 A.1 A.2.2.2.2.2.2 x y z u).2)) hI hJ ((kX10_read hI.1 hI.2.2.2.2.2.2.1).imp ?_) (fun S1 h => (kM_read h.1 h.2.2.2.2.2.1).imp ?_)
  · rintro v S1 ⟨rfl, hK, hT, hw⟩
    rw [hI.2.2.2.2.2.2.2.2] at hT hw
    exact ⟨rfl, Kz_eM hK (fun k j f z => by unfold EX at z; omega), IX_rd hI (Kz_X hK) hT hw⟩
  · rintro v S2 ⟨rfl, hK, hT, hw⟩
    rw [h.2.2.2.2.2.2.2] at hT hw
    exact ⟨rfl, Kz_eX hK (fun k j f z => by unfold EM at z; omega), IM_rd h (Kz_M hK) hT hw⟩
/-! text -/
theorem DrX_of {S S' : hs_T} {r : Nat} {u : Nat → Nat} (h5 : S'.1 5 r = S.1 5 r) (h0 : S'.1 600 r = S.1 600 r) (h1 : S'.1 601 r = S.1 601 r) (h2 : S'.1 602 r = S.1 602 r) (h3 : S'.1 603 r = S.1 603 r) (h4 : S'.1 604 r = S.1 604 r) (h6 : S'.1 605 r = S.1 605 r) (h : DrX S r u) : DrX S' r u := by
  unfold DrX; rw [h5, h0, h1, h2, h3, h4, h6]; exact h
theorem pr_text (hS : Inv S) : Ci 9 mX10_text [vR 10 0] S (fun v S1 => Ci 9 mX11_text [vR 11 0] S1 (fun v' S2 => v' = v ∧ Inv S2)) := by
  obtain ⟨A, hI, hJ⟩ := hS
  obtain ⟨i1, i2, i3, i4, i5, i6, i7, i8, i9⟩ := hI
  refine (kX10_text i2 rfl i3.2.1).imp ?_
  rintro v S1 ⟨hF, h7, hX⟩
  have hM1 : eM S S1 := fun k j f e => by
    have h := exM_lt e
    exact hF k j f (by omega) (by omega) (by omega) (by omega) (by omega) (by omega) (by omega)
  have hJ1 := IMe hM1 hJ
  refine (kM_text hJ1.2.1).imp ?_
  rintro v' S2 ⟨hG, h8, hY⟩
  have eF : ∀ k j, k ≠ 4 → k ≠ 7 → k ≠ 10 → k ≠ 802 → k ≠ 803 → k ≠ 804 → k < 1000 → k ≠ 11 → ¬ (j = S.2.2 1 ∧ (k = 5 ∨ (600 ≤ k ∧ k ≤ 605))) → S2.1 k j = S.1 k j := fun k j k1 k2 k3 k4 k5 k6 k7 k8 k9 => funext fun f => (hG.2 k j f (by omega) (by omega) (by omega)).trans (hF k j f k1 k4 k5 k6 (by omega) (by omega) k9)
  have eG : ∀ k j, k < 1000 → k ≠ 11 → S2.1 k j = S1.1 k j := fun k j k1 k2 => funext fun f => hG.2 k j f (by omega) (by omega) (by omega)
  have eN : ∀ k, 1202 ≤ k → S2.1 k 0 = S1.1 k 0 := fun k hk => funext fun f => hG.2 k 0 f (by omega) (by omega) (by omega)
  have c13 : S2.1 10 0 11 = S1.1 10 0 11 := by rw [eG 10 0 (by omega) (by omega)]
  have c14 : S2.1 10 0 12 = S.1 10 0 12 := (hG.2 10 0 12 (by omega) (by omega) (by omega)).trans (hF 10 0 12 (by omega) (by omega) (by omega) (by omega) (by omega) (by omega) (by omega))
  -- what stays in any case
  have base : ∀ (p' : Nat → Nat) (ft : Int32), S2.1 10 0 11 = ft → S2.1 11 0 13 = ft → (S2.2.2 0 < 2 ∧ S2.2.2 1 < 2 ∧ S2.2.2 0 ≠ S2.2.2 1) → PrX S2 (S2.2.2 0) p' → PrM S2 p' → WFp p' → Inv S2 := by
    intro p' ft f1 f2 hr hp1 hp2 hw
    refine ⟨(A.1, (0, A.2.1.2), p', A.2.2.2.1, A.2.2.2.2.1, ft, A.2.2.2.2.2.2), ⟨?_, ?_, hr, hp1, hw, fun k hk => ?_, fun k hk => ?_, f1, by rw [c14]; exact i9⟩, ⟨?_, ?_, hp2, hw, fun k hk => ?_, fun k hk => ?_, f2, ?_⟩⟩
    · exact TrX_of (by rw [eF 8 0 (by omega) (by omega) (by omega) (by omega) (by omega) (by omega) (by omega) (by omega) (by omega)]) (eF 900 0 (by omega) (by omega) (by omega) (by omega) (by omega) (by omega) (by omega) (by omega) (by omega)) i1
    · exact ⟨by rw [eG 7 0 (by omega) (by omega), h7]; rfl, Nat.zero_le _, fun i hi => absurd hi (Nat.not_lt_zero i)⟩
    · exact ImX_of (eF 8 _ (by omega) (by omega) (by omega) (by omega) (by omega) (by omega) (by omega) (by omega) (by omega)) (eF 900 _ (by omega) (by omega) (by omega) (by omega) (by omega) (by omega) (by omega) (by omega) (by omega)) (i6 k hk)
    · exact ShX_of (eF 6 _ (by omega) (by omega) (by omega) (by omega) (by omega) (by omega) (by omega) (by omega) (by omega)) (eF 700 _ (by omega) (by omega) (by omega) (by omega) (by omega) (by omega) (by omega) (by omega) (by omega)) (i7 k hk)
    · exact TrM_of (hG.2 11 0 3 (by omega) (by omega) (by omega)) (eN 1202 (by omega)) hJ1.1
    · exact ⟨by rw [h8]; rfl, Nat.zero_le _, fun i hi => absurd hi (Nat.not_lt_zero i)⟩
    · exact ImM_of (by rw [eN 1205 (by omega)]) (fun i _ => by rw [eN 1204 (by omega)]) (hJ1.2.2.2.2.1 k hk)
    · exact ShM_of (by rw [eN 1230 (by omega)]) (by rw [eN 1231 (by omega)]) (fun i _ => by rw [eN 1232 (by omega)]) (hJ1.2.2.2.2.2.1 k hk)
    · rw [hG.2 11 0 33 (by omega) (by omega) (by omega)]; exact hJ1.2.2.2.2.2.2.2
  have wrong : ∀ e : er_T, wrX A.2.1.2 A.2.1.1 e S S1 v → wrM A.2.1.2 A.2.1.1 e S1 S2 v' → v' = v ∧ Inv S2 := by
    rintro e ⟨a1, a2, a3, a4⟩ ⟨b1, b2, b3⟩
    refine ⟨by rw [a1, b1], base A.2.2.1 (nI e.1) (c13.trans a2) b2 ?_ ?_ (PrM_of b3 hJ1.2.2.1) i5⟩
    · rw [hG.1, a3, a4]; exact i3
    · rw [hG.1, a3]
      have hne := i3.2.2
      exact PrX_of (eF 5 _ (by omega) (by omega) (by omega) (by omega) (by omega) (by omega) (by omega) (by omega) (by omega)) (eF 600 _ (by omega) (by omega) (by omega) (by omega) (by omega) (by omega) (by omega) (by omega) (by omega)) (eF 601 _ (by omega) (by omega) (by omega) (by omega) (by omega) (by omega) (by omega) (by omega) (by omega)) (eF 602 _ (by omega) (by omega) (by omega) (by omega) (by omega) (by omega) (by omega) (by omega) (by omega)) (eF 603 _ (by omega) (by omega) (by omega) (by omega) (by omega) (by omega) (by omega) (by omega) (by omega)) (eF 604 _ (by omega) (by omega) (by omega) (by omega) (by omega) (by omega) (by omega) (by omega) (by omega)) (eF 605 _ (by omega) (by omega) (by omega) (by omega) (by omega) (by omega) (by omega) (by omega) (by omega)) i4
  cases hx : p_top (t_co A.2.1.2 A.2.1.1) (t_vl A.2.1.2 A.2.1.1) with
  | inl e =>
    rw [hx] at hX hY
    exact wrong e hX hY
  | inr q =>
    rw [hx] at hX hY
    rcases hX with ⟨ho, a1, a2, a3, a4, hAx, w, hD, hRu⟩ | ⟨hno, hXw⟩
    · rcases hY with ⟨_, b1, b2, _, p', hp, hRp⟩ | ⟨hno, _⟩
      · refine ⟨by rw [a1, b1], base p' 0 (c13.trans a2) b2 ?_ ?_ hp (RA_WFp hRp hAx ho)⟩
        · rw [hG.1, a3, a4]
          exact ⟨i3.2.1, i3.1, fun z => i3.2.2 z.symm⟩
        · rw [hG.1, a3]
          exact RA_PrX (DrX_of (eG 5 _ (by omega) (by omega)) (eG 600 _ (by omega) (by omega)) (eG 601 _ (by omega) (by omega)) (eG 602 _ (by omega) (by omega)) (eG 603 _ (by omega) (by omega)) (eG 604 _ (by omega) (by omega)) (eG 605 _ (by omega) (by omega)) hD) hRu hRp hAx
      · exact absurd ho hno
    · rcases hY with ⟨ho, _⟩ | ⟨_, hYw⟩
      · exact absurd ho hno
      · exact wrong _ hXw hYw
end PM
