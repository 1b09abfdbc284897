/-! ===== read, the reference's ===== -/
def rc_ (o : st_T) (l : Nat) (f : Int32) (i c : Nat) : Nat := match o with
  | none => 1
  | some q => if l = q.1 then (if 0 ≤ f.toInt + (2 * i + c : Nat) ∧ f.toInt + (2 * i + c : Nat) < q.2.1 then 0 else 2) else 3
theorem rc_le (o : st_T) (l : Nat) (f : Int32) (i c : Nat) : rc_ o l f i c ≤ 3 := by
  unfold rc_
  cases o with
  | none => exact (by decide : (1 : Nat) ≤ 3)
  | some q =>
    show (if l = q.1 then (if 0 ≤ f.toInt + (2 * i + c : Nat) ∧ f.toInt + (2 * i + c : Nat) < q.2.1 then 0 else 2) else 3) ≤ 3
    split
    · split <;> omega
    · omega
theorem rd_stop {o : st_T} {l N : Nat} {f : Int32} (h : (rd_p o l f N).2 < N) : (rd_p o l f N).1 ≠ 0 ∧ (rc_ o l f (rd_p o l f N).2 0 = (rd_p o l f N).1 ∨ (rc_ o l f (rd_p o l f N).2 0 = 0 ∧ rc_ o l f (rd_p o l f N).2 1 = (rd_p o l f N).1)) := by
  have hN0 : ¬ N = 0 := by omega
  unfold rd_p at h ⊢
  simp only [if_neg hN0] at h ⊢
  cases o with
  | none => exact ⟨by simp, Or.inl rfl⟩
  | some q =>
    by_cases hl : l = q.1
    · simp only [if_pos hl] at h ⊢
      rw [if_pos h]
      refine ⟨by decide, ?_⟩
      unfold rc_
      simp only [if_pos hl]
      unfold rd_W at h ⊢
      cases hf : inR f 0 ((q.2.1 : Int) - 1)
      · refine Or.inl ?_
        rw [if_neg]
        intro z
        simp only [Bool.false_eq_true, if_false, Nat.mul_zero, Nat.zero_add] at z
        have : inR f 0 ((q.2.1 : Int) - 1) = true := decide_eq_true ⟨by omega, by omega⟩
        rw [this] at hf; exact absurd hf (by decide)
      · rw [hf] at h
        obtain ⟨F, hF, rfl⟩ := inR_get hf
        have hr := (fb_rng (nI F)).2
        by_cases hF31 : F < 2 ^ 31
        · rw [if_pos rfl] at h ⊢
          rw [nI_tn hF31] at h ⊢
          rw [nI_toInt hF31]
          rw [Nat.min_eq_right (by omega)] at h ⊢
          by_cases z : F + 2 * ((q.2.1 - F) / 2) < q.2.1
          · refine Or.inr ⟨?_, ?_⟩
            · rw [if_pos (by omega)]
            · rw [if_neg (by omega)]
          · exact Or.inl (by rw [if_neg (by omega)])
        · have hm := decide_eq_true_eq.mp (show decide (0 ≤ (nI F).toInt ∧ (nI F).toInt ≤ (q.2.1 : Int) - 1) = true from hf)
          obtain ⟨F', e1, e2⟩ := nI_rng hm.1
          have hF' : F' < 2 ^ 31 := by omega
          rw [e1] at h ⊢
          rw [if_pos rfl] at h ⊢
          rw [nI_tn hF'] at h ⊢
          rw [nI_toInt hF']
          rw [Nat.min_eq_right (by omega)] at h ⊢
          by_cases z : F' + 2 * ((q.2.1 - F') / 2) < q.2.1
          · refine Or.inr ⟨?_, ?_⟩
            · rw [if_pos (by omega)]
            · rw [if_neg (by omega)]
          · exact Or.inl (by rw [if_neg (by omega)])
    · simp only [if_neg hl] at h ⊢
      refine ⟨by decide, Or.inl ?_⟩
      unfold rc_
      simp only [if_neg hl]
theorem rd_end {o : st_T} {l N : Nat} {f : Int32} (h : N ≤ (rd_p o l f N).2) : (rd_p o l f N).1 = 0 := by
  unfold rd_p at h ⊢
  by_cases hN0 : N = 0
  · rw [if_pos hN0]
  · rw [if_neg hN0] at h ⊢
    cases o with
    | none => exact absurd h (by simp; omega)
    | some q =>
      by_cases hl : l = q.1
      · simp only [if_pos hl] at h ⊢
        rw [if_neg (by omega)]
      · simp only [if_neg hl] at h; omega
def EM (k _j f : Nat) : Prop := k = 1202 ∨ (k = 11 ∧ (f = 3 ∨ f = 33))
section RM2
variable {d : Nat} {S : hs_T} {n w i k l N : Nat} {t : Nat → Nat} {x y f : Int32}
theorem lp_ {f : Int32} {i c : Nat} (hi : i ≤ 20) (hc : c ≤ 2) : ((f.toInt64 + (2 * nI i).toInt64) + (nI c).toInt64).toInt = f.toInt + (2 * i + c : Nat) := by
  have hr := fb_rng f
  have e : 2 * nI i = nI (2 * i) := by rw [show (2 : Int32) = nI 2 from rfl, pk_mul]
  have a1 : f.toInt64.toInt = f.toInt := Int32.toInt_toInt64 f
  have a2 : (nI (2 * i)).toInt64.toInt = (2 * i : Nat) := by rw [Int32.toInt_toInt64, nI_toInt (by omega)]
  have a3 : (nI c).toInt64.toInt = (c : Nat) := by rw [Int32.toInt_toInt64, nI_toInt (by omega)]
  rw [e, fb_addL, fb_addL, a1, a2, a3]
  · omega
  · rw [a1, a2]; omega
  · rw [a1, a2]; omega
  · rw [fb_addL, a1, a2, a3] <;> (try rw [a1, a2]) <;> omega
  · rw [fb_addL, a1, a2, a3] <;> (try rw [a1, a2]) <;> omega
theorem sM_rc {o : st_T} {c : Nat} {x4 x5 x7 : Int32} {o10 o11 : Option av_T} {Q : Option av_T → hs_T → Prop} (hc : c < 2) (hk : k < 4) (hl : l ≤ 2) (hi : i ≤ 20) (h : ShM S k o)
    (hQ : ∀ p, Ev d mX11_read 53 [some (vR 11 0), some (vI (nI k)), some (vI (nI l)), some (vI f), some (vI x4), some (vI x5), some (vI (nI (rc_ o l f i c))), some (vI x7), some (vI (nI i)), some (vI (nI (c + 1))), some (vJ p), none] [] S Q) :
    Ev d mX11_read 53 [some (vR 11 0), some (vI (nI k)), some (vI (nI l)), some (vI f), some (vI x4), some (vI x5), some (vI 0), some (vI x7), some (vI (nI i)), some (vI (nI c)), o10, o11] [] S Q := by
  have kin : vp_in (nI k) 4 := vp_lt (by omega) (by omega)
  refine bkX11_read_53 (fun h => absurd h (nl_ (b := 2) (by omega) (by omega))) (fun _ => ?_)
  refine bkX11_read_59 (fun h => absurd rfl h) (fun _ => ?_)
  have lp := lp_ (f := f) (i := i) (c := c) hi (by omega)
  generalize hp : (f.toInt64 + (2 * nI i).toInt64) + (nI c).toInt64 = p at *
  have fin : ∀ v : Nat, v = rc_ o l f i c → Ev d mX11_read 132 [some (vR 11 0), some (vI (nI k)), some (vI (nI l)), some (vI f), some (vI x4), some (vI x5), some (vI 0), some (vI x7), some (vI (nI i)), some (vI (nI c)), some (vJ p), none] [vI (nI v)] S Q := by
    rintro v rfl
    refine bkX11_read_132 ?_
    rw [nI_1]; exact hQ p
  cases o with
  | none =>
    have h : S.1 1230 0 k = -4 := h
    refine bkX11_read_64 kin ?_ ?_ <;> rw [nI_clamp (by omega), hp] <;> intro h5
    · exact absurd h h5
    · exact bkX11_read_89 (fin 1 rfl)
  | some q =>
    obtain ⟨h1, h2, h3, h4, h5⟩ := h
    refine bkX11_read_64 kin ?_ ?_ <;> rw [nI_clamp (by omega), hp] <;> intro h6
    · refine bkX11_read_93 kin ?_ ?_ <;> rw [nI_clamp (by omega), h1, nI_eq (by omega) (by omega)] <;> intro h7
      · have z0 : (0 : Int64).toInt = 0 := rfl
        have zs : (nI q.2.1).toInt64.toInt = (q.2.1 : Int) := by rw [Int32.toInt_toInt64, nI_toInt (by omega)]
        refine bkX11_read_107 (fun h8 => ?_) (fun h8 => ?_) <;> rw [lg_cmp_lt, fa_lt64, lp, z0] at h8
        · refine bkX11_read_127 (fin 2 ?_)
          unfold rc_
          simp only [if_pos h7.symm]
          rw [if_neg (by omega)]
        · refine bkX11_read_114 kin ?_ ?_ <;> rw [nI_clamp (by omega), h2, lg_cmp_lt, fa_lt64, lp, zs] <;> intro h9
          · refine bkX11_read_131 (fin 0 ?_)
            unfold rc_
            simp only [if_pos h7.symm]
            rw [if_pos (by omega)]
          · refine bkX11_read_127 (fin 2 ?_)
            unfold rc_
            simp only [if_pos h7.symm]
            rw [if_neg (by omega)]
      · refine bkX11_read_103 (fin 3 ?_)
        unfold rc_
        simp only [if_neg (show ¬ l = q.1 from fun e => h7 e.symm)]
    · exact absurd h6 (by rw [h1]; exact ne4 (by omega))
/-- what the reference's read leaves -/
def po_rdm (S0 : hs_T) (n0 : Nat) (t0 : Nat → Nat) (old : Int32) (W rs : Nat) (R : Int32 × tr_T) (v : Int32) (S' : hs_T) : Prop := Kz EM S0 S' ∧ ((R.1 = 0 ∧ v = nI W ∧ TrM S' R.2.1 R.2.2 ∧ S'.1 11 0 33 = nI rs) ∨ (¬ R.1 = 0 ∧ v = R.1 ∧ TrM S' n0 t0 ∧ S'.1 11 0 33 = old))
theorem rd_go {o : st_T} (h : i < (rd_p o l f N).2) (hm : ∀ q, o = some q → q.2.1 ≤ 40) : rc_ o l f i 0 = 0 ∧ rc_ o l f i 1 = 0 ∧ ∃ q F, o = some q ∧ f = nI F ∧ F < q.2.1 ∧ F + 2 * i + 1 < q.2.1 := by
  obtain ⟨q, rfl, e, hl⟩ := rd_pos (show 0 < (rd_p o l f N).2 by omega)
  rw [e] at h
  have h40 := hm q rfl
  obtain ⟨F, rfl, hF, hin⟩ := rd_Win h40 (show 0 < rd_W N q.2.1 f by omega)
  have := hin i h
  refine ⟨?_, ?_, q, F, rfl, rfl, hF, this⟩
  · unfold rc_; simp only [if_pos hl]; rw [nI_toInt (by omega), if_pos (by omega)]
  · unfold rc_; simp only [if_pos hl]; rw [nI_toInt (by omega), if_pos (by omega)]
theorem lM_read {S0 : hs_T} {o : st_T} {n0 : Nat} {t0 : Nat → Nat} {old : Int32} (hk : k < 4) (hl : l ≤ 2) (hN : N ≤ 20) (hn0 : n0 ≤ 400) (ht0 : ∀ a, a < n0 → t0 a < 256) :
    ∀ (r i : Nat) (u : tr_T) (S : hs_T) (o9 o10 o11 : Option av_T), i + r = (rd_p o l f N).2 → TrM S u.1 u.2 → ShM S k o → Kz EM S0 S → n0 ≤ u.1 → (∀ a, a < n0 → u.2 a = t0 a) → S.1 11 0 33 = old → Ev (d + 3) mX11_read 38 [some (vR 11 0), some (vI (nI k)), some (vI (nI l)), some (vI f), some (vI (nI N)), some (vI (nI n0)), some (vI 0), some (vI (nI i)), some (vI (nI i)), o9, o10, o11] [] S (fun r' S' => ∃ v, r' = some (vI v) ∧ po_rdm S0 n0 t0 old (rd_p o l f N).2 (rd_p o l f N).1 (s_rd (rd_c o) f.toInt.toNat r i u) v S') := by
  have hle := rd_le (o := o) (l := l) (f := f) (N := N)
  intro r
  induction r with
  | zero =>
    intro i u S o9 o10 o11 hi hT h hK hnu hut ho
    have ei : i = (rd_p o l f N).2 := by omega
    subst ei
    have fin : ∀ rs : Nat, rs = (rd_p o l f N).1 → ∃ v, some (vI (nI (rd_p o l f N).2)) = some (vI v) ∧ po_rdm S0 n0 t0 old (rd_p o l f N).2 (rd_p o l f N).1 (s_rd (rd_c o) f.toInt.toNat 0 (rd_p o l f N).2 u) v (sk_ S 11 0 (upd (S.1 11 0) 33 (nI rs))) := by
      rintro rs rfl
      refine ⟨_, rfl, Kz_sk hK (fun f _ z => by rw [pk_un (fun e => z (Or.inr ⟨rfl, Or.inr e⟩))]), Or.inl ⟨rfl, rfl, ?_, by rw [sk_at, pk_us]⟩⟩
      exact ⟨by rw [sk_at, pk_un (by omega)]; exact hT.1, hT.2.1, fun a ha => by rw [sk_ne _ _ (by omega)]; exact hT.2.2 a ha⟩
    by_cases hWN : (rd_p o l f N).2 < N
    · obtain ⟨hr0, hr⟩ := rd_stop hWN
      have r3 : (rd_p o l f N).1 ≤ 3 := by
        rcases hr with hr | ⟨_, hr⟩ <;> rw [← hr] <;> exact rc_le _ _ _ _ _
      have hne : ¬ nI (rd_p o l f N).1 = 0 := nI_ne0 (by omega) (by omega)
      have out : ∀ o9 o10 o11, Ev (d + 3) mX11_read 140 [some (vR 11 0), some (vI (nI k)), some (vI (nI l)), some (vI f), some (vI (nI N)), some (vI (nI n0)), some (vI (nI (rd_p o l f N).1)), some (vI (nI (rd_p o l f N).2)), some (vI (nI (rd_p o l f N).2)), some (vI o9), o10, o11] [] S (fun r' S' => ∃ v, r' = some (vI v) ∧ po_rdm S0 n0 t0 old (rd_p o l f N).2 (rd_p o l f N).1 (s_rd (rd_c o) f.toInt.toNat 0 (rd_p o l f N).2 u) v S') := by
        intro o9 o10 o11
        refine bkX11_read_140 (fun _ => bkX11_read_211 ?_) (fun z => absurd z hne)
        refine bkX11_read_38 (fun _ => bkX11_read_217 (fin _ rfl)) (fun _ => ?_)
        exact bkX11_read_45 (fun _ => bkX11_read_217 (fin _ rfl)) (fun z => absurd z hne)
      refine bkX11_read_38 (fun h => absurd h (nl_ (by omega) (by omega))) (fun _ => ?_)
      refine bkX11_read_45 (fun h => absurd rfl h) (fun _ => bkX11_read_50 ?_)
      refine sM_rc (c := 0) (by omega) hk hl (by omega) h (fun p => ?_)
      rcases hr with hr | ⟨hr, hr2⟩
      · rw [hr]
        refine bkX11_read_53 (fun z => absurd z (by decide)) (fun _ => ?_)
        exact bkX11_read_59 (fun _ => out _ _ _) (fun z => absurd z hne)
      · rw [hr]
        refine sM_rc (c := 1) (by omega) hk hl (by omega) h (fun p => ?_)
        rw [hr2]
        exact bkX11_read_53 (fun _ => out _ _ _) (fun z => absurd (by decide) z)
    · have hz := rd_end (o := o) (l := l) (f := f) (N := N) (by omega)
      exact bkX11_read_38 (fun _ => bkX11_read_217 (fin 0 hz.symm)) (fun z => absurd (nI_le (by omega) (by omega)) z)
  | succ r ih =>
    intro i u S o9 o10 o11 hi hT h hK hnu hut ho
    have hm : ∀ q, o = some q → q.2.1 ≤ 40 := by
      rintro q rfl; exact h.2.2.2.1
    obtain ⟨g0, g1, q, F, rfl, rfl, hF, hFi⟩ := rd_go (show i < (rd_p o l f N).2 by omega) hm
    have h40 := hm q rfl
    have h' := h
    obtain ⟨b1, b2, b3, b4, b5⟩ := h
    rw [nI_tn (by omega)] at ih ⊢
    rw [s_rd_s]
    refine bkX11_read_38 (fun h => absurd h (nl_ (by omega) (by omega))) (fun _ => ?_)
    refine bkX11_read_45 (fun h => absurd rfl h) (fun _ => bkX11_read_50 ?_)
    refine sM_rc (c := 0) (by omega) hk hl (by omega) h' (fun p => ?_)
    rw [g0]
    refine sM_rc (c := 1) (by omega) hk hl (by omega) h' (fun p => ?_)
    rw [g1]
    refine bkX11_read_53 (fun _ => ?_) (fun z => absurd (by decide) z)
    refine bkX11_read_140 (fun z => absurd rfl z) (fun _ => ?_)
    have e1 : 40 * nI k + nI F + 2 * nI i = nI (40 * k + (F + 2 * i)) := by
      rw [a40, show (2 : Int32) = nI 2 from rfl, pk_mul, nI_add]; congr 1; omega
    have e2 : 40 * nI k + nI F + 2 * nI i + 1 = nI (40 * k + (F + 2 * i + 1)) := by rw [e1, nI_1]; rfl
    refine bkX11_read_145 (by rw [e1]; exact vp_lt (by omega) (by omega)) (by rw [e2]; exact vp_lt (by omega) (by omega)) (by rw [e2, e1, nI_clamp (by omega), nI_clamp (by omega), b5 _ (by omega), b5 _ (by omega)]; exact kM_see hT) ?_
    rintro _ S1 ⟨rfl, hS1⟩
    rw [show rd_c (some q) = q.2.2 from rfl] at ih ⊢
    rcases hS1 with ⟨hr, rfl⟩ | ⟨hr, g, rfl, hT1⟩
    · rw [if_neg hr]
      have sv : sp_see u.1 (q.2.2 (F + 2 * i)) (q.2.2 (F + 2 * i + 1)) = sp_ref u.1 (q.2.2 (F + 2 * i)) (q.2.2 (F + 2 * i + 1)) := by unfold sp_see; rw [if_neg hr]
      rw [sv]
      have back : ∀ v : Int32, v = (if sp_ref u.1 (q.2.2 (F + 2 * i)) (q.2.2 (F + 2 * i + 1)) = -1 then ((-20 - nI i, u) : Int32 × tr_T) else (-3, u)).1 → ¬ v = 0 → ∃ v', some (vI v) = some (vI v') ∧ po_rdm S0 n0 t0 old (rd_p (some q) l (nI F) N).2 (rd_p (some q) l (nI F) N).1 (if sp_ref u.1 (q.2.2 (F + 2 * i)) (q.2.2 (F + 2 * i + 1)) = -1 then (-20 - nI i, u) else (-3, u)) v' (sk_ S1 11 0 (upd (S1.1 11 0) 3 (nI n0))) := by
        intro v hv hv0
        refine ⟨_, rfl, Kz_sk hK (fun f _ z => by rw [pk_un (fun e => z (Or.inr ⟨rfl, Or.inl e⟩))]), Or.inr ⟨by rw [← hv]; exact hv0, hv, ?_, by rw [sk_at, pk_un (by omega)]; exact ho⟩⟩
        refine ⟨by rw [sk_at, pk_us], hn0, fun a ha => ?_⟩
        rw [sk_ne _ _ (by omega), (hT.2.2 a (by omega)).1, hut a ha]
        exact ⟨rfl, ht0 a ha⟩
      rcases sp_ref_v u.1 (q.2.2 (F + 2 * i)) (q.2.2 (F + 2 * i + 1)) with z | z | z
      · exact absurd z hr
      · rw [z] at back ⊢
        refine bkX11_read_178 (fun w => absurd w (by decide)) (fun _ => ?_)
        refine bkX11_read_185 (fun w => absurd rfl w) (fun _ => bkX11_read_197 (bkX11_read_207 ?_))
        refine back (-20 - nI i) rfl ?_
        rw [fa_eq, fb_subI] <;> rw [nI_toInt (by omega)] <;> have : (-20 : Int32).toInt = -20 := by decide
        all_goals (have : (0 : Int32).toInt = 0 := rfl; omega)
      · rw [z] at back ⊢
        refine bkX11_read_178 (fun w => absurd w (by decide)) (fun _ => ?_)
        refine bkX11_read_185 (fun _ => bkX11_read_205 (bkX11_read_207 ?_)) (fun w => absurd w (by decide))
        exact back (-3) rfl (by decide)
    · rw [if_pos hr]
      have sv : sp_see u.1 (q.2.2 (F + 2 * i)) (q.2.2 (F + 2 * i + 1)) = nI (u.1 + (q.2.2 (F + 2 * i)).toInt.toNat) := by unfold sp_see; rw [if_pos hr]
      rw [sv]
      have h401 := hT1.2.1
      refine bkX11_read_178 (fun _ => ?_) (fun w => absurd (nI_pos' (by omega)) w)
      refine bkX11_read_208 (bkX11_read_211 ?_)
      rw [nI_1]
      refine ih (i + 1) (_, _) _ _ _ _ (by omega) hT1 ?_ ?_ ?_ ?_ ?_
      · exact ⟨by rw [sk_ne _ _ (by omega), sk_ne _ _ (by omega)]; exact b1, by rw [sk_ne _ _ (by omega), sk_ne _ _ (by omega)]; exact b2, b3, b4, fun c hc => by rw [sk_ne _ _ (by omega), sk_ne _ _ (by omega)]; exact b5 c hc⟩
      · refine Kz_sk (Kz_sk hK (fun f _ z => absurd (Or.inl rfl) z)) (fun f _ z => ?_)
        rw [pk_un (fun e => z (Or.inr ⟨rfl, Or.inl e⟩)), sk_ne _ _ (by omega)]
      · show n0 ≤ u.1 + _; omega
      · intro a ha
        show t_app u.2 u.1 (q.2.2 (F + 2 * i)).toInt.toNat (q.2.2 (F + 2 * i + 1)).toInt.toNat a = t0 a
        unfold t_app
        rw [if_pos (by omega)]; exact hut a ha
      · rw [sk_at, pk_un (by omega)]; exact ho
theorem kM_read {sh : Nat → st_T} {z : Int32} (hT : TrM S n t) (hI : ∀ k, k < 4 → ShM S k (sh k)) : Ci (d + 3) mX11_read [vR 11 0, vI x, vI y, vI f, vI z] S (fun v S' => v = sp_read sh (n, t) x y f z ∧ Kz EM S S' ∧ TrM S' (n_read sh (n, t) (S.1 11 0 33) x y f z).1.1 (n_read sh (n, t) (S.1 11 0 33) x y f z).1.2 ∧ S'.1 11 0 33 = (n_read sh (n, t) (S.1 11 0 33) x y f z).2) := by
  have h1 := hT.1
  refine cxX11_read ?_
  have bad : ok_read x y z = false → ∀ r S', (∃ v, r = some (vI v) ∧ v = -1 ∧ S' = S) → ∃ v, r = some (vI v) ∧ v = sp_read sh (n, t) x y f z ∧ Kz EM S S' ∧ TrM S' (n_read sh (n, t) (S.1 11 0 33) x y f z).1.1 (n_read sh (n, t) (S.1 11 0 33) x y f z).1.2 ∧ S'.1 11 0 33 = (n_read sh (n, t) (S.1 11 0 33) x y f z).2 := by
    rintro ho r S' ⟨v, rfl, rfl, rfl⟩
    unfold sp_read n_read
    rw [ho]
    exact ⟨_, rfl, rfl, Kz_rf _ _, hT, rfl⟩
  refine bkX11_read_0 kM_isSheet ?_
  rintro _ S ⟨rfl, rfl⟩
  cases hxy : inR x 0 3 && inR y 0 2
  · exact bkX11_read_5 (fun _ => bkX11_read_21 (bad (by rw [ok_read, hxy]; rfl) _ _ ⟨_, rfl, rfl, rfl⟩)) (fun h => absurd rfl h)
  refine bkX11_read_5 (fun h => absurd h (by decide)) (fun _ => ?_)
  refine bkX11_read_8 (kM_inI (lo := 0) (hi := 20) rfl rfl) ?_
  rintro _ S ⟨rfl, rfl⟩
  cases hz : inR z 0 20
  · exact bkX11_read_18 (fun h => absurd rfl h) (fun _ => bkX11_read_21 (bad (by rw [ok_read, hz, Bool.and_false]) _ _ ⟨_, rfl, rfl, rfl⟩))
  refine bkX11_read_18 (fun _ => ?_) (fun h => absurd h (by decide))
  have ho : ok_read x y z = true := by rw [ok_read, hxy, hz]; rfl
  clear bad
  have hx := (Bool.and_eq_true _ _ ▸ hxy).1
  have hy := (Bool.and_eq_true _ _ ▸ hxy).2
  obtain ⟨k, hk, rfl⟩ := inR_get hx
  obtain ⟨l, hl, rfl⟩ := inR_get hy
  obtain ⟨N, hN, rfl⟩ := inR_get hz
  refine bkX11_read_23 ?_
  rw [h1]
  have start := lM_read (d := d) (S0 := S) (o := sh k) (f := f) (n0 := n) (t0 := t) (old := S.1 11 0 33) (k := k) (l := l) (N := N) (by omega) (by omega) (by omega) hT.2.1 (fun a ha => (hT.2.2 a ha).2) (rd_p (sh k) l f N).2 0 (n, t) S none none none (by omega) hT (hI k (by omega)) (Kz_rf _ S) (Nat.le_refl _) (fun _ _ => rfl) rfl
  refine Ev.imp start ?_
  rintro r S' ⟨v, rfl, hK, hR⟩
  unfold sp_read n_read
  rw [ho, nI_tn (by omega), nI_tn (by omega), nI_tn (by omega), if_pos rfl, Bool.true_and]
  rcases hR with ⟨r0, rfl, hT', h33⟩ | ⟨r0, rfl, hT', h33⟩
  · have r0 : (rd_R (sh k) l f N (n, t)).1 = 0 := r0
    rw [if_pos r0, decide_eq_true r0]
    exact ⟨_, rfl, rfl, hK, hT', h33⟩
  · have r0 : ¬ (rd_R (sh k) l f N (n, t)).1 = 0 := r0
    rw [if_neg r0, decide_eq_false r0]
    exact ⟨_, rfl, rfl, hK, hT', h33⟩
end RM2
