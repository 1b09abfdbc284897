/-! ===== read ===== -/
def rd_W (N m : Nat) (f : Int32) : Nat := if inR f 0 ((m : Int) - 1) then min N ((m - f.toInt.toNat) / 2) else 0
def rd_p (o : st_T) (l : Nat) (f : Int32) (N : Nat) : Nat × Nat := if N = 0 then (0, 0) else match o with
  | none => (1, 0)
  | some q => if l = q.1 then (if rd_W N q.2.1 f < N then 2 else 0, rd_W N q.2.1 f) else (3, 0)
def rd_c : st_T → Nat → Int32
  | none => fun _ => 0
  | some q => q.2.2
abbrev tr_T : Type := Nat × (Nat → Nat)
def s_rd (c : Nat → Int32) (F : Nat) : Nat → Nat → tr_T → Int32 × tr_T
  | 0, _, q => (0, q)
  | m + 1, i, q => if sp_ref q.1 (c (F + 2 * i)) (c (F + 2 * i + 1)) = 0 then s_rd c F m (i + 1) (q.1 + (c (F + 2 * i)).toInt.toNat, t_app q.2 q.1 (c (F + 2 * i)).toInt.toNat (c (F + 2 * i + 1)).toInt.toNat) else if sp_ref q.1 (c (F + 2 * i)) (c (F + 2 * i + 1)) = -1 then (-20 - nI i, q) else (-3, q)
theorem s_rd_s (c : Nat → Int32) (F m i : Nat) (q : tr_T) : s_rd c F (m + 1) i q = if sp_ref q.1 (c (F + 2 * i)) (c (F + 2 * i + 1)) = 0 then s_rd c F m (i + 1) (q.1 + (c (F + 2 * i)).toInt.toNat, t_app q.2 q.1 (c (F + 2 * i)).toInt.toNat (c (F + 2 * i + 1)).toInt.toNat) else if sp_ref q.1 (c (F + 2 * i)) (c (F + 2 * i + 1)) = -1 then (-20 - nI i, q) else (-3, q) := rfl
def rd_R (o : st_T) (l : Nat) (f : Int32) (N : Nat) (q : tr_T) : Int32 × tr_T := s_rd (rd_c o) f.toInt.toNat (rd_p o l f N).2 0 q
def ok_read (x y w : Int32) : Bool := inR x 0 3 && inR y 0 2 && inR w 0 20
def sp_read (sh : Nat → st_T) (q : tr_T) (x y f w : Int32) : Int32 := if ok_read x y w then (if (rd_R (sh x.toInt.toNat) y.toInt.toNat f w.toInt.toNat q).1 = 0 then nI (rd_p (sh x.toInt.toNat) y.toInt.toNat f w.toInt.toNat).2 else (rd_R (sh x.toInt.toNat) y.toInt.toNat f w.toInt.toNat q).1) else -1
def n_read (sh : Nat → st_T) (q : tr_T) (old x y f w : Int32) : tr_T × Int32 := if ok_read x y w && decide ((rd_R (sh x.toInt.toNat) y.toInt.toNat f w.toInt.toNat q).1 = 0) then ((rd_R (sh x.toInt.toNat) y.toInt.toNat f w.toInt.toNat q).2, nI (rd_p (sh x.toInt.toNat) y.toInt.toNat f w.toInt.toNat).1) else (q, old)
theorem rd_Wle (N m : Nat) (f : Int32) : rd_W N m f ≤ N := by unfold rd_W; split <;> omega
theorem rd_Win {N m : Nat} {f : Int32} (hm : m ≤ 40) (h : 0 < rd_W N m f) : ∃ F, f = nI F ∧ F < m ∧ ∀ i, i < rd_W N m f → F + 2 * i + 1 < m := by
  unfold rd_W at h ⊢
  cases hf : inR f 0 ((m : Int) - 1)
  · rw [hf] at h; exact absurd h (by simp)
  · obtain ⟨F, hF, rfl⟩ := inR_get hf
    refine ⟨F, rfl, by omega, fun i hi => ?_⟩
    rw [if_pos rfl, nI_tn (by omega)] at hi
    omega
section RD
variable {d : Nat} {S : hs_T} {n w i k l N : Nat} {t : Nat → Nat} {x y f : Int32} {q : Nat × Nat × (Nat → Int32)}
def flt (o : st_T) (l : Nat) : Nat := match o with
  | none => 1
  | some q => if l = q.1 then 0 else 3
theorem kX6_faultAs {o : st_T} (hk : k < 4) (hl : l ≤ 2) (h : ShX S k o) : Ci (d + 1) mX6_faultAs [vR 6 k, vI (nI l)] S (fun v S' => v = nI (flt o l) ∧ S' = S) := by
  refine cxX6_faultAs ?_
  refine bkX6_faultAs_0 hk (kX6_isNothing hk h) ?_
  rintro _ S ⟨rfl, rfl⟩
  cases o with
  | none => exact bkX6_faultAs_4 (fun h => absurd h (by decide)) (fun _ => bkX6_faultAs_7 ⟨_, rfl, rfl, rfl⟩)
  | some q =>
    obtain ⟨h1, h2, h3, h4, h5⟩ := h
    refine bkX6_faultAs_4 (fun _ => ?_) (fun h => absurd rfl h)
    refine bkX6_faultAs_9 hk (fun h => ?_) (fun h => ?_) <;> rw [h1, nI_eq (by omega) (by omega)] at h
    · exact bkX6_faultAs_21 (bkX6_faultAs_22 ⟨_, rfl, by simp only [flt, if_neg h]; rfl, rfl⟩)
    · exact bkX6_faultAs_17 (bkX6_faultAs_22 ⟨_, rfl, by simp only [flt, if_pos h]; rfl, rfl⟩)
def wp (o : st_T) (f : Int32) (N : Nat) : Nat := match o with
  | none => 0
  | some q => rd_W N q.2.1 f
theorem kX6_wholePairs {o : st_T} (hk : k < 4) (hN : N ≤ 20) (h : ShX S k o) : Ci (d + 1) mX6_wholePairs [vR 6 k, vI f, vI (nI N)] S (fun v S' => v = nI (wp o f N) ∧ S' = S) := by
  refine cxX6_wholePairs ?_
  cases o with
  | none =>
    have h : S.1 6 k 2 = -1 := h
    have h0 : (0 : Int32).toInt = 0 := rfl
    have m1 : (-1 : Int32).toInt = -1 := by decide
    refine bkX6_wholePairs_0 hk (P := fun v S' => v = bi_ false ∧ S' = S) ?_ ?_
    · refine cxX6_has ?_
      refine bkX6_has_0 (fun _ => bkX6_has_16 (bkX6_has_17 (by decide) ⟨0, rfl, rfl, rfl⟩)) (fun z => ?_)
      refine bkX6_has_4 hk (fun _ => bkX6_has_16 (bkX6_has_17 (by decide) ⟨0, rfl, rfl, rfl⟩)) (fun z2 => absurd ?_ z2)
      rw [fa_lt] at z
      rw [h, fa_le]; omega
    · rintro _ S ⟨rfl, rfl⟩
      exact bkX6_wholePairs_5 (fun _ => bkX6_wholePairs_23 (bkX6_wholePairs_24 ⟨_, rfl, rfl, rfl⟩)) (fun h => absurd rfl h)
  | some q =>
    refine bkX6_wholePairs_0 hk (kX6_has hk h) ?_
    rintro _ S ⟨rfl, rfl⟩
    obtain ⟨h1, h2, h3, h4, h5⟩ := h
    show Ev (d + 1) _ _ _ _ _ (fun r S' => ∃ v, r = some (vI v) ∧ v = nI (rd_W N q.2.1 f) ∧ S' = S)
    unfold rd_W
    cases hf : inR f 0 ((q.2.1 : Int) - 1)
    · exact bkX6_wholePairs_5 (fun _ => bkX6_wholePairs_23 (bkX6_wholePairs_24 ⟨_, rfl, rfl, rfl⟩)) (fun h => absurd rfl h)
    · refine bkX6_wholePairs_5 (fun h => absurd h (by decide)) (fun _ => ?_)
      obtain ⟨F, hF, rfl⟩ := inR_get hf
      refine bkX6_wholePairs_8 hk (bkX6_wholePairs_24 ⟨_, rfl, ?_, rfl⟩)
      rw [h2, pk_sub (by omega), show (2 : Int32) = nI 2 from rfl, pk_div (by omega) (by omega) (by omega), if_pos rfl, nI_tn (by omega)]
      split
      · rename_i z; rw [nI_ltI (by omega) (by omega)] at z; rw [Nat.min_eq_right (by omega)]
      · rename_i z; rw [nI_ltI (by omega) (by omega)] at z; rw [Nat.min_eq_left (by omega)]
theorem e_2i (F i : Nat) : nI F + 2 * nI i = nI (F + 2 * i) := by rw [show (2 : Int32) = nI 2 from rfl, pk_mul, nI_add]
theorem lX10_fr {F W : Nat} (hk : k < 4) (h : ShX S k (some q)) (hW : W ≤ 20) (hin : ∀ i, i < W → F + 2 * i + 1 < q.2.1) :
    ∀ (r i : Nat) (u : tr_T) (o6 o7 : Option av_T), i + r = W → u.1 ≤ 400 → Ev (d + 2) mX10_firstRefusal 12 [some (vR 10 0), some (vR 6 k), some (vI (nI F)), some (vI (nI W)), some (vI (nI u.1)), some (vI (nI i)), o6, o7] [] S (fun r' S' => ∃ v, r' = some (vI v) ∧ v = (s_rd q.2.2 F r i u).1 ∧ S' = S) := by
  have h4 := h.2.2.2.1
  intro r
  induction r with
  | zero =>
    intro i u o6 o7 hi hu
    exact bkX10_firstRefusal_12 (fun _ => bkX10_firstRefusal_84 ⟨_, rfl, rfl, rfl⟩) (fun h => absurd (nI_le (by omega) (by omega)) h)
  | succ r ih =>
    intro i u o6 o7 hi hu
    have hi2 := hin i (by omega)
    rw [s_rd_s]
    refine bkX10_firstRefusal_12 (fun h => absurd h (nl_ (by omega) (by omega))) (fun _ => ?_)
    refine bkX10_firstRefusal_18 hk (by rw [e_2i]; exact kX6_cell hk h (by omega)) ?_
    rintro _ S ⟨rfl, rfl⟩
    refine bkX10_firstRefusal_28 hk (by rw [e_2i, nI_1]; exact kX6_cell hk h (by omega)) ?_
    rintro _ S ⟨rfl, rfl⟩
    refine bkX10_firstRefusal_44 (kX10_refusalOf hu) ?_
    rintro _ S ⟨rfl, rfl⟩
    refine bkX10_firstRefusal_49 (fun g1 => ?_) (fun g1 => ?_)
    · refine bkX10_firstRefusal_63 (fun g0 => ?_) (fun g0 => ?_)
      · rw [if_pos g0]
        obtain ⟨a, b, a1, a2, a3, a4, a5⟩ := sp_ref_0 g0
        refine bkX10_firstRefusal_71 ?_
        rw [a4, nI_add, nI_1, nI_tn (by omega)]
        exact ih (i + 1) (u.1 + a, _) _ _ (by omega) a2
      · rw [if_neg g0, if_neg g1]
        refine bkX10_firstRefusal_68 ⟨_, rfl, ?_, rfl⟩
        rcases sp_ref_v u.1 (q.2.2 (F + 2 * i)) (q.2.2 (F + 2 * i + 1)) with z | z | z
        · exact absurd z g0
        · exact absurd z g1
        · exact z
    · rw [if_neg (by rw [g1]; decide), if_pos g1]
      exact bkX10_firstRefusal_57 ⟨_, rfl, rfl, rfl⟩
def EX (k j f : Nat) : Prop := (k = 8 ∨ k = 900) ∧ j = 0 ∨ k = 10 ∧ f = 12
theorem lX10_rd {S0 : hs_T} {F W : Nat} {x1 x2 x4 x6 x8 : Int32} (hk : k < 4) (hW : W ≤ 20) (hin : ∀ i, i < W → F + 2 * i + 1 < q.2.1) :
    ∀ (r i : Nat) (u : tr_T) (S : hs_T), i + r = W → (s_rd q.2.2 F r i u).1 = 0 → TrX S 0 u.1 u.2 → ShX S k (some q) → Kz EX S0 S → Ev (d + 2) mX10_read 105 [some (vR 10 0), some (vI x1), some (vI x2), some (vI (nI F)), some (vI x4), some (vR 6 k), some (vI x6), some (vI (nI W)), some (vI x8), some (vI (nI i))] [] S (fun r' S' => ∃ v, r' = some (vI v) ∧ v = nI W ∧ Kz EX S0 S' ∧ TrX S' 0 (s_rd q.2.2 F r i u).2.1 (s_rd q.2.2 F r i u).2.2 ∧ S'.1 10 0 12 = x6) := by
  intro r
  induction r with
  | zero =>
    intro i u S hi h0 hT h hK
    refine bkX10_read_105 (fun _ => bkX10_read_149 ⟨_, rfl, rfl, ?_, ?_, ?_⟩) (fun h => absurd (nI_le (by omega) (by omega)) h)
    · exact Kz_sk hK (fun f _ z => by rw [pk_un (fun e => z (Or.inr ⟨rfl, e⟩))])
    · refine ⟨by rw [sk_ne _ _ (by omega)]; exact hT.1, hT.2.1, fun a ha => by rw [sk_ne _ _ (by omega)]; exact hT.2.2 a ha⟩
    · rw [sk_at, pk_us]
  | succ r ih =>
    intro i u S hi h0 hT h hK
    have hi2 := hin i (by omega)
    have h4 := h.2.2.2.1
    have hn := hT.2.1
    rw [s_rd_s] at h0 ⊢
    by_cases g0 : sp_ref u.1 (q.2.2 (F + 2 * i)) (q.2.2 (F + 2 * i + 1)) = 0
    · rw [if_pos g0] at h0 ⊢
      refine bkX10_read_105 (fun h => absurd h (nl_ (by omega) (by omega))) (fun _ => ?_)
      refine bkX10_read_112 hk (by rw [e_2i]; exact kX6_cell hk h (by omega)) ?_
      rintro _ S ⟨rfl, rfl⟩
      refine bkX10_read_127 hk (by rw [e_2i, nI_1]; exact kX6_cell hk h (by omega)) ?_
      rintro _ S ⟨rfl, rfl⟩
      obtain ⟨a, b, a1, a2, a3, a4, a5⟩ := sp_ref_0 g0
      rw [a4, a5, nI_tn (by omega), nI_tn (by omega)] at h0 ⊢
      refine bkX10_read_140 (kX8_append hT.1 (by omega) a2) ?_
      rintro _ ⟨g, rfl, hg1, hg2⟩
      refine bkX10_read_143 ?_
      rw [nI_1]
      refine ih (i + 1) (u.1 + a, t_app u.2 u.1 a b) _ (by omega) h0 ⟨?_, a2, fun c hc => ?_⟩ ?_ ?_
      · rw [sk_at, pk_us]
      · have hc : c < u.1 + a := hc
        rw [sk_ne _ _ (by omega), sk_at]
        show g c = nI (t_app u.2 u.1 a b c) ∧ t_app u.2 u.1 a b c < 256
        unfold t_app
        by_cases z : c < u.1
        · rw [if_pos z, hg1 c z]; exact hT.2.2 c z
        · rw [if_neg z, hg2 c (by omega) hc]; exact ⟨rfl, a3⟩
      · obtain ⟨b1, b2, b3, b4, b5⟩ := h
        refine ⟨by rw [sk_ne _ _ (by omega), sk_ne _ _ (by omega)]; exact b1, by rw [sk_ne _ _ (by omega), sk_ne _ _ (by omega)]; exact b2, b3, b4, fun c hc => by rw [sk_ne _ _ (by omega), sk_ne _ _ (by omega)]; exact b5 c hc⟩
      · exact Kz_sk (Kz_sk hK (fun f _ z => absurd (Or.inl ⟨Or.inr rfl, rfl⟩) z)) (fun f _ z => absurd (Or.inl ⟨Or.inl rfl, rfl⟩) z)
    · rw [if_neg g0] at h0
      split at h0
      · exact absurd h0 (by
          show ¬ (-20 - nI i = 0)
          rw [fa_eq, fb_subI] <;> rw [nI_toInt (by omega)] <;> have : (-20 : Int32).toInt = -20 := by decide
          all_goals (have : (0 : Int32).toInt = 0 := rfl; omega))
      · exact absurd h0 (by show ¬ ((-3 : Int32) = 0); decide)
theorem rd_pos {o : st_T} (h : 0 < (rd_p o l f N).2) : ∃ q, o = some q ∧ (rd_p o l f N).2 = rd_W N q.2.1 f ∧ l = q.1 := by
  unfold rd_p at h ⊢
  by_cases h0 : N = 0
  · rw [if_pos h0] at h; exact absurd h (by simp)
  · rw [if_neg h0] at h ⊢
    cases o with
    | none => exact absurd h (by simp)
    | some q =>
      by_cases hl : l = q.1
      · exact ⟨q, rfl, by simp only [if_pos hl], hl⟩
      · simp only [if_neg hl] at h; exact absurd h (by simp)
theorem rd_le {o : st_T} : (rd_p o l f N).2 ≤ N := by
  rcases Nat.eq_zero_or_pos (rd_p o l f N).2 with z | z
  · omega
  · obtain ⟨q, _, h, _⟩ := rd_pos z
    rw [h]; exact rd_Wle _ _ _
theorem kX10_firstRefusal {o : st_T} (hk : k < 4) (hN : N ≤ 20) (hT : TrX S 0 n t) (h : ShX S k o) : Ci (d + 2) mX10_firstRefusal [vR 10 0, vR 6 k, vI f, vI (nI (rd_p o l f N).2)] S (fun v S' => v = (rd_R o l f N (n, t)).1 ∧ S' = S) := by
  refine cxX10_firstRefusal ?_
  refine bkX10_firstRefusal_0 ?_
  rw [hT.1]
  rcases Nat.eq_zero_or_pos (rd_p o l f N).2 with z | z
  · unfold rd_R
    rw [z]
    exact bkX10_firstRefusal_12 (fun _ => bkX10_firstRefusal_84 ⟨_, rfl, rfl, rfl⟩) (fun h => absurd (by decide) h)
  · obtain ⟨q, rfl, e, hl⟩ := rd_pos z
    have hle := rd_Wle N q.2.1 f
    unfold rd_R
    rw [e] at z ⊢
    obtain ⟨F, rfl, hF, hin⟩ := rd_Win h.2.2.2.1 z
    have h4 := h.2.2.2.1
    rw [nI_tn (by omega)]
    exact lX10_fr hk h (by omega) hin _ 0 (n, t) _ _ (by omega) hT.2.1
theorem sX10_read {sh : Nat → st_T} {k l N : Nat} (hk : k < 4) (hl : l ≤ 2) (hN : N ≤ 20) (hT : TrX S 0 n t) (h : ShX S k (sh k)) (ho : ok_read (nI k) (nI l) (nI N) = true) :
    Ev (d + 3) mX10_read 83 [some (vR 10 0), some (vI (nI k)), some (vI (nI l)), some (vI f), some (vI (nI N)), some (vR 6 k), some (vI (nI (rd_p (sh k) l f N).1)), some (vI (nI (rd_p (sh k) l f N).2)), none, none] [] S (fun r S' => ∃ v, r = some (vI v) ∧ v = sp_read sh (n, t) (nI k) (nI l) f (nI N) ∧ Kz EX S S' ∧ TrX S' 0 (n_read sh (n, t) (S.1 10 0 12) (nI k) (nI l) f (nI N)).1.1 (n_read sh (n, t) (S.1 10 0 12) (nI k) (nI l) f (nI N)).1.2 ∧ S'.1 10 0 12 = (n_read sh (n, t) (S.1 10 0 12) (nI k) (nI l) f (nI N)).2) := by
  have hle := rd_le (o := sh k) (l := l) (f := f) (N := N)
  unfold sp_read n_read
  rw [ho, nI_tn (by omega), nI_tn (by omega), nI_tn (by omega), if_pos rfl, Bool.true_and]
  refine bkX10_read_83 (kX10_firstRefusal (l := l) (N := N) hk hN hT h) ?_
  rintro _ S ⟨rfl, rfl⟩
  refine bkX10_read_92 (fun h0 => ?_) (fun h0 => ?_)
  · rw [if_pos h0, decide_eq_true h0, if_pos rfl]
    refine bkX10_read_102 ?_
    rcases Nat.eq_zero_or_pos (rd_p (sh k) l f N).2 with z | z
    · unfold rd_R
      rw [z]
      refine bkX10_read_105 (fun _ => bkX10_read_149 ⟨_, rfl, rfl, ?_, ?_, ?_⟩) (fun h => absurd (by decide) h)
      · exact Kz_sk (Kz_rf _ S) (fun f _ z => by rw [pk_un (fun e => z (Or.inr ⟨rfl, e⟩))])
      · refine ⟨by rw [sk_ne _ _ (by omega)]; exact hT.1, hT.2.1, fun a ha => by rw [sk_ne _ _ (by omega)]; exact hT.2.2 a ha⟩
      · rw [sk_at, pk_us]
    · obtain ⟨q, e1, e2, hlq⟩ := rd_pos z
      unfold rd_R at h0 ⊢
      rw [e1] at h
      have h4 := h.2.2.2.1
      rw [e2] at z
      obtain ⟨F, rfl, hF, hin⟩ := rd_Win h4 z
      rw [← e2] at hin
      rw [nI_tn (by omega)] at h0 ⊢
      rw [show rd_c (sh k) = q.2.2 from by rw [e1]; rfl] at h0 ⊢
      exact lX10_rd (S0 := S) hk (by omega) hin _ 0 (n, t) S (by omega) h0 hT h (Kz_rf _ S)
  · rw [if_neg h0, decide_eq_false h0]
    exact bkX10_read_99 ⟨_, rfl, rfl, Kz_rf _ _, hT, rfl⟩
theorem kX10_read {sh : Nat → st_T} {z : Int32} (hT : TrX S 0 n t) (hI : ∀ k, k < 4 → ShX S k (sh k)) : Ci (d + 3) mX10_read [vR 10 0, vI x, vI y, vI f, vI z] S (fun v S' => v = sp_read sh (n, t) x y f z ∧ Kz EX S S' ∧ TrX S' 0 (n_read sh (n, t) (S.1 10 0 12) x y f z).1.1 (n_read sh (n, t) (S.1 10 0 12) x y f z).1.2 ∧ S'.1 10 0 12 = (n_read sh (n, t) (S.1 10 0 12) x y f z).2) := by
  refine cxX10_read ?_
  have bad : ok_read x y z = false → ∀ r S', (∃ v, r = some (vI v) ∧ v = -1 ∧ S' = S) → ∃ v, r = some (vI v) ∧ v = sp_read sh (n, t) x y f z ∧ Kz EX S S' ∧ TrX S' 0 (n_read sh (n, t) (S.1 10 0 12) x y f z).1.1 (n_read sh (n, t) (S.1 10 0 12) x y f z).1.2 ∧ S'.1 10 0 12 = (n_read sh (n, t) (S.1 10 0 12) x y f z).2 := by
    rintro ho r S' ⟨v, rfl, rfl, rfl⟩
    unfold sp_read n_read
    rw [ho]
    exact ⟨_, rfl, rfl, Kz_rf _ _, hT, rfl⟩
  refine bkX10_read_0 kX10_sheetOf ?_
  rintro _ S ⟨rfl, rfl⟩
  cases hx : inR x 0 3
  · exact bkX10_read_5_n (bkX10_read_30_n (bad (by rw [ok_read, hx]; rfl) _ _ ⟨_, rfl, rfl, rfl⟩))
  refine bkX10_read_5_r ?_
  refine bkX10_read_12 kX10_isLane ?_
  rintro _ S ⟨rfl, rfl⟩
  cases hy : inR y 0 2
  · exact bkX10_read_16 (fun _ => bkX10_read_30_r (bad (by rw [ok_read, hy]; simp) _ _ ⟨_, rfl, rfl, rfl⟩)) (fun h => absurd rfl h)
  refine bkX10_read_16 (fun h => absurd h (by decide)) (fun _ => ?_)
  refine bkX10_read_19 (kX10_w (lo := 0) (hi := 20) rfl rfl) ?_
  rintro _ S ⟨rfl, rfl⟩
  cases hz : inR z 0 20
  · exact bkX10_read_27 (fun h => absurd rfl h) (fun _ => bkX10_read_30_r (bad (by rw [ok_read, hz]; simp) _ _ ⟨_, rfl, rfl, rfl⟩))
  refine bkX10_read_27 (fun _ => ?_) (fun h => absurd h (by decide))
  have ho : ok_read x y z = true := by rw [ok_read, hx, hy, hz]; rfl
  clear bad
  obtain ⟨k, hk, rfl⟩ := inR_get hx
  obtain ⟨l, hl, rfl⟩ := inR_get hy
  obtain ⟨N, hN, rfl⟩ := inR_get hz
  rw [nI_tn (show k < 2 ^ 31 by omega)]
  have hIk := hI k (by omega)
  have main := sX10_read (d := d) (f := f) (sh := sh) (k := k) (l := l) (N := N) (by omega) (by omega) (by omega) hT hIk ho
  have q2 : ∀ fl : Nat, fl ≤ 3 → fl = (if N = 0 then 0 else flt (sh k) l) → Ev (d + 3) mX10_read 47 [some (vR 10 0), some (vI (nI k)), some (vI (nI l)), some (vI f), some (vI (nI N)), some (vR 6 k), none, none, none, none] [vI (nI fl)] S (fun r S' => ∃ v, r = some (vI v) ∧ v = sp_read sh (n, t) (nI k) (nI l) f (nI N) ∧ Kz EX S S' ∧ TrX S' 0 (n_read sh (n, t) (S.1 10 0 12) (nI k) (nI l) f (nI N)).1.1 (n_read sh (n, t) (S.1 10 0 12) (nI k) (nI l) f (nI N)).1.2 ∧ S'.1 10 0 12 = (n_read sh (n, t) (S.1 10 0 12) (nI k) (nI l) f (nI N)).2) := by
    intro fl h3 hfl
    refine bkX10_read_47 (fun h => ?_) (fun h => ?_)
    · have hf0 : ¬ fl = 0 := fun w => h (by rw [w]; rfl)
      have hN0 : ¬ N = 0 := fun w => hf0 (by rw [hfl, if_pos w])
      rw [if_neg hN0] at hfl
      have ep : rd_p (sh k) l f N = (fl, 0) := by
        unfold rd_p; rw [if_neg hN0]
        cases hs : sh k with
        | none => rw [hs] at hfl; rw [hfl]; rfl
        | some q =>
          rw [hs] at hfl
          by_cases e : l = q.1
          · simp only [flt, if_pos e] at hfl; exact absurd hfl hf0
          · simp only [flt, if_neg e] at hfl ⊢; rw [hfl]
      rw [ep] at main
      exact bkX10_read_65 (bkX10_read_66 (fun _ => main) (fun z => absurd z h))
    · have hf0 : fl = 0 := (nI_eq (b := 0) (by omega) (by omega)).mp h
      refine bkX10_read_54 (by omega) (kX6_wholePairs (by omega) (by omega) hIk) ?_
      rintro _ S ⟨rfl, rfl⟩
      have ep : rd_p (sh k) l f N = (if wp (sh k) f N < N then 2 else 0, wp (sh k) f N) := by
        unfold rd_p
        by_cases hN0 : N = 0
        · rw [if_pos hN0, if_neg (by omega)]
          have : wp (sh k) f N = 0 := by
            unfold wp; cases sh k with
            | none => rfl
            | some q => have := rd_Wle N q.2.1 f; show rd_W N q.2.1 f = 0; omega
          rw [this]
        · rw [if_neg hN0] at hfl ⊢
          cases hs : sh k with
          | none =>
            rw [hs] at hfl
            have hfl : fl = 1 := hfl
            omega
          | some q =>
            rw [hs] at hfl
            by_cases e : l = q.1
            · simp only [if_pos e]; rfl
            · simp only [flt, if_neg e] at hfl; omega
      have wl : wp (sh k) f N ≤ N := by
        unfold wp; cases sh k with
        | none => exact Nat.zero_le _
        | some q => exact rd_Wle N q.2.1 f
      rw [ep] at main
      refine bkX10_read_62 (bkX10_read_66 (fun z => absurd h z) (fun _ => ?_))
      refine bkX10_read_73 (fun h5 => ?_) (fun h5 => bkX10_read_80 ?_) <;> rw [nI_leI (by omega) (by omega)] at h5
      · rw [if_neg (by omega)] at main
        rw [hf0]; exact main
      · rw [if_pos (by omega)] at main
        exact main
  refine bkX10_read_32 (fun h => ?_) (fun h => ?_)
  · have hN0 : ¬ N = 0 := fun w => h (by rw [w]; rfl)
    refine bkX10_read_41 (by omega) (kX6_faultAs (by omega) (by omega) hIk) ?_
    rintro _ S ⟨rfl, rfl⟩
    refine q2 (flt (sh k) l) ?_ (by rw [if_neg hN0])
    unfold flt
    cases sh k with
    | none => exact (by decide : (1 : Nat) ≤ 3)
    | some q => show (if l = q.1 then 0 else 3) ≤ 3; split <;> omega
  · have hN0 : N = 0 := (nI_eq (b := 0) (by omega) (by omega)).mp h
    exact bkX10_read_37 (q2 0 (by omega) (by rw [if_pos hN0]))
end RD
