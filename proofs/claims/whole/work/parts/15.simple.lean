theorem st_id {S : hs_T} {k j f : Nat} {x : Int32} (h : S.1 k j f = x) : sk_ S k j (upd (S.1 k j) f x) = S := by rw [fa_upd_same h, sk_id]
/-! ===== feed, end, see, cut, at, put: both sides ===== -/
section SI
variable {d : Nat} {S : hs_T} {n w i : Nat} {t : Nat → Nat}
theorem kX10_within {x a b : Int32} : Ci d mX10_within [vI x, vI a, vI b] S (fun v S' => v = bi_ (inR x a.toInt b.toInt) ∧ S' = S) := by
  refine cxX10_within ?_
  refine bkX10_within_0 (fun h => ?_) (fun h => ?_)
  · rw [fa_lt] at h
    exact bkX10_within_14 (bkX10_within_15 (by decide) ⟨0, rfl, by rw [inR, decide_eq_false (by omega)]; rfl, rfl⟩)
  · rw [fa_lt] at h
    refine bkX10_within_5 (fun h2 => ?_) (fun h2 => ?_)
    · rw [fa_lt] at h2
      exact bkX10_within_14 (bkX10_within_15 (by decide) ⟨0, rfl, by rw [inR, decide_eq_false (by omega)]; rfl, rfl⟩)
    · rw [fa_lt] at h2
      exact bkX10_within_10 (bkX10_within_15 (by decide) ⟨1, rfl, by rw [inR, decide_eq_true (by omega)]; rfl, rfl⟩)
theorem kX10_w {x a b : Int32} {lo hi : Int} (ha : a.toInt = lo) (hb : b.toInt = hi) : Ci d mX10_within [vI x, vI a, vI b] S (fun v S' => v = bi_ (inR x lo hi) ∧ S' = S) := by
  rw [← ha, ← hb]; exact kX10_within
theorem kX10_isWire {x : Int32} : Ci (d + 1) mX10_isWire [vI x] S (fun v S' => v = bi_ (inR x 0 7) ∧ S' = S) := by
  refine cxX10_isWire ?_
  refine bkX10_isWire_0 (kX10_w (lo := 0) (hi := 7) rfl rfl) ?_
  rintro _ S ⟨rfl, rfl⟩
  exact bkX10_isWire_7 (bi_n _) ⟨_, rfl, rfl, rfl⟩
theorem kX10_isLane {x : Int32} : Ci (d + 1) mX10_isLane [vI x] S (fun v S' => v = bi_ (inR x 0 2) ∧ S' = S) := by
  refine cxX10_isLane ?_
  refine bkX10_isLane_0 (kX10_w (lo := 0) (hi := 2) rfl rfl) ?_
  rintro _ S ⟨rfl, rfl⟩
  exact bkX10_isLane_6 (bi_n _) ⟨_, rfl, rfl, rfl⟩
/-- what see refuses: 0 nothing -/
def sp_ref (n : Nat) (x v : Int32) : Int32 := if inR x 1 400 && inR v 0 255 then (if (n : Int) + x.toInt ≤ 400 then 0 else -3) else -1
theorem kX10_refusalOf {x v : Int32} (hn : n ≤ 400) : Ci (d + 1) mX10_refusalOf [vI x, vI v, vI (nI n)] S (fun r S' => r = sp_ref n x v ∧ S' = S) := by
  refine cxX10_refusalOf ?_
  refine bkX10_refusalOf_0 (kX10_w (lo := 1) (hi := 400) rfl rfl) ?_
  rintro _ S ⟨rfl, rfl⟩
  cases h1 : inR x 1 400
  · refine bkX10_refusalOf_8 (fun _ => ?_) (fun h => absurd rfl h)
    exact bkX10_refusalOf_22 ⟨_, rfl, by simp [sp_ref, h1], rfl⟩
  · refine bkX10_refusalOf_8 (fun h => absurd h (by decide)) (fun _ => ?_)
    refine bkX10_refusalOf_11 (kX10_w (lo := 0) (hi := 255) rfl rfl) ?_
    rintro _ S ⟨rfl, rfl⟩
    cases h2 : inR v 0 255
    · refine bkX10_refusalOf_19 (fun h => absurd rfl h) (fun _ => ?_)
      exact bkX10_refusalOf_22 ⟨_, rfl, by simp [sp_ref, h1, h2], rfl⟩
    · refine bkX10_refusalOf_19 (fun _ => ?_) (fun h => absurd h (by decide))
      obtain ⟨k, hk1, hk2, rfl⟩ := inR_get1 (by omega) h1
      refine bkX10_refusalOf_24 (fun h => ?_) (fun h => ?_)
      · rw [nI_add, show (400 : Int32) = nI 400 from rfl, nI_leI (by omega) (by omega)] at h
        exact bkX10_refusalOf_38 (bkX10_refusalOf_39 ⟨_, rfl, by
          simp only [sp_ref, h1, h2, Bool.and_self, if_true]; rw [if_pos]; rw [nI_toInt (by omega)]; omega, rfl⟩)
      · rw [nI_add, show (400 : Int32) = nI 400 from rfl, nI_leI (by omega) (by omega)] at h
        exact bkX10_refusalOf_33 (bkX10_refusalOf_39 ⟨_, rfl, by
          simp only [sp_ref, h1, h2, Bool.and_self, if_true]; rw [if_neg]; rw [nI_toInt (by omega)]; omega, rfl⟩)
theorem sp_ref_0 {n : Nat} {x v : Int32} (h : sp_ref n x v = 0) : ∃ k u : Nat, 1 ≤ k ∧ n + k ≤ 400 ∧ u < 256 ∧ x = nI k ∧ v = nI u := by
  unfold sp_ref at h
  cases h1 : inR x 1 400 <;> cases h2 : inR v 0 255 <;> simp only [h1, h2, Bool.and_self, Bool.and_false, Bool.false_and, Bool.and_true, Bool.true_and, if_true, if_false, Bool.false_eq_true] at h <;> first | exact absurd h (by decide) | skip
  obtain ⟨k, hk1, hk2, rfl⟩ := inR_get1 (by omega) h1
  obtain ⟨u, hu, rfl⟩ := inR_get h2
  by_cases h3 : (n : Int) + (nI k).toInt ≤ 400
  · rw [nI_toInt (by omega)] at h3
    exact ⟨k, u, by omega, by omega, by omega, rfl, rfl⟩
  · rw [if_neg h3] at h; exact absurd h (by decide)
theorem sp_ref_v (n : Nat) (x v : Int32) : sp_ref n x v = 0 ∨ sp_ref n x v = -1 ∨ sp_ref n x v = -3 := by
  unfold sp_ref
  split
  · split
    · exact Or.inl rfl
    · exact Or.inr (Or.inr rfl)
  · exact Or.inr (Or.inl rfl)
/-- see: what it answers -/
def sp_see (n : Nat) (x v : Int32) : Int32 := if sp_ref n x v = 0 then nI (n + x.toInt.toNat) else sp_ref n x v
/-- the trace behind a see that is taken -/
def t_app (t : Nat → Nat) (n k u : Nat) : Nat → Nat := fun i => if i < n then t i else u
theorem kX10_see {x v : Int32} (hT : TrX S 0 n t) : Ci (d + 2) mX10_see [vR 10 0, vI x, vI v] S (fun r S' => r = sp_see n x v ∧ ((¬ sp_ref n x v = 0 ∧ S' = S) ∨ (sp_ref n x v = 0 ∧ ∃ g, S' = sk_ (sk_ S 900 0 g) 8 0 (upd (S.1 8 0) 1 (nI (n + x.toInt.toNat))) ∧ TrX S' 0 (n + x.toInt.toNat) (t_app t n x.toInt.toNat v.toInt.toNat)))) := by
  obtain ⟨h1, h2, h3⟩ := hT
  refine cxX10_see ?_
  refine bkX10_see_0 (by rw [h1]; exact kX10_refusalOf h2) ?_
  rintro _ S ⟨rfl, rfl⟩
  refine bkX10_see_12 (fun h => ?_) (fun h => ?_)
  · obtain ⟨k, u, hk1, hk2, hu, rfl, rfl⟩ := sp_ref_0 h
    have ek : (nI k).toInt.toNat = k := by rw [nI_toInt (by omega)]; omega
    have eu : (nI u).toInt.toNat = u := by rw [nI_toInt (by omega)]; omega
    refine bkX10_see_19 (kX8_append h1 (by omega) hk2) ?_
    rintro _ ⟨g, rfl, hg1, hg2⟩
    refine bkX10_see_28 ⟨_, rfl, ?_, Or.inr ⟨h, g, by rw [ek], ?_⟩⟩
    · rw [sk_at, sp_see, if_pos h, ek]; exact pk_us
    · rw [ek, eu]
      refine ⟨by rw [sk_at]; exact pk_us, by omega, fun i hi => ?_⟩
      rw [sk_ne _ _ (by omega), sk_at]
      unfold t_app
      by_cases hin : i < n
      · rw [if_pos hin, hg1 i hin]; exact h3 i hin
      · rw [if_neg hin, hg2 i (by omega) hi]; exact ⟨rfl, hu⟩
  · exact bkX10_see_17 ⟨_, rfl, by rw [sp_see, if_neg h], Or.inl ⟨h, rfl⟩⟩
/-- cut, end: how many there were -/
def sp_cut (n : Nat) (x : Int32) : Int32 := if inR x 0 n then nI n else -1
theorem kX10_cut {x : Int32} (h1 : S.1 8 0 1 = nI n) (hn : n ≤ 400) : Ci (d + 1) mX10_cut [vR 10 0, vI x] S (fun r S' => r = sp_cut n x ∧ S' = if inR x 0 n then sk_ S 8 0 (upd (S.1 8 0) 1 x) else S) := by
  refine cxX10_cut ?_
  refine bkX10_cut_0 (kX10_w (lo := 0) (hi := n) rfl (by rw [h1]; exact nI_toInt (by omega))) ?_
  rintro _ S ⟨rfl, rfl⟩
  cases h : inR x 0 n
  · exact bkX10_cut_12 (fun h => absurd rfl h) (fun _ => bkX10_cut_15 ⟨_, rfl, by simp [sp_cut, h], by simp⟩)
  · exact bkX10_cut_12 (fun _ => bkX10_cut_17 ⟨_, rfl, by simp [sp_cut, h, h1], by simp⟩) (fun h => absurd h (by decide))
theorem kX10_end {x : Int32} (h1 : S.1 7 0 1 = nI n) (hn : n ≤ 400) : Ci (d + 1) mX10_end [vR 10 0, vI x] S (fun r S' => r = sp_cut n x ∧ S' = if inR x 0 n then sk_ S 7 0 (upd (S.1 7 0) 1 x) else S) := by
  refine cxX10_end ?_
  refine bkX10_end_0 (kX10_w (lo := 0) (hi := n) rfl (by rw [h1]; exact nI_toInt (by omega))) ?_
  rintro _ S ⟨rfl, rfl⟩
  cases h : inR x 0 n
  · exact bkX10_end_17 (fun h => absurd rfl h) (fun _ => bkX10_end_20 ⟨_, rfl, by simp [sp_cut, h], by simp⟩)
  · exact bkX10_end_17 (fun _ => bkX10_end_22 ⟨_, rfl, by simp [sp_cut, h, h1], by simp⟩) (fun h => absurd h (by decide))
theorem kM_cut {x : Int32} (h1 : S.1 11 0 3 = nI n) (hn : n ≤ 400) : Ci (d + 1) mX11_cut [vR 11 0, vI x] S (fun r S' => r = sp_cut n x ∧ S' = if inR x 0 n then sk_ S 11 0 (upd (S.1 11 0) 3 x) else S) := by
  refine cxX11_cut ?_
  refine bkX11_cut_0 (kM_inI (lo := 0) (hi := n) rfl (by rw [h1, Int32.toInt_toInt64]; exact nI_toInt (by omega))) ?_
  rintro _ S ⟨rfl, rfl⟩
  cases h : inR x 0 n
  · exact bkX11_cut_11 (fun h => absurd rfl h) (fun _ => bkX11_cut_14 ⟨_, rfl, by simp [sp_cut, h], by simp⟩)
  · exact bkX11_cut_11 (fun _ => bkX11_cut_16 ⟨_, rfl, by simp [sp_cut, h, h1], by simp⟩) (fun h => absurd h (by decide))
theorem kM_end {x : Int32} (h1 : S.1 11 0 8 = nI n) (hn : n ≤ 400) : Ci (d + 1) mX11_end [vR 11 0, vI x] S (fun r S' => r = sp_cut n x ∧ S' = if inR x 0 n then sk_ S 11 0 (upd (S.1 11 0) 8 x) else S) := by
  refine cxX11_end ?_
  refine bkX11_end_0 (kM_inI (lo := 0) (hi := n) rfl (by rw [h1, Int32.toInt_toInt64]; exact nI_toInt (by omega))) ?_
  rintro _ S ⟨rfl, rfl⟩
  cases h : inR x 0 n
  · exact bkX11_end_11 (fun h => absurd rfl h) (fun _ => bkX11_end_14 ⟨_, rfl, by simp [sp_cut, h], by simp⟩)
  · exact bkX11_end_11 (fun _ => bkX11_end_16 ⟨_, rfl, by simp [sp_cut, h, h1], by simp⟩) (fun h => absurd h (by decide))
def sp_at (n : Nat) (t : Nat → Nat) (x : Int32) : Int32 := if inR x 0 ((n : Int) - 1) then nI (t x.toInt.toNat) else -1
theorem nI_tn {k : Nat} (h : k < 2 ^ 31) : (nI k).toInt.toNat = k := by rw [nI_toInt h]; omega
theorem kX10_at {x : Int32} (hT : TrX S 0 n t) : Ci (d + 2) mX10_at [vR 10 0, vI x] S (fun r S' => r = sp_at n t x ∧ S' = S) := by
  have h1 := hT.1
  have h2 := hT.2.1
  refine cxX10_at ?_
  refine bkX10_at_0 (kX8_has h1 h2 (by omega)) ?_
  rintro _ S ⟨rfl, rfl⟩
  cases h : inR x 0 ((n : Int) - 1)
  · exact bkX10_at_8 (fun _ => bkX10_at_22 (bkX10_at_23 ⟨_, rfl, by simp [sp_at, h], rfl⟩)) (fun h => absurd rfl h)
  · refine bkX10_at_8 (fun h => absurd h (by decide)) (fun _ => ?_)
    obtain ⟨k, hk, rfl⟩ := inR_get h
    refine bkX10_at_11 (kX8_sample hT (by omega) (i := k) (by omega)) ?_
    rintro _ S ⟨rfl, rfl⟩
    exact bkX10_at_19 (bkX10_at_23 ⟨_, rfl, by simp [sp_at, h, nI_tn (show k < 2 ^ 31 by omega)], rfl⟩)
theorem kM_at {x : Int32} (hT : TrM S n t) : Ci (d + 2) mX11_at [vR 11 0, vI x] S (fun r S' => r = sp_at n t x ∧ S' = S) := by
  obtain ⟨h1, h2, h3⟩ := hT
  refine cxX11_at ?_
  refine bkX11_at_0 (kM_isSample h1 h2) ?_
  rintro _ S ⟨rfl, rfl⟩
  cases h : inR x 0 ((n : Int) - 1)
  · exact bkX11_at_5 (fun _ => bkX11_at_17 (bkX11_at_18 ⟨_, rfl, by simp [sp_at, h], rfl⟩)) (fun h => absurd rfl h)
  · refine bkX11_at_5 (fun h => absurd h (by decide)) (fun _ => ?_)
    obtain ⟨k, hk, rfl⟩ := inR_get h
    refine bkX11_at_8 (vp_lt (by omega) (by omega)) ?_
    exact bkX11_at_18 ⟨_, rfl, by rw [nI_clamp (by omega), (h3 k (by omega)).1]; simp [sp_at, h, nI_tn (show k < 2 ^ 31 by omega)], rfl⟩
def ok_put (n : Nat) (x v : Int32) : Bool := inR x 0 ((n : Int) - 1) && inR v 0 255
def sp_put (n : Nat) (t : Nat → Nat) (x v : Int32) : Int32 := if ok_put n x v then nI (t x.toInt.toNat) else -1
theorem kX10_put {x v : Int32} (hT : TrX S 0 n t) : Ci (d + 2) mX10_put [vR 10 0, vI x, vI v] S (fun r S' => r = sp_put n t x v ∧ S' = if ok_put n x v then sk_ S 900 0 (upd (S.1 900 0) x.toInt.toNat v) else S) := by
  have h1 := hT.1
  have h2 := hT.2.1
  refine cxX10_put ?_
  refine bkX10_put_0 (kX8_has h1 h2 (by omega)) ?_
  rintro _ S ⟨rfl, rfl⟩
  cases h : inR x 0 ((n : Int) - 1)
  · exact bkX10_put_8 (fun _ => bkX10_put_22 ⟨_, rfl, by simp [sp_put, ok_put, h], by simp [ok_put, h]⟩) (fun h => absurd rfl h)
  · refine bkX10_put_8 (fun h => absurd h (by decide)) (fun _ => ?_)
    refine bkX10_put_11 (kX10_w (lo := 0) (hi := 255) rfl rfl) ?_
    rintro _ S ⟨rfl, rfl⟩
    cases hv : inR v 0 255
    · exact bkX10_put_19 (fun h => absurd rfl h) (fun _ => bkX10_put_22 ⟨_, rfl, by simp [sp_put, ok_put, hv], by simp [ok_put, hv]⟩)
    · refine bkX10_put_19 (fun _ => ?_) (fun h => absurd h (by decide))
      obtain ⟨k, hk, rfl⟩ := inR_get h
      refine bkX10_put_24 (kX8_sample hT (by omega) (i := k) (by omega)) ?_
      rintro _ S ⟨rfl, rfl⟩
      refine bkX10_put_32 (kX8_replace h1 h2 (by omega) (i := k) (by omega)) ?_
      rintro _ rfl
      exact bkX10_put_42 ⟨_, rfl, by simp [sp_put, ok_put, h, hv, nI_tn (show k < 2 ^ 31 by omega)], by simp [ok_put, h, hv, nI_tn (show k < 2 ^ 31 by omega)]⟩
theorem kM_put {x v : Int32} (hT : TrM S n t) : Ci (d + 2) mX11_put [vR 11 0, vI x, vI v] S (fun r S' => r = sp_put n t x v ∧ S' = if ok_put n x v then sk_ S 1202 0 (upd (S.1 1202 0) x.toInt.toNat v) else S) := by
  obtain ⟨h1, h2, h3⟩ := hT
  refine cxX11_put ?_
  refine bkX11_put_0 (kM_isSample h1 h2) ?_
  rintro _ S ⟨rfl, rfl⟩
  cases h : inR x 0 ((n : Int) - 1)
  · exact bkX11_put_5 (fun _ => bkX11_put_15 ⟨_, rfl, by simp [sp_put, ok_put, h], by simp [ok_put, h]⟩) (fun h => absurd rfl h)
  · refine bkX11_put_5 (fun h => absurd h (by decide)) (fun _ => ?_)
    refine bkX11_put_8 kM_isValue ?_
    rintro _ S ⟨rfl, rfl⟩
    cases hv : inR v 0 255
    · exact bkX11_put_12 (fun h => absurd rfl h) (fun _ => bkX11_put_15 ⟨_, rfl, by simp [sp_put, ok_put, hv], by simp [ok_put, hv]⟩)
    · refine bkX11_put_12 (fun _ => ?_) (fun h => absurd h (by decide))
      obtain ⟨k, hk, rfl⟩ := inR_get h
      refine bkX11_put_17 (vp_lt (by omega) (by omega)) ⟨_, rfl, ?_, ?_⟩
      · rw [nI_clamp (by omega), (h3 k (by omega)).1]; simp [sp_put, ok_put, h, hv, nI_tn (show k < 2 ^ 31 by omega)]
      · rw [nI_clamp (by omega)]; simp [ok_put, h, hv, nI_tn (show k < 2 ^ 31 by omega)]
/-! the reference's see -/
theorem sk_xc (S : hs_T) (g h : Nat → Int32) : sk_ (sk_ S 1202 0 g) 11 0 h = sk_ (sk_ S 11 0 h) 1202 0 g := sk_cm S g h (by omega)
theorem lM_see {k u : Nat} {x1 : Int32} {Q : Option av_T → hs_T → Prop} (hk : n + k ≤ 400) (hx : x1 = nI k)
    (hQ : ∀ g : Nat → Int32, (∀ i, i < n → g i = S.1 1202 0 i) → (∀ i, n ≤ i → i < n + k → g i = nI u) → Q (some (vI (nI (n + k)))) (sk_ (sk_ S 1202 0 g) 11 0 (upd (S.1 11 0) 3 (nI (n + k))))) :
    ∀ (m i : Nat) (g : Nat → Int32), i + m = k → (∀ a, a < n → g a = S.1 1202 0 a) → (∀ a, n ≤ a → a < n + i → g a = nI u) → Ev d mX11_see 38 [some (vR 11 0), some (vI x1), some (vI (nI u)), some (vI (nI i))] [] (sk_ (sk_ S 1202 0 g) 11 0 (upd (S.1 11 0) 3 (nI (n + i)))) Q := by
  subst hx
  intro m
  induction m with
  | zero =>
    intro i g h2 h3 h4
    have e : i = k := by omega
    subst e
    refine bkX11_see_38 (fun _ => bkX11_see_69 ?_) (fun h => absurd (nI_le (Nat.le_refl _) (by omega)) h)
    rw [sk_at, pk_us]
    exact hQ g h3 h4
  | succ m ih =>
    intro i g h2 h3 h4
    refine bkX11_see_38 (fun h => absurd h (nl_ (by omega) (by omega))) (fun _ => ?_)
    refine bkX11_see_43 (by rw [sk_at, pk_us]; exact vp_lt (by omega) (by omega)) ?_
    have e1 : (sk_ (sk_ S 1202 0 g) 11 0 (upd (S.1 11 0) 3 (nI (n + i)))).1 11 0 = upd (S.1 11 0) 3 (nI (n + i)) := sk_at _ _ _ _
    have e2 : (sk_ (sk_ S 1202 0 g) 11 0 (upd (S.1 11 0) 3 (nI (n + i)))).1 1202 0 = g := by rw [sk_ne _ _ (by omega), sk_at]
    rw [e1, e2, pk_us, nI_clamp (by omega)]
    have e3 : ∀ g', (sk_ (sk_ (sk_ S 1202 0 g) 11 0 (upd (S.1 11 0) 3 (nI (n + i)))) 1202 0 g').1 11 0 = upd (S.1 11 0) 3 (nI (n + i)) := fun g' => by rw [sk_ne _ _ (by omega)]; exact e1
    rw [e3, pk_us, nI_1, nI_1, fa_upd_twice]
    have e4 : ∀ g' h', sk_ (sk_ (sk_ (sk_ S 1202 0 g) 11 0 (upd (S.1 11 0) 3 (nI (n + i)))) 1202 0 g') 11 0 h' = sk_ (sk_ S 1202 0 g') 11 0 h' := by
      intro g' h'
      rw [sk_xc (sk_ (sk_ S 1202 0 g) 11 0 _), sk_sk, ← sk_xc, sk_sk]
    rw [e4]
    refine ih (i + 1) _ (by omega) (fun a ha => ?_) (fun a ha hb => ?_)
    · rw [pk_un (by omega)]; exact h3 a ha
    · by_cases e : a = n + i
      · subst e; exact pk_us
      · rw [pk_un e]; exact h4 a ha (by omega)
theorem kM_see {x v : Int32} (hT : TrM S n t) : Ci (d + 2) mX11_see [vR 11 0, vI x, vI v] S (fun r S' => r = sp_see n x v ∧ ((¬ sp_ref n x v = 0 ∧ S' = S) ∨ (sp_ref n x v = 0 ∧ ∃ g, S' = sk_ (sk_ S 1202 0 g) 11 0 (upd (S.1 11 0) 3 (nI (n + x.toInt.toNat))) ∧ TrM S' (n + x.toInt.toNat) (t_app t n x.toInt.toNat v.toInt.toNat)))) := by
  obtain ⟨h1, h2, h3⟩ := hT
  refine cxX11_see ?_
  refine bkX11_see_0 (kM_inI (lo := 1) (hi := 400) rfl rfl) ?_
  rintro _ S ⟨rfl, rfl⟩
  cases hx : inR x 1 400
  · refine bkX11_see_9 (fun _ => ?_) (fun h => absurd rfl h)
    have e : sp_ref n x v = -1 := by simp [sp_ref, hx]
    exact bkX11_see_19 ⟨_, rfl, by rw [sp_see, e, if_neg (by decide)], Or.inl ⟨by rw [e]; decide, rfl⟩⟩
  · refine bkX11_see_9 (fun h => absurd h (by decide)) (fun _ => ?_)
    refine bkX11_see_12 kM_isValue ?_
    rintro _ S ⟨rfl, rfl⟩
    cases hv : inR v 0 255
    · refine bkX11_see_16 (fun h => absurd rfl h) (fun _ => ?_)
      have e : sp_ref n x v = -1 := by simp [sp_ref, hv]
      exact bkX11_see_19 ⟨_, rfl, by rw [sp_see, e, if_neg (by decide)], Or.inl ⟨by rw [e]; decide, rfl⟩⟩
    · refine bkX11_see_16 (fun _ => ?_) (fun h => absurd h (by decide))
      obtain ⟨k, hk1, hk2, rfl⟩ := inR_get1 (by omega) hx
      obtain ⟨u, hu, rfl⟩ := inR_get hv
      have ek : (nI k).toInt.toNat = k := nI_tn (by omega)
      have eu : (nI u).toInt.toNat = u := nI_tn (by omega)
      have hs : sp_ref n (nI k) (nI u) = if n + k ≤ 400 then 0 else -3 := by
        simp only [sp_ref, hx, hv, Bool.and_self, if_true, nI_toInt (show k < 2 ^ 31 by omega)]
        by_cases hq : n + k ≤ 400
        · rw [if_pos hq, if_pos (by omega)]
        · rw [if_neg hq, if_neg (by omega)]
      refine bkX11_see_21 (fun h => ?_) (fun h => ?_)
      · rw [h1, nI_add, show (400 : Int32) = nI 400 from rfl, nI_leI (by omega) (by omega)] at h
        rw [if_pos h] at hs
        refine bkX11_see_36 ?_
        have hL := lM_see (d := d + 2) (S := S) (n := n) (u := u) (x1 := nI k) (k := k) h rfl (Q := fun r S' => ∃ v, r = some (vI v) ∧ v = sp_see n (nI k) (nI u) ∧ ((¬ sp_ref n (nI k) (nI u) = 0 ∧ S' = S) ∨ (sp_ref n (nI k) (nI u) = 0 ∧ ∃ g, S' = sk_ (sk_ S 1202 0 g) 11 0 (upd (S.1 11 0) 3 (nI (n + (nI k).toInt.toNat))) ∧ TrM S' (n + (nI k).toInt.toNat) (t_app t n (nI k).toInt.toNat (nI u).toInt.toNat)))) (fun g hg1 hg2 => ⟨_, rfl, by rw [sp_see, if_pos hs, ek], Or.inr ⟨hs, g, by rw [ek], by
          rw [ek, eu]
          refine ⟨by rw [sk_at]; exact pk_us, by omega, fun i hi => ?_⟩
          rw [sk_ne _ _ (by omega), sk_at]
          unfold t_app
          by_cases hin : i < n
          · rw [if_pos hin, hg1 i hin]; exact h3 i hin
          · rw [if_neg hin, hg2 i (by omega) hi]; exact ⟨rfl, by omega⟩⟩⟩) k 0 _ (by omega) (fun a ha => rfl) (fun a ha hb => by omega)
        rw [sk_id, st_id (show S.1 11 0 3 = nI (n + 0) from h1)] at hL
        exact hL
      · rw [h1, nI_add, show (400 : Int32) = nI 400 from rfl, nI_leI (by omega) (by omega)] at h
        rw [if_neg h] at hs
        exact bkX11_see_33 ⟨_, rfl, by rw [sp_see, hs, if_neg (by decide)], Or.inl ⟨by rw [hs]; decide, rfl⟩⟩
end SI
