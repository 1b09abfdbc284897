/-! ===== the class's questions of a trace ===== -/
theorem nl_ {a b : Nat} (h : a < b) (hb : b < 2 ^ 31) : ¬ nI b ≤ nI a := nI_ge h hb
theorem z_of {i : Nat} (hi : i < 2 ^ 31) (h : nI i ≤ 0) : i = 0 := by
  rcases Nat.eq_zero_or_pos i with z | z
  · exact z
  · exact absurd h (nI_nle z hi)
theorem p_of {i : Nat} (h : ¬ nI i ≤ 0) : 0 < i := by
  rcases Nat.eq_zero_or_pos i with z | z
  · subst z; exact absurd (by decide) h
  · exact z
section TX
variable {d : Nat} {S : hs_T} {j n w i : Nat} {t : Nat → Nat}
theorem kX8_has {x : Int32} (h1 : S.1 8 j 1 = nI n) (hn : n ≤ 400) (hj : j < 4) : Ci d mX8_has [vR 8 j, vI x] S (fun v S' => v = bi_ (inR x 0 ((n : Int) - 1)) ∧ S' = S) := by
  refine cxX8_has ?_
  refine bkX8_has_0 (fun h => ?_) (fun h => ?_)
  · have e : inR x 0 ((n : Int) - 1) = false := by
      rw [fa_lt] at h
      exact decide_eq_false (fun z => by have : (0 : Int32).toInt = 0 := rfl; omega)
    exact bkX8_has_16 (bkX8_has_17 (by decide) ⟨0, rfl, by rw [e]; rfl, rfl⟩)
  · have h0 : 0 ≤ x.toInt := by
      rw [fa_lt] at h
      have : (0 : Int32).toInt = 0 := rfl
      omega
    refine bkX8_has_4 hj (fun h2 => ?_) (fun h2 => ?_)
    · rw [h1, fa_le, nI_toInt (by omega)] at h2
      have e : inR x 0 ((n : Int) - 1) = false := decide_eq_false (fun z => by omega)
      exact bkX8_has_16 (bkX8_has_17 (by decide) ⟨0, rfl, by rw [e]; rfl, rfl⟩)
    · rw [h1, fa_le, nI_toInt (by omega)] at h2
      have e : inR x 0 ((n : Int) - 1) = true := decide_eq_true ⟨h0, by omega⟩
      exact bkX8_has_12 (bkX8_has_17 (by decide) ⟨1, rfl, by rw [e]; rfl, rfl⟩)
theorem inR_in {i n : Nat} (h : i < n) (hn : n ≤ 400) : inR (nI i) 0 ((n : Int) - 1) = true := by
  rw [inR_nI (by omega)]; exact decide_eq_true ⟨by omega, by omega⟩
theorem kX8_sample (hT : TrX S j n t) (hj : j < 4) (hi : i < n) : Ci (d + 1) mX8_sample [vR 8 j, vI (nI i)] S (fun v S' => v = nI (t i) ∧ S' = S) := by
  obtain ⟨h1, h2, h3⟩ := hT
  refine cxX8_sample ?_
  refine bkX8_sample_0 hj (kX8_has h1 h2 hj) ?_
  rintro _ S ⟨rfl, rfl⟩
  rw [inR_in hi h2, bi_t]
  refine bkX8_sample_5 (fun h => absurd h (by decide)) (fun _ => ?_)
  refine bkX8_sample_8 hj (vp_lt (by omega) (by omega)) ?_
  refine bkX8_sample_18 ⟨_, rfl, ?_, rfl⟩
  rw [nI_clamp (by omega)]
  exact (h3 i hi).1
theorem kX8_replace {x : Int32} (h1 : S.1 8 j 1 = nI n) (h2 : n ≤ 400) (hj : j < 4) (hi : i < n) : Cv (d + 1) mX8_replace [vR 8 j, vI (nI i), vI x] S (fun S' => S' = sk_ S 900 j (upd (S.1 900 j) i x)) := by
  refine cxX8_replace ?_
  refine bkX8_replace_0 hj (kX8_has h1 h2 hj) ?_
  rintro _ S ⟨rfl, rfl⟩
  rw [inR_in hi h2, bi_t]
  refine bkX8_replace_5 (fun h => absurd h (by decide)) (fun _ => ?_)
  refine bkX8_replace_8 hj (vp_lt (by omega) (by omega)) ?_
  rw [nI_clamp (by omega)]
  exact bkX8_replace_15 ⟨rfl, rfl⟩
theorem lX8_append {k : Nat} {x : Int32} {Q : Option av_T → hs_T → Prop} {x1 : Int32} (hj : j < 4) (hk : n + k ≤ 400)
    (hQ : ∀ g : Nat → Int32, (∀ i, i < n → g i = S.1 900 j i) → (∀ i, n ≤ i → i < n + k → g i = x) → Ev d mX8_append 39 [some (vR 8 j), some (vI x1), some (vI x), some (vI (nI (n + k))), some (vI (nI (n + k)))] [] (sk_ S 900 j g) Q) :
    ∀ (m i : Nat) (g : Nat → Int32), n ≤ i → i + m = n + k → (∀ a, a < n → g a = S.1 900 j a) → (∀ a, n ≤ a → a < i → g a = x) → Ev d mX8_append 19 [some (vR 8 j), some (vI x1), some (vI x), some (vI (nI (n + k))), some (vI (nI i))] [] (sk_ S 900 j g) Q := by
  intro m
  induction m with
  | zero =>
    intro i g h1 h2 h3 h4
    have e : i = n + k := by omega
    subst e
    exact bkX8_append_19 (fun _ => hQ g h3 h4) (fun h => absurd (nI_le (Nat.le_refl _) (by omega)) h)
  | succ m ih =>
    intro i g h1 h2 h3 h4
    refine bkX8_append_19 (fun h => absurd h (nl_ (by omega) (by omega))) (fun _ => ?_)
    refine bkX8_append_25 hj (vp_lt (by omega) (by omega)) ?_
    rw [sk_at, sk_sk, nI_clamp (by omega), nI_1]
    refine ih (i + 1) _ (by omega) (by omega) (fun a ha => ?_) (fun a ha hb => ?_)
    · rw [pk_un (by omega)]; exact h3 a ha
    · by_cases e : a = i
      · subst e; exact pk_us
      · rw [pk_un e]; exact h4 a ha (by omega)
theorem kX8_append {k : Nat} {x : Int32} (h1 : S.1 8 j 1 = nI n) (hj : j < 4) (hk : n + k ≤ 400) : Cv (d + 1) mX8_append [vR 8 j, vI (nI k), vI x] S (fun S' => ∃ g, S' = sk_ (sk_ S 900 j g) 8 j (upd (S.1 8 j) 1 (nI (n + k))) ∧ (∀ i, i < n → g i = S.1 900 j i) ∧ ∀ i, n ≤ i → i < n + k → g i = x) := by
  refine cxX8_append ?_
  refine bkX8_append_0 hj ?_
  have e0 : (if (400 : Int32) < S.1 8 j 1 + nI k then 400 else S.1 8 j 1 + nI k) = nI (n + k) := by
    rw [h1, nI_add, if_neg]
    exact nI_nlt (a := 400) (b := n + k) (by omega) (by omega)
  rw [e0, h1]
  have := lX8_append (d := d + 1) (S := S) (x := x) (x1 := nI k) (Q := fun r S' => r = none ∧ ∃ g, S' = sk_ (sk_ S 900 j g) 8 j (upd (S.1 8 j) 1 (nI (n + k))) ∧ (∀ i, i < n → g i = S.1 900 j i) ∧ ∀ i, n ≤ i → i < n + k → g i = x) hj hk (fun g h3 h4 => bkX8_append_39 hj ⟨rfl, g, by rw [sk_ne S g (by omega)], h3, h4⟩) k n (S.1 900 j) (Nat.le_refl _) rfl (fun _ _ => rfl) (fun a ha hb => by omega)
  rw [sk_id] at this
  exact this
theorem lX8_copy {j1 m : Nat} {Q : Option av_T → hs_T → Prop} (hj : j < 4) (hj1 : j1 < 4) (hne : j ≠ j1) (hm : m ≤ 400) (hs : S.1 8 j 1 = nI m)
    (hQ : ∀ g : Nat → Int32, (∀ i, i < m → g i = S.1 900 j1 i) → Q none (sk_ S 900 j g)) :
    ∀ (k i : Nat) (g : Nat → Int32), i + k = m → (∀ a, a < i → g a = S.1 900 j1 a) → Ev d mX8_copy 10 [some (vR 8 j), some (vR 8 j1), some (vI (nI i))] [] (sk_ S 900 j g) Q := by
  intro k
  induction k with
  | zero =>
    intro i g h1 h2
    have e : i = m := by omega
    subst e
    refine bkX8_copy_10 hj (fun _ => bkX8_copy_36 (hQ g h2)) (fun h => absurd ?_ h)
    rw [sk_ne S g (by omega), hs]
    exact nI_le (Nat.le_refl _) (by omega)
  | succ k ih =>
    intro i g h1 h2
    refine bkX8_copy_10 hj (fun h => absurd h ?_) (fun _ => ?_)
    · rw [sk_ne S g (by omega), hs]
      exact nl_ (by omega) (by omega)
    refine bkX8_copy_18 hj hj1 (vp_lt (by omega) (by omega)) ?_
    rw [sk_at, sk_sk, nI_clamp (by omega), nI_1, sk_ne S g (by omega)]
    refine ih (i + 1) _ (by omega) (fun a ha => ?_)
    by_cases e : a = i
    · subst e; exact pk_us
    · rw [pk_un e]; exact h2 a (by omega)
theorem kX8_copy {j1 m : Nat} (h1 : S.1 8 j1 1 = nI m) (hm : m ≤ 400) (hj : j < 4) (hj1 : j1 < 4) (hne : j ≠ j1) : Cv d mX8_copy [vR 8 j, vR 8 j1] S (fun S' => ∃ g, S' = sk_ (sk_ S 8 j (upd (S.1 8 j) 1 (nI m))) 900 j g ∧ ∀ i, i < m → g i = S.1 900 j1 i) := by
  refine cxX8_copy ?_
  refine bkX8_copy_0 hj1 hj ?_
  rw [h1]
  have := lX8_copy (d := d) (S := sk_ S 8 j (upd (S.1 8 j) 1 (nI m))) (Q := fun r S' => r = none ∧ ∃ g, S' = sk_ (sk_ S 8 j (upd (S.1 8 j) 1 (nI m))) 900 j g ∧ ∀ i, i < m → g i = S.1 900 j1 i) hj hj1 hne hm (by rw [sk_at]; exact pk_us) (fun g hg => ⟨rfl, g, rfl, fun i hi => by rw [hg i hi, sk_ne S _ (by omega)]⟩) m 0 ((sk_ S 8 j (upd (S.1 8 j) 1 (nI m))).1 900 j) (by omega) (fun a ha => by omega)
  rw [sk_id] at this
  exact this
theorem kX8_high (hT : TrX S j n t) (hj : j < 4) (hw : w < 8) (hi : i < n) : Ci d mX8_high [vR 8 j, vI (nI w), vI (nI i)] S (fun v S' => v = bi_ (t_hi t w i) ∧ S' = S) := by
  obtain ⟨h1, h2, h3⟩ := hT
  refine cxX8_high ?_
  refine bkX8_high_0 (fun h => absurd h (nI_pos (by omega))) (fun _ => ?_)
  refine bkX8_high_4 hj (fun h => absurd h (by rw [h1]; exact nI_ge hi (by omega))) (fun _ => ?_)
  refine bkX8_high_12 hj (vp_lt (by omega) (by omega)) ?_ ?_
  · rw [nI_clamp (by omega), (h3 i hi).1, sb_hi _ (by omega), bi_0]
    intro h
    refine bkX8_high_29 (bkX8_high_30 (by decide) ⟨0, rfl, ?_, rfl⟩)
    unfold t_hi; rw [h]; rfl
  · rw [nI_clamp (by omega), (h3 i hi).1, sb_hi _ (by omega), bi_ne0]
    intro h
    refine bkX8_high_25 (bkX8_high_30 (by decide) ⟨1, rfl, ?_, rfl⟩)
    unfold t_hi; rw [h]; rfl
theorem kX8_rises (hT : TrX S j n t) (hj : j < 4) (hw : w < 8) (hi : i < n) : Ci d mX8_rises [vR 8 j, vI (nI w), vI (nI i)] S (fun v S' => v = bi_ (t_up t w i) ∧ S' = S) := by
  obtain ⟨h1, h2, h3⟩ := hT
  refine cxX8_rises ?_
  refine bkX8_rises_0 (fun h => ?_) (fun h => ?_)
  · have h0 : i = 0 := z_of (by omega) h
    subst h0
    exact bkX8_rises_40 (bkX8_rises_41 (by decide) ⟨0, rfl, rfl, rfl⟩)
  · have h0 : 0 < i := p_of h
    refine bkX8_rises_4 hj (fun h => absurd h (by rw [h1]; exact nI_ge hi (by omega))) (fun _ => ?_)
    have e1 : t_up t w i = ((t i).testBit w && !(t (i - 1)).testBit w) := by simp [t_up, h0]
    refine bkX8_rises_12 hj (vp_lt (by omega) (by omega)) (by rw [nI_m1 h0]; exact vp_lt (by omega) (by omega)) ?_ ?_
    · rw [nI_m1 h0, nI_clamp (by omega), nI_clamp (by omega), (h3 i hi).1, (h3 (i - 1) (by omega)).1, sb_up _ _ (by omega), bi_0]
      intro h
      exact bkX8_rises_40 (bkX8_rises_41 (by decide) ⟨0, rfl, by rw [e1, h]; rfl, rfl⟩)
    · rw [nI_m1 h0, nI_clamp (by omega), nI_clamp (by omega), (h3 i hi).1, (h3 (i - 1) (by omega)).1, sb_up _ _ (by omega), bi_ne0]
      intro h
      exact bkX8_rises_36 (bkX8_rises_41 (by decide) ⟨1, rfl, by rw [e1, h]; rfl, rfl⟩)
theorem kX8_falls (hT : TrX S j n t) (hj : j < 4) (hw : w < 8) (hi : i < n) : Ci d mX8_falls [vR 8 j, vI (nI w), vI (nI i)] S (fun v S' => v = bi_ (t_dn t w i) ∧ S' = S) := by
  obtain ⟨h1, h2, h3⟩ := hT
  refine cxX8_falls ?_
  refine bkX8_falls_0 (fun h => ?_) (fun h => ?_)
  · have h0 : i = 0 := z_of (by omega) h
    subst h0
    exact bkX8_falls_40 (bkX8_falls_41 (by decide) ⟨0, rfl, rfl, rfl⟩)
  · have h0 : 0 < i := p_of h
    refine bkX8_falls_4 hj (fun h => absurd h (by rw [h1]; exact nI_ge hi (by omega))) (fun _ => ?_)
    have e1 : t_dn t w i = (!(t i).testBit w && (t (i - 1)).testBit w) := by simp [t_dn, h0]
    refine bkX8_falls_12 hj (vp_lt (by omega) (by omega)) (by rw [nI_m1 h0]; exact vp_lt (by omega) (by omega)) ?_ ?_
    · rw [nI_m1 h0, nI_clamp (by omega), nI_clamp (by omega), (h3 i hi).1, (h3 (i - 1) (by omega)).1, sb_dn _ _ (by omega), bi_0]
      intro h
      exact bkX8_falls_40 (bkX8_falls_41 (by decide) ⟨0, rfl, by rw [e1, h]; rfl, rfl⟩)
    · rw [nI_m1 h0, nI_clamp (by omega), nI_clamp (by omega), (h3 i hi).1, (h3 (i - 1) (by omega)).1, sb_dn _ _ (by omega), bi_ne0]
      intro h
      exact bkX8_falls_36 (bkX8_falls_41 (by decide) ⟨1, rfl, by rw [e1, h]; rfl, rfl⟩)
theorem kX8_changes (hT : TrX S j n t) (hj : j < 4) (hw : w < 8) (hi : i < n) : Ci d mX8_changes [vR 8 j, vI (nI w), vI (nI i)] S (fun v S' => v = bi_ (t_ch t w i) ∧ S' = S) := by
  obtain ⟨h1, h2, h3⟩ := hT
  refine cxX8_changes ?_
  refine bkX8_changes_0 (fun h => ?_) (fun h => ?_)
  · have h0 : i = 0 := z_of (by omega) h
    subst h0
    exact bkX8_changes_38 (bkX8_changes_39 (by decide) ⟨0, rfl, rfl, rfl⟩)
  · have h0 : 0 < i := p_of h
    refine bkX8_changes_4 hj (fun h => absurd h (by rw [h1]; exact nI_ge hi (by omega))) (fun _ => ?_)
    have e1 : t_ch t w i = ((t i).testBit w ^^ (t (i - 1)).testBit w) := by simp [t_ch, h0]
    refine bkX8_changes_12 hj (vp_lt (by omega) (by omega)) (by rw [nI_m1 h0]; exact vp_lt (by omega) (by omega)) ?_ ?_
    · rw [nI_m1 h0, nI_clamp (by omega), nI_clamp (by omega), (h3 i hi).1, (h3 (i - 1) (by omega)).1, sb_ch _ _ (by omega), bi_0]
      intro h
      exact bkX8_changes_38 (bkX8_changes_39 (by decide) ⟨0, rfl, by rw [e1, h]; rfl, rfl⟩)
    · rw [nI_m1 h0, nI_clamp (by omega), nI_clamp (by omega), (h3 i hi).1, (h3 (i - 1) (by omega)).1, sb_ch _ _ (by omega), bi_ne0]
      intro h
      exact bkX8_changes_34 (bkX8_changes_39 (by decide) ⟨1, rfl, by rw [e1, h]; rfl, rfl⟩)
end TX
def t_rb (t : Nat → Nat) (i : Nat) : Bool := decide (i = 0) || decide (t i ≠ t (i - 1))
section TX2
variable {d : Nat} {S : hs_T} {j n w i : Nat} {t : Nat → Nat}
theorem kX8_beginsRun (hT : TrX S j n t) (hj : j < 4) (hi : i < n) : Ci (d + 2) mX8_beginsRun [vR 8 j, vI (nI i)] S (fun v S' => v = bi_ (t_rb t i) ∧ S' = S) := by
  have h2 := hT.2.1
  refine cxX8_beginsRun ?_
  refine bkX8_beginsRun_0 (fun h => ?_) (fun h => ?_)
  · have h0 : i = 0 := by rw [← nI_0, nI_eq (by omega) (by omega)] at h; exact h
    subst h0
    exact bkX8_beginsRun_19 (bkX8_beginsRun_24 (by decide) ⟨1, rfl, rfl, rfl⟩)
  · have h0 : 0 < i := by
      rcases Nat.eq_zero_or_pos i with z | z
      · subst z; exact absurd rfl h
      · exact z
    refine bkX8_beginsRun_4 hj (kX8_sample hT hj hi) ?_
    rintro _ S ⟨rfl, rfl⟩
    refine bkX8_beginsRun_9 hj (by rw [nI_m1 h0]; exact kX8_sample hT hj (i := i - 1) (by omega)) ?_
    rintro _ S ⟨rfl, rfl⟩
    have ha := (hT.2.2 i hi).2
    have hb := (hT.2.2 (i - 1) (by omega)).2
    refine bkX8_beginsRun_16 (fun h => ?_) (fun h => ?_)
    · rw [nI_eq (by omega) (by omega)] at h
      exact bkX8_beginsRun_23 (bkX8_beginsRun_24 (by decide) ⟨0, rfl, by simp [t_rb, h, Nat.pos_iff_ne_zero.mp h0, bi_], rfl⟩)
    · rw [nI_eq (by omega) (by omega)] at h
      exact bkX8_beginsRun_19 (bkX8_beginsRun_24 (by decide) ⟨1, rfl, by simp [t_rb, h, bi_], rfl⟩)
end TX2
