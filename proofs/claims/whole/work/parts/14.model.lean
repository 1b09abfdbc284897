/-! ===== the reference's small questions ===== -/
section MB
variable {d : Nat} {S : hs_T} {n w i : Nat} {t : Nat → Nat}
theorem kM_in {a b c : Int64} : Ci d mX11_in [vJ a, vJ b, vJ c] S (fun v S' => v = bi_ (decide (b.toInt ≤ a.toInt ∧ a.toInt ≤ c.toInt)) ∧ S' = S) := by
  refine cxX11_in ?_
  refine bkX11_in_0 (fun h => ?_) (fun h => ?_)
  · rw [lg_cmp_lt, fa_lt64] at h
    exact bkX11_in_17 (bkX11_in_18 (by decide) ⟨0, rfl, by rw [decide_eq_false (by omega)]; rfl, rfl⟩)
  · rw [lg_cmp_lt, fa_lt64] at h
    refine bkX11_in_6 (fun h2 => ?_) (fun h2 => ?_)
    · rw [lg_cmp_gt, fa_lt64] at h2
      exact bkX11_in_17 (bkX11_in_18 (by decide) ⟨0, rfl, by rw [decide_eq_false (by omega)]; rfl, rfl⟩)
    · rw [lg_cmp_gt, fa_lt64] at h2
      exact bkX11_in_13 (bkX11_in_18 (by decide) ⟨1, rfl, by rw [decide_eq_true (by omega)]; rfl, rfl⟩)
/-- the same of ints -/
theorem kM_inI {x : Int32} {b c : Int64} {lo hi : Int} (hb : b.toInt = lo) (hc : c.toInt = hi) : Ci d mX11_in [vJ x.toInt64, vJ b, vJ c] S (fun v S' => v = bi_ (inR x lo hi) ∧ S' = S) := by
  have h := kM_in (d := d) (S := S) (a := x.toInt64) (b := b) (c := c)
  rw [hb, hc, Int32.toInt_toInt64] at h
  exact h
theorem kM_flag {b : Bool} : Ci d mX11_flag [vI (bi_ b)] S (fun v S' => v = bi_ b ∧ S' = S) := by
  refine cxX11_flag ?_
  refine bkX11_flag_0 (fun h => ?_) (fun h => ?_)
  · rw [bi_0] at h
    exact bkX11_flag_8 (bkX11_flag_9 ⟨0, rfl, by rw [h]; rfl, rfl⟩)
  · rw [bi_ne0] at h
    exact bkX11_flag_4 (bkX11_flag_9 ⟨1, rfl, by rw [h]; rfl, rfl⟩)
theorem kM_less {a b : Int32} : Ci d mX11_less [vI a, vI b] S (fun v S' => v = (if a < b then a else b) ∧ S' = S) := by
  refine cxX11_less ?_
  refine bkX11_less_0 (fun h => ?_) (fun h => ?_)
  · exact bkX11_less_9 (bkX11_less_10 ⟨_, rfl, by rw [if_neg (fun z => by rw [fa_lt] at z; rw [fa_le] at h; omega)], rfl⟩)
  · exact bkX11_less_5 (bkX11_less_10 ⟨_, rfl, by rw [if_pos (by rw [fa_le] at h; rw [fa_lt]; omega)], rfl⟩)
theorem kM_isValue {x : Int32} : Ci (d + 1) mX11_isValue [vI x] S (fun v S' => v = bi_ (inR x 0 255) ∧ S' = S) := by
  refine cxX11_isValue ?_
  refine bkX11_isValue_0 (kM_inI (lo := 0) (hi := 255) rfl rfl) ?_
  rintro _ S ⟨rfl, rfl⟩
  exact bkX11_isValue_9 (bi_n _) ⟨_, rfl, rfl, rfl⟩
theorem kM_isWire {x : Int32} : Ci (d + 1) mX11_isWire [vI x] S (fun v S' => v = bi_ (inR x 0 7) ∧ S' = S) := by
  refine cxX11_isWire ?_
  refine bkX11_isWire_0 (kM_inI (lo := 0) (hi := 7) rfl rfl) ?_
  rintro _ S ⟨rfl, rfl⟩
  exact bkX11_isWire_9 (bi_n _) ⟨_, rfl, rfl, rfl⟩
theorem kM_isRate {x : Int32} : Ci (d + 1) mX11_isRate [vI x] S (fun v S' => v = bi_ (inR x 2 50) ∧ S' = S) := by
  refine cxX11_isRate ?_
  refine bkX11_isRate_0 (kM_inI (lo := 2) (hi := 50) rfl rfl) ?_
  rintro _ S ⟨rfl, rfl⟩
  exact bkX11_isRate_11 (bi_n _) ⟨_, rfl, rfl, rfl⟩
theorem kM_isSample {x : Int32} (h1 : S.1 11 0 3 = nI n) (hn : n ≤ 400) : Ci (d + 1) mX11_isSample [vR 11 0, vI x] S (fun v S' => v = bi_ (inR x 0 ((n : Int) - 1)) ∧ S' = S) := by
  refine cxX11_isSample ?_
  refine bkX11_isSample_0 (kM_inI (lo := 0) (hi := (n : Int) - 1) rfl ?_) ?_
  · rw [h1, Int32.toInt_toInt64]
    exact pk_sub_toInt (b := 1) (by omega) (by omega)
  rintro _ S ⟨rfl, rfl⟩
  exact bkX11_isSample_13 (bi_n _) ⟨_, rfl, rfl, rfl⟩
theorem kM_isHigh (hT : TrM S n t) (hw : w < 8) (hi : i < n) : Ci d mX11_isHigh [vR 11 0, vI (nI w), vI (nI i)] S (fun v S' => v = bi_ (t_hi t w i) ∧ S' = S) := by
  obtain ⟨h1, h2, h3⟩ := hT
  refine cxX11_isHigh ?_
  refine bkX11_isHigh_0 (vp_lt (by omega) (by omega)) ?_ ?_
  · rw [nI_clamp (by omega), (h3 i hi).1, sb_hi _ (by omega), bi_ne1]
    intro h
    refine bkX11_isHigh_18 (bkX11_isHigh_19 (by decide) ⟨0, rfl, ?_, rfl⟩)
    unfold t_hi; rw [h]; rfl
  · rw [nI_clamp (by omega), (h3 i hi).1, sb_hi _ (by omega), bi_1]
    intro h
    refine bkX11_isHigh_14 (bkX11_isHigh_19 (by decide) ⟨1, rfl, ?_, rfl⟩)
    unfold t_hi; rw [h]; rfl
theorem kM_rises (hT : TrM S n t) (hw : w < 8) (hi : i < n) : Ci (d + 1) mX11_rises [vR 11 0, vI (nI w), vI (nI i)] S (fun v S' => v = bi_ (t_up t w i) ∧ S' = S) := by
  have h2 := hT.2.1
  refine cxX11_rises ?_
  refine bkX11_rises_0 (fun h => ?_) (fun h => ?_)
  · have h0 : i = 0 := z_of (by omega) h
    subst h0
    exact bkX11_rises_28 (bkX11_rises_29 (by decide) ⟨0, rfl, rfl, rfl⟩)
  · have h0 : 0 < i := p_of h
    have e1 : t_up t w i = (t_hi t w i && !t_hi t w (i - 1)) := by simp [t_up, t_hi, h0]
    refine bkX11_rises_4 (kM_isHigh hT hw hi) ?_
    rintro _ S ⟨rfl, rfl⟩
    refine bkX11_rises_10 (fun h => ?_) (fun h => ?_)
    · rw [bi_0] at h
      exact bkX11_rises_28 (bkX11_rises_29 (by decide) ⟨0, rfl, by rw [e1, h]; rfl, rfl⟩)
    · rw [bi_ne0] at h
      refine bkX11_rises_13 (by rw [nI_m1 h0]; exact kM_isHigh hT hw (i := i - 1) (by omega)) ?_
      rintro _ S ⟨rfl, rfl⟩
      refine bkX11_rises_21 (fun h3 => ?_) (fun h3 => ?_)
      · rw [bi_ne0] at h3
        exact bkX11_rises_28 (bkX11_rises_29 (by decide) ⟨0, rfl, by rw [e1, h, h3]; rfl, rfl⟩)
      · rw [bi_0] at h3
        exact bkX11_rises_24 (bkX11_rises_29 (by decide) ⟨1, rfl, by rw [e1, h, h3]; rfl, rfl⟩)
theorem kM_falls (hT : TrM S n t) (hw : w < 8) (hi : i < n) : Ci (d + 1) mX11_falls [vR 11 0, vI (nI w), vI (nI i)] S (fun v S' => v = bi_ (t_dn t w i) ∧ S' = S) := by
  have h2 := hT.2.1
  refine cxX11_falls ?_
  refine bkX11_falls_0 (fun h => ?_) (fun h => ?_)
  · have h0 : i = 0 := z_of (by omega) h
    subst h0
    exact bkX11_falls_28 (bkX11_falls_29 (by decide) ⟨0, rfl, rfl, rfl⟩)
  · have h0 : 0 < i := p_of h
    have e1 : t_dn t w i = (!t_hi t w i && t_hi t w (i - 1)) := by simp [t_dn, t_hi, h0]
    refine bkX11_falls_4 (kM_isHigh hT hw hi) ?_
    rintro _ S ⟨rfl, rfl⟩
    refine bkX11_falls_10 (fun h => ?_) (fun h => ?_)
    · rw [bi_ne0] at h
      exact bkX11_falls_28 (bkX11_falls_29 (by decide) ⟨0, rfl, by rw [e1, h]; rfl, rfl⟩)
    · rw [bi_0] at h
      refine bkX11_falls_13 (by rw [nI_m1 h0]; exact kM_isHigh hT hw (i := i - 1) (by omega)) ?_
      rintro _ S ⟨rfl, rfl⟩
      refine bkX11_falls_21 (fun h3 => ?_) (fun h3 => ?_)
      · rw [bi_0] at h3
        exact bkX11_falls_28 (bkX11_falls_29 (by decide) ⟨0, rfl, by rw [e1, h, h3]; rfl, rfl⟩)
      · rw [bi_ne0] at h3
        exact bkX11_falls_24 (bkX11_falls_29 (by decide) ⟨1, rfl, by rw [e1, h, h3]; rfl, rfl⟩)
theorem t_ch_or (t : Nat → Nat) (w i : Nat) : t_ch t w i = (t_up t w i || t_dn t w i) := by
  unfold t_ch t_up t_dn
  cases decide (0 < i) <;> cases (t i).testBit w <;> cases (t (i - 1)).testBit w <;> rfl
theorem kM_changes (hT : TrM S n t) (hw : w < 8) (hi : i < n) : Ci (d + 2) mX11_changes [vR 11 0, vI (nI w), vI (nI i)] S (fun v S' => v = bi_ (t_ch t w i) ∧ S' = S) := by
  refine cxX11_changes ?_
  refine bkX11_changes_0 (kM_rises hT hw hi) ?_
  rintro _ S ⟨rfl, rfl⟩
  refine bkX11_changes_6 (fun h => ?_) (fun h => ?_)
  · rw [bi_ne0] at h
    exact bkX11_changes_18 (bkX11_changes_23 (by decide) ⟨1, rfl, by rw [t_ch_or, h]; rfl, rfl⟩)
  · rw [bi_0] at h
    refine bkX11_changes_9 (kM_falls hT hw hi) ?_
    rintro _ S ⟨rfl, rfl⟩
    refine bkX11_changes_15 (fun h2 => ?_) (fun h2 => ?_)
    · rw [bi_0] at h2
      exact bkX11_changes_22 (bkX11_changes_23 (by decide) ⟨0, rfl, by rw [t_ch_or, h, h2]; rfl, rfl⟩)
    · rw [bi_ne0] at h2
      exact bkX11_changes_18 (bkX11_changes_23 (by decide) ⟨1, rfl, by rw [t_ch_or, h, h2]; rfl, rfl⟩)
def t_ed (t : Nat → Nat) (w : Nat) (b : Bool) (i : Nat) : Bool := if b then t_dn t w i else t_up t w i
theorem kM_isEdge {b : Bool} (hT : TrM S n t) (hw : w < 8) (hi : i < n) : Ci (d + 2) mX11_isEdge [vR 11 0, vI (nI w), vI (bi_ b), vI (nI i)] S (fun v S' => v = bi_ (t_ed t w b i) ∧ S' = S) := by
  refine cxX11_isEdge ?_
  refine bkX11_isEdge_0 (fun h => ?_) (fun h => ?_)
  · rw [bi_0] at h
    refine bkX11_isEdge_13 (kM_rises hT hw hi) ?_
    rintro _ S ⟨rfl, rfl⟩
    exact bkX11_isEdge_19 (bi_n _) ⟨_, rfl, by simp [t_ed, h], rfl⟩
  · rw [bi_ne0] at h
    refine bkX11_isEdge_4 (kM_falls hT hw hi) ?_
    rintro _ S ⟨rfl, rfl⟩
    exact bkX11_isEdge_10 (bkX11_isEdge_19 (bi_n _) ⟨_, rfl, by simp [t_ed, h], rfl⟩)
theorem kM_begins (hT : TrM S n t) (hi : i < n) : Ci d mX11_begins [vR 11 0, vI (nI i)] S (fun v S' => v = bi_ (t_rb t i) ∧ S' = S) := by
  obtain ⟨h1, h2, h3⟩ := hT
  refine cxX11_begins ?_
  refine bkX11_begins_0 (fun h => ?_) (fun h => ?_)
  · have h0 : i = 0 := by rw [← nI_0, nI_eq (by omega) (by omega)] at h; exact h
    subst h0
    exact bkX11_begins_21 (bkX11_begins_26 (by decide) ⟨1, rfl, rfl, rfl⟩)
  · have h0 : 0 < i := by
      rcases Nat.eq_zero_or_pos i with z | z
      · subst z; exact absurd rfl h
      · exact z
    have ha := (h3 i hi).2
    have hb := (h3 (i - 1) (by omega)).2
    refine bkX11_begins_4 (vp_lt (by omega) (by omega)) (by rw [nI_m1 h0]; exact vp_lt (by omega) (by omega)) ?_ ?_
    · rw [nI_m1 h0, nI_clamp (by omega), nI_clamp (by omega), (h3 i hi).1, (h3 (i - 1) (by omega)).1, nI_eq (by omega) (by omega)]
      intro h
      exact bkX11_begins_25 (bkX11_begins_26 (by decide) ⟨0, rfl, by simp [t_rb, h, Nat.pos_iff_ne_zero.mp h0, bi_], rfl⟩)
    · rw [nI_m1 h0, nI_clamp (by omega), nI_clamp (by omega), (h3 i hi).1, (h3 (i - 1) (by omega)).1, nI_eq (by omega) (by omega)]
      intro h
      exact bkX11_begins_21 (bkX11_begins_26 (by decide) ⟨1, rfl, by simp [t_rb, h, bi_], rfl⟩)
end MB
