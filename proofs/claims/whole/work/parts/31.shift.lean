/-! ===== unlike, shift ===== -/
def sp_unlike (n : Nat) (t : Nat → Nat) (im : Nat → im_T) (x s : Int32) : Int32 := if inR x 0 1 && inR s (-400) 400 then (match im x.toInt.toNat with | none => -2 | some q => s_ul n t q s) else -1
abbrev sh_T : Type := Int32 × Int32
def sh_st (U : Int32 → Int32) (far : Nat) (q : sh_T) : sh_T :=
  if U (nI far) < (if U (-nI far) < q.2 then U (-nI far) else q.2) then (nI far, U (nI far)) else (if U (-nI far) < q.2 then (-nI far, U (-nI far)) else q)
def s_sh (U : Int32 → Int32) : Nat → Nat → sh_T → sh_T
  | 0, _, q => q
  | m + 1, far, q => s_sh U m (far + 1) (sh_st U far q)
theorem s_sh_s (U : Int32 → Int32) (m far : Nat) (q : sh_T) : s_sh U (m + 1) far q = s_sh U m (far + 1) (sh_st U far q) := rfl
def s_SH (U : Int32 → Int32) : sh_T := s_sh U 40 1 (0, U 0)
def sp_shift (n : Nat) (t : Nat → Nat) (im : Nat → im_T) (x y : Int32) : Int32 := if inR x 0 1 && inR y 0 1 then (match im x.toInt.toNat with | none => -2 | some q => if y = 0 then (s_SH (s_ul n t q)).1 else (s_SH (s_ul n t q)).2) else -1
section SH
variable {d : Nat} {S : hs_T} {n w i k : Nat} {t : Nat → Nat} {x y s : Int32} {im : Nat → im_T}
theorem kX10_unlike (hT : TrX S 0 n t) (hI : ∀ k, k < 2 → ImX S k (im k)) : Ci (d + 3) mX10_unlike [vR 10 0, vI x, vI s] S (fun v S' => v = sp_unlike n t im x s ∧ S' = S) := by
  refine cxX10_unlike ?_
  refine bkX10_unlike_0 kX10_imageOf ?_
  rintro _ S ⟨rfl, rfl⟩
  cases hx : inR x 0 1
  · exact bkX10_unlike_5_n (bkX10_unlike_23_n ⟨_, rfl, by simp [sp_unlike, hx], rfl⟩)
  refine bkX10_unlike_5_r ?_
  refine bkX10_unlike_10 (kX10_w (lo := -400) (hi := 400) (by decide) rfl) ?_
  rintro _ S ⟨rfl, rfl⟩
  cases hs : inR s (-400) 400
  · exact bkX10_unlike_20 (fun h => absurd rfl h) (fun _ => bkX10_unlike_23_r ⟨_, rfl, by simp [sp_unlike, hs], rfl⟩)
  refine bkX10_unlike_20 (fun _ => ?_) (fun h => absurd h (by decide))
  rw [sp_unlike, hx, hs]
  obtain ⟨k, hk, rfl⟩ := inR_get hx
  rw [nI_tn (by omega), Bool.and_self, if_pos rfl]
  have hIk := hI k (by omega)
  cases ho : im k with
  | none =>
    rw [ho] at hIk
    have hIk : S.1 8 (2 + k) 2 = 0 := hIk
    exact bkX10_unlike_25 (by omega) (fun _ => bkX10_unlike_44 (bkX10_unlike_46 ⟨_, rfl, rfl, rfl⟩)) (fun h => absurd hIk h)
  | some q =>
    rw [ho] at hIk
    obtain ⟨e1, e2⟩ := hIk
    refine bkX10_unlike_25 (by omega) (fun h => absurd h (by rw [e1]; decide)) (fun _ => ?_)
    refine bkX10_unlike_32 (kX8_ul hT e2 (by omega)) ?_
    rintro _ S ⟨rfl, rfl⟩
    exact bkX10_unlike_41 (bkX10_unlike_46 ⟨_, rfl, rfl, rfl⟩)
theorem kM_unlike (hT : TrM S n t) (hI : ∀ k, k < 2 → ImM S k (im k)) : Ci (d + 2) mX11_unlike [vR 11 0, vI x, vI s] S (fun v S' => v = sp_unlike n t im x s ∧ S' = S) := by
  refine cxX11_unlike ?_
  refine bkX11_unlike_0 (kM_inI (lo := 0) (hi := 1) rfl rfl) ?_
  rintro _ S ⟨rfl, rfl⟩
  cases hx : inR x 0 1
  · exact bkX11_unlike_7 (fun _ => bkX11_unlike_24 ⟨_, rfl, by simp [sp_unlike, hx], rfl⟩) (fun h => absurd rfl h)
  refine bkX11_unlike_7 (fun h => absurd h (by decide)) (fun _ => ?_)
  refine bkX11_unlike_10 (kM_inI (lo := -400) (hi := 400) (by decide) rfl) ?_
  rintro _ S ⟨rfl, rfl⟩
  cases hs : inR s (-400) 400
  · exact bkX11_unlike_21 (fun h => absurd rfl h) (fun _ => bkX11_unlike_24 ⟨_, rfl, by simp [sp_unlike, hs], rfl⟩)
  refine bkX11_unlike_21 (fun _ => ?_) (fun h => absurd h (by decide))
  rw [sp_unlike, hx, hs]
  obtain ⟨k, hk, rfl⟩ := inR_get hx
  rw [nI_tn (by omega), Bool.and_self, if_pos rfl]
  have hIk := hI k (by omega)
  have kin : vp_in (nI k) 2 := vp_lt (by omega) (by omega)
  cases ho : im k with
  | none =>
    rw [ho] at hIk
    have hIk : S.1 1205 0 k = -4 := hIk
    exact bkX11_unlike_26 kin (fun h => absurd (by rw [nI_clamp (by omega)]; exact hIk) h) (fun _ => bkX11_unlike_37 (bkX11_unlike_48 ⟨_, rfl, rfl, rfl⟩))
  | some q =>
    rw [ho] at hIk
    have e1 : S.1 1205 0 k = nI q.1 := hIk.1
    have e2 : q.1 ≤ 400 := hIk.2.1
    refine bkX11_unlike_26 kin (fun _ => ?_) (fun h => absurd h (by rw [nI_clamp (by omega), e1]; exact ne4 (by omega)))
    refine bkX11_unlike_42 (kM_ul hT (by omega) hIk) ?_
    rintro _ S ⟨rfl, rfl⟩
    exact bkX11_unlike_48 ⟨_, rfl, rfl, rfl⟩
theorem lX10_shift {j m : Nat} {u : Nat → Nat} {x1 : Int32} (hT : TrX S 0 n t) (hU : TrX S j m u) (hj : j < 4) :
    ∀ (r far : Nat) (q : sh_T) (o7 o8 : Option av_T), far + r = 41 → s_sh (s_ul n t (m, u)) r far q = s_SH (s_ul n t (m, u)) → Ev (d + 3) mX10_shift 48 [some (vR 10 0), some (vI x1), some (vI y), some (vR 8 j), some (vI q.1), some (vI q.2), some (vI (nI far)), o7, o8] [] S (fun r S' => ∃ v, r = some (vI v) ∧ v = (if y = 0 then (s_SH (s_ul n t (m, u))).1 else (s_SH (s_ul n t (m, u))).2) ∧ S' = S) := by
  intro r
  induction r with
  | zero =>
    intro far q o7 o8 hf he
    have e : far = 41 := by omega
    subst e
    have he : q = s_SH (s_ul n t (m, u)) := he
    rw [he]
    refine bkX10_shift_48 (fun _ => ?_) (fun h => absurd (by decide) h)
    refine bkX10_shift_117 (fun a => bkX10_shift_126 (bkX10_shift_128 ⟨_, rfl, by rw [if_neg a], rfl⟩)) (fun a => bkX10_shift_121 (bkX10_shift_128 ⟨_, rfl, by rw [if_pos a], rfl⟩))
  | succ r ih =>
    intro far q o7 o8 hf he
    rw [s_sh_s] at he
    have ih := fun o7 o8 => ih (far + 1) _ o7 o8 (by omega) he
    unfold sh_st at ih
    refine bkX10_shift_48 (fun h => absurd h (nI_nlt (a := 40) (by omega) (by omega))) (fun _ => ?_)
    refine bkX10_shift_55 (kX8_ul hT hU hj) ?_
    rintro _ S ⟨rfl, rfl⟩
    have p2 : ∀ (q1 : sh_T), q1 = (if s_ul n t (m, u) (-nI far) < q.2 then (-nI far, s_ul n t (m, u) (-nI far)) else q) → ∀ x7, Ev (d + 3) mX10_shift 84 [some (vR 10 0), some (vI x1), some (vI y), some (vR 8 j), some (vI q1.1), some (vI q1.2), some (vI (nI far)), some (vI x7), o8] [] S (fun r S' => ∃ v, r = some (vI v) ∧ v = (if y = 0 then (s_SH (s_ul n t (m, u))).1 else (s_SH (s_ul n t (m, u))).2) ∧ S' = S) := by
      intro q1 hq1 x7
      have e2 : (if s_ul n t (m, u) (-nI far) < q.2 then s_ul n t (m, u) (-nI far) else q.2) = q1.2 := by rw [hq1]; split <;> rfl
      rw [e2, ← hq1] at ih
      refine bkX10_shift_84 (kX8_ul hT hU hj) ?_
      rintro _ S ⟨rfl, rfl⟩
      refine bkX10_shift_94 (fun h => ?_) (fun h => ?_)
      · rw [if_neg (by rw [fa_lt]; rw [fa_le] at h; omega)] at ih
        refine bkX10_shift_111 ?_
        rw [nI_1]; exact ih _ _
      · rw [if_pos (fa_of_nle h)] at ih
        refine bkX10_shift_103 (bkX10_shift_111 ?_)
        rw [nI_1]; exact ih _ _
    refine bkX10_shift_66 (fun h => ?_) (fun h => bkX10_shift_75 (p2 (-nI far, s_ul n t (m, u) (-nI far)) (by rw [if_pos (fa_of_nle h)]) _))
    exact p2 q (by rw [if_neg (by rw [fa_lt]; rw [fa_le] at h; omega)]) _
theorem kX10_shift (hT : TrX S 0 n t) (hI : ∀ k, k < 2 → ImX S k (im k)) : Ci (d + 3) mX10_shift [vR 10 0, vI x, vI y] S (fun v S' => v = sp_shift n t im x y ∧ S' = S) := by
  refine cxX10_shift ?_
  refine bkX10_shift_0 kX10_imageOf ?_
  rintro _ S ⟨rfl, rfl⟩
  cases hx : inR x 0 1
  · exact bkX10_shift_5_n (bkX10_shift_19_n ⟨_, rfl, by simp [sp_shift, hx], rfl⟩)
  refine bkX10_shift_5_r ?_
  refine bkX10_shift_10 (kX10_w (lo := 0) (hi := 1) rfl rfl) ?_
  rintro _ S ⟨rfl, rfl⟩
  cases hs : inR y 0 1
  · exact bkX10_shift_16 (fun h => absurd rfl h) (fun _ => bkX10_shift_19_r ⟨_, rfl, by simp [sp_shift, hs], rfl⟩)
  refine bkX10_shift_16 (fun _ => ?_) (fun h => absurd h (by decide))
  rw [sp_shift, hx, hs]
  obtain ⟨k, hk, rfl⟩ := inR_get hx
  rw [nI_tn (by omega), Bool.and_self, if_pos rfl]
  have hIk := hI k (by omega)
  cases ho : im k with
  | none =>
    rw [ho] at hIk
    have hIk : S.1 8 (2 + k) 2 = 0 := hIk
    exact bkX10_shift_21 (by omega) (fun h => absurd hIk h) (fun _ => bkX10_shift_28 ⟨_, rfl, rfl, rfl⟩)
  | some q =>
    rw [ho] at hIk
    obtain ⟨e1, e2⟩ := hIk
    refine bkX10_shift_21 (by omega) (fun _ => ?_) (fun h => absurd h (by rw [e1]; decide))
    refine bkX10_shift_31 (kX8_ul hT e2 (by omega)) ?_
    rintro _ S ⟨rfl, rfl⟩
    refine bkX10_shift_43 ?_
    exact lX10_shift (m := q.1) (u := q.2) hT e2 (by omega) 40 1 (0, s_ul n t q 0) _ _ (by omega) rfl
theorem lM_shift {m : Nat} {u : Nat → Nat} (hT : TrM S n t) (hk : k < 2) (hU : ImM S k (some (m, u))) :
    ∀ (r far : Nat) (q : sh_T) (o6 o7 : Option av_T), far + r = 41 → s_sh (s_ul n t (m, u)) r far q = s_SH (s_ul n t (m, u)) → Ev (d + 2) mX11_shift 49 [some (vR 11 0), some (vI (nI k)), some (vI y), some (vI q.1), some (vI q.2), some (vI (nI far)), o6, o7] [] S (fun r S' => ∃ v, r = some (vI v) ∧ v = (if y = 0 then (s_SH (s_ul n t (m, u))).1 else (s_SH (s_ul n t (m, u))).2) ∧ S' = S) := by
  intro r
  induction r with
  | zero =>
    intro far q o6 o7 hf he
    have e : far = 41 := by omega
    subst e
    have he : q = s_SH (s_ul n t (m, u)) := he
    rw [he]
    refine bkX11_shift_49 (fun _ => ?_) (fun h => absurd (by decide) h)
    refine bkX11_shift_128 (fun a => bkX11_shift_136 (bkX11_shift_138 ⟨_, rfl, by rw [if_neg a], rfl⟩)) (fun a => bkX11_shift_132 (bkX11_shift_138 ⟨_, rfl, by rw [if_pos a], rfl⟩))
  | succ r ih =>
    intro far q o6 o7 hf he
    rw [s_sh_s] at he
    have ih := fun o6 o7 => ih (far + 1) _ o6 o7 (by omega) he
    unfold sh_st at ih
    refine bkX11_shift_49 (fun h => absurd h (nI_nlt (a := 40) (by omega) (by omega))) (fun _ => ?_)
    refine bkX11_shift_56 (kM_ul hT hk hU) ?_
    rintro _ S ⟨rfl, rfl⟩
    have p2 : ∀ (q1 : sh_T), q1 = (if s_ul n t (m, u) (-nI far) < q.2 then (-nI far, s_ul n t (m, u) (-nI far)) else q) → Ev (d + 2) mX11_shift 80 [some (vR 11 0), some (vI (nI k)), some (vI y), some (vI q.1), some (vI q.2), some (vI (nI far)), some (vI (s_ul n t (m, u) (-nI far))), o7] [vI q1.1] S (fun r S' => ∃ v, r = some (vI v) ∧ v = (if y = 0 then (s_SH (s_ul n t (m, u))).1 else (s_SH (s_ul n t (m, u))).2) ∧ S' = S) := by
      intro q1 hq1
      have e2 : (if s_ul n t (m, u) (-nI far) < q.2 then s_ul n t (m, u) (-nI far) else q.2) = q1.2 := by rw [hq1]; split <;> rfl
      rw [e2, ← hq1] at ih
      refine bkX11_shift_80 (P := fun v S' => v = q1.2 ∧ S' = S) (by rw [← e2]; exact kM_less) ?_
      rintro _ S ⟨rfl, rfl⟩
      refine bkX11_shift_88 (kM_ul hT hk hU) ?_
      rintro _ S ⟨rfl, rfl⟩
      have p3 : ∀ (q2 : sh_T), q2 = (if s_ul n t (m, u) (nI far) < q1.2 then (nI far, s_ul n t (m, u) (nI far)) else q1) → Ev (d + 2) mX11_shift 112 [some (vR 11 0), some (vI (nI k)), some (vI y), some (vI q1.1), some (vI q1.2), some (vI (nI far)), some (vI (s_ul n t (m, u) (-nI far))), some (vI (s_ul n t (m, u) (nI far)))] [vI q2.1] S (fun r S' => ∃ v, r = some (vI v) ∧ v = (if y = 0 then (s_SH (s_ul n t (m, u))).1 else (s_SH (s_ul n t (m, u))).2) ∧ S' = S) := by
        intro q2 hq2
        have e3 : (if s_ul n t (m, u) (nI far) < q1.2 then s_ul n t (m, u) (nI far) else q1.2) = q2.2 := by rw [hq2]; split <;> rfl
        rw [← hq2] at ih
        refine bkX11_shift_112 (P := fun v S' => v = q2.2 ∧ S' = S) (by rw [← e3]; exact kM_less) ?_
        rintro _ S ⟨rfl, rfl⟩
        refine bkX11_shift_120 ?_
        rw [nI_1]; exact ih _ _
      refine bkX11_shift_97 (fun h => bkX11_shift_111 (p3 q1 ?_)) (fun h => bkX11_shift_106 (p3 (nI far, s_ul n t (m, u) (nI far)) (by rw [if_pos (fa_of_nle h)])))
      rw [if_neg (by rw [fa_lt]; rw [fa_le] at h; omega)]
    refine bkX11_shift_64 (fun h => bkX11_shift_79 (p2 q ?_)) (fun h => bkX11_shift_73 (p2 (-nI far, s_ul n t (m, u) (-nI far)) (by rw [if_pos (fa_of_nle h)])))
    rw [if_neg (by rw [fa_lt]; rw [fa_le] at h; omega)]
theorem kM_shift (hT : TrM S n t) (hI : ∀ k, k < 2 → ImM S k (im k)) : Ci (d + 2) mX11_shift [vR 11 0, vI x, vI y] S (fun v S' => v = sp_shift n t im x y ∧ S' = S) := by
  refine cxX11_shift ?_
  refine bkX11_shift_0 (kM_inI (lo := 0) (hi := 1) rfl rfl) ?_
  rintro _ S ⟨rfl, rfl⟩
  cases hx : inR x 0 1
  · exact bkX11_shift_7 (fun _ => bkX11_shift_20 ⟨_, rfl, by simp [sp_shift, hx], rfl⟩) (fun h => absurd rfl h)
  refine bkX11_shift_7 (fun h => absurd h (by decide)) (fun _ => ?_)
  refine bkX11_shift_10 (kM_inI (lo := 0) (hi := 1) rfl rfl) ?_
  rintro _ S ⟨rfl, rfl⟩
  cases hs : inR y 0 1
  · exact bkX11_shift_17 (fun h => absurd rfl h) (fun _ => bkX11_shift_20 ⟨_, rfl, by simp [sp_shift, hs], rfl⟩)
  refine bkX11_shift_17 (fun _ => ?_) (fun h => absurd h (by decide))
  rw [sp_shift, hx, hs]
  obtain ⟨k, hk, rfl⟩ := inR_get hx
  rw [nI_tn (by omega), Bool.and_self, if_pos rfl]
  have hIk := hI k (by omega)
  have kin : vp_in (nI k) 2 := vp_lt (by omega) (by omega)
  cases ho : im k with
  | none =>
    rw [ho] at hIk
    have hIk : S.1 1205 0 k = -4 := hIk
    exact bkX11_shift_22 kin (fun h => absurd (by rw [nI_clamp (by omega)]; exact hIk) h) (fun _ => bkX11_shift_33 ⟨_, rfl, rfl, rfl⟩)
  | some q =>
    rw [ho] at hIk
    have e1 : S.1 1205 0 k = nI q.1 := hIk.1
    have e2 : q.1 ≤ 400 := hIk.2.1
    refine bkX11_shift_22 kin (fun _ => ?_) (fun h => absurd h (by rw [nI_clamp (by omega), e1]; exact ne4 (by omega)))
    refine bkX11_shift_36 (kM_ul hT (by omega) hIk) ?_
    rintro _ S ⟨rfl, rfl⟩
    refine bkX11_shift_44 ?_
    exact lM_shift (m := q.1) (u := q.2) hT (by omega) hIk 40 1 (0, s_ul n t q 0) _ _ (by omega) rfl
end SH
