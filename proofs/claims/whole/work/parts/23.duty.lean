/-! ===== duty ===== -/
def s_lst (p : Nat → Bool) : Nat → Int32
  | 0 => -4
  | i + 1 => if p i then nI i else s_lst p i
def s_ff (p : Nat → Bool) : Nat → Int32
  | 0 => -4
  | i + 1 => if s_ff p i = -4 ∧ p i = true then nI i else s_ff p i
theorem s_ff_s (p : Nat → Bool) (i : Nat) : s_ff p (i + 1) = if s_ff p i = -4 ∧ p i = true then nI i else s_ff p i := rfl
theorem s_lst_s (p : Nat → Bool) (i : Nat) : s_lst p (i + 1) = if p i = true then nI i else s_lst p i := rfl
theorem s_fst_s (p : Nat → Bool) (m i : Nat) : s_fst p (m + 1) i = if p i = true then nI i else s_fst p m (i + 1) := rfl
theorem ne4 {a : Nat} (ha : a < 2 ^ 31) : ¬ nI a = -4 := by
  intro e
  rw [fa_eq, nI_toInt ha] at e
  have : (-4 : Int32).toInt = -4 := by decide
  omega
theorem s_ff_fst (p : Nat → Bool) : ∀ (m i : Nat), i + m ≤ 400 → s_ff p (i + m) = if s_ff p i = -4 then s_fst p m i else s_ff p i := by
  intro m
  induction m with
  | zero => intro i h; show s_ff p i = _; split <;> simp_all [s_fst]
  | succ m ih =>
    intro i h
    rw [show i + (m + 1) = i + 1 + m by omega, ih (i + 1) (by omega)]
    rw [s_fst_s, s_ff_s]
    by_cases h4 : s_ff p i = -4
    · rw [if_pos h4]
      by_cases hp : p i = true
      · simp only [h4, hp, and_self, if_true]
        rw [if_neg (ne4 (by omega))]
      · simp only [h4, hp, and_false, if_true, if_false]; simp
    · simp only [h4, false_and, if_false]
theorem s_fla (p : Nat → Bool) : ∀ n : Nat, n ≤ 400 → (s_ff p n = -4 ∧ s_lst p n = -4) ∨ ∃ a b, s_ff p n = nI a ∧ s_lst p n = nI b ∧ a ≤ b ∧ b < n ∧ p a = true := by
  intro n
  induction n with
  | zero => intro _; exact Or.inl ⟨rfl, rfl⟩
  | succ n ih =>
    intro hn
    rw [s_ff_s, s_lst_s]
    rcases ih (by omega) with ⟨h1, h2⟩ | ⟨a, b, h1, h2, h3, h4, h5⟩
    · by_cases hp : p n = true
      · rw [if_pos ⟨h1, hp⟩, if_pos hp]; exact Or.inr ⟨n, n, rfl, rfl, Nat.le_refl _, by omega, hp⟩
      · rw [if_neg (fun z => hp z.2), if_neg hp]; exact Or.inl ⟨h1, h2⟩
    · have h4' : ¬ s_ff p n = -4 := by rw [h1]; exact ne4 (by omega)
      rw [if_neg (fun z => h4' z.1)]
      by_cases hp : p n = true
      · rw [if_pos hp]; exact Or.inr ⟨a, n, h1, rfl, by omega, by omega, h5⟩
      · rw [if_neg hp]; exact Or.inr ⟨a, b, h1, h2, h3, by omega, h5⟩
def s_gd : Nat → Nat → Nat → Nat
  | 0, x, _ => x
  | f + 1, x, y => if y = 0 then x else s_gd f y (x % y)
theorem s_gd_s (f x y : Nat) : s_gd (f + 1) x y = if y = 0 then x else s_gd f y (x % y) := rfl
theorem gcd_st (x y : Nat) : Nat.gcd x y = Nat.gcd y (x % y) := by
  rw [Nat.gcd_comm x y, Nat.gcd_rec y x, Nat.gcd_comm]
theorem s_gd_gcd : ∀ (k f x y : Nat), y < 2 ^ k → 2 * k ≤ f → s_gd f x y = Nat.gcd x y := by
  intro k
  induction k with
  | zero =>
    intro f x y h1 h2
    have : y = 0 := by omega
    subst this
    cases f <;> simp [s_gd]
  | succ k ih =>
    intro f x y h1 h2
    obtain ⟨f, rfl⟩ : ∃ g, f = g + 2 := ⟨f - 2, by omega⟩
    rw [show f + 2 = f + 1 + 1 from rfl, s_gd_s]
    by_cases hy : y = 0
    · rw [if_pos hy, hy, Nat.gcd_zero_right]
    · rw [if_neg hy]
      rw [s_gd_s]
      have hlt : x % y < y := Nat.mod_lt _ (by omega)
      by_cases hr : x % y = 0
      · rw [if_pos hr, gcd_st x y, hr, Nat.gcd_zero_right]
      · rw [if_neg hr, ih, ← gcd_st y (x % y), ← gcd_st x y]
        · have h3 : y % (x % y) < x % y := Nat.mod_lt _ (by omega)
          have h4 := Nat.mod_add_div y (x % y)
          have h5 : 1 ≤ y / (x % y) := Nat.div_pos (by omega) (by omega)
          have h6 : x % y ≤ x % y * (y / (x % y)) := Nat.le_mul_of_pos_right _ h5
          rw [Nat.pow_succ] at h1
          omega
        · omega
section DU
variable {d : Nat} {S : hs_T} {n w i : Nat} {t : Nat → Nat}
def s_du (t : Nat → Nat) (w a b : Nat) (y : Int32) : Int32 := nI ((if y = 0 then fb_ct (fun k => t_hi t w (a + k)) (b - a) else b - a) / Nat.gcd (fb_ct (fun k => t_hi t w (a + k)) (b - a)) (b - a))
def sp_duty (n : Nat) (t : Nat → Nat) (x y : Int32) : Int32 := if inR x 0 7 && inR y 0 1 then (if s_ff (t_up t x.toInt.toNat) n = s_lst (t_up t x.toInt.toNat) n then -4 else s_du t x.toInt.toNat (s_ff (t_up t x.toInt.toNat) n).toInt.toNat (s_lst (t_up t x.toInt.toNat) n).toInt.toNat y) else -1
theorem lX10_firstRise (hT : TrX S 0 n t) (hw : w < 8) :
    ∀ (m i : Nat), i + m = n → Ev (d + 1) mX10_firstRise 2 [some (vR 10 0), some (vI (nI w)), some (vI (nI i))] [] S (fun r S' => ∃ v, r = some (vI v) ∧ v = s_fst (t_up t w) m i ∧ S' = S) := by
  have h1 := hT.1
  have h2 := hT.2.1
  intro m
  induction m with
  | zero =>
    intro i hi
    exact bkX10_firstRise_2 (fun _ => bkX10_firstRise_33 ⟨_, rfl, rfl, rfl⟩) (fun h => absurd (by rw [h1]; exact nI_le (by omega) (by omega)) h)
  | succ m ih =>
    intro i hi
    refine bkX10_firstRise_2 (fun h => absurd h (by rw [h1]; exact nl_ (by omega) (by omega))) (fun _ => ?_)
    refine bkX10_firstRise_13 (kX8_rises hT (by omega) hw (by omega)) ?_
    rintro _ S ⟨rfl, rfl⟩
    rw [s_fst_s]
    cases hp : t_up t w i
    · refine bkX10_firstRise_22 (fun _ => bkX10_firstRise_27 ?_) (fun h => absurd rfl h)
      rw [nI_1]
      exact ih (i + 1) (by omega)
    · exact bkX10_firstRise_22 (fun h => absurd h (by decide)) (fun _ => bkX10_firstRise_25 ⟨_, rfl, rfl, rfl⟩)
theorem t_up0 (t : Nat → Nat) (w : Nat) : t_up t w 0 = false := rfl
theorem kX10_firstRise (hT : TrX S 0 n t) (hw : w < 8) : Ci (d + 1) mX10_firstRise [vR 10 0, vI (nI w)] S (fun v S' => v = s_ff (t_up t w) n ∧ S' = S) := by
  have h1 := hT.1
  have h2 := hT.2.1
  refine cxX10_firstRise ?_
  refine bkX10_firstRise_0 ?_
  rcases Nat.eq_zero_or_pos n with z | z
  · subst z
    exact bkX10_firstRise_2 (fun _ => bkX10_firstRise_33 ⟨_, rfl, rfl, rfl⟩) (fun h => absurd (by rw [h1]; decide) h)
  · have e := s_ff_fst (t_up t w) (n - 1) 1 (by omega)
    rw [show 1 + (n - 1) = n by omega, if_pos (by simp [s_ff, t_up0])] at e
    rw [e]
    exact lX10_firstRise hT hw (n - 1) 1 (by omega)
theorem lX10_lastRise (hT : TrX S 0 n t) (hw : w < 8) :
    ∀ (m : Nat), m ≤ n → Ev (d + 1) mX10_lastRise 10 [some (vR 10 0), some (vI (nI w)), some (vI (nI m - 1))] [] S (fun r S' => ∃ v, r = some (vI v) ∧ v = s_lst (t_up t w) m ∧ S' = S) := by
  have h2 := hT.2.1
  intro m
  induction m with
  | zero =>
    intro hm
    exact bkX10_lastRise_10 (fun _ => bkX10_lastRise_34 ⟨_, rfl, rfl, rfl⟩) (fun h => absurd (by decide) h)
  | succ m ih =>
    intro hm
    rw [nI_pred m]
    rw [s_lst_s]
    rcases Nat.eq_zero_or_pos m with z | z
    · subst z
      exact bkX10_lastRise_10 (fun _ => bkX10_lastRise_34 ⟨_, rfl, by simp [t_up0, s_lst], rfl⟩) (fun h => absurd (by decide) h)
    · refine bkX10_lastRise_10 (fun h => absurd h (nI_nle z (by omega))) (fun _ => ?_)
      refine bkX10_lastRise_14 (kX8_rises hT (by omega) hw (by omega)) ?_
      rintro _ S ⟨rfl, rfl⟩
      cases hp : t_up t w m
      · refine bkX10_lastRise_23 (fun _ => bkX10_lastRise_28 ?_) (fun h => absurd rfl h)
        rw [← Int32.sub_eq_add_neg]
        exact ih (by omega)
      · exact bkX10_lastRise_23 (fun h => absurd h (by decide)) (fun _ => bkX10_lastRise_26 ⟨_, rfl, rfl, rfl⟩)
theorem kX10_lastRise (hT : TrX S 0 n t) (hw : w < 8) : Ci (d + 1) mX10_lastRise [vR 10 0, vI (nI w)] S (fun v S' => v = s_lst (t_up t w) n ∧ S' = S) := by
  refine cxX10_lastRise ?_
  refine bkX10_lastRise_0 ?_
  rw [hT.1]
  exact lX10_lastRise hT hw n (Nat.le_refl _)
theorem lX10_gd {x0 x1 : Int32} : ∀ (f x y : Nat) (o5 : Option av_T), f ≤ 64 → x < 2 ^ 31 → y < 2 ^ 31 → Ev d mX10_greatestDivisor 7 [some (vI x0), some (vI x1), some (vI (nI x)), some (vI (nI y)), some (vI (nI (64 - f))), o5] [] S (fun r S' => ∃ v, r = some (vI v) ∧ v = nI (s_gd f x y) ∧ S' = S) := by
  intro f
  induction f with
  | zero =>
    intro x y o5 hf hx hy
    exact bkX10_greatestDivisor_7 (fun _ => bkX10_greatestDivisor_34 ⟨_, rfl, rfl, rfl⟩) (fun h => absurd (by decide) h)
  | succ f ih =>
    intro x y o5 hf hx hy
    refine bkX10_greatestDivisor_7 (fun h => absurd h (nl_ (b := 64) (by omega) (by omega))) (fun _ => ?_)
    rw [s_gd_s]
    refine bkX10_greatestDivisor_14 (fun h => ?_) (fun h => ?_)
    · rw [if_pos ((nI_eq (b := 0) hy (by omega)).mp h)]
      exact bkX10_greatestDivisor_34 ⟨_, rfl, rfl, rfl⟩
    · have hy0 : ¬ y = 0 := fun z => h (by rw [z]; rfl)
      rw [if_neg hy0]
      refine bkX10_greatestDivisor_18 h ?_
      rw [pk_rem hx (by omega) hy, nI_1, show 64 - (f + 1) + 1 = 64 - f by omega]
      exact ih y (x % y) _ (by omega) hy (Nat.lt_of_lt_of_le (Nat.mod_lt _ (by omega)) (by omega))
theorem kX10_gd {x y : Nat} (hx : x ≤ 400) (hy : y ≤ 400) : Ci d mX10_greatestDivisor [vI (nI x), vI (nI y)] S (fun v S' => v = nI (Nat.gcd x y) ∧ S' = S) := by
  refine cxX10_greatestDivisor ?_
  refine bkX10_greatestDivisor_0 ?_
  have := lX10_gd (d := d) (S := S) (x0 := nI x) (x1 := nI y) 64 x y none (by omega) (by omega) (by omega)
  rw [s_gd_gcd 9 64 x y (by omega) (by omega)] at this
  exact this
theorem lX10_duty {y : Int32} {a b : Nat} {Q : Option av_T → hs_T → Prop} (hT : TrX S 0 n t) (hw : w < 8) (hb : b < n) (hab : a < b) (hQ : Ev (d + 2) mX10_duty 86 [some (vR 10 0), some (vI (nI w)), some (vI y), some (vI (nI a)), some (vI (nI b)), some (vI (nI (fb_ct (fun k => t_hi t w (a + k)) (b - a)))), some (vI (nI b))] [] S Q) :
    ∀ (m k : Nat), a + k + m = b → Ev (d + 2) mX10_duty 50 [some (vR 10 0), some (vI (nI w)), some (vI y), some (vI (nI a)), some (vI (nI b)), some (vI (nI (fb_ct (fun k => t_hi t w (a + k)) k))), some (vI (nI (a + k)))] [] S Q := by
  have h2 := hT.2.1
  intro m
  induction m with
  | zero =>
    intro k hk
    have e : k = b - a := by omega
    subst e
    rw [show a + (b - a) = b by omega]
    exact bkX10_duty_50 (fun _ => hQ) (fun h => absurd (nI_le (by omega) (by omega)) h)
  | succ m ih =>
    intro k hk
    refine bkX10_duty_50 (fun h => absurd h (nl_ (by omega) (by omega))) (fun _ => ?_)
    refine bkX10_duty_57 (kX8_high hT (by omega) hw (by omega)) ?_
    rintro _ S ⟨rfl, rfl⟩
    have key : Ev (d + 1 + 1) mX10_duty 77 [some (vR 10 0), some (vI (nI w)), some (vI y), some (vI (nI a)), some (vI (nI b)), some (vI (nI (fb_ct (fun k => t_hi t w (a + k)) k))), some (vI (nI (a + k)))] [vI (bi_ (t_hi t w (a + k))), vI (nI (fb_ct (fun k => t_hi t w (a + k)) k))] S Q := by
      refine bkX10_duty_77 ?_
      rw [ct_bi (fun k => t_hi t w (a + k)) k, nI_1]
      exact ih (k + 1) (by omega)
    cases hp : t_hi t w (a + k)
    · rw [hp] at key
      exact bkX10_duty_69 (fun _ => bkX10_duty_76 key) (fun h => absurd rfl h)
    · rw [hp] at key
      exact bkX10_duty_69 (fun h => absurd h (by decide)) (fun _ => bkX10_duty_72 key)
theorem kX10_duty {x y : Int32} (hT : TrX S 0 n t) : Ci (d + 2) mX10_duty [vR 10 0, vI x, vI y] S (fun v S' => v = sp_duty n t x y ∧ S' = S) := by
  have h2 := hT.2.1
  refine cxX10_duty ?_
  refine bkX10_duty_0 kX10_isWire ?_
  rintro _ S ⟨rfl, rfl⟩
  cases hx : inR x 0 7
  · exact bkX10_duty_4 (fun _ => bkX10_duty_16 ⟨_, rfl, by simp [sp_duty, hx], rfl⟩) (fun h => absurd rfl h)
  refine bkX10_duty_4 (fun h => absurd h (by decide)) (fun _ => ?_)
  refine bkX10_duty_7 (kX10_w (lo := 0) (hi := 1) rfl rfl) ?_
  rintro _ S ⟨rfl, rfl⟩
  cases hy : inR y 0 1
  · exact bkX10_duty_13 (fun h => absurd rfl h) (fun _ => bkX10_duty_16 ⟨_, rfl, by simp [sp_duty, hy], rfl⟩)
  refine bkX10_duty_13 (fun _ => ?_) (fun h => absurd h (by decide))
  obtain ⟨w, hw, rfl⟩ := inR_get hx
  have es : sp_duty n t (nI w) y = if s_ff (t_up t w) n = s_lst (t_up t w) n then -4 else s_du t w (s_ff (t_up t w) n).toInt.toNat (s_lst (t_up t w) n).toInt.toNat y := by
    rw [sp_duty, hx, hy, nI_tn (by omega)]; rfl
  refine bkX10_duty_18 (kX10_firstRise hT (by omega)) ?_
  rintro _ S ⟨rfl, rfl⟩
  refine bkX10_duty_23 (kX10_lastRise hT (by omega)) ?_
  rintro _ S ⟨rfl, rfl⟩
  rcases s_fla (t_up t w) n h2 with ⟨e1, e2⟩ | ⟨a, b, e1, e2, hab, hb, hp⟩
  · rw [e1, e2] at es ⊢
    exact bkX10_duty_29 (fun _ => bkX10_duty_41 ⟨_, rfl, by rw [es]; rfl, rfl⟩) (fun h => absurd (by decide) h)
  · rw [e1, e2] at es ⊢
    refine bkX10_duty_29 (fun h => absurd h (nI_pos (by omega))) (fun _ => ?_)
    refine bkX10_duty_35 (fun h => ?_) (fun h => bkX10_duty_41 ⟨_, rfl, by rw [es, if_pos h], rfl⟩)
    rw [if_neg h, nI_tn (by omega), nI_tn (by omega)] at es
    have hlt : a < b := by
      rcases Nat.lt_or_ge a b with z | z
      · exact z
      · exact absurd (by rw [show a = b by omega]) h
    rw [es]
    refine bkX10_duty_44 ?_
    refine lX10_duty (a := a) (b := b) hT (by omega) hb hlt ?_ (b - a) 0 (by omega)
    have hcl := fb_ct_le (fun k => t_hi t w (a + k)) (b - a)
    refine bkX10_duty_86 (by rw [pk_sub (by omega)]; exact kX10_gd (by omega) (by omega)) ?_
    rintro _ S ⟨rfl, rfl⟩
    have hg : 0 < Nat.gcd (fb_ct (fun k => t_hi t w (a + k)) (b - a)) (b - a) := Nat.gcd_pos_of_pos_right _ (by omega)
    have hg2 : Nat.gcd (fb_ct (fun k => t_hi t w (a + k)) (b - a)) (b - a) ≤ b - a := Nat.gcd_le_right _ (by omega)
    have hne : ¬ nI (Nat.gcd (fb_ct (fun k => t_hi t w (a + k)) (b - a)) (b - a)) = 0 := nI_ne0 hg (by omega)
    refine bkX10_duty_95 (fun _ => ?_) (fun z => absurd z hne)
    unfold s_du
    refine bkX10_duty_105 (fun hy => ?_) (fun hy => ?_)
    · refine bkX10_duty_114 (bkX10_duty_118 hne ⟨_, rfl, ?_, rfl⟩)
      rw [if_neg hy, pk_sub (by omega), pk_div (by omega) hg (by omega)]
    · refine bkX10_duty_109 (bkX10_duty_118 hne ⟨_, rfl, ?_, rfl⟩)
      rw [if_pos hy, pk_div (by omega) hg (by omega)]
theorem lM_told {x0 x1 x2 : Int32} {g : Nat} {Q : Option av_T → hs_T → Prop} (hQ : ∀ o5, Ev d mX11_told 26 [some (vI x0), some (vI x1), some (vI x2), some (vI (nI g)), some (vI 0), o5] [] S Q) : ∀ (k x y : Nat) (o5 : Option av_T), y ≤ k → x < 2 ^ 31 → y < 2 ^ 31 → Nat.gcd x y = g → Ev d mX11_told 5 [some (vI x0), some (vI x1), some (vI x2), some (vI (nI x)), some (vI (nI y)), o5] [] S Q := by
  intro k
  induction k with
  | zero =>
    intro x y o5 hk hx hy hg
    have : y = 0 := by omega
    subst this
    rw [Nat.gcd_zero_right] at hg
    subst hg
    exact bkX11_told_5 (fun _ => hQ _) (fun h => absurd rfl h)
  | succ k ih =>
    intro x y o5 hk hx hy hg
    refine bkX11_told_5 (fun h => ?_) (fun h => ?_)
    · have : y = 0 := (nI_eq (b := 0) hy (by omega)).mp h
      subst this
      rw [Nat.gcd_zero_right] at hg
      subst hg
      exact hQ _
    · have hy0 : ¬ y = 0 := fun z => h (by rw [z]; rfl)
      refine bkX11_told_10 h ?_
      have hlt : x % y < y := Nat.mod_lt _ (by omega)
      rw [pk_rem hx (by omega) hy]
      exact ih y (x % y) _ (by omega) hy (by omega) (by rw [← gcd_st]; exact hg)
theorem kM_told {u v : Nat} {y : Int32} (hu : u ≤ 400) (hv : v ≤ 400) (h0 : 0 < v) : Ci d mX11_told [vI (nI u), vI (nI v), vI y] S (fun r S' => r = nI ((if y = 0 then u else v) / Nat.gcd u v) ∧ S' = S) := by
  refine cxX11_told ?_
  refine bkX11_told_0 ?_
  have hg : 0 < Nat.gcd u v := Nat.gcd_pos_of_pos_right _ h0
  have hg2 : Nat.gcd u v ≤ v := Nat.gcd_le_right _ h0
  have hne : ¬ nI (Nat.gcd u v) = 0 := nI_ne0 hg (by omega)
  refine lM_told (g := Nat.gcd u v) (fun o5 => ?_) u v u _ (Nat.le_refl _) (by omega) (by omega) (Nat.gcd_comm v u)
  refine bkX11_told_26 (fun hy => ?_) (fun hy => ?_)
  · refine bkX11_told_36 hne (bkX11_told_39 ⟨_, rfl, ?_, rfl⟩)
    rw [if_neg hy, pk_div (by omega) hg (by omega)]
  · refine bkX11_told_30 hne (bkX11_told_39 ⟨_, rfl, ?_, rfl⟩)
    rw [if_pos hy, pk_div (by omega) hg (by omega)]
theorem lM_duty1 {y : Int32} {Q : Option av_T → hs_T → Prop} (hT : TrM S n t) (hw : w < 8) (hQ : ∀ x5, Ev (d + 2) mX11_duty 86 [some (vR 11 0), some (vI (nI w)), some (vI y), some (vI (s_ff (t_up t w) n)), some (vI (s_lst (t_up t w) n)), some (vI x5), none] [] S Q) :
    ∀ (m i : Nat), i + m = n → Ev (d + 2) mX11_duty 29 [some (vR 11 0), some (vI (nI w)), some (vI y), some (vI (s_ff (t_up t w) i)), some (vI (s_lst (t_up t w) i)), some (vI (nI i)), none] [] S Q := by
  have h1 := hT.1
  have h2 := hT.2.1
  intro m
  induction m with
  | zero =>
    intro i hi
    have e : i = n := by omega
    subst e
    exact bkX11_duty_29 (fun _ => hQ _) (fun h => absurd (by rw [h1]; exact nI_le (by omega) (by omega)) h)
  | succ m ih =>
    intro i hi
    refine bkX11_duty_29 (fun h => absurd h (by rw [h1]; exact nl_ (by omega) (by omega))) (fun _ => ?_)
    have ih := ih (i + 1) (by omega)
    have second : ∀ f, f = s_ff (t_up t w) (i + 1) → Ev (d + 2) mX11_duty 60 [some (vR 11 0), some (vI (nI w)), some (vI y), some (vI (s_ff (t_up t w) i)), some (vI (s_lst (t_up t w) i)), some (vI (nI i)), none] [vI f] S Q := by
      rintro f rfl
      refine bkX11_duty_60 (kM_rises hT hw (by omega)) ?_
      rintro _ S ⟨rfl, rfl⟩
      have e : s_lst (t_up t w) (i + 1) = if t_up t w i = true then nI i else s_lst (t_up t w) i := rfl
      rw [e, ← nI_1] at ih
      cases hp : t_up t w i
      · rw [hp] at ih
        exact bkX11_duty_68 (fun _ => bkX11_duty_76 (bkX11_duty_78 ih)) (fun h => absurd rfl h)
      · rw [hp] at ih
        exact bkX11_duty_68 (fun h => absurd h (by decide)) (fun _ => bkX11_duty_71 (bkX11_duty_78 ih))
    have e : s_ff (t_up t w) (i + 1) = if s_ff (t_up t w) i = -4 ∧ t_up t w i = true then nI i else s_ff (t_up t w) i := rfl
    refine bkX11_duty_38 (fun h => bkX11_duty_59 (second _ (by rw [e, if_neg (fun z => h z.1)]))) (fun h => ?_)
    refine bkX11_duty_44 (kM_rises hT hw (by omega)) ?_
    rintro _ S ⟨rfl, rfl⟩
    cases hp : t_up t w i
    · exact bkX11_duty_51 (fun _ => bkX11_duty_59 (second _ (by rw [e, hp, if_neg (fun z => absurd z.2 (by decide))]))) (fun h => absurd rfl h)
    · exact bkX11_duty_51 (fun h => absurd h (by decide)) (fun _ => bkX11_duty_54 (second _ (by rw [e, hp, if_pos ⟨h, rfl⟩])))
theorem lM_duty2 {y : Int32} {a b : Nat} {Q : Option av_T → hs_T → Prop} (hT : TrM S n t) (hw : w < 8) (hb : b < n) (hab : a < b) (hQ : Ev (d + 2) mX11_duty 129 [some (vR 11 0), some (vI (nI w)), some (vI y), some (vI (nI a)), some (vI (nI b)), some (vI (nI (fb_ct (fun k => t_hi t w (a + k)) (b - a)))), some (vI (nI b))] [] S Q) :
    ∀ (m k : Nat), a + k + m = b → Ev (d + 2) mX11_duty 101 [some (vR 11 0), some (vI (nI w)), some (vI y), some (vI (nI a)), some (vI (nI b)), some (vI (nI (fb_ct (fun k => t_hi t w (a + k)) k))), some (vI (nI (a + k)))] [] S Q := by
  have h2 := hT.2.1
  intro m
  induction m with
  | zero =>
    intro k hk
    have e : k = b - a := by omega
    subst e
    rw [show a + (b - a) = b by omega]
    exact bkX11_duty_101 (fun _ => hQ) (fun h => absurd (nI_le (by omega) (by omega)) h)
  | succ m ih =>
    intro k hk
    refine bkX11_duty_101 (fun h => absurd h (nl_ (by omega) (by omega))) (fun _ => ?_)
    refine bkX11_duty_108 (kM_isHigh hT hw (by omega)) ?_
    rintro _ S ⟨rfl, rfl⟩
    refine bkX11_duty_117 kM_flag ?_
    rintro _ S ⟨rfl, rfl⟩
    refine bkX11_duty_120 ?_
    rw [ct_bi (fun k => t_hi t w (a + k)) k, nI_1]
    exact ih (k + 1) (by omega)
theorem kM_duty {x y : Int32} (hT : TrM S n t) : Ci (d + 2) mX11_duty [vR 11 0, vI x, vI y] S (fun v S' => v = sp_duty n t x y ∧ S' = S) := by
  have h2 := hT.2.1
  refine cxX11_duty ?_
  refine bkX11_duty_0 kM_isWire ?_
  rintro _ S ⟨rfl, rfl⟩
  cases hx : inR x 0 7
  · exact bkX11_duty_4 (fun _ => bkX11_duty_17 ⟨_, rfl, by simp [sp_duty, hx], rfl⟩) (fun h => absurd rfl h)
  refine bkX11_duty_4 (fun h => absurd h (by decide)) (fun _ => ?_)
  refine bkX11_duty_7 (kM_inI (lo := 0) (hi := 1) rfl rfl) ?_
  rintro _ S ⟨rfl, rfl⟩
  cases hy : inR y 0 1
  · exact bkX11_duty_14 (fun h => absurd rfl h) (fun _ => bkX11_duty_17 ⟨_, rfl, by simp [sp_duty, hy], rfl⟩)
  refine bkX11_duty_14 (fun _ => ?_) (fun h => absurd h (by decide))
  obtain ⟨w, hw, rfl⟩ := inR_get hx
  have es : sp_duty n t (nI w) y = if s_ff (t_up t w) n = s_lst (t_up t w) n then -4 else s_du t w (s_ff (t_up t w) n).toInt.toNat (s_lst (t_up t w) n).toInt.toNat y := by
    rw [sp_duty, hx, hy, nI_tn (by omega)]; rfl
  refine bkX11_duty_19 ?_
  refine lM_duty1 (w := w) hT (by omega) (fun x5 => ?_) n 0 (by omega)
  refine bkX11_duty_86 (fun h => ?_) (fun h => bkX11_duty_92 ⟨_, rfl, by rw [es, if_pos h], rfl⟩)
  rw [if_neg h] at es
  rcases s_fla (t_up t w) n h2 with ⟨e1, e2⟩ | ⟨a, b, e1, e2, hab, hb, hp⟩
  · exact absurd (by rw [e1, e2]) h
  · rw [e1, e2] at es h ⊢
    rw [nI_tn (by omega), nI_tn (by omega)] at es
    have hlt : a < b := by
      rcases Nat.lt_or_ge a b with z | z
      · exact z
      · exact absurd (by rw [show a = b by omega]) h
    rw [es]
    refine bkX11_duty_95 ?_
    refine lM_duty2 (a := a) (b := b) hT (by omega) hb hlt ?_ (b - a) 0 (by omega)
    have hcl := fb_ct_le (fun k => t_hi t w (a + k)) (b - a)
    refine bkX11_duty_129 (by rw [pk_sub (by omega)]; exact kM_told (by omega) (by omega) (by omega)) ?_
    rintro _ S ⟨rfl, rfl⟩
    exact bkX11_duty_139 ⟨_, rfl, rfl, rfl⟩
end DU
