/-! ===== bits ===== -/
def f0 (S : hs_T) (sz wh br lo pe : Nat) (row : Nat → Int32) : Prop := S.1 0 0 1 = nI sz ∧ S.1 0 0 2 = nI wh ∧ S.1 0 0 3 = nI br ∧ S.1 0 0 4 = nI lo ∧ S.1 0 0 5 = nI pe ∧ ∀ k, k < sz → S.1 100 0 k = row k
theorem ess_0 (j f : Nat) : ess 0 j f = false := by simp [ess]
theorem ess_100 (j f : Nat) : ess 100 j f = false := by simp [ess]
def fv (x : Int32) (row : Nat → Int32) (sz : Nat) : Int32 := if 0 ≤ x.toInt ∧ x.toInt < sz then row x.toInt.toNat else -1
theorem fv_s {x v : Int32} {row : Nat → Int32} {sz : Nat} (hs : sz < 2 ^ 31) : fv x (upd row sz v) (sz + 1) = if nI sz = x then v else fv x row sz := by
  unfold fv
  by_cases h : nI sz = x
  · subst h
    rw [if_pos rfl, nI_toInt hs, if_pos (by omega)]
    exact pk_us
  · rw [if_neg h]
    have h' : ¬ x.toInt = sz := fun z => h (by rw [fa_eq, nI_toInt hs]; omega)
    by_cases h2 : 0 ≤ x.toInt ∧ x.toInt < sz
    · rw [if_pos (by omega), if_pos h2, pk_un (by omega)]
    · rw [if_neg (by omega), if_neg h2]
section BI
variable {d : Nat} {S : hs_T} {n w i c e s : Nat} {t : Nat → Nat} {sz wh br lo pe : Nat} {row : Nat → Int32} {v x : Int32} {m : Nat}
theorem f0_2 (h : f0 S sz wh br lo pe row) (hv : v = nI m) : f0 (sk_ S 0 0 (upd (S.1 0 0) 2 v)) sz m br lo pe row := by
  obtain ⟨h1, h2, h3, h4, h5, h6⟩ := h
  exact ⟨by rw [sk_at, pk_un (by omega)]; exact h1, by rw [sk_at, pk_us, hv], by rw [sk_at, pk_un (by omega)]; exact h3, by rw [sk_at, pk_un (by omega)]; exact h4, by rw [sk_at, pk_un (by omega)]; exact h5, fun k hk => by rw [sk_ne _ _ (by omega)]; exact h6 k hk⟩
theorem f0_3 (h : f0 S sz wh br lo pe row) (hv : v = nI m) : f0 (sk_ S 0 0 (upd (S.1 0 0) 3 v)) sz wh m lo pe row := by
  obtain ⟨h1, h2, h3, h4, h5, h6⟩ := h
  exact ⟨by rw [sk_at, pk_un (by omega)]; exact h1, by rw [sk_at, pk_un (by omega)]; exact h2, by rw [sk_at, pk_us, hv], by rw [sk_at, pk_un (by omega)]; exact h4, by rw [sk_at, pk_un (by omega)]; exact h5, fun k hk => by rw [sk_ne _ _ (by omega)]; exact h6 k hk⟩
theorem f0_4 (h : f0 S sz wh br lo pe row) (hv : v = nI m) : f0 (sk_ S 0 0 (upd (S.1 0 0) 4 v)) sz wh br m pe row := by
  obtain ⟨h1, h2, h3, h4, h5, h6⟩ := h
  exact ⟨by rw [sk_at, pk_un (by omega)]; exact h1, by rw [sk_at, pk_un (by omega)]; exact h2, by rw [sk_at, pk_un (by omega)]; exact h3, by rw [sk_at, pk_us, hv], by rw [sk_at, pk_un (by omega)]; exact h5, fun k hk => by rw [sk_ne _ _ (by omega)]; exact h6 k hk⟩
theorem f0_5 (h : f0 S sz wh br lo pe row) (hv : v = nI m) : f0 (sk_ S 0 0 (upd (S.1 0 0) 5 v)) sz wh br lo m row := by
  obtain ⟨h1, h2, h3, h4, h5, h6⟩ := h
  exact ⟨by rw [sk_at, pk_un (by omega)]; exact h1, by rw [sk_at, pk_un (by omega)]; exact h2, by rw [sk_at, pk_un (by omega)]; exact h3, by rw [sk_at, pk_un (by omega)]; exact h4, by rw [sk_at, pk_us, hv], fun k hk => by rw [sk_ne _ _ (by omega)]; exact h6 k hk⟩
theorem kX0_clear : Cv d mX0_clear [vR 0 0] S (fun S' => Kp S S' ∧ f0 S' 0 0 0 0 0 row) := by
  refine cxX0_clear ?_
  refine bkX0_clear_0 ⟨rfl, ?_, ?_⟩
  · exact Kp_n (Kp_n (Kp_n (Kp_n (Kp_n (Kp_rf S) (fun f => ess_0 0 f)) (fun f => ess_0 0 f)) (fun f => ess_0 0 f)) (fun f => ess_0 0 f)) (fun f => ess_0 0 f)
  · simp only [sk_sk, sk_at]
    exact ⟨by rw [sk_at]; rfl, by rw [sk_at]; rfl, by rw [sk_at]; rfl, by rw [sk_at]; rfl, by rw [sk_at]; rfl, fun k hk => absurd hk (by omega)⟩
theorem kX0_add (hf : f0 S sz wh br lo pe row) (hs : sz < 25) : Cv d mX0_add [vR 0 0, vI v] S (fun S' => Kp S S' ∧ f0 S' (sz + 1) wh br lo pe (upd row sz v)) := by
  obtain ⟨h1, h2, h3, h4, h5, h6⟩ := hf
  refine cxX0_add ?_
  refine bkX0_add_0 (fun h => absurd h (by rw [h1]; exact nl_ (b := 25) (by omega) (by omega))) (fun _ => ?_)
  refine bkX0_add_12 (by rw [h1]; exact vp_lt (by omega) (by omega)) (bkX0_add_32 ⟨rfl, Kp_n (Kp_n (Kp_rf S) (fun f => ess_100 0 f)) (fun f => ess_0 0 f), ?_⟩)
  rw [h1, nI_clamp (by omega), sk_ne _ _ (by omega), h1, nI_1]
  refine ⟨by rw [sk_at, pk_us], by rw [sk_at, pk_un (by omega)]; exact h2, by rw [sk_at, pk_un (by omega)]; exact h3, by rw [sk_at, pk_un (by omega)]; exact h4, by rw [sk_at, pk_un (by omega)]; exact h5, fun k hk => ?_⟩
  rw [sk_ne _ _ (by omega), sk_at]
  by_cases e : k = sz
  · subst e; rw [pk_us, pk_us]
  · rw [pk_un e, pk_un e]; exact h6 k (by omega)
theorem kX0_value (hf : f0 S sz wh br lo pe row) (hs : sz ≤ 25) : Ci d mX0_value [vR 0 0, vI x] S (fun v S' => v = fv x row sz ∧ S' = S) := by
  have h0 : (0 : Int32).toInt = 0 := rfl
  obtain ⟨h1, h2, h3, h4, h5, h6⟩ := hf
  refine cxX0_value ?_
  unfold fv
  refine bkX0_value_0 (fun h => ?_) (fun h => ?_)
  · rw [fa_lt] at h
    exact bkX0_value_21 (bkX0_value_22 ⟨_, rfl, by rw [if_neg (by omega)], rfl⟩)
  · rw [fa_lt] at h
    obtain ⟨k, rfl, hk⟩ := nI_rng (x := x) (by omega)
    have hk31 := (fb_rng (nI k)).2
    refine bkX0_value_4 (fun h7 => ?_) (fun h7 => ?_) <;> rw [h1, nI_leI (by omega) (by omega)] at h7
    · exact bkX0_value_21 (bkX0_value_22 ⟨_, rfl, by rw [if_neg (by omega)], rfl⟩)
    · refine bkX0_value_12 (vp_lt (by omega) (by omega)) (bkX0_value_22 ⟨_, rfl, ?_, rfl⟩)
      rw [if_pos (by omega), nI_clamp (by omega), nI_tn (by omega)]
      exact h6 k (by omega)
abbrev bt_T : Type := Nat × Nat × Nat × Nat × (Nat → Int32)
def b_n (b : Bool) : Nat := if b then 1 else 0
/-- whole, lost, pending, what is gathered, the bytes -/
def b_st (hs up hd : Nat → Bool) (i : Nat) (q : bt_T) : bt_T := if hs i = true then (q.1, q.2.1 + q.2.2.1, 0, 0, q.2.2.2.2) else if up i = true then (if q.2.2.1 + 1 = 8 then (q.1 + 1, q.2.1, 0, 0, upd q.2.2.2.2 q.1 (nI (2 * q.2.2.2.1 + b_n (hd i)))) else (q.1, q.2.1, q.2.2.1 + 1, 2 * q.2.2.2.1 + b_n (hd i), q.2.2.2.2)) else q
def s_bt (hs up hd : Nat → Bool) : Nat → bt_T
  | 0 => (0, 0, 0, 0, fun _ => 0)
  | i + 1 => b_st hs up hd i (s_bt hs up hd i)
theorem s_bt_s (hs up hd : Nat → Bool) (i : Nat) : s_bt hs up hd (i + 1) = b_st hs up hd i (s_bt hs up hd i) := rfl
theorem up_half (t : Nat → Nat) (c : Nat) : ∀ i, 2 * fb_ct (t_up t c) i ≤ i ∧ (0 < i → t_hi t c (i - 1) = false → 2 * fb_ct (t_up t c) i ≤ i - 1) := by
  intro i
  induction i with
  | zero => exact ⟨Nat.le_refl _, fun h => absurd h (by omega)⟩
  | succ i ih =>
    rw [fb_ct_succ]
    cases hu : t_up t c i
    · simp only [Bool.false_eq_true, if_false, Nat.add_zero]
      refine ⟨by omega, fun _ _ => by omega⟩
    · simp only [if_true]
      have h3 : 0 < i ∧ t_hi t c i = true ∧ t_hi t c (i - 1) = false := by
        simp only [t_up, Bool.and_eq_true, decide_eq_true_eq, Bool.not_eq_true'] at hu
        exact ⟨hu.1.1, hu.1.2, hu.2⟩
      have := ih.2 h3.1 h3.2.2
      refine ⟨by omega, fun _ h => ?_⟩
      rw [Nat.add_sub_cancel, h3.2.1] at h
      exact absurd h (by decide)
theorem s_bt_ok (hs hd : Nat → Bool) : ∀ i, (s_bt hs (t_up t c) hd i).2.2.1 < 8 ∧ (s_bt hs (t_up t c) hd i).2.2.2.1 < 2 ^ (s_bt hs (t_up t c) hd i).2.2.1 ∧ 8 * (s_bt hs (t_up t c) hd i).1 + (s_bt hs (t_up t c) hd i).2.2.1 ≤ fb_ct (t_up t c) i := by
  intro i
  induction i with
  | zero => exact ⟨show (0 : Nat) < 8 by omega, show (0 : Nat) < 2 ^ 0 by decide, show 8 * 0 + 0 ≤ 0 by omega⟩
  | succ i ih =>
    rw [s_bt_s, fb_ct_succ]
    generalize s_bt hs (t_up t c) hd i = q at *
    obtain ⟨W, L, P, v, r⟩ := q
    obtain ⟨h1, h2, h3⟩ := ih
    simp only at h1 h2 h3
    unfold b_st
    by_cases a1 : hs i = true
    · simp only [if_pos a1]; exact ⟨by omega, by omega, by omega⟩
    · simp only [if_neg a1]
      by_cases a2 : t_up t c i = true
      · simp only [if_pos a2]
        by_cases a3 : P + 1 = 8
        · simp only [if_pos a3]; exact ⟨by omega, by omega, by omega⟩
        · simp only [if_neg a3]
          refine ⟨by omega, ?_, by omega⟩
          rw [Nat.pow_succ]
          have : b_n (hd i) ≤ 1 := by unfold b_n; split <;> omega
          omega
      · simp only [if_neg a2]; exact ⟨h1, h2, by omega⟩
theorem s_bt_25 (hs hd : Nat → Bool) {i : Nat} (hi : i ≤ 400) : (s_bt hs (t_up t c) hd i).1 ≤ 25 := by
  have h1 := (s_bt_ok (t := t) (c := c) hs hd i).2.2
  have h2 := (up_half t c i).1
  omega
theorem b_sh (g : Nat) (hg : g < 256) (b : Bool) : ((nI g <<< (1 &&& 31)) &&& 255) ||| bi_ b = nI ((2 * g) % 256 + b_n b) := by
  rw [pk_shlN (n := g) (1 &&& 31) 1 (by decide) (by omega), pk_andN (by omega) 8 rfl]
  rw [show (2 : Nat) ^ 8 = 256 from rfl, Nat.pow_one, Nat.mul_comm g 2, show 2 * g % 256 = 2 ^ 1 * (g % 128) by omega]
  cases b
  · rw [bi_F, show (0 : Int32) = nI 0 from rfl]; exact fa_or_sum (a := 0) (k := 1) _ (by omega)
  · rw [bi_t, show (1 : Int32) = nI 1 from rfl]; exact fa_or_sum (a := 1) (k := 1) _ (by omega)
theorem g_step {g P v : Nat} (b : Bool) (hP : P < 8) (hg : g % 2 ^ P = v) : (2 * g % 256 + b_n b) % 2 ^ (P + 1) = 2 * v + b_n b := by
  have hb : b_n b ≤ 1 := by unfold b_n; split <;> omega
  rcases (show P = 0 ∨ P = 1 ∨ P = 2 ∨ P = 3 ∨ P = 4 ∨ P = 5 ∨ P = 6 ∨ P = 7 by omega) with rfl | rfl | rfl | rfl | rfl | rfl | rfl | rfl <;> simp only [Nat.reducePow, Nat.reduceAdd] at * <;> omega
theorem lX0_gather {S0 : hs_T} {Q : Option av_T → hs_T → Prop} (hT : TrX S0 0 n t) (hc : c < 8) (he : e < 8) (hs : s < 8)
    (hQ : ∀ S', Kp S0 S' → f0 S' (s_bt (t_hi t s) (t_up t c) (t_hi t e) n).1 (s_bt (t_hi t s) (t_up t c) (t_hi t e) n).1 0 (s_bt (t_hi t s) (t_up t c) (t_hi t e) n).2.1 (s_bt (t_hi t s) (t_up t c) (t_hi t e) n).2.2.1 (s_bt (t_hi t s) (t_up t c) (t_hi t e) n).2.2.2.2 → Q none S') :
    ∀ (m i g : Nat) (S : hs_T), i + m = n → g < 256 → g % 2 ^ (s_bt (t_hi t s) (t_up t c) (t_hi t e) i).2.2.1 = (s_bt (t_hi t s) (t_up t c) (t_hi t e) i).2.2.2.1 → Kp S0 S → f0 S (s_bt (t_hi t s) (t_up t c) (t_hi t e) i).1 (s_bt (t_hi t s) (t_up t c) (t_hi t e) i).1 0 (s_bt (t_hi t s) (t_up t c) (t_hi t e) i).2.1 (s_bt (t_hi t s) (t_up t c) (t_hi t e) i).2.2.1 (s_bt (t_hi t s) (t_up t c) (t_hi t e) i).2.2.2.2 → Ev (d + 1) mX0_gather 10 [some (vR 0 0), some (vR 8 0), some (vI (nI c)), some (vI (nI e)), some (vI (nI s)), some (vI (nI g)), some (vI (nI i))] [] S Q := by
  have h2 := hT.2.1
  intro m
  induction m with
  | zero =>
    intro i g S hi hg hgv hk hf
    have h1 := (TrX_Kp hk (by omega) hT).1
    have ei : i = n := by omega
    subst ei
    exact bkX0_gather_10 (by omega) (fun _ => bkX0_gather_133 (hQ S hk hf)) (fun h => absurd (by rw [h1]; exact nI_le (by omega) (by omega)) h)
  | succ m ih =>
    intro i g S hi hg hgv hk hf
    have hT' := TrX_Kp hk (by omega) hT
    have h1 := hT'.1
    have hok := s_bt_ok (t := t) (c := c) (t_hi t s) (t_hi t e) i
    have h25 := s_bt_25 (t := t) (c := c) (t_hi t s) (t_hi t e) (i := i + 1) (by omega)
    have ih := fun g S => ih (i + 1) g S (by omega)
    rw [s_bt_s] at ih h25
    generalize s_bt (t_hi t s) (t_up t c) (t_hi t e) i = q at *
    obtain ⟨W, L, P, v, r⟩ := q
    obtain ⟨o1, o2, o3⟩ := hok
    simp only at hgv hf o1 o2 o3
    unfold b_st at ih h25
    refine bkX0_gather_10 (by omega) (fun h => absurd h (by rw [h1]; exact nl_ (by omega) (by omega))) (fun _ => ?_)
    refine bkX0_gather_19 (by omega) (kX8_high hT' (by omega) hs (by omega)) ?_
    rintro _ S ⟨rfl, rfl⟩
    have e4 := hf.2.2.2.1
    have e5 := hf.2.2.2.2.1
    cases a1 : t_hi t s i
    · simp only [a1, Bool.false_eq_true, if_false] at ih h25
      refine bkX0_gather_27 (fun _ => ?_) (fun h => absurd rfl h)
      refine bkX0_gather_51 (by omega) (kX8_rises hT' (by omega) hc (by omega)) ?_
      rintro _ S ⟨rfl, rfl⟩
      cases a2 : t_up t c i
      · simp only [a2, Bool.false_eq_true, if_false] at ih
        refine bkX0_gather_58 (fun _ => ?_) (fun h => absurd rfl h)
        refine bkX0_gather_97 (fun _ => ?_) (fun h => absurd h (by rw [e5]; exact fun z => absurd ((nI_eq (b := 8) (by omega) (by omega)).mp z) (by omega)))
        refine bkX0_gather_127 ?_
        rw [nI_1]
        exact ih g S hg hgv hk hf
      · simp only [a2, if_true] at ih h25
        refine bkX0_gather_58 (fun h => absurd h (by decide)) (fun _ => ?_)
        refine bkX0_gather_61 (by omega) (kX8_high hT' (by omega) he (by omega)) ?_
        rintro _ S ⟨rfl, rfl⟩
        have key : Ev (d + 1) mX0_gather 84 [some (vR 0 0), some (vR 8 0), some (vI (nI c)), some (vI (nI e)), some (vI (nI s)), some (vI (nI g)), some (vI (nI i))] [vI (bi_ (t_hi t e i)), vI ((nI g <<< (1 &&& 31)) &&& 255)] S Q := by
          refine bkX0_gather_84 ?_
          rw [b_sh g hg]
          have hb1 : b_n (t_hi t e i) ≤ 1 := by unfold b_n; split <;> omega
          have hg' := g_step (t_hi t e i) o1 hgv
          have hgl : 2 * g % 256 + b_n (t_hi t e i) < 256 := by omega
          generalize 2 * g % 256 + b_n (t_hi t e i) = g' at *
          have hf1 : f0 (sk_ S 0 0 (upd (S.1 0 0) 5 (S.1 0 0 5 + 1))) W W 0 L (P + 1) r := f0_5 hf (by rw [e5]; exact nI_1 P)
          have hk1 : Kp S0 (sk_ S 0 0 (upd (S.1 0 0) 5 (S.1 0 0 5 + 1))) := Kp_n hk (fun f => ess_0 0 f)
          have e5' := hf1.2.2.2.2.1
          refine bkX0_gather_97 (fun h => ?_) (fun h => ?_) <;> rw [e5'] at h
          · have hP : ¬ P + 1 = 8 := fun z => h (by rw [z]; rfl)
            simp only [if_neg hP] at ih
            refine bkX0_gather_127 ?_
            rw [nI_1]
            exact ih g' _ hgl hg' hk1 hf1
          · have hP : P + 1 = 8 := (nI_eq (b := 8) (by omega) (by omega)).mp h
            simp only [if_pos hP] at ih h25
            refine bkX0_gather_106 (kX0_add hf1 (by omega)) ?_
            rintro S2 ⟨hk2, hf2⟩
            refine bkX0_gather_112 (bkX0_gather_127 ?_)
            rw [nI_1]
            have hgv' : g' = 2 * v + b_n (t_hi t e i) := by
              rw [hP, Nat.mod_eq_of_lt (by omega)] at hg'; exact hg'
            rw [← hgv'] at ih
            refine ih g' _ hgl (by omega) (Kp_n (Kp_n (Kp_tr hk1 hk2) (fun f => ess_0 0 f)) (fun f => ess_0 0 f)) ?_
            exact f0_5 (f0_2 hf2 (by rw [hf2.2.1]; exact nI_1 W)) rfl
        cases a3 : t_hi t e i
        · rw [a3] at key
          exact bkX0_gather_76 (fun _ => bkX0_gather_83 key) (fun h => absurd rfl h)
        · rw [a3] at key
          exact bkX0_gather_76 (fun h => absurd h (by decide)) (fun _ => bkX0_gather_79 key)
    · simp only [a1, if_true] at ih
      refine bkX0_gather_27 (fun h => absurd h (by decide)) (fun _ => bkX0_gather_30 ?_)
      have hf1 : f0 (sk_ S 0 0 (upd (S.1 0 0) 4 (S.1 0 0 4 + S.1 0 0 5))) W W 0 (L + P) P r := f0_4 hf (by rw [e4, e5]; exact nI_add L P)
      have hf2 := f0_5 (v := 0) (m := 0) hf1 rfl
      refine bkX0_gather_97 (fun _ => ?_) (fun h => absurd h (by rw [hf2.2.2.2.2.1]; decide))
      refine bkX0_gather_127 ?_
      rw [nI_1]
      exact ih g _ hg (by omega) (Kp_n (Kp_n hk (fun f => ess_0 0 f)) (fun f => ess_0 0 f)) hf2
theorem kX0_gather (hT : TrX S 0 n t) (hc : c < 8) (he : e < 8) (hs : s < 8) : Cv (d + 1) mX0_gather [vR 0 0, vR 8 0, vI (nI c), vI (nI e), vI (nI s)] S (fun S' => Kp S S' ∧ f0 S' (s_bt (t_hi t s) (t_up t c) (t_hi t e) n).1 (s_bt (t_hi t s) (t_up t c) (t_hi t e) n).1 0 (s_bt (t_hi t s) (t_up t c) (t_hi t e) n).2.1 (s_bt (t_hi t s) (t_up t c) (t_hi t e) n).2.2.1 (s_bt (t_hi t s) (t_up t c) (t_hi t e) n).2.2.2.2) := by
  refine cxX0_gather ?_
  refine bkX0_gather_0 (kX0_clear (row := fun _ => 0)) ?_
  rintro S1 ⟨hk, hf⟩
  refine bkX0_gather_4 ?_
  exact lX0_gather (S0 := S) hT hc he hs (fun S' h1 h2 => ⟨rfl, h1, h2⟩) n 0 0 S1 (by omega) (by omega) (by rfl) hk hf
def sp_bw (z : Int32) (q : bt_T) : Int32 := if z = 0 then nI q.1 else if z = 1 then nI q.2.1 else if z = 2 then nI q.2.2.1 else if 10 ≤ z then fv (z - 10) q.2.2.2.2 q.1 else -1
def sp_bits (n : Nat) (t : Nat → Nat) (x y u z : Int32) : Int32 := if inR x 0 7 && inR y 0 7 && inR u 0 7 then sp_bw z (s_bt (t_hi t u.toInt.toNat) (t_up t x.toInt.toNat) (t_hi t y.toInt.toNat) n) else -1
theorem kX10_bits {x y u z : Int32} (hT : TrX S 0 n t) : Ci (d + 2) mX10_bits [vR 10 0, vI x, vI y, vI u, vI z] S (fun v S' => v = sp_bits n t x y u z ∧ Kp S S') := by
  have h2 := hT.2.1
  refine cxX10_bits ?_
  refine bkX10_bits_0 kX10_isWire ?_
  rintro _ S ⟨rfl, rfl⟩
  cases hx : inR x 0 7
  · exact bkX10_bits_4 (fun _ => bkX10_bits_21 ⟨_, rfl, by simp [sp_bits, hx], Kp_rf _⟩) (fun h => absurd rfl h)
  refine bkX10_bits_4 (fun h => absurd h (by decide)) (fun _ => ?_)
  refine bkX10_bits_7 kX10_isWire ?_
  rintro _ S ⟨rfl, rfl⟩
  cases hy : inR y 0 7
  · exact bkX10_bits_11 (fun _ => bkX10_bits_21 ⟨_, rfl, by simp [sp_bits, hy], Kp_rf _⟩) (fun h => absurd rfl h)
  refine bkX10_bits_11 (fun h => absurd h (by decide)) (fun _ => ?_)
  refine bkX10_bits_14 kX10_isWire ?_
  rintro _ S ⟨rfl, rfl⟩
  cases hu : inR u 0 7
  · exact bkX10_bits_18 (fun h => absurd rfl h) (fun _ => bkX10_bits_21 ⟨_, rfl, by simp [sp_bits, hu], Kp_rf _⟩)
  refine bkX10_bits_18 (fun _ => ?_) (fun h => absurd h (by decide))
  rw [sp_bits, hx, hy, hu]
  obtain ⟨c, hc, rfl⟩ := inR_get hx
  obtain ⟨e, he, rfl⟩ := inR_get hy
  obtain ⟨s, hs, rfl⟩ := inR_get hu
  rw [nI_tn (by omega), nI_tn (by omega), nI_tn (by omega)]
  refine bkX10_bits_23 (kX0_gather hT (by omega) (by omega) (by omega)) ?_
  rintro S' ⟨hk, hf⟩
  have h25 := s_bt_25 (t := t) (c := c) (t_hi t s) (t_hi t e) h2
  generalize s_bt (t_hi t s) (t_up t c) (t_hi t e) n = q at *
  simp only [Bool.and_self, if_true]
  unfold sp_bw
  refine bkX10_bits_37 (fun a => ?_) (fun a => ?_) (fun a => ?_) (fun a0 a1 a2 => ?_)
  · exact bkX10_bits_64 ⟨_, rfl, by rw [hf.2.1, if_pos a], hk⟩
  · exact bkX10_bits_72 ⟨_, rfl, by rw [hf.2.2.2.1, if_neg (by rw [a]; decide), if_pos a], hk⟩
  · exact bkX10_bits_80 ⟨_, rfl, by rw [hf.2.2.2.2.1, if_neg (by rw [a]; decide), if_neg (by rw [a]; decide), if_pos a], hk⟩
  · rw [if_neg a0, if_neg a1, if_neg a2]
    refine bkX10_bits_88 (fun a3 => ?_) (fun a3 => bkX10_bits_95 (bkX10_bits_111 ⟨_, rfl, by rw [if_neg a3], hk⟩))
    refine bkX10_bits_99 (kX0_value hf h25) ?_
    rintro _ S ⟨rfl, rfl⟩
    exact bkX10_bits_111 ⟨_, rfl, by rw [if_pos a3], hk⟩
theorem lM_bits {z : Int32} {Q : Option av_T → hs_T → Prop} (hT : TrM S n t) (hc : c < 8) (he : e < 8) (hs : s < 8) (hz : z = 0 ∨ z = 1 ∨ z = 2 ∨ 10 ≤ z)
    (hQ : Q (some (vI (sp_bw z (s_bt (t_hi t s) (t_up t c) (t_hi t e) n)))) S) :
    ∀ (m i : Nat), i + m = n → Ev (d + 2) mX11_bits 61 [some (vR 11 0), some (vI (nI c)), some (vI (nI e)), some (vI (nI s)), some (vI z), some (vI (nI (s_bt (t_hi t s) (t_up t c) (t_hi t e) i).1)), some (vI (nI (s_bt (t_hi t s) (t_up t c) (t_hi t e) i).2.1)), some (vI (nI (s_bt (t_hi t s) (t_up t c) (t_hi t e) i).2.2.1)), some (vI (nI (s_bt (t_hi t s) (t_up t c) (t_hi t e) i).2.2.2.1)), some (vI (fv (z - 10) (s_bt (t_hi t s) (t_up t c) (t_hi t e) i).2.2.2.2 (s_bt (t_hi t s) (t_up t c) (t_hi t e) i).1)), some (vI (nI i))] [] S Q := by
  have h1 := hT.1
  have h2 := hT.2.1
  intro m
  induction m with
  | zero =>
    intro i hi
    have ei : i = n := by omega
    subst ei
    refine bkX11_bits_61 (fun _ => ?_) (fun h => absurd (by rw [h1]; exact nI_le (by omega) (by omega)) h)
    unfold sp_bw at hQ
    refine bkX11_bits_167 (fun a0 => ?_) (fun a => bkX11_bits_172 (bkX11_bits_201 (by rw [if_pos a] at hQ; exact hQ)))
    refine bkX11_bits_177 (fun a1 => ?_) (fun a => bkX11_bits_183 (bkX11_bits_201 (by rw [if_neg a0, if_pos a] at hQ; exact hQ)))
    refine bkX11_bits_188 (fun a2 => ?_) (fun a => bkX11_bits_194 (bkX11_bits_201 (by rw [if_neg a0, if_neg a1, if_pos a] at hQ; exact hQ)))
    have a3 : 10 ≤ z := by
      rcases hz with h | h | h | h
      · exact absurd h a0
      · exact absurd h a1
      · exact absurd h a2
      · exact h
    exact bkX11_bits_199 (bkX11_bits_201 (by rw [if_neg a0, if_neg a1, if_neg a2, if_pos a3] at hQ; exact hQ))
  | succ m ih =>
    intro i hi
    have hok := s_bt_ok (t := t) (c := c) (t_hi t s) (t_hi t e) i
    have h25 := s_bt_25 (t := t) (c := c) (t_hi t s) (t_hi t e) (i := i) (by omega)
    have ih := ih (i + 1) (by omega)
    rw [s_bt_s] at ih
    generalize s_bt (t_hi t s) (t_up t c) (t_hi t e) i = q at *
    obtain ⟨W, L, P, v, r⟩ := q
    obtain ⟨o1, o2, o3⟩ := hok
    simp only at o1 o2 o3 h25 ⊢
    unfold b_st at ih
    refine bkX11_bits_61 (fun h => absurd h (by rw [h1]; exact nl_ (by omega) (by omega))) (fun _ => ?_)
    refine bkX11_bits_70 (kM_isHigh hT hs (by omega)) ?_
    rintro _ S ⟨rfl, rfl⟩
    cases a1 : t_hi t s i
    · simp only [a1, Bool.false_eq_true, if_false] at ih
      refine bkX11_bits_77 (fun _ => ?_) (fun h => absurd rfl h)
      refine bkX11_bits_96 (kM_rises hT hc (by omega)) ?_
      rintro _ S ⟨rfl, rfl⟩
      cases a2 : t_up t c i
      · simp only [a2, Bool.false_eq_true, if_false] at ih
        refine bkX11_bits_103 (fun _ => bkX11_bits_161 ?_) (fun h => absurd rfl h)
        rw [nI_1]; exact ih
      · simp only [a2, if_true] at ih
        refine bkX11_bits_103 (fun h => absurd h (by decide)) (fun _ => ?_)
        refine bkX11_bits_106 (kM_isHigh hT he (by omega)) ?_
        rintro _ S ⟨rfl, rfl⟩
        refine bkX11_bits_117 kM_flag ?_
        rintro _ S ⟨rfl, rfl⟩
        have ev : 2 * nI v + bi_ (t_hi t e i) = nI (2 * v + b_n (t_hi t e i)) := by
          rw [show (2 : Int32) = nI 2 from rfl, pk_mul, bi_nI, nI_add]; rfl
        refine bkX11_bits_120 ?_ ?_ <;> rw [ev, nI_1] <;> intro h
        · have hP : ¬ P + 1 = 8 := fun z => h (by rw [z]; rfl)
          simp only [if_neg hP] at ih
          refine bkX11_bits_161 ?_
          rw [nI_1]; exact ih
        · have hP : P + 1 = 8 := (nI_eq (b := 8) (by omega) (by omega)).mp h
          simp only [if_pos hP] at ih
          rw [fv_s (by omega)] at ih
          refine bkX11_bits_133 (fun h3 => ?_) (fun h3 => ?_)
          · rw [if_neg h3] at ih
            refine bkX11_bits_148 (bkX11_bits_150 (bkX11_bits_161 ?_))
            rw [nI_1, nI_1]; exact ih
          · rw [if_pos h3] at ih
            refine bkX11_bits_143 (bkX11_bits_150 (bkX11_bits_161 ?_))
            rw [nI_1, nI_1]; exact ih
    · simp only [a1, if_true] at ih
      refine bkX11_bits_77 (fun h => absurd h (by decide)) (fun _ => bkX11_bits_80 (bkX11_bits_161 ?_))
      rw [nI_1, nI_add]
      exact ih
theorem kM_bits {x y u z : Int32} (hT : TrM S n t) : Ci (d + 2) mX11_bits [vR 11 0, vI x, vI y, vI u, vI z] S (fun v S' => v = sp_bits n t x y u z ∧ Kp S S') := by
  refine cxX11_bits ?_
  refine bkX11_bits_0 kM_isWire ?_
  rintro _ S ⟨rfl, rfl⟩
  cases hx : inR x 0 7
  · exact bkX11_bits_4 (fun _ => bkX11_bits_41 ⟨_, rfl, by simp [sp_bits, hx], Kp_rf _⟩) (fun h => absurd rfl h)
  refine bkX11_bits_4 (fun h => absurd h (by decide)) (fun _ => ?_)
  refine bkX11_bits_7 kM_isWire ?_
  rintro _ S ⟨rfl, rfl⟩
  cases hy : inR y 0 7
  · exact bkX11_bits_11 (fun _ => bkX11_bits_41 ⟨_, rfl, by simp [sp_bits, hy], Kp_rf _⟩) (fun h => absurd rfl h)
  refine bkX11_bits_11 (fun h => absurd h (by decide)) (fun _ => ?_)
  refine bkX11_bits_14 kM_isWire ?_
  rintro _ S ⟨rfl, rfl⟩
  cases hu : inR u 0 7
  · exact bkX11_bits_18 (fun _ => bkX11_bits_41 ⟨_, rfl, by simp [sp_bits, hu], Kp_rf _⟩) (fun h => absurd rfl h)
  refine bkX11_bits_18 (fun h => absurd h (by decide)) (fun _ => ?_)
  refine bkX11_bits_21 (kM_inI (lo := 0) (hi := 2) rfl rfl) ?_
  rintro _ S ⟨rfl, rfl⟩
  rw [sp_bits, hx, hy, hu]
  obtain ⟨c, hc, rfl⟩ := inR_get hx
  obtain ⟨e, he, rfl⟩ := inR_get hy
  obtain ⟨s, hs, rfl⟩ := inR_get hu
  rw [nI_tn (by omega), nI_tn (by omega), nI_tn (by omega)]
  simp only [Bool.and_self, if_true]
  have go : (z = 0 ∨ z = 1 ∨ z = 2 ∨ 10 ≤ z) → Ev (d + 2) mX11_bits 43 [some (vR 11 0), some (vI (nI c)), some (vI (nI e)), some (vI (nI s)), some (vI z), none, none, none, none, none, none] [] S (fun r S' => ∃ v, r = some (vI v) ∧ v = sp_bw z (s_bt (t_hi t s) (t_up t c) (t_hi t e) n) ∧ Kp S S') := by
    intro hz
    refine bkX11_bits_43 ?_
    have := lM_bits (d := d) (S := S) (Q := fun r S' => ∃ v, r = some (vI v) ∧ v = sp_bw z (s_bt (t_hi t s) (t_up t c) (t_hi t e) n) ∧ Kp S S') hT (show c < 8 by omega) (show e < 8 by omega) (show s < 8 by omega) hz ⟨_, rfl, rfl, Kp_rf _⟩ n 0 (by omega)
    have e0 : fv (z - 10) (s_bt (t_hi t s) (t_up t c) (t_hi t e) 0).2.2.2.2 (s_bt (t_hi t s) (t_up t c) (t_hi t e) 0).1 = -1 := by
      unfold fv; rw [if_neg]; show ¬ (0 ≤ (z - 10).toInt ∧ (z - 10).toInt < ((0 : Nat) : Int)); omega
    rw [e0] at this
    exact this
  cases hz : inR z 0 2
  · refine bkX11_bits_31 (fun h => absurd rfl h) (fun _ => ?_)
    refine bkX11_bits_34 (fun h => go (Or.inr (Or.inr (Or.inr h)))) (fun h => bkX11_bits_41 ⟨_, rfl, ?_, Kp_rf _⟩)
    have nz : ∀ a : Nat, a ≤ 2 → ¬ z = nI a := by
      intro a ha e
      rw [e, inR_nI (by omega)] at hz
      exact absurd hz (by rw [decide_eq_true (by omega)]; decide)
    rw [sp_bw, if_neg (show ¬ z = 0 from nz 0 (by omega)), if_neg (show ¬ z = 1 from nz 1 (by omega)), if_neg (show ¬ z = 2 from nz 2 (by omega)), if_neg h]
  · refine bkX11_bits_31 (fun _ => go ?_) (fun h => absurd h (by decide))
    obtain ⟨k, hk, rfl⟩ := inR_get hz
    rcases (show k = 0 ∨ k = 1 ∨ k = 2 by omega) with rfl | rfl | rfl
    · exact Or.inl rfl
    · exact Or.inr (Or.inl rfl)
    · exact Or.inr (Or.inr (Or.inl rfl))
end BI
