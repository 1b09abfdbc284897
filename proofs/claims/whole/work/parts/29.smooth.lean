/-! ===== smooth ===== -/
/-- all cells that matter but one row -/
def Kq (k0 j0 : Nat) (S S' : hs_T) : Prop := S'.2.2 = S.2.2 ∧ ∀ k j f, ess k j f = true → ¬ (k = k0 ∧ j = j0) → S'.1 k j f = S.1 k j f
theorem Kq_rf (k0 j0 : Nat) (S : hs_T) : Kq k0 j0 S S := ⟨rfl, fun _ _ _ _ _ => rfl⟩
theorem Kq_Kp {k0 j0 : Nat} {S S' : hs_T} (h : Kp S S') : Kq k0 j0 S S' := ⟨h.1, fun k j f e _ => h.2 k j f e⟩
theorem Kq_tr {k0 j0 : Nat} {S S' S'' : hs_T} (h : Kq k0 j0 S S') (h2 : Kq k0 j0 S' S'') : Kq k0 j0 S S'' := ⟨h2.1.trans h.1, fun k j f e z => (h2.2 k j f e z).trans (h.2 k j f e z)⟩
theorem Kq_sk {k0 j0 : Nat} {S : hs_T} {g : Nat → Int32} : Kq k0 j0 S (sk_ S k0 j0 g) := ⟨rfl, fun k j f _ z => by rw [sk_ne _ _ z]⟩
def s_flp (w : Nat) (u : Nat → Nat) (a b : Nat) : Nat → Nat := fun k => if a ≤ k ∧ k < b then u k ^^^ 2 ^ w else u k
def s_sm (ch : Nat → Bool) (w N : Nat) : Nat → Nat → Nat → (Nat → Nat) → (Nat → Nat)
  | 0, _, _, u => u
  | m + 1, i, bg, u => if ch i = true then (if 0 < bg ∧ i - bg < N then s_sm ch w N m (i + 1) 0 (s_flp w u bg i) else s_sm ch w N m (i + 1) i u) else s_sm ch w N m (i + 1) bg u
theorem s_sm_s (ch : Nat → Bool) (w N m i bg : Nat) (u : Nat → Nat) : s_sm ch w N (m + 1) i bg u = if ch i = true then (if 0 < bg ∧ i - bg < N then s_sm ch w N m (i + 1) 0 (s_flp w u bg i) else s_sm ch w N m (i + 1) i u) else s_sm ch w N m (i + 1) bg u := rfl
theorem s_sm_jump (ch : Nat → Bool) (w N : Nat) : ∀ (m i bg : Nat) (u : Nat → Nat), s_sm ch w N m i bg u = if s_nx ch m i < i + m then (if 0 < bg ∧ s_nx ch m i - bg < N then s_sm ch w N (i + m - (s_nx ch m i + 1)) (s_nx ch m i + 1) 0 (s_flp w u bg (s_nx ch m i)) else s_sm ch w N (i + m - (s_nx ch m i + 1)) (s_nx ch m i + 1) (s_nx ch m i) u) else u := by
  intro m
  induction m with
  | zero => intro i bg u; rw [if_neg (by unfold s_nx; omega)]; rfl
  | succ m ih =>
    intro i bg u
    rw [s_nx_s, s_sm_s]
    by_cases hc : ch i = true
    · simp only [if_pos hc]
      rw [if_pos (show i < i + (m + 1) by omega), show i + (m + 1) - (i + 1) = m by omega]
    · rw [if_neg hc, if_neg hc, ih, show i + 1 + m = i + (m + 1) by omega]
theorem s_flp_256 {w : Nat} {u : Nat → Nat} {a b : Nat} (hw : w < 8) {k : Nat} (h : u k < 256) : s_flp w u a b k < 256 := by
  unfold s_flp; split
  · exact Nat.xor_lt_two_pow (n := 8) h (Nat.pow_lt_pow_right (by omega) hw)
  · exact h
/-- one wire -/
def s_sw (n N : Nat) (w : Nat) (t : Nat → Nat) : Nat → Nat := s_sm (t_ch t w) w N (n - 1) 1 0 t
/-- the wires up to k -/
def s_S (n N : Nat) (t : Nat → Nat) : Nat → (Nat → Nat)
  | 0 => t
  | k + 1 => s_sw n N k (s_S n N t k)
def s_dc (n : Nat) (t u : Nat → Nat) : Nat := fb_ct (fun i => !decide (u i = t i)) n
def sp_smooth (n : Nat) (t : Nat → Nat) (x : Int32) : Int32 := if inR x 1 400 then nI (s_dc n t (s_S n x.toInt.toNat t 8)) else -1
theorem e_1w {w : Nat} (hw : w < 8) : (1 : Int32) <<< (nI w &&& 31) = nI (2 ^ w) := by
  rcases (show w = 0 ∨ w = 1 ∨ w = 2 ∨ w = 3 ∨ w = 4 ∨ w = 5 ∨ w = 6 ∨ w = 7 by omega) with rfl | rfl | rfl | rfl | rfl | rfl | rfl | rfl <;> decide
section SM
variable {d : Nat} {S : hs_T} {n w i N : Nat} {t u : Nat → Nat}
def Sx (S : hs_T) (n : Nat) (u : Nat → Nat) (S' : hs_T) : Prop := ∃ g, S' = sk_ S 900 0 g ∧ ∀ i, i < n → g i = nI (u i) ∧ u i < 256
theorem Sx_T {S' : hs_T} {j : Nat} (h1 : S.1 8 0 1 = nI n) (hn : n ≤ 400) (h : Sx S n u S') : TrX S' 0 n u := by
  obtain ⟨g, rfl, hg⟩ := h
  exact ⟨by rw [sk_ne _ _ (by omega)]; exact h1, hn, fun i hi => by rw [sk_at]; exact hg i hi⟩
theorem lX8_flip {a b : Nat} (h1 : S.1 8 0 1 = nI n) (hn : n ≤ 400) (hw : w < 8) (hb : b ≤ n) :
    ∀ (m k : Nat) (S' : hs_T), k + m = b → a ≤ k → Sx S n (s_flp w u a k) S' → Ev (d + 2) mX8_flip 3 [some (vR 8 0), some (vI (nI w)), some (vI (nI a)), some (vI (nI b)), some (vI (nI k))] [] S' (fun r S' => r = none ∧ Sx S n (s_flp w u a b) S') := by
  intro m
  induction m with
  | zero =>
    intro k S' hk ha hS
    have e : k = b := by omega
    subst e
    exact bkX8_flip_3 (fun _ => bkX8_flip_31 ⟨rfl, hS⟩) (fun h => absurd (nI_le (Nat.le_refl _) (by omega)) h)
  | succ m ih =>
    intro k S' hk ha hS
    have hT := Sx_T (j := 0) h1 hn hS
    refine bkX8_flip_3 (fun h => absurd h (nl_ (by omega) (by omega))) (fun _ => ?_)
    refine bkX8_flip_9 (by omega) (kX8_sample hT (by omega) (by omega)) ?_
    rintro _ S' ⟨rfl, rfl⟩
    refine bkX8_flip_18 (by omega) (kX8_replace hT.1 hn (by omega) (by omega)) ?_
    rintro _ rfl
    refine bkX8_flip_25 ?_
    rw [nI_1]
    obtain ⟨g, rfl, hg⟩ := hS
    refine ih (k + 1) _ (by omega) (by omega) ⟨upd g k (nI (s_flp w u a k k) ^^^ (1 <<< (nI w &&& 31))), by rw [sk_at, sk_sk], fun i hi => ?_⟩
    have hgi := hg i hi
    by_cases e : i = k
    · subst e
      have e0 : s_flp w u a i i = u i := by unfold s_flp; rw [if_neg (by omega)]
      have e1 : s_flp w u a (i + 1) i = u i ^^^ 2 ^ w := by unfold s_flp; rw [if_pos (by omega)]
      rw [pk_us, e0, e1, e_1w hw, fb_xorI]
      rw [e0] at hgi
      exact ⟨rfl, Nat.xor_lt_two_pow (n := 8) hgi.2 (Nat.pow_lt_pow_right (by omega) hw)⟩
    · have e0 : s_flp w u a (k + 1) i = s_flp w u a k i := by
        unfold s_flp
        by_cases z : a ≤ i ∧ i < k
        · rw [if_pos z, if_pos (by omega)]
        · rw [if_neg z, if_neg (by omega)]
      rw [pk_un e, e0]; exact hgi
theorem kX8_flip {S0 : hs_T} {a b : Nat} (h1 : S0.1 8 0 1 = nI n) (hn : n ≤ 400) (hw : w < 8) (hab : a ≤ b) (hb : b ≤ n) (hS : Sx S0 n u S) : Cv (d + 2) mX8_flip [vR 8 0, vI (nI w), vI (nI a), vI (nI b)] S (fun S' => Sx S0 n (s_flp w u a b) S') := by
  refine cxX8_flip ?_
  refine bkX8_flip_0 (lX8_flip h1 hn hw hb (b - a) a S (by omega) (Nat.le_refl _) ?_)
  have e : s_flp w u a a = u := funext fun k => if_neg (by omega)
  rw [e]; exact hS
theorem lX8_smoothWire (h1 : S.1 8 0 1 = nI n) (hn : n ≤ 400) (hw : w < 8) (hN : N ≤ 400) :
    ∀ (m i bg : Nat) (u : Nat → Nat) (S' : hs_T), i + m = n → bg < i → (∀ k, i - 1 ≤ k → u k = t k) → Sx S n u S' → Ev (d + 3) mX8_smoothWire 5 [some (vR 8 0), some (vI (nI w)), some (vI (nI N)), some (vI (nI bg)), some (vI (nI i))] [] S' (fun r S' => r = none ∧ Sx S n (s_sm (t_ch t w) w N m i bg u) S') := by
  intro m
  induction m with
  | zero =>
    intro i bg u S' hi hb hu hS
    have hT := Sx_T (j := 0) h1 hn hS
    exact bkX8_smoothWire_5 (by omega) (fun _ => bkX8_smoothWire_61 ⟨rfl, hS⟩) (fun h => absurd (by rw [hT.1]; exact nI_le (by omega) (by omega)) h)
  | succ m ih =>
    intro i bg u S' hi hb hu hS
    have hT := Sx_T (j := 0) h1 hn hS
    refine bkX8_smoothWire_5 (by omega) (fun h => absurd h (by rw [hT.1]; exact nl_ (by omega) (by omega))) (fun _ => ?_)
    have ec : t_ch u w i = t_ch t w i := by
      unfold t_ch; rw [hu i (by omega), hu (i - 1) (by omega)]
    refine bkX8_smoothWire_14 (by omega) (kX8_changes hT (by omega) hw (by omega)) ?_
    rintro _ S' ⟨rfl, rfl⟩
    rw [ec, s_sm_s]
    cases hc : t_ch t w i
    · refine bkX8_smoothWire_21 (fun h => absurd rfl h) (fun _ => bkX8_smoothWire_24 (bkX8_smoothWire_55 ?_))
      rw [nI_1]
      exact ih (i + 1) bg u S' (by omega) (by omega) (fun k hk => hu k (by omega)) hS
    · refine bkX8_smoothWire_21 (fun _ => ?_) (fun h => absurd h (by decide))
      simp only [if_true]
      have no : ¬ (0 < bg ∧ i - bg < N) → Ev (d + 3) mX8_smoothWire 52 [some (vR 8 0), some (vI (nI w)), some (vI (nI N)), some (vI (nI bg)), some (vI (nI i))] [] S' (fun r S' => r = none ∧ Sx S n (if 0 < bg ∧ i - bg < N then s_sm (t_ch t w) w N m (i + 1) 0 (s_flp w u bg i) else s_sm (t_ch t w) w N m (i + 1) i u) S') := by
        intro h
        rw [if_neg h]
        refine bkX8_smoothWire_52 (bkX8_smoothWire_55 ?_)
        rw [nI_1]
        exact ih (i + 1) i u S' (by omega) (by omega) (fun k hk => hu k (by omega)) hS
      refine bkX8_smoothWire_27 (fun h => no ?_) (fun h => ?_)
      · have := z_of (by omega) h; omega
      · have h0 := p_of h
        refine bkX8_smoothWire_31 (fun h3 => no ?_) (fun h3 => ?_) <;> rw [pk_sub (by omega), nI_leI (by omega) (by omega)] at h3
        · omega
        · rw [if_pos (by omega)]
          refine bkX8_smoothWire_39 (by omega) (kX8_flip h1 hn hw (by omega) (by omega) hS) ?_
          intro S2 hS2
          refine bkX8_smoothWire_47 (bkX8_smoothWire_55 ?_)
          rw [nI_1]
          exact ih (i + 1) 0 _ S2 (by omega) (by omega) (fun k hk => by unfold s_flp; rw [if_neg (by omega)]; exact hu k (by omega)) hS2
theorem kX8_smoothWire {S0 : hs_T} (h1 : S0.1 8 0 1 = nI n) (hn : n ≤ 400) (hw : w < 8) (hN : N ≤ 400) (hS : Sx S0 n t S) : Cv (d + 3) mX8_smoothWire [vR 8 0, vI (nI w), vI (nI N)] S (fun S' => Sx S0 n (s_sw n N w t) S') := by
  refine cxX8_smoothWire ?_
  refine bkX8_smoothWire_0 ?_
  rcases Nat.eq_zero_or_pos n with z | z
  · subst z
    have hT := Sx_T (j := 0) h1 hn hS
    obtain ⟨g, rfl, hg⟩ := hS
    exact bkX8_smoothWire_5 (by omega) (fun _ => bkX8_smoothWire_61 ⟨rfl, g, rfl, fun i hi => by omega⟩) (fun h => absurd (by rw [hT.1]; decide) h)
  · exact lX8_smoothWire h1 hn hw hN (n - 1) 1 0 t S (by omega) (by omega) (fun _ _ => rfl) hS
theorem lX10_sm1 {S0 : hs_T} {o3 : Option av_T} {Q : Option av_T → hs_T → Prop} (h1 : S0.1 8 0 1 = nI n) (hn : n ≤ 400) (hN : N ≤ 400) (hQ : ∀ S' x2, Sx S0 n (s_S n N t 8) S' → Ev (d + 4) mX10_smooth 47 [some (vR 10 0), some (vI (nI N)), some (vI x2), o3] [] S' Q) :
    ∀ (m k : Nat) (S : hs_T), k + m = 8 → Sx S0 n (s_S n N t k) S → Ev (d + 4) mX10_smooth 26 [some (vR 10 0), some (vI (nI N)), some (vI (nI k)), o3] [] S Q := by
  intro m
  induction m with
  | zero =>
    intro k S hk hS
    have e : k = 8 := by omega
    subst e
    exact bkX10_smooth_26 (fun _ => hQ S _ hS) (fun h => absurd (by decide) h)
  | succ m ih =>
    intro k S hk hS
    refine bkX10_smooth_26 (fun h => absurd h (nl_ (b := 8) (by omega) (by omega))) (fun _ => ?_)
    refine bkX10_smooth_32 (kX8_smoothWire h1 hn (by omega) hN hS) ?_
    intro S' hS'
    refine bkX10_smooth_41 ?_
    rw [nI_1]
    exact ih (k + 1) S' (by omega) hS'
theorem lX10_sm2 {x1 : Int32} (hT : TrX S 0 n u) (hB : TrX S 1 n t) :
    ∀ (m i : Nat), i + m = n → Ev (d + 4) mX10_smooth 51 [some (vR 10 0), some (vI x1), some (vI (nI (fb_ct (fun i => !decide (u i = t i)) i))), some (vI (nI i))] [] S (fun r S' => ∃ v, r = some (vI v) ∧ v = nI (s_dc n t u) ∧ S' = S) := by
  have h1 := hT.1
  have h2 := hT.2.1
  intro m
  induction m with
  | zero =>
    intro i hi
    have e : i = n := by omega
    subst e
    exact bkX10_smooth_51 (fun _ => bkX10_smooth_95 ⟨_, rfl, rfl, rfl⟩) (fun h => absurd (by rw [h1]; exact nI_le (by omega) (by omega)) h)
  | succ m ih =>
    intro i hi
    have ta := (hT.2.2 i (by omega)).2
    have tb := (hB.2.2 i (by omega)).2
    refine bkX10_smooth_51 (fun h => absurd h (by rw [h1]; exact nl_ (by omega) (by omega))) (fun _ => ?_)
    refine bkX10_smooth_62 (kX8_sample hT (by omega) (by omega)) ?_
    rintro _ S ⟨rfl, rfl⟩
    refine bkX10_smooth_71 (kX8_sample hB (by omega) (by omega)) ?_
    rintro _ S ⟨rfl, rfl⟩
    have key : ∀ b : Bool, b = !decide (u i = t i) → Ev (d + 4) mX10_smooth 87 [some (vR 10 0), some (vI x1), some (vI (nI (fb_ct (fun i => !decide (u i = t i)) i))), some (vI (nI i))] [vI (bi_ b), vI (nI (fb_ct (fun i => !decide (u i = t i)) i))] S (fun r S' => ∃ v, r = some (vI v) ∧ v = nI (s_dc n t u) ∧ S' = S) := by
      rintro b rfl
      refine bkX10_smooth_87 ?_
      rw [ct_bi (fun i => !decide (u i = t i)) i, nI_1]
      exact ih (i + 1) (by omega)
    refine bkX10_smooth_79 (fun h => bkX10_smooth_86 (key false ?_)) (fun h => bkX10_smooth_82 (key true ?_)) <;> rw [nI_eq (by omega) (by omega)] at h
    · rw [decide_eq_true h]; rfl
    · rw [decide_eq_false h]; rfl
theorem kX10_smooth {x : Int32} (hT : TrX S 0 n t) : Ci (d + 4) mX10_smooth [vR 10 0, vI x] S (fun v S' => v = sp_smooth n t x ∧ ((inR x 1 400 = false ∧ S' = S) ∨ (inR x 1 400 = true ∧ Kq 900 0 S S' ∧ TrX S' 0 n (s_S n x.toInt.toNat t 8)))) := by
  have h1 := hT.1
  have h2 := hT.2.1
  refine cxX10_smooth ?_
  refine bkX10_smooth_0 (kX10_w (lo := 1) (hi := 400) rfl rfl) ?_
  rintro _ S ⟨rfl, rfl⟩
  cases hx : inR x 1 400
  · exact bkX10_smooth_8 (fun h => absurd rfl h) (fun _ => bkX10_smooth_11 ⟨_, rfl, by simp [sp_smooth, hx], Or.inl ⟨rfl, rfl⟩⟩)
  refine bkX10_smooth_8 (fun _ => ?_) (fun h => absurd h (by decide))
  rw [sp_smooth, hx]
  obtain ⟨N, hN1, hN2, rfl⟩ := inR_get1 (by omega) hx
  rw [nI_tn (by omega)]
  refine bkX10_smooth_13 (kX8_copy (j := 1) (j1 := 0) h1 h2 (by omega) (by omega) (by omega)) ?_
  rintro _ ⟨g, rfl, hg⟩
  have hK : Kp S (sk_ (sk_ S 8 1 (upd (S.1 8 1) 1 (nI n))) 900 1 g) := Kp_n (Kp_n (Kp_rf S) (fun f => by simp [ess])) (fun f => by simp [ess])
  have hB : TrX (sk_ (sk_ S 8 1 (upd (S.1 8 1) 1 (nI n))) 900 1 g) 1 n t := by
    refine ⟨by rw [sk_ne _ _ (by omega), sk_at, pk_us], h2, fun i hi => ?_⟩
    rw [sk_at, hg i hi]; exact hT.2.2 i hi
  have hA := TrX_Kp hK (by omega) hT
  generalize sk_ (sk_ S 8 1 (upd (S.1 8 1) 1 (nI n))) 900 1 g = S1 at *
  refine bkX10_smooth_24 ?_
  refine lX10_sm1 (S0 := S1) (t := t) hA.1 h2 (by omega) (fun S' x2 hS => ?_) 8 0 S1 (by omega) ⟨S1.1 900 0, (sk_id S1 900 0).symm, hA.2.2⟩
  refine bkX10_smooth_47 ?_
  have hT2 := Sx_T (j := 0) hA.1 h2 hS
  obtain ⟨g', rfl, hg'⟩ := hS
  have hB2 : TrX (sk_ S1 900 0 g') 1 n t := ⟨by rw [sk_ne _ _ (by omega)]; exact hB.1, h2, fun i hi => by rw [sk_ne _ _ (by omega)]; exact hB.2.2 i hi⟩
  have := lX10_sm2 (d := d) (x1 := nI N) hT2 hB2 n 0 (by omega)
  refine Ev.imp this ?_
  rintro r S' ⟨v, rfl, rfl, rfl⟩
  exact ⟨_, rfl, rfl, Or.inr ⟨rfl, Kq_tr (Kq_Kp hK) Kq_sk, hT2⟩⟩
/-! the reference's -/
def Sy (S : hs_T) (n : Nat) (u : Nat → Nat) (S' : hs_T) : Prop := ∃ g, S' = sk_ S 1202 0 g ∧ ∀ i, i < n → g i = nI (u i) ∧ u i < 256
theorem Sy_T {S' : hs_T} (h1 : S.1 11 0 3 = nI n) (hn : n ≤ 400) (h : Sy S n u S') : TrM S' n u := by
  obtain ⟨g, rfl, hg⟩ := h
  exact ⟨by rw [sk_ne _ _ (by omega)]; exact h1, hn, fun i hi => by rw [sk_at]; exact hg i hi⟩
theorem lM_flip {a b : Nat} {x2 : Int32} {S0 : hs_T} {Q : Option av_T → hs_T → Prop} (hn : n ≤ 400) (hw : w < 8) (hb : b ≤ n) (hQ : ∀ S' x5, Sy S0 n (s_flp w u a b) S' → Ev (d + 2) mX11_smooths 68 [some (vR 11 0), some (vI (nI w)), some (vI x2), some (vI (nI a)), some (vI (nI b)), some (vI x5)] [] S' Q) :
    ∀ (m k : Nat) (S : hs_T), k + m = b → a ≤ k → Sy S0 n (s_flp w u a k) S → Ev (d + 2) mX11_smooths 42 [some (vR 11 0), some (vI (nI w)), some (vI x2), some (vI (nI a)), some (vI (nI b)), some (vI (nI k))] [] S Q := by
  intro m
  induction m with
  | zero =>
    intro k S hk ha hS
    have e : k = b := by omega
    subst e
    exact bkX11_smooths_42 (fun _ => hQ S _ hS) (fun h => absurd (nI_le (Nat.le_refl _) (by omega)) h)
  | succ m ih =>
    intro k S hk ha hS
    refine bkX11_smooths_42 (fun h => absurd h (nl_ (by omega) (by omega))) (fun _ => ?_)
    refine bkX11_smooths_49 (vp_lt (by omega) (by omega)) ?_
    rw [nI_clamp (by omega), nI_1]
    obtain ⟨g, rfl, hg⟩ := hS
    rw [sk_at, sk_sk]
    refine ih (k + 1) _ (by omega) (by omega) ⟨_, rfl, fun i hi => ?_⟩
    have hgi := hg i hi
    by_cases e : i = k
    · subst e
      have e0 : s_flp w u a i i = u i := by unfold s_flp; rw [if_neg (by omega)]
      have e1 : s_flp w u a (i + 1) i = u i ^^^ 2 ^ w := by unfold s_flp; rw [if_pos (by omega)]
      rw [e0] at hgi
      rw [pk_us, hgi.1, e1, e_1w hw, fb_xorI]
      exact ⟨rfl, Nat.xor_lt_two_pow (n := 8) hgi.2 (Nat.pow_lt_pow_right (by omega) hw)⟩
    · have e0 : s_flp w u a (k + 1) i = s_flp w u a k i := by
        unfold s_flp
        by_cases z : a ≤ i ∧ i < k
        · rw [if_pos z, if_pos (by omega)]
        · rw [if_neg z, if_neg (by omega)]
      rw [pk_un e, e0]; exact hgi
theorem t_ch_eq {k : Nat} (h : ∀ j, i ≤ j → u j = t j) (hk : i < k) : t_ch u w k = t_ch t w k := by
  unfold t_ch; rw [h k (by omega), h (k - 1) (by omega)]
theorem s_nx_eq {p q : Nat → Bool} : ∀ (m i : Nat), (∀ k, i ≤ k → p k = q k) → s_nx p m i = s_nx q m i := by
  intro m
  induction m with
  | zero => intro i h; rfl
  | succ m ih => intro i h; rw [s_nx_s, s_nx_s, h i (Nat.le_refl _), ih (i + 1) (fun k hk => h k (by omega))]
theorem lM_smooths {S0 : hs_T} (h1 : S0.1 11 0 3 = nI n) (hn : n ≤ 400) (hw : w < 8) (hN : N ≤ 400) :
    ∀ (m a : Nat) (u : Nat → Nat) (S : hs_T) (o4 o5 : Option av_T), n - a ≤ m → a ≤ n → (∀ k, a ≤ k → u k = t k) → Sy S0 n u S → Ev (d + 2) mX11_smooths 2 [some (vR 11 0), some (vI (nI w)), some (vI (nI N)), some (vI (nI a)), o4, o5] [] S (fun r S' => r = none ∧ Sy S0 n (s_sm (t_ch t w) w N (n - (a + 1)) (a + 1) a u) S') := by
  intro m
  induction m with
  | zero =>
    intro a u S o4 o5 hm ha hu hS
    have hT := Sy_T h1 hn hS
    refine bkX11_smooths_2 (fun _ => bkX11_smooths_83 ⟨rfl, ?_⟩) (fun h => absurd (by rw [hT.1]; exact nI_le (by omega) (by omega)) h)
    rw [show n - (a + 1) = 0 by omega]; exact hS
  | succ m ih =>
    intro a u S o4 o5 hm ha hu hS
    have hT := Sy_T h1 hn hS
    by_cases hlt : a < n
    · refine bkX11_smooths_2 (fun h => absurd h (by rw [hT.1]; exact nl_ (by omega) (by omega))) (fun _ => ?_)
      refine bkX11_smooths_10 (kM_endOf hT hw hlt) ?_
      rintro _ S ⟨rfl, rfl⟩
      rw [s_nx_eq (q := t_ch t w) _ _ (fun k hk => t_ch_eq (i := a) hu (by omega))]
      have hle := s_nx_le (t_ch t w) (n - (a + 1)) (a + 1)
      rw [s_sm_jump]
      generalize hb : s_nx (t_ch t w) (n - (a + 1)) (a + 1) = b at *
      rw [show a + 1 + (n - (a + 1)) = n by omega] at hle ⊢
      have skip : ¬ (b < n ∧ 0 < a ∧ b - a < N) → Ev (d + 2) mX11_smooths 77 [some (vR 11 0), some (vI (nI w)), some (vI (nI N)), some (vI (nI a)), some (vI (nI b)), o5] [] S (fun r S' => r = none ∧ Sy S0 n (if b < n then (if 0 < a ∧ b - a < N then s_sm (t_ch t w) w N (n - (b + 1)) (b + 1) 0 (s_flp w u a b) else s_sm (t_ch t w) w N (n - (b + 1)) (b + 1) b u) else u) S') := by
        intro h
        refine bkX11_smooths_77 ?_
        have := ih b u S (some (vI (nI b))) o5 (by omega) (by omega) (fun k hk => hu k (by omega)) hS
        by_cases hbn : b < n
        · rw [if_pos hbn, if_neg (by omega)]; exact this
        · rw [if_neg hbn]; rw [show n - (b + 1) = 0 by omega] at this; exact this
      refine bkX11_smooths_16 (fun h => skip ?_) (fun h => ?_)
      · have := z_of (by omega) h; omega
      · have h0 := p_of h
        refine bkX11_smooths_22 (fun h => skip ?_) (fun h => ?_) <;> rw [hT.1, nI_leI (by omega) (by omega)] at h
        · omega
        · refine bkX11_smooths_31 (fun h3 => skip ?_) (fun h3 => ?_) <;> rw [pk_sub (by omega), nI_leI (by omega) (by omega)] at h3
          · omega
          · rw [if_pos (by omega), if_pos (by omega)]
            refine bkX11_smooths_39 ?_
            refine lM_flip (S0 := S0) (u := u) hn hw (by omega) (fun S2 x5 hS2 => ?_) (b - a) a S (by omega) (Nat.le_refl _) ?_
            · have hT2 := Sy_T h1 hn hS2
              have hu2 : ∀ k, b ≤ k → s_flp w u a b k = t k := fun k hk => by unfold s_flp; rw [if_neg (by omega)]; exact hu k (by omega)
              refine bkX11_smooths_68 (kM_endOf hT2 hw (by omega)) ?_
              rintro _ S2 ⟨rfl, rfl⟩
              rw [s_nx_eq (q := t_ch t w) _ _ (fun k hk => t_ch_eq (i := b) hu2 (by omega))]
              have hle2 := s_nx_le (t_ch t w) (n - (b + 1)) (b + 1)
              rw [s_sm_jump]
              generalize hb2 : s_nx (t_ch t w) (n - (b + 1)) (b + 1) = b2 at *
              rw [show b + 1 + (n - (b + 1)) = n by omega] at hle2 ⊢
              refine bkX11_smooths_75 (bkX11_smooths_77 ?_)
              have := ih b2 _ S2 (some (vI (nI b2))) (some (vI x5)) (by omega) (by omega) (fun k hk => hu2 k (by omega)) hS2
              by_cases hbn : b2 < n
              · rw [if_pos hbn, if_neg (by omega)]; exact this
              · rw [if_neg hbn]; rw [show n - (b2 + 1) = 0 by omega] at this; exact this
            · have e : s_flp w u a a = u := funext fun k => if_neg (by omega)
              rw [e]; exact hS
    · refine bkX11_smooths_2 (fun _ => bkX11_smooths_83 ⟨rfl, ?_⟩) (fun h => absurd (by rw [hT.1]; exact nI_le (by omega) (by omega)) h)
      rw [show n - (a + 1) = 0 by omega]; exact hS
theorem kM_smooths {S0 : hs_T} (h1 : S0.1 11 0 3 = nI n) (hn : n ≤ 400) (hw : w < 8) (hN : N ≤ 400) (hS : Sy S0 n t S) : Cv (d + 2) mX11_smooths [vR 11 0, vI (nI w), vI (nI N)] S (fun S' => Sy S0 n (s_sw n N w t) S') := by
  refine cxX11_smooths ?_
  exact bkX11_smooths_0 (lM_smooths h1 hn hw hN n 0 t S _ _ (by omega) (by omega) (fun _ _ => rfl) hS)
theorem lM_sm1 {S0 : hs_T} {o3 : Option av_T} {Q : Option av_T → hs_T → Prop} (h1 : S0.1 11 0 3 = nI n) (hn : n ≤ 400) (hN : N ≤ 400) (hQ : ∀ S' x2, Sy S0 n (s_S n N t 8) S' → Ev (d + 3) mX11_smooth 62 [some (vR 11 0), some (vI (nI N)), some (vI x2), o3] [] S' Q) :
    ∀ (m k : Nat) (S : hs_T), k + m = 8 → Sy S0 n (s_S n N t k) S → Ev (d + 3) mX11_smooth 44 [some (vR 11 0), some (vI (nI N)), some (vI (nI k)), o3] [] S Q := by
  intro m
  induction m with
  | zero =>
    intro k S hk hS
    have e : k = 8 := by omega
    subst e
    exact bkX11_smooth_44 (fun _ => hQ S _ hS) (fun h => absurd (by decide) h)
  | succ m ih =>
    intro k S hk hS
    refine bkX11_smooth_44 (fun h => absurd h (nl_ (b := 8) (by omega) (by omega))) (fun _ => ?_)
    refine bkX11_smooth_50 (kM_smooths h1 hn (by omega) hN hS) ?_
    intro S' hS'
    refine bkX11_smooth_56 ?_
    rw [nI_1]
    exact ih (k + 1) S' (by omega) hS'
theorem lM_sm0 {x1 : Int32} {o3 : Option av_T} {Q : Option av_T → hs_T → Prop} (hT : TrM S n t) (hQ : ∀ g x2, (∀ i, i < n → g i = nI (t i)) → Ev (d + 3) mX11_smooth 42 [some (vR 11 0), some (vI x1), some (vI x2), o3] [] (sk_ S 1226 0 g) Q) :
    ∀ (m i : Nat) (g : Nat → Int32), i + m = n → (∀ k, k < i → g k = nI (t k)) → Ev (d + 3) mX11_smooth 16 [some (vR 11 0), some (vI x1), some (vI (nI i)), o3] [] (sk_ S 1226 0 g) Q := by
  have h1 := hT.1
  have h2 := hT.2.1
  intro m
  induction m with
  | zero =>
    intro i g hi hg
    have e : i = n := by omega
    subst e
    refine bkX11_smooth_16 (fun _ => hQ g _ hg) (fun h => absurd ?_ h)
    rw [sk_ne _ _ (by omega), h1]; exact nI_le (by omega) (by omega)
  | succ m ih =>
    intro i g hi hg
    refine bkX11_smooth_16 (fun h => absurd h ?_) (fun _ => ?_)
    · rw [sk_ne _ _ (by omega), h1]; exact nl_ (by omega) (by omega)
    refine bkX11_smooth_24 (vp_lt (by omega) (by omega)) ?_
    rw [nI_clamp (by omega), nI_1, sk_at, sk_sk, sk_ne _ _ (by omega), (hT.2.2 i (by omega)).1]
    refine ih (i + 1) _ (by omega) (fun k hk => ?_)
    by_cases e : k = i
    · subst e; exact pk_us
    · rw [pk_un e]; exact hg k (by omega)
theorem lM_sm2 {x1 : Int32} (hT : TrM S n u) (hB : ∀ i, i < n → S.1 1226 0 i = nI (t i) ∧ t i < 256) :
    ∀ (m i : Nat), i + m = n → Ev (d + 3) mX11_smooth 66 [some (vR 11 0), some (vI x1), some (vI (nI (fb_ct (fun i => !decide (u i = t i)) i))), some (vI (nI i))] [] S (fun r S' => ∃ v, r = some (vI v) ∧ v = nI (s_dc n t u) ∧ S' = S) := by
  have h1 := hT.1
  have h2 := hT.2.1
  intro m
  induction m with
  | zero =>
    intro i hi
    have e : i = n := by omega
    subst e
    exact bkX11_smooth_66 (fun _ => bkX11_smooth_106 ⟨_, rfl, rfl, rfl⟩) (fun h => absurd (by rw [h1]; exact nI_le (by omega) (by omega)) h)
  | succ m ih =>
    intro i hi
    have ta := (hT.2.2 i (by omega))
    have tb := (hB i (by omega))
    refine bkX11_smooth_66 (fun h => absurd h (by rw [h1]; exact nl_ (by omega) (by omega))) (fun _ => ?_)
    have key : ∀ b : Bool, b = !decide (u i = t i) → Ev (d + 3) mX11_smooth 95 [some (vR 11 0), some (vI x1), some (vI (nI (fb_ct (fun i => !decide (u i = t i)) i))), some (vI (nI i))] [vI (bi_ b), vI (nI (fb_ct (fun i => !decide (u i = t i)) i))] S (fun r S' => ∃ v, r = some (vI v) ∧ v = nI (s_dc n t u) ∧ S' = S) := by
      rintro b rfl
      refine bkX11_smooth_95 kM_flag ?_
      rintro _ S ⟨rfl, rfl⟩
      refine bkX11_smooth_98 ?_
      rw [ct_bi (fun i => !decide (u i = t i)) i, nI_1]
      exact ih (i + 1) (by omega)
    refine bkX11_smooth_74 (vp_lt (by omega) (by omega)) ?_ ?_ <;> rw [nI_clamp (by omega), ta.1, tb.1, nI_eq (by omega) (by omega)] <;> intro h
    · exact bkX11_smooth_94 (key false (by rw [decide_eq_true h.symm]; rfl))
    · exact bkX11_smooth_90 (key true (by rw [decide_eq_false (fun z => h z.symm)]; rfl))
theorem kM_smooth {x : Int32} (hT : TrM S n t) : Ci (d + 3) mX11_smooth [vR 11 0, vI x] S (fun v S' => v = sp_smooth n t x ∧ ((inR x 1 400 = false ∧ S' = S) ∨ (inR x 1 400 = true ∧ Kq 1202 0 S S' ∧ TrM S' n (s_S n x.toInt.toNat t 8)))) := by
  have h1 := hT.1
  have h2 := hT.2.1
  refine cxX11_smooth ?_
  refine bkX11_smooth_0 (kM_inI (lo := 1) (hi := 400) rfl rfl) ?_
  rintro _ S ⟨rfl, rfl⟩
  cases hx : inR x 1 400
  · exact bkX11_smooth_9 (fun h => absurd rfl h) (fun _ => bkX11_smooth_12 ⟨_, rfl, by simp [sp_smooth, hx], Or.inl ⟨rfl, rfl⟩⟩)
  refine bkX11_smooth_9 (fun _ => ?_) (fun h => absurd h (by decide))
  rw [sp_smooth, hx]
  obtain ⟨N, hN1, hN2, rfl⟩ := inR_get1 (by omega) hx
  rw [nI_tn (by omega)]
  refine bkX11_smooth_14 ?_
  have start := lM_sm0 (d := d) (x1 := nI N) (o3 := none) (Q := fun r S' => ∃ v, r = some (vI v) ∧ v = (if true = true then nI (s_dc n t (s_S n N t 8)) else -1) ∧ ((true = false ∧ S' = S) ∨ (true = true ∧ Kq 1202 0 S S' ∧ TrM S' n (s_S n N t 8)))) hT ?_ n 0 (S.1 1226 0) (by omega) (fun k hk => by omega)
  · rw [sk_id] at start; exact start
  intro g x2 hg
  have hK : Kp S (sk_ S 1226 0 g) := Kp_n (Kp_rf S) (fun f => by simp [ess])
  have hA := TrM_Kp hK hT
  have hB : ∀ i, i < n → (sk_ S 1226 0 g).1 1226 0 i = nI (t i) ∧ t i < 256 := fun i hi => ⟨by rw [sk_at]; exact hg i hi, (hT.2.2 i hi).2⟩
  generalize sk_ S 1226 0 g = S1 at *
  refine bkX11_smooth_42 ?_
  refine lM_sm1 (S0 := S1) (t := t) hA.1 h2 (by omega) (fun S' x2 hS => ?_) 8 0 S1 (by omega) ⟨S1.1 1202 0, (sk_id S1 1202 0).symm, hA.2.2⟩
  refine bkX11_smooth_62 ?_
  have hT2 := Sy_T hA.1 h2 hS
  obtain ⟨g', rfl, hg'⟩ := hS
  have hB2 : ∀ i, i < n → (sk_ S1 1202 0 g').1 1226 0 i = nI (t i) ∧ t i < 256 := fun i hi => by rw [sk_ne _ _ (by omega)]; exact hB i hi
  have := lM_sm2 (d := d) (x1 := nI N) hT2 hB2 n 0 (by omega)
  refine Ev.imp this ?_
  rintro r S' ⟨v, rfl, rfl, rfl⟩
  exact ⟨_, rfl, rfl, Or.inr ⟨rfl, Kq_tr (Kq_Kp hK) Kq_sk, hT2⟩⟩
end SM
