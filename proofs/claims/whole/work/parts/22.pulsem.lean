/-! ===== pulses, the reference's ===== -/
def g5 (S : hs_T) (c s sa l la : Int32) : Prop := S.1 11 0 21 = c ∧ S.1 11 0 22 = s ∧ S.1 11 0 23 = sa ∧ S.1 11 0 24 = l ∧ S.1 11 0 25 = la
section PM
variable {d : Nat} {S : hs_T} {n w i : Nat} {t : Nat → Nat} {c s sa l la y : Int32}
theorem g5_1 (h : g5 S c s sa l la) : g5 (sk_ S 11 0 (upd (S.1 11 0) 21 y)) y s sa l la := by
  obtain ⟨h1, h2, h3, h4, h5⟩ := h
  exact ⟨by rw [sk_at, pk_us], by rw [sk_at, pk_un (by omega)]; exact h2, by rw [sk_at, pk_un (by omega)]; exact h3, by rw [sk_at, pk_un (by omega)]; exact h4, by rw [sk_at, pk_un (by omega)]; exact h5⟩
theorem g5_2 (h : g5 S c s sa l la) : g5 (sk_ S 11 0 (upd (S.1 11 0) 22 y)) c y sa l la := by
  obtain ⟨h1, h2, h3, h4, h5⟩ := h
  exact ⟨by rw [sk_at, pk_un (by omega)]; exact h1, by rw [sk_at, pk_us], by rw [sk_at, pk_un (by omega)]; exact h3, by rw [sk_at, pk_un (by omega)]; exact h4, by rw [sk_at, pk_un (by omega)]; exact h5⟩
theorem g5_3 (h : g5 S c s sa l la) : g5 (sk_ S 11 0 (upd (S.1 11 0) 23 y)) c s y l la := by
  obtain ⟨h1, h2, h3, h4, h5⟩ := h
  exact ⟨by rw [sk_at, pk_un (by omega)]; exact h1, by rw [sk_at, pk_un (by omega)]; exact h2, by rw [sk_at, pk_us], by rw [sk_at, pk_un (by omega)]; exact h4, by rw [sk_at, pk_un (by omega)]; exact h5⟩
theorem g5_4 (h : g5 S c s sa l la) : g5 (sk_ S 11 0 (upd (S.1 11 0) 24 y)) c s sa y la := by
  obtain ⟨h1, h2, h3, h4, h5⟩ := h
  exact ⟨by rw [sk_at, pk_un (by omega)]; exact h1, by rw [sk_at, pk_un (by omega)]; exact h2, by rw [sk_at, pk_un (by omega)]; exact h3, by rw [sk_at, pk_us], by rw [sk_at, pk_un (by omega)]; exact h5⟩
theorem g5_5 (h : g5 S c s sa l la) : g5 (sk_ S 11 0 (upd (S.1 11 0) 25 y)) c s sa l y := by
  obtain ⟨h1, h2, h3, h4, h5⟩ := h
  exact ⟨by rw [sk_at, pk_un (by omega)]; exact h1, by rw [sk_at, pk_un (by omega)]; exact h2, by rw [sk_at, pk_un (by omega)]; exact h3, by rw [sk_at, pk_un (by omega)]; exact h4, by rw [sk_at, pk_us]⟩
def f11 (S : hs_T) (q : pl_T) : Prop := g5 S (nI q.1) q.2.2.1 q.2.2.2.1 q.2.2.2.2.1 q.2.2.2.2.2
theorem kM_noPulses : Cv d mX11_noPulses [vR 11 0] S (fun S' => Kp S S' ∧ f11 S' p0) := by
  refine cxX11_noPulses ?_
  refine bkX11_noPulses_0 ⟨rfl, ?_, ?_⟩
  · exact Kp_11 (Kp_11 (Kp_11 (Kp_11 (Kp_11 (Kp_rf S) (by decide)) (by decide)) (by decide)) (by decide)) (by decide)
  · exact g5_5 (g5_4 (g5_3 (g5_2 (g5_1 ⟨rfl, rfl, rfl, rfl, rfl⟩))))
theorem lM_endOf {a : Nat} (hT : TrM S n t) (hw : w < 8) :
    ∀ (m i : Nat), i + m = n → a < i → (∀ k, a < k → k < i → t_ch t w k = false) → Ev (d + 1) mX11_endOf 2 [some (vR 11 0), some (vI (nI w)), some (vI (nI a)), some (vI (nI i))] [] S (fun r S' => ∃ v, r = some (vI v) ∧ v = nI (s_nx (t_ch t w) m i) ∧ S' = S) := by
  have h1 := hT.1
  have h2 := hT.2.1
  intro m
  induction m with
  | zero =>
    intro i hi ha hc
    exact bkX11_endOf_2 (fun _ => bkX11_endOf_31 ⟨_, rfl, rfl, rfl⟩) (fun h => absurd (by rw [h1]; exact nI_le (by omega) (by omega)) h)
  | succ m ih =>
    intro i hi ha hc
    refine bkX11_endOf_2 (fun h => absurd h (by rw [h1]; exact nl_ (by omega) (by omega))) (fun _ => ?_)
    refine bkX11_endOf_10 (kM_isHigh hT hw (by omega)) ?_
    rintro _ S ⟨rfl, rfl⟩
    refine bkX11_endOf_16 (kM_isHigh hT hw (by omega)) ?_
    rintro _ S ⟨rfl, rfl⟩
    have same : ∀ k, a ≤ k → k < i → t_hi t w k = t_hi t w a := by
      intro k
      induction k with
      | zero => intro z1 z2; rw [show a = 0 by omega]
      | succ k ihk =>
        intro z1 z2
        by_cases e : a = k + 1
        · rw [← e]
        · have q := hc (k + 1) (by omega) z2
          simp only [t_ch, Nat.add_sub_cancel, show 0 < k + 1 by omega, decide_true, Bool.true_and] at q
          rw [← ihk (by omega) (by omega)]
          unfold t_hi
          revert q
          cases (t (k + 1)).testBit w <;> cases (t k).testBit w <;> simp
    have e1 : t_ch t w i = (t_hi t w i ^^ t_hi t w a) := by
      rw [← same (i - 1) (by omega) (by omega)]
      simp [t_ch, t_hi, show 0 < i by omega]
    unfold s_nx
    refine bkX11_endOf_22 (fun h => ?_) (fun h => ?_) <;> rw [bi_inj] at h
    · have : t_ch t w i = true := by rw [e1]; revert h; cases t_hi t w i <;> cases t_hi t w a <;> simp
      rw [if_pos this]
      exact bkX11_endOf_31 ⟨_, rfl, rfl, rfl⟩
    · have hf : t_ch t w i = false := by rw [e1, h]; simp
      rw [if_neg (by rw [hf]; decide)]
      refine bkX11_endOf_25 ?_
      rw [nI_1]
      refine ih (i + 1) (by omega) (by omega) (fun k k1 k2 => ?_)
      by_cases e : k = i
      · rw [e]; exact hf
      · exact hc k k1 (by omega)
theorem kM_endOf {a : Nat} (hT : TrM S n t) (hw : w < 8) (ha : a < n) : Ci (d + 1) mX11_endOf [vR 11 0, vI (nI w), vI (nI a)] S (fun v S' => v = nI (s_nx (t_ch t w) (n - (a + 1)) (a + 1)) ∧ S' = S) := by
  have h1 := hT.1
  have h2 := hT.2.1
  refine cxX11_endOf ?_
  refine bkX11_endOf_0 ?_
  refine bkX11_endOf_2 (fun h => absurd h (by rw [h1]; exact nl_ (by omega) (by omega))) (fun _ => ?_)
  refine bkX11_endOf_10 (kM_isHigh hT hw ha) ?_
  rintro _ S ⟨rfl, rfl⟩
  refine bkX11_endOf_16 (kM_isHigh hT hw ha) ?_
  rintro _ S ⟨rfl, rfl⟩
  refine bkX11_endOf_22 (fun h => absurd rfl h) (fun _ => bkX11_endOf_25 ?_)
  rw [nI_1]
  exact lM_endOf hT hw (n - (a + 1)) (a + 1) (by omega) (by omega) (fun k k1 k2 => absurd k1 (by omega))
theorem sM_note {x1 x2 : Int32} {a b : Nat} {q : pl_T} {S0 : hs_T} {Q : Option av_T → hs_T → Prop} (hab : a < b) (hb : b ≤ 400) (hk : Kp S0 S) (hf : f11 S q) (hok : p_ok q)
    (hQ : ∀ S', Kp S0 S' → f11 S' (p_nt 0 q a (b - a)) → Ev (d + 2) mX11_findPulses 170 [some (vR 11 0), some (vI x1), some (vI x2), some (vI (nI a)), some (vI (nI b))] [] S' Q) :
    Ev (d + 2) mX11_findPulses 48 [some (vR 11 0), some (vI x1), some (vI x2), some (vI (nI a)), some (vI (nI b))] [] S Q := by
  obtain ⟨c, k, s, sa, l, la⟩ := q
  have hf : g5 S (nI c) s sa l la := hf
  have es : nI b - nI a = nI (b - a) := pk_sub (by omega)
  have m4 : (-4 : Int32).toInt = -4 := by decide
  have e4 : s = -4 ↔ c = 0 := by
    constructor
    · intro h
      rcases Nat.eq_zero_or_pos c with z | z
      · exact z
      · have := (hok.2 z).1
        have h' : ((c, k, s, sa, l, la) : pl_T).2.2.1 = -4 := h
        rw [h', m4] at this; omega
    · intro h; exact (hok.1 h).1
  have el : (c = 0 ∨ l < nI (b - a)) ↔ l < nI (b - a) := by
    constructor
    · rintro (h | h)
      · have : l = -4 := (hok.1 h).2
        rw [this, fa_lt, m4, nI_toInt (by omega)]; omega
      · exact h
    · exact Or.inr
  have p5 : ∀ (S1 : hs_T) (c' : Nat) (s sa : Int32), Kp S0 S1 → g5 S1 (nI c') s sa l la → (∀ S', Kp S0 S' → g5 S' (nI c') s sa (if l < nI (b - a) then nI (b - a) else l) (if l < nI (b - a) then nI a else la) → Ev (d + 2) mX11_findPulses 170 [some (vR 11 0), some (vI x1), some (vI x2), some (vI (nI a)), some (vI (nI b))] [] S' Q) → ∀ v, v = (if l < nI (b - a) then nI a else la) → Ev (d + 2) mX11_findPulses 141 [some (vR 11 0), some (vI x1), some (vI x2), some (vI (nI a)), some (vI (nI b))] [vI v, vR 11 0] S1 Q := by
    intro S1 c' s sa hk1 hg hQ v hv
    have hg2 := g5_5 (y := v) hg
    have hk2 : Kp S0 (sk_ S1 11 0 (upd (S1.1 11 0) 25 v)) := Kp_11 hk1 (by decide)
    have a24 := hg2.2.2.2.1
    refine bkX11_findPulses_141 (fun h => ?_) (fun h => ?_) <;> rw [a24, es] at h
    · have hn : ¬ l < nI (b - a) := by rw [fa_le] at h; rw [fa_lt]; omega
      rw [if_neg hn, if_neg hn] at hQ
      rw [if_neg hn] at hv
      refine bkX11_findPulses_163 (bkX11_findPulses_167 (hQ _ (Kp_11 hk2 (by decide)) ?_))
      rw [a24, ← hv]
      exact g5_4 hg2
    · have hn : l < nI (b - a) := fa_of_nle h
      rw [if_pos hn, if_pos hn] at hQ
      rw [if_pos hn] at hv
      refine bkX11_findPulses_156 (bkX11_findPulses_167 (hQ _ (Kp_11 hk2 (by decide)) ?_))
      rw [es, ← hv]
      exact g5_4 hg2
  have p4 : ∀ (S1 : hs_T) (c' : Nat) (s s' sa : Int32), Kp S0 S1 → g5 S1 (nI c') s sa l la → (∀ S', Kp S0 S' → g5 S' (nI c') s' sa (if l < nI (b - a) then nI (b - a) else l) (if l < nI (b - a) then nI a else la) → Ev (d + 2) mX11_findPulses 170 [some (vR 11 0), some (vI x1), some (vI x2), some (vI (nI a)), some (vI (nI b))] [] S' Q) → Ev (d + 2) mX11_findPulses 118 [some (vR 11 0), some (vI x1), some (vI x2), some (vI (nI a)), some (vI (nI b))] [vI s', vR 11 0] S1 Q := by
    intro S1 c' s s' sa hk1 hg hQ
    have hg2 := g5_2 (y := s') hg
    have hk2 : Kp S0 (sk_ S1 11 0 (upd (S1.1 11 0) 22 s')) := Kp_11 hk1 (by decide)
    have a24 := hg2.2.2.2.1
    refine bkX11_findPulses_118 (fun h => ?_) (fun h => ?_) <;> rw [a24, es] at h
    · have hn : ¬ l < nI (b - a) := by rw [fa_le] at h; rw [fa_lt]; omega
      exact bkX11_findPulses_137 (p5 _ c' s' sa hk2 hg2 hQ _ (by rw [if_neg hn]; exact hg2.2.2.2.2))
    · exact bkX11_findPulses_133 (p5 _ c' s' sa hk2 hg2 hQ _ (by rw [if_pos (fa_of_nle h)]))
  have p3 : ∀ (S1 : hs_T) (c' : Nat) (sa sa' : Int32), Kp S0 S1 → g5 S1 (nI c') s sa l la → (∀ S', Kp S0 S' → g5 S' (nI c') (if c = 0 ∨ nI (b - a) < s then nI (b - a) else s) sa' (if l < nI (b - a) then nI (b - a) else l) (if l < nI (b - a) then nI a else la) → Ev (d + 2) mX11_findPulses 170 [some (vR 11 0), some (vI x1), some (vI x2), some (vI (nI a)), some (vI (nI b))] [] S' Q) → Ev (d + 2) mX11_findPulses 87 [some (vR 11 0), some (vI x1), some (vI x2), some (vI (nI a)), some (vI (nI b))] [vI sa', vR 11 0] S1 Q := by
    intro S1 c' sa sa' hk1 hg hQ
    have hg2 := g5_3 (y := sa') hg
    have hk2 : Kp S0 (sk_ S1 11 0 (upd (S1.1 11 0) 23 sa')) := Kp_11 hk1 (by decide)
    have a22 := hg2.2.1
    refine bkX11_findPulses_87 (fun h => ?_) (fun h => ?_) <;> rw [a22] at h
    · refine bkX11_findPulses_107 (P := fun v S' => v = (if c = 0 ∨ nI (b - a) < s then nI (b - a) else s) ∧ S' = sk_ S1 11 0 (upd (S1.1 11 0) 23 sa')) ?_ ?_
      · refine kM_less.imp ?_
        rintro v S' ⟨rfl, rfl⟩
        refine ⟨?_, rfl⟩
        rw [a22, es]
        have h0 : ¬ c = 0 := fun z => h (e4.mpr z)
        simp only [h0, false_or, fa_lt]
        by_cases z : s.toInt < (nI (b - a)).toInt
        · rw [if_pos z, if_neg (by omega)]
        · rw [if_neg z]
          split
          · rfl
          · rw [fa_eq]; omega
      · rintro _ _ ⟨rfl, rfl⟩
        exact p4 _ c' s _ _ hk2 hg2 hQ
    · refine bkX11_findPulses_100 ?_
      rw [es]
      rw [if_pos (Or.inl (e4.mp h))] at hQ
      exact p4 _ c' s _ _ hk2 hg2 hQ
  have hg1 := g5_1 (y := nI (c + 1)) hf
  have hk1 : Kp S0 (sk_ S 11 0 (upd (S.1 11 0) 21 (nI (c + 1)))) := Kp_11 hk (by decide)
  have e21 : S.1 11 0 21 + 1 = nI (c + 1) := by rw [hf.1]; exact nI_1 c
  have hQ' : ∀ S', Kp S0 S' → g5 S' (nI (c + 1)) (if c = 0 ∨ nI (b - a) < s then nI (b - a) else s) (if c = 0 ∨ nI (b - a) < s then nI a else sa) (if l < nI (b - a) then nI (b - a) else l) (if l < nI (b - a) then nI a else la) → Ev (d + 2) mX11_findPulses 170 [some (vR 11 0), some (vI x1), some (vI x2), some (vI (nI a)), some (vI (nI b))] [] S' Q := by
    intro S' h1 h2
    refine hQ S' h1 ?_
    unfold f11 p_nt
    simp only [el]
    exact h2
  refine bkX11_findPulses_48 ?_ ?_ <;> rw [e21, hg1.2.1] <;> intro h
  · refine bkX11_findPulses_79 (p3 _ (c + 1) sa _ hk1 hg1 ?_)
    rw [if_pos (Or.inl (e4.mp h) : c = 0 ∨ nI (b - a) < s)]
    rw [if_pos (Or.inl (e4.mp h) : c = 0 ∨ nI (b - a) < s), if_pos (Or.inl (e4.mp h) : c = 0 ∨ nI (b - a) < s)] at hQ'
    exact hQ'
  · refine bkX11_findPulses_68 (fun h2 => ?_) (fun h2 => ?_) <;> rw [hg1.2.1, es] at h2
    · have hn : ¬ (c = 0 ∨ nI (b - a) < s) := by
        rintro (z | z)
        · exact h (e4.mpr z)
        · rw [fa_lt] at z; rw [fa_le] at h2; omega
      refine bkX11_findPulses_83 (p3 _ (c + 1) sa _ hk1 hg1 ?_)
      rw [hg1.2.2.1]
      rw [if_neg hn] at hQ' ⊢
      rw [if_neg hn] at hQ'
      exact hQ'
    · have hy : c = 0 ∨ nI (b - a) < s := Or.inr (fa_of_nle h2)
      refine bkX11_findPulses_79 (p3 _ (c + 1) sa _ hk1 hg1 ?_)
      rw [if_pos hy] at hQ' ⊢
      rw [if_pos hy] at hQ'
      exact hQ'
def okb (L : Nat) (b : Bool) : Bool := L.testBit (if b then 1 else 0)
theorem bi_nI (b : Bool) : bi_ b = nI (if b then 1 else 0) := by cases b <;> rfl
theorem lM_findPulses {L : Nat} {S0 : hs_T} {Q : Option av_T → hs_T → Prop} (hT : TrM S0 n t) (hw : w < 8) :
    ∀ (m a : Nat) (q : pl_T) (S : hs_T) (o4 : Option av_T), n - a ≤ m → a ≤ n → Kp S0 S → f11 S q → p_ok q → (∀ S', Kp S0 S' → f11 S' (s_pl (t_ch t w) (fun b => okb L (t_hi t w b)) (p_nt 0) (n - (a + 1)) (a + 1) a q) → Q none S') → Ev (d + 2) mX11_findPulses 2 [some (vR 11 0), some (vI (nI w)), some (vI (nI L)), some (vI (nI a)), o4] [] S Q := by
  have h2 := hT.2.1
  intro m
  induction m with
  | zero =>
    intro a q S o4 hm ha hk hf hok hQ
    have h1 := (TrM_Kp hk hT).1
    refine bkX11_findPulses_2 (fun _ => bkX11_findPulses_176 (hQ S hk ?_)) (fun h => absurd (by rw [h1]; exact nI_le (by omega) (by omega)) h)
    rw [show n - (a + 1) = 0 by omega]; exact hf
  | succ m ih =>
    intro a q S o4 hm ha hk hf hok hQ
    have hT' := TrM_Kp hk hT
    have h1 := hT'.1
    by_cases hlt : a < n
    · refine bkX11_findPulses_2 (fun h => absurd h (by rw [h1]; exact nl_ (by omega) (by omega))) (fun _ => ?_)
      refine bkX11_findPulses_10 (kM_endOf hT' hw hlt) ?_
      rintro _ S ⟨rfl, rfl⟩
      have hle := s_nx_le (t_ch t w) (n - (a + 1)) (a + 1)
      rw [s_pl_jump] at hQ
      generalize hb : s_nx (t_ch t w) (n - (a + 1)) (a + 1) = b at *
      rw [show a + 1 + (n - (a + 1)) = n by omega] at hQ hle
      have skip : (decide (0 < a) && okb L (t_hi t w a)) = false ∨ n ≤ b → Ev (d + 2) mX11_findPulses 170 [some (vR 11 0), some (vI (nI w)), some (vI (nI L)), some (vI (nI a)), some (vI (nI b))] [] S Q := by
        intro h
        refine bkX11_findPulses_170 ?_
        refine ih b q S _ (by omega) (by omega) hk hf hok ?_
        rcases h with h | h
        · rw [h] at hQ
          by_cases hbn : b < n
          · rw [if_pos hbn] at hQ; exact hQ
          · rw [if_neg hbn] at hQ
            rw [show n - (b + 1) = 0 by omega]; exact hQ
        · rw [if_neg (by omega)] at hQ
          rw [show n - (b + 1) = 0 by omega]; exact hQ
      refine bkX11_findPulses_16 (fun h => ?_) (fun h => ?_)
      · have h0 : a = 0 := z_of (by omega) h
        exact skip (Or.inl (by rw [h0]; rfl))
      · have h0 : 0 < a := p_of h
        refine bkX11_findPulses_22 (fun h => ?_) (fun h => ?_) <;> rw [h1, nI_leI (by omega) (by omega)] at h
        · exact skip (Or.inr h)
        · refine bkX11_findPulses_31 (kM_isHigh hT' hw hlt) ?_
          rintro _ S ⟨rfl, rfl⟩
          refine bkX11_findPulses_38 kM_flag ?_
          rintro _ S ⟨rfl, rfl⟩
          rw [bi_nI]
          have hs : ((nI L >>> (nI (if t_hi t w a = true then 1 else 0) &&& 31)) &&& 1) = bi_ (okb L (t_hi t w a)) := by
            rw [sb_hi L (by split <;> omega)]; rfl
          refine bkX11_findPulses_41 ?_ ?_ <;> rw [hs] <;> intro hb2
          · rw [bi_ne1] at hb2
            exact skip (Or.inl (by rw [hb2, Bool.and_false]))
          · rw [bi_1] at hb2
            rw [if_pos (by omega), decide_eq_true h0, hb2] at hQ
            refine sM_note (by omega) (by omega) hk hf hok (fun S' hk' hf' => ?_)
            refine bkX11_findPulses_170 ?_
            exact ih b _ S' _ (by omega) (by omega) hk' hf' (p_ok_nt hok (by omega)) hQ
    · refine bkX11_findPulses_2 (fun _ => bkX11_findPulses_176 (hQ S hk ?_)) (fun h => absurd (by rw [h1]; exact nI_le (by omega) (by omega)) h)
      rw [show n - (a + 1) = 0 by omega]; exact hf
theorem kM_findPulses {L : Nat} {q : pl_T} (hT : TrM S n t) (hw : w < 8) (hf : f11 S q) (hok : p_ok q) : Cv (d + 2) mX11_findPulses [vR 11 0, vI (nI w), vI (nI L)] S (fun S' => Kp S S' ∧ f11 S' (s_ps n t w 0 (fun b => okb L (t_hi t w b)) q)) := by
  refine cxX11_findPulses ?_
  refine bkX11_findPulses_0 ?_
  exact lM_findPulses (L := L) hT hw n 0 q S _ (by omega) (by omega) (Kp_rf S) hf hok (fun S' h1 h2 => ⟨rfl, h1, h2⟩)
theorem okb_3 (b : Bool) : okb 3 b = true := by cases b <;> rfl
theorem okb_l {k : Nat} (hk : k ≤ 1) (b : Bool) : okb (2 ^ k) b = okl (nI k) b := by
  rcases (show k = 0 ∨ k = 1 by omega) with rfl | rfl <;> cases b <;> decide
theorem kM_pulse {x y z : Int32} (hT : TrM S n t) : Ci (d + 3) mX11_pulse [vR 11 0, vI x, vI y, vI z] S (fun v S' => v = sp_pulse n t x y z ∧ Kp S S') := by
  refine cxX11_pulse ?_
  refine bkX11_pulse_0 kM_isWire ?_
  rintro _ S ⟨rfl, rfl⟩
  cases hx : inR x 0 7
  · exact bkX11_pulse_4 (fun _ => bkX11_pulse_29 ⟨_, rfl, by simp [sp_pulse, hx], Kp_rf _⟩) (fun h => absurd rfl h)
  refine bkX11_pulse_4 (fun h => absurd h (by decide)) (fun _ => ?_)
  refine bkX11_pulse_7 (kM_inI (lo := 0) (hi := 1) rfl rfl) ?_
  rintro _ S ⟨rfl, rfl⟩
  cases hy : inR y 0 1
  · exact bkX11_pulse_14 (fun _ => bkX11_pulse_29 ⟨_, rfl, by simp [sp_pulse, hy], Kp_rf _⟩) (fun h => absurd rfl h)
  refine bkX11_pulse_14 (fun h => absurd h (by decide)) (fun _ => ?_)
  refine bkX11_pulse_17 (kM_inI (lo := 0) (hi := 4) rfl rfl) ?_
  rintro _ S ⟨rfl, rfl⟩
  cases hz : inR z 0 4
  · exact bkX11_pulse_26 (fun h => absurd rfl h) (fun _ => bkX11_pulse_29 ⟨_, rfl, by simp [sp_pulse, hz], Kp_rf _⟩)
  refine bkX11_pulse_26 (fun _ => ?_) (fun h => absurd h (by decide))
  obtain ⟨w, hw, rfl⟩ := inR_get hx
  obtain ⟨k, hk, rfl⟩ := inR_get hy
  have es : sp_pulse n t (nI w) (nI k) z = p_at (s_ps n t w 0 (fun b => okb (2 ^ k) (t_hi t w b)) p0) z := by
    rw [sp_pulse, hx, hy, hz, nI_tn (by omega)]; simp only [okb_l (show k ≤ 1 by omega)]; rfl
  rw [es]
  refine bkX11_pulse_31 kM_noPulses ?_
  rintro S1 ⟨hk1, hf1⟩
  have e1 : (1 : Int32) <<< (nI k &&& 31) = nI (2 ^ k) := by
    rcases (show k = 0 ∨ k = 1 by omega) with rfl | rfl <;> decide
  refine bkX11_pulse_35 (by rw [e1]; exact kM_findPulses (L := 2 ^ k) (TrM_Kp hk1 hT) (by omega) hf1 p_ok0) ?_
  rintro S2 ⟨hk2, e0, e1, e2, e3, e4⟩
  have hkk := Kp_tr hk1 hk2
  unfold p_at
  refine bkX11_pulse_43 (fun g0 => ?_) (fun e => ?_)
  · rw [if_neg g0]
    refine bkX11_pulse_54 (fun g1 => ?_) (fun e => ?_)
    · rw [if_neg g1]
      refine bkX11_pulse_66 (fun g2 => ?_) (fun e => ?_)
      · rw [if_neg g2]
        refine bkX11_pulse_78 (fun g3 => ?_) (fun e => ?_)
        · rw [if_neg g3]
          exact bkX11_pulse_90 (bkX11_pulse_94 ⟨_, rfl, e4, hkk⟩)
        · rw [if_pos e]
          exact bkX11_pulse_83 (bkX11_pulse_94 ⟨_, rfl, e3, hkk⟩)
      · rw [if_pos e]
        exact bkX11_pulse_71 (bkX11_pulse_94 ⟨_, rfl, e2, hkk⟩)
    · rw [if_pos e]
      exact bkX11_pulse_59 (bkX11_pulse_94 ⟨_, rfl, e1, hkk⟩)
  · rw [if_pos e]
    exact bkX11_pulse_47 (bkX11_pulse_94 ⟨_, rfl, e0, hkk⟩)
/-- how many are too short -/
def p_sh (N : Nat) (k _bg len : Nat) : Nat := k + (if len < N then 1 else 0)
theorem s_ps_sh {N : Nat} {ok : Nat → Bool} {q : pl_T} (hn : n ≤ 400) : (s_ps n t w N ok q).2.1 = s_pl (t_ch t w) ok (p_sh N) (n - 1) 1 0 q.2.1 := by
  unfold s_ps
  rcases Nat.eq_zero_or_pos n with z | z
  · subst z; rw [Nat.zero_sub]; unfold s_pl; rfl
  · exact s_pl_rel (ch := t_ch t w) (ok := ok) (nt := p_nt N) (nt' := p_sh N) (fun s s' => s.2.1 = s') 400 (fun s s' bg len h _ => by subst h; rfl) (n - 1) 1 0 q q.2.1 (by omega) rfl
theorem lM_shorter {N : Nat} {Q : Option av_T → hs_T → Prop} (hT : TrM S n t) (hw : w < 8) (hN : N ≤ 400) :
    ∀ (m a k : Nat) (o5 : Option av_T), n - a ≤ m → a ≤ n → Q (some (vI (nI (s_pl (t_ch t w) (fun _ => true) (p_sh N) (n - (a + 1)) (a + 1) a k)))) S → Ev (d + 2) mX11_shorter 26 [some (vR 11 0), some (vI (nI w)), some (vI (nI N)), some (vI (nI k)), some (vI (nI a)), o5] [] S Q := by
  have h1 := hT.1
  have h2 := hT.2.1
  intro m
  induction m with
  | zero =>
    intro a k o5 hm ha hQ
    refine bkX11_shorter_26 (fun _ => bkX11_shorter_85 ?_) (fun h => absurd (by rw [h1]; exact nI_le (by omega) (by omega)) h)
    rw [show n - (a + 1) = 0 by omega] at hQ; exact hQ
  | succ m ih =>
    intro a k o5 hm ha hQ
    by_cases hlt : a < n
    · refine bkX11_shorter_26 (fun h => absurd h (by rw [h1]; exact nl_ (by omega) (by omega))) (fun _ => ?_)
      refine bkX11_shorter_35 (kM_endOf hT hw hlt) ?_
      rintro _ S ⟨rfl, rfl⟩
      have hle := s_nx_le (t_ch t w) (n - (a + 1)) (a + 1)
      rw [s_pl_jump] at hQ
      generalize hb : s_nx (t_ch t w) (n - (a + 1)) (a + 1) = b at *
      rw [show a + 1 + (n - (a + 1)) = n by omega] at hQ hle
      have nxt : ∀ f : Bool, f = (decide (0 < a) && decide (b < n) && decide (b - a < N)) → Ev (d + 2) mX11_shorter 73 [some (vR 11 0), some (vI (nI w)), some (vI (nI N)), some (vI (nI k)), some (vI (nI a)), some (vI (nI b))] [vI (bi_ f), vI (nI k)] S Q := by
        intro f hf
        refine bkX11_shorter_73 kM_flag ?_
        rintro _ S ⟨rfl, rfl⟩
        refine bkX11_shorter_76 ?_
        rw [bi_nI, nI_add]
        refine ih b _ _ (by omega) (by omega) ?_
        by_cases hbn : b < n
        · rw [if_pos hbn] at hQ
          have : (if (decide (0 < a) && true) = true then p_sh N k a (b - a) else k) = k + (if f = true then 1 else 0) := by
            rw [hf, decide_eq_true hbn]
            by_cases h0 : 0 < a <;> by_cases hs : b - a < N <;> simp [h0, hs, p_sh]
          rw [this] at hQ; exact hQ
        · rw [if_neg hbn] at hQ
          have : f = false := by rw [hf, decide_eq_false hbn]; simp
          rw [this, show n - (b + 1) = 0 by omega]; exact hQ
      refine bkX11_shorter_42 (fun h => ?_) (fun h => ?_)
      · have h0 : a = 0 := z_of (by omega) h
        exact bkX11_shorter_72 (nxt false (by rw [h0]; rfl))
      · have h0 : 0 < a := p_of h
        refine bkX11_shorter_50 (fun h => ?_) (fun h => ?_) <;> rw [h1, nI_leI (by omega) (by omega)] at h
        · exact bkX11_shorter_72 (nxt false (by rw [decide_eq_false (show ¬ b < n by omega)]; simp))
        · refine bkX11_shorter_59 (fun h3 => ?_) (fun h3 => ?_) <;> rw [pk_sub (by omega), nI_leI (by omega) (by omega)] at h3
          · exact bkX11_shorter_72 (nxt false (by rw [decide_eq_false (show ¬ b - a < N by omega)]; simp))
          · exact bkX11_shorter_68 (nxt true (by rw [decide_eq_true h0, decide_eq_true (show b < n by omega), decide_eq_true (show b - a < N by omega)]; rfl))
    · refine bkX11_shorter_26 (fun _ => bkX11_shorter_85 ?_) (fun h => absurd (by rw [h1]; exact nI_le (by omega) (by omega)) h)
      rw [show n - (a + 1) = 0 by omega] at hQ; exact hQ
theorem kM_shorter {x y : Int32} (hT : TrM S n t) : Ci (d + 2) mX11_shorter [vR 11 0, vI x, vI y] S (fun v S' => v = sp_shorter n t x y ∧ Kp S S') := by
  have h2 := hT.2.1
  refine cxX11_shorter ?_
  refine bkX11_shorter_0 kM_isWire ?_
  rintro _ S ⟨rfl, rfl⟩
  cases hx : inR x 0 7
  · exact bkX11_shorter_4 (fun _ => bkX11_shorter_19 ⟨_, rfl, by simp [sp_shorter, hx], Kp_rf _⟩) (fun h => absurd rfl h)
  refine bkX11_shorter_4 (fun h => absurd h (by decide)) (fun _ => ?_)
  refine bkX11_shorter_7 (kM_inI (lo := 1) (hi := 400) rfl rfl) ?_
  rintro _ S ⟨rfl, rfl⟩
  cases hy : inR y 1 400
  · exact bkX11_shorter_16 (fun h => absurd rfl h) (fun _ => bkX11_shorter_19 ⟨_, rfl, by simp [sp_shorter, hy], Kp_rf _⟩)
  refine bkX11_shorter_16 (fun _ => ?_) (fun h => absurd h (by decide))
  obtain ⟨w, hw, rfl⟩ := inR_get hx
  obtain ⟨N, hN1, hN2, rfl⟩ := inR_get1 (by omega) hy
  refine bkX11_shorter_21 ?_
  refine lM_shorter (N := N) hT (by omega) (by omega) n 0 0 _ (by omega) (by omega) ⟨_, rfl, ?_, Kp_rf _⟩
  rw [sp_shorter, hx, hy, nI_tn (by omega), nI_tn (by omega), s_ps_sh h2]
  rfl
theorem lM_widest {S0 : hs_T} {Q : Option av_T → hs_T → Prop} (hT : TrM S0 n t) (hQ : ∀ S', Kp S0 S' → f11 S' (s_wd n t 8) → Ev (d + 3) mX11_widest 24 [some (vR 11 0), some (vI 8)] [] S' Q) :
    ∀ (m k : Nat) (S : hs_T), k + m = 8 → Kp S0 S → f11 S (s_wd n t k) → Ev (d + 3) mX11_widest 6 [some (vR 11 0), some (vI (nI k))] [] S Q := by
  have h2 := hT.2.1
  intro m
  induction m with
  | zero =>
    intro k S hk hK hf
    have e : k = 8 := by omega
    subst e
    exact bkX11_widest_6 (fun _ => hQ S hK hf) (fun h => absurd (by decide) h)
  | succ m ih =>
    intro k S hk hK hf
    refine bkX11_widest_6 (fun h => absurd h (nl_ (b := 8) (by omega) (by omega))) (fun _ => ?_)
    refine bkX11_widest_12 (kM_findPulses (L := 3) (TrM_Kp hK hT) (by omega) hf (s_wd_ok h2 k)) ?_
    rintro S' ⟨hk', hf'⟩
    refine bkX11_widest_18 ?_
    rw [nI_1]
    refine ih (k + 1) S' (by omega) (Kp_tr hK hk') ?_
    simp only [okb_3] at hf'
    exact hf'
theorem kM_widest (hT : TrM S n t) : Ci (d + 3) mX11_widest [vR 11 0] S (fun v S' => v = sp_widest n t ∧ Kp S S') := by
  have h2 := hT.2.1
  refine cxX11_widest ?_
  refine bkX11_widest_0 kM_noPulses ?_
  rintro S1 ⟨hk1, hf1⟩
  refine bkX11_widest_4 (lM_widest (TrM_Kp hk1 hT) (fun S' hk hf => ?_) 8 0 S1 (by omega) (Kp_rf S1) hf1)
  have hok := s_wd_ok (t := t) h2 8
  have e22 := hf.2.1
  refine bkX11_widest_24 (fun h => ?_) (fun h => ?_) <;> rw [e22] at h
  · refine bkX11_widest_39 (bkX11_widest_43 ⟨_, rfl, ?_, Kp_tr hk1 hk⟩)
    rw [e22, sp_widest, sp_wd, if_neg (fun z => h (hok.1 z).1)]
  · refine bkX11_widest_33 (bkX11_widest_43 ⟨_, rfl, ?_, Kp_tr hk1 hk⟩)
    rw [sp_widest, sp_wd, if_pos]
    rcases Nat.eq_zero_or_pos (s_wd n t 8).1 with z | z
    · exact z
    · have := (hok.2 z).1
      rw [h] at this
      exact absurd this (by decide)
end PM
