/-! ===== pulses ===== -/
theorem TrX_Kp {S S' : hs_T} {j n : Nat} {t : Nat → Nat} (h : Kp S S') (hj : j ≠ 1) (hT : TrX S j n t) : TrX S' j n t := by
  obtain ⟨h1, h2, h3⟩ := hT
  refine ⟨by rw [h.2 8 j 1 (by simp [ess, hj])]; exact h1, h2, fun i hi => ?_⟩
  rw [h.2 900 j i (by simp [ess, hj])]; exact h3 i hi
theorem TrM_Kp {S S' : hs_T} {n : Nat} {t : Nat → Nat} (h : Kp S S') (hT : TrM S n t) : TrM S' n t := by
  obtain ⟨h1, h2, h3⟩ := hT
  refine ⟨by rw [h.2 11 0 3 (by simp [ess])]; exact h1, h2, fun i hi => ?_⟩
  rw [h.2 1202 0 i (by simp [ess])]; exact h3 i hi
theorem Kp_n {S S' : hs_T} {k j : Nat} {g : Nat → Int32} (h : Kp S S') (hk : ∀ f, ess k j f = false) : Kp S (sk_ S' k j g) := Kp_sk h (fun f e => absurd e (by rw [hk f]; decide))
theorem ess_3 (j f : Nat) : ess 3 j f = false := by simp [ess]
theorem Kp_11 {S S' : hs_T} {f : Nat} {x : Int32} (h : Kp S S') (hf : ess 11 0 f = false) : Kp S (sk_ S' 11 0 (upd (S'.1 11 0) f x)) :=
  Kp_sk h (fun a e => by rw [pk_un (fun z => by rw [z, hf] at e; exact absurd e (by decide))])
abbrev pl_T : Type := Nat × Nat × Int32 × Int32 × Int32 × Int32
def p_nt (N : Nat) (q : pl_T) (bg len : Nat) : pl_T :=
  (q.1 + 1, q.2.1 + (if len < N then 1 else 0), (if q.1 = 0 ∨ nI len < q.2.2.1 then nI len else q.2.2.1), (if q.1 = 0 ∨ nI len < q.2.2.1 then nI bg else q.2.2.2.1), (if q.1 = 0 ∨ q.2.2.2.2.1 < nI len then nI len else q.2.2.2.2.1), (if q.1 = 0 ∨ q.2.2.2.2.1 < nI len then nI bg else q.2.2.2.2.2))
def s_pl {σ : Type} (ch ok : Nat → Bool) (nt : σ → Nat → Nat → σ) : Nat → Nat → Nat → σ → σ
  | 0, _, _, s => s
  | m + 1, i, bg, s => if ch i then s_pl ch ok nt m (i + 1) i (if decide (0 < bg) && ok bg then nt s bg (i - bg) else s) else s_pl ch ok nt m (i + 1) bg s
def s_nx (ch : Nat → Bool) : Nat → Nat → Nat
  | 0, i => i
  | m + 1, i => if ch i then i else s_nx ch m (i + 1)
theorem s_nx_le (ch : Nat → Bool) : ∀ m i, i ≤ s_nx ch m i ∧ s_nx ch m i ≤ i + m := by
  intro m
  induction m with
  | zero => intro i; exact ⟨Nat.le_refl _, Nat.le_refl _⟩
  | succ m ih =>
    intro i
    unfold s_nx
    split
    · omega
    · have := ih (i + 1); omega
theorem s_nx_ch (ch : Nat → Bool) : ∀ m i, s_nx ch m i < i + m → ch (s_nx ch m i) = true := by
  intro m
  induction m with
  | zero => intro i h; exact absurd h (by unfold s_nx; omega)
  | succ m ih =>
    intro i h
    unfold s_nx at h ⊢
    split
    · assumption
    · rename_i hc; rw [if_neg hc] at h; exact ih (i + 1) (by omega)
theorem s_nx_no (ch : Nat → Bool) : ∀ m i k, i ≤ k → k < s_nx ch m i → ch k = false := by
  intro m
  induction m with
  | zero => intro i k h1 h2; exact absurd h2 (by unfold s_nx; omega)
  | succ m ih =>
    intro i k h1 h2
    unfold s_nx at h2
    split at h2
    · omega
    · rename_i hc
      by_cases e : k = i
      · subst e; exact Bool.eq_false_iff.mpr hc
      · exact ih (i + 1) k (by omega) h2
theorem s_pl_jump {σ : Type} (ch ok : Nat → Bool) (nt : σ → Nat → Nat → σ) : ∀ (m i bg : Nat) (s : σ), s_pl ch ok nt m i bg s = if s_nx ch m i < i + m then s_pl ch ok nt (i + m - (s_nx ch m i + 1)) (s_nx ch m i + 1) (s_nx ch m i) (if decide (0 < bg) && ok bg then nt s bg (s_nx ch m i - bg) else s) else s := by
  intro m
  induction m with
  | zero => intro i bg s; rw [if_neg (by unfold s_nx; omega)]; rfl
  | succ m ih =>
    intro i bg s
    unfold s_nx
    by_cases hc : ch i = true
    · rw [if_pos hc, if_pos (by omega)]
      rw [show i + (m + 1) - (i + 1) = m by omega]
      conv => lhs; unfold s_pl
      rw [if_pos hc]
    · rw [if_neg hc]
      conv => lhs; unfold s_pl
      rw [if_neg hc, ih, show i + 1 + m = i + (m + 1) by omega]
def f3 (S : hs_T) (q : pl_T) : Prop := S.1 3 0 0 = nI q.1 ∧ S.1 3 0 5 = nI q.2.1 ∧ S.1 3 0 1 = q.2.2.1 ∧ S.1 3 0 2 = q.2.2.2.1 ∧ S.1 3 0 3 = q.2.2.2.2.1 ∧ S.1 3 0 4 = q.2.2.2.2.2
section PU
variable {d : Nat} {S : hs_T} {n w i : Nat} {t : Nat → Nat}
theorem kX3_note {bg len N : Nat} {q : pl_T} (hq : f3 S q) (hc : q.1 ≤ 400) (hl : len ≤ 400) (hN : N ≤ 400) : Cv d mX3_note [vR 3 0, vI (nI bg), vI (nI len), vI (nI N)] S (fun S' => Kp S S' ∧ f3 S' (p_nt N q bg len)) := by
  obtain ⟨c, k, s, sa, l, la⟩ := q
  have hc : c ≤ 400 := hc
  have c0 : ∀ {A : Int32}, A = nI c → (A = 0 ↔ c = 0) := fun h => by rw [h]; exact nI_eq (b := 0) (by omega) (by omega)
  refine cxX3_note ?_
  have p3 : ∀ (S1 : hs_T) (s sa l la : Int32), Kp S S1 → f3 S1 (c, k, s, sa, l, la) → Ev d mX3_note 50 [some (vR 3 0), some (vI (nI bg)), some (vI (nI len)), some (vI (nI N))] [] S1 (fun r S' => r = none ∧ Kp S S' ∧ f3 S' (c + 1, k + (if len < N then 1 else 0), s, sa, l, la)) := by
    rintro S1 s sa l la hk ⟨e0, e5, e1, e2, e3, e4⟩
    have hk1 : Kp S (sk_ S1 3 0 (upd (S1.1 3 0) 0 (S1.1 3 0 0 + 1))) := Kp_n hk (fun f => ess_3 0 f)
    have a5 : (sk_ S1 3 0 (upd (S1.1 3 0) 0 (S1.1 3 0 0 + 1))).1 3 0 5 = nI k := by rw [sk_at, pk_un (by omega)]; exact e5
    have fin : ∀ v : Nat, v = (if len < N then 1 else 0) → f3 (sk_ (sk_ S1 3 0 (upd (S1.1 3 0) 0 (S1.1 3 0 0 + 1))) 3 0 (upd ((sk_ S1 3 0 (upd (S1.1 3 0) 0 (S1.1 3 0 0 + 1))).1 3 0) 5 (nI k + nI v))) (c + 1, k + (if len < N then 1 else 0), s, sa, l, la) := by
      intro v hv
      rw [← hv]
      refine ⟨?_, ?_, ?_, ?_, ?_, ?_⟩ <;> simp only [sk_at]
      · rw [pk_un (by omega), pk_us, e0]; exact nI_1 c
      · rw [pk_us]; exact nI_add k v
      · rw [pk_un (by omega), pk_un (by omega)]; exact e1
      · rw [pk_un (by omega), pk_un (by omega)]; exact e2
      · rw [pk_un (by omega), pk_un (by omega)]; exact e3
      · rw [pk_un (by omega), pk_un (by omega)]; exact e4
    refine bkX3_note_50 (fun h => bkX3_note_74 (bkX3_note_75 ⟨rfl, Kp_n hk1 (fun f => ess_3 0 f), ?_⟩)) (fun h => bkX3_note_70 (bkX3_note_75 ⟨rfl, Kp_n hk1 (fun f => ess_3 0 f), ?_⟩)) <;> rw [nI_leI (by omega) (by omega)] at h <;> rw [a5]
    · exact fin 0 (by rw [if_neg (by omega)])
    · exact fin 1 (by rw [if_pos (by omega)])
  have p2 : ∀ (S1 : hs_T) (s sa : Int32), Kp S S1 → f3 S1 (c, k, s, sa, l, la) → Ev d mX3_note 25 [some (vR 3 0), some (vI (nI bg)), some (vI (nI len)), some (vI (nI N))] [] S1 (fun r S' => r = none ∧ Kp S S' ∧ f3 S' (c + 1, k + (if len < N then 1 else 0), s, sa, (if c = 0 ∨ l < nI len then nI len else l), (if c = 0 ∨ l < nI len then nI bg else la))) := by
    intro S1 s sa hk hf
    obtain ⟨e0, e5, e1, e2, e3, e4⟩ := hf
    have e0 : S1.1 3 0 0 = nI c := e0
    have e3' : S1.1 3 0 3 = l := e3
    have yes : (c = 0 ∨ l < nI len) → Ev d mX3_note 40 [some (vR 3 0), some (vI (nI bg)), some (vI (nI len)), some (vI (nI N))] [] S1 (fun r S' => r = none ∧ Kp S S' ∧ f3 S' (c + 1, k + (if len < N then 1 else 0), s, sa, (if c = 0 ∨ l < nI len then nI len else l), (if c = 0 ∨ l < nI len then nI bg else la))) := by
      intro h
      rw [if_pos h, if_pos h]
      refine bkX3_note_40 (p3 _ _ _ _ _ (Kp_n (Kp_n hk (fun f => ess_3 0 f)) (fun f => ess_3 0 f)) ?_)
      refine ⟨?_, ?_, ?_, ?_, ?_, ?_⟩ <;> simp only [sk_at]
      · rw [pk_un (by omega), pk_un (by omega)]; exact e0
      · rw [pk_un (by omega), pk_un (by omega)]; exact e5
      · rw [pk_un (by omega), pk_un (by omega)]; exact e1
      · rw [pk_un (by omega), pk_un (by omega)]; exact e2
      · rw [pk_un (by omega), pk_us]
      · rw [pk_us]
    refine bkX3_note_25 (fun h => yes (Or.inl ((c0 e0).mp h))) (fun h => ?_)
    refine bkX3_note_32 (fun h2 => ?_) (fun h2 => ?_)
    · rw [e3'] at h2
      have hn : ¬ (c = 0 ∨ l < nI len) := by
        rintro (z | z)
        · exact h ((c0 e0).mpr z)
        · rw [fa_lt] at z; rw [fa_le] at h2; omega
      rw [if_neg hn, if_neg hn]
      exact p3 _ _ _ _ _ hk ⟨e0, e5, e1, e2, e3, e4⟩
    · rw [e3'] at h2
      exact yes (Or.inr (fa_of_nle h2))
  obtain ⟨e0, e5, e1, e2, e3, e4⟩ := hq
  have e0 : S.1 3 0 0 = nI c := e0
  have e1' : S.1 3 0 1 = s := e1
  have yes : (c = 0 ∨ nI len < s) → Ev d mX3_note 15 [some (vR 3 0), some (vI (nI bg)), some (vI (nI len)), some (vI (nI N))] [] S (fun r S' => r = none ∧ Kp S S' ∧ f3 S' (p_nt N (c, k, s, sa, l, la) bg len)) := by
    intro h
    unfold p_nt
    simp only [if_pos h]
    refine bkX3_note_15 (p2 _ _ _ (Kp_n (Kp_n (Kp_rf S) (fun f => ess_3 0 f)) (fun f => ess_3 0 f)) ?_)
    refine ⟨?_, ?_, ?_, ?_, ?_, ?_⟩ <;> simp only [sk_at]
    · rw [pk_un (by omega), pk_un (by omega)]; exact e0
    · rw [pk_un (by omega), pk_un (by omega)]; exact e5
    · rw [pk_un (by omega), pk_us]
    · rw [pk_us]
    · rw [pk_un (by omega), pk_un (by omega)]; exact e3
    · rw [pk_un (by omega), pk_un (by omega)]; exact e4
  refine bkX3_note_0 (fun h => yes (Or.inl ((c0 e0).mp h))) (fun h => ?_)
  refine bkX3_note_7 (fun h2 => ?_) (fun h2 => ?_)
  · rw [e1'] at h2
    have hn : ¬ (c = 0 ∨ nI len < s) := by
      rintro (z | z)
      · exact h ((c0 e0).mpr z)
      · rw [fa_lt] at z; rw [fa_le] at h2; omega
    unfold p_nt
    simp only [if_neg hn]
    exact p2 _ _ _ (Kp_rf S) ⟨e0, e5, e1, e2, e3, e4⟩
  · rw [e1'] at h2
    exact yes (Or.inr (fa_of_nle h2))
def okl (lv : Int32) (b : Bool) : Bool := decide (lv = -1) || (b == decide (lv = 1))
def p0 : pl_T := (0, 0, -4, -4, -4, -4)
/-- the pulses of wire w that are ok -/
def s_ps (n : Nat) (t : Nat → Nat) (w N : Nat) (ok : Nat → Bool) (q : pl_T) : pl_T := s_pl (t_ch t w) ok (p_nt N) (n - 1) 1 0 q
theorem lX3_measure {lv : Int32} {N : Nat} {S0 : hs_T} {Q : Option av_T → hs_T → Prop} (hT : TrX S0 0 n t) (hw : w < 8) (hN : N ≤ 400) :
    ∀ (m i bg : Nat) (q : pl_T) (S : hs_T), i + m = n → bg < i → q.1 ≤ bg → Kp S0 S → f3 S q → (∀ S', Kp S0 S' → f3 S' (s_pl (t_ch t w) (fun b => okl lv (t_hi t w b)) (p_nt N) m i bg q) → Q none S') → Ev (d + 1) mX3_measure 40 [some (vR 3 0), some (vR 8 0), some (vI (nI w)), some (vI lv), some (vI (nI N)), some (vI (nI bg)), some (vI (nI i))] [] S Q := by
  have h2 := hT.2.1
  intro m
  induction m with
  | zero =>
    intro i bg q S hi hb hc hk hf hQ
    have h1 := (TrX_Kp hk (by omega) hT).1
    exact bkX3_measure_40 (by omega) (fun _ => bkX3_measure_115 (hQ S hk hf)) (fun h => absurd (by rw [h1]; exact nI_le (by omega) (by omega)) h)
  | succ m ih =>
    intro i bg q S hi hb hc hk hf hQ
    have hT' := TrX_Kp hk (by omega) hT
    have h1 := hT'.1
    refine bkX3_measure_40 (by omega) (fun h => absurd h (by rw [h1]; exact nl_ (by omega) (by omega))) (fun _ => ?_)
    refine bkX3_measure_49 (by omega) (kX8_changes hT' (by omega) hw (by omega)) ?_
    rintro _ S ⟨rfl, rfl⟩
    unfold s_pl at hQ
    cases hch : t_ch t w i
    · simp only [hch, Bool.false_eq_true, if_false] at hQ
      refine bkX3_measure_56 (fun h => absurd rfl h) (fun _ => bkX3_measure_59 (bkX3_measure_109 ?_))
      rw [nI_1]
      exact ih (i + 1) bg q _ (by omega) (by omega) hc hk hf hQ
    · simp only [hch, if_true] at hQ
      refine bkX3_measure_56 (fun _ => ?_) (fun h => absurd h (by decide))
      have skip : (decide (0 < bg) && okl lv (t_hi t w bg)) = false → Ev (d + 1) mX3_measure 105 [some (vR 3 0), some (vR 8 0), some (vI (nI w)), some (vI lv), some (vI (nI N)), some (vI (nI bg)), some (vI (nI i))] [] S Q := by
        intro h
        rw [h] at hQ
        refine bkX3_measure_105 (bkX3_measure_109 ?_)
        rw [nI_1]
        exact ih (i + 1) i q _ (by omega) (by omega) (by omega) hk hf hQ
      have note : (decide (0 < bg) && okl lv (t_hi t w bg)) = true → Ev (d + 1) mX3_measure 92 [some (vR 3 0), some (vR 8 0), some (vI (nI w)), some (vI lv), some (vI (nI N)), some (vI (nI bg)), some (vI (nI i))] [] S Q := by
        intro h
        rw [h] at hQ
        refine bkX3_measure_92 (P := fun S' => Kp S S' ∧ f3 S' (p_nt N q bg (i - bg))) (by rw [pk_sub (by omega)]; exact kX3_note hf (by omega) (by omega) hN) ?_
        rintro S' ⟨hk', hf'⟩
        refine bkX3_measure_105 (bkX3_measure_109 ?_)
        rw [nI_1]
        exact ih (i + 1) i _ _ (by omega) (by omega) (by show q.1 + 1 ≤ i; omega) (Kp_tr hk hk') hf' hQ
      refine bkX3_measure_62 (fun h => ?_) (fun h => ?_)
      · have h0 : bg = 0 := z_of (by omega) h
        subst h0
        exact skip rfl
      · have h0 : 0 < bg := p_of h
        refine bkX3_measure_67 (fun h => note ?_) (fun h => ?_)
        · rw [decide_eq_true h0, okl, decide_eq_true h]; rfl
        refine bkX3_measure_72 (by omega) (kX8_high hT' (by omega) hw (by omega)) ?_
        rintro _ S ⟨rfl, rfl⟩
        have last : ∀ (v : Int32) (b : Bool), v = bi_ b → b = decide (lv = 1) → Ev (d + 1) mX3_measure 89 [some (vR 3 0), some (vR 8 0), some (vI (nI w)), some (vI lv), some (vI (nI N)), some (vI (nI bg)), some (vI (nI i))] [vI v, vI (bi_ (t_hi t w bg))] S Q := by
          rintro v b rfl hb
          refine bkX3_measure_89 (fun z => skip ?_) (fun z => note ?_) <;> rw [bi_inj] at z
          · rw [okl, decide_eq_false h, ← hb, beq_eq_false_iff_ne.mpr z]; simp
          · rw [decide_eq_true h0, okl, ← hb, z]; simp
        refine bkX3_measure_79 (fun z => bkX3_measure_88 (last 0 false rfl (by rw [decide_eq_false z]))) (fun z => bkX3_measure_84 (last 1 true rfl (by rw [decide_eq_true z])))
theorem kX3_measure {lv : Int32} {N : Nat} (hT : TrX S 0 n t) (hw : w < 8) (hN : N ≤ 400) : Cv (d + 1) mX3_measure [vR 3 0, vR 8 0, vI (nI w), vI lv, vI (nI N)] S (fun S' => Kp S S' ∧ f3 S' (s_ps n t w N (fun b => okl lv (t_hi t w b)) p0)) := by
  refine cxX3_measure ?_
  refine bkX3_measure_0 ?_
  simp only [sk_sk, sk_at]
  have hf : f3 (sk_ S 3 0 (upd (upd (upd (upd (upd (upd (S.1 3 0) 0 0) 5 0) 1 (-4)) 2 (-4)) 3 (-4)) 4 (-4))) p0 := by
    refine ⟨?_, ?_, ?_, ?_, ?_, ?_⟩ <;> rw [sk_at] <;> rfl
  have hk : Kp S (sk_ S 3 0 (upd (upd (upd (upd (upd (upd (S.1 3 0) 0 0) 5 0) 1 (-4)) 2 (-4)) 3 (-4)) 4 (-4))) := Kp_n (Kp_rf S) (fun f => ess_3 0 f)
  rcases Nat.eq_zero_or_pos n with hn | hn
  · subst hn
    have h1 := (TrX_Kp hk (by omega) hT).1
    exact bkX3_measure_40 (by omega) (fun _ => bkX3_measure_115 ⟨rfl, hk, hf⟩) (fun h => absurd (by rw [h1]; decide) h)
  · exact lX3_measure (d := d) (lv := lv) (N := N) hT hw hN (n - 1) 1 0 p0 _ (by omega) (by omega) (by decide) hk hf (fun S' h1 h2 => ⟨rfl, h1, h2⟩)
def p_at (q : pl_T) (z : Int32) : Int32 := if z = 0 then nI q.1 else if z = 1 then q.2.2.1 else if z = 2 then q.2.2.2.1 else if z = 3 then q.2.2.2.2.1 else q.2.2.2.2.2
def sp_pulse (n : Nat) (t : Nat → Nat) (x y z : Int32) : Int32 := if inR x 0 7 && inR y 0 1 && inR z 0 4 then p_at (s_ps n t x.toInt.toNat 0 (fun b => okl y (t_hi t x.toInt.toNat b)) p0) z else -1
theorem kX10_pulse {x y z : Int32} (hT : TrX S 0 n t) : Ci (d + 2) mX10_pulse [vR 10 0, vI x, vI y, vI z] S (fun v S' => v = sp_pulse n t x y z ∧ Kp S S') := by
  refine cxX10_pulse ?_
  refine bkX10_pulse_0 kX10_isWire ?_
  rintro _ S ⟨rfl, rfl⟩
  cases hx : inR x 0 7
  · exact bkX10_pulse_4 (fun _ => bkX10_pulse_25 ⟨_, rfl, by simp [sp_pulse, hx], Kp_rf _⟩) (fun h => absurd rfl h)
  refine bkX10_pulse_4 (fun h => absurd h (by decide)) (fun _ => ?_)
  refine bkX10_pulse_7 (kX10_w (lo := 0) (hi := 1) rfl rfl) ?_
  rintro _ S ⟨rfl, rfl⟩
  cases hy : inR y 0 1
  · exact bkX10_pulse_13 (fun _ => bkX10_pulse_25 ⟨_, rfl, by simp [sp_pulse, hy], Kp_rf _⟩) (fun h => absurd rfl h)
  refine bkX10_pulse_13 (fun h => absurd h (by decide)) (fun _ => ?_)
  refine bkX10_pulse_16 (kX10_w (lo := 0) (hi := 4) rfl rfl) ?_
  rintro _ S ⟨rfl, rfl⟩
  cases hz : inR z 0 4
  · exact bkX10_pulse_22 (fun h => absurd rfl h) (fun _ => bkX10_pulse_25 ⟨_, rfl, by simp [sp_pulse, hz], Kp_rf _⟩)
  refine bkX10_pulse_22 (fun _ => ?_) (fun h => absurd h (by decide))
  obtain ⟨w, hw, rfl⟩ := inR_get hx
  have es : sp_pulse n t (nI w) y z = p_at (s_ps n t w 0 (fun b => okl y (t_hi t w b)) p0) z := by rw [sp_pulse, hx, hy, hz, nI_tn (by omega)]; rfl
  rw [es]
  refine bkX10_pulse_27 (kX3_measure (N := 0) hT (by omega) (by omega)) ?_
  rintro S' ⟨hk, e0, e5, e1, e2, e3, e4⟩
  unfold p_at
  refine bkX10_pulse_41 (fun e => ?_) (fun e => ?_) (fun e => ?_) (fun e => ?_) (fun g0 g1 g2 g3 => ?_)
  · exact bkX10_pulse_72 ⟨_, rfl, by rw [e0, if_pos e], hk⟩
  · exact bkX10_pulse_80 ⟨_, rfl, by rw [e1, if_neg (by rw [e]; decide), if_pos e], hk⟩
  · exact bkX10_pulse_88 ⟨_, rfl, by rw [e2, if_neg (by rw [e]; decide), if_neg (by rw [e]; decide), if_pos e], hk⟩
  · exact bkX10_pulse_96 ⟨_, rfl, by rw [e3, if_neg (by rw [e]; decide), if_neg (by rw [e]; decide), if_neg (by rw [e]; decide), if_pos e], hk⟩
  · exact bkX10_pulse_104 ⟨_, rfl, by rw [e4, if_neg g0, if_neg g1, if_neg g2, if_neg g3], hk⟩
def sp_shorter (n : Nat) (t : Nat → Nat) (x y : Int32) : Int32 := if inR x 0 7 && inR y 1 400 then nI (s_ps n t x.toInt.toNat y.toInt.toNat (fun _ => true) p0).2.1 else -1
theorem okl_m (b : Bool) : okl (-1) b = true := rfl
theorem kX10_shorter {x y : Int32} (hT : TrX S 0 n t) : Ci (d + 2) mX10_shorter [vR 10 0, vI x, vI y] S (fun v S' => v = sp_shorter n t x y ∧ Kp S S') := by
  refine cxX10_shorter ?_
  refine bkX10_shorter_0 kX10_isWire ?_
  rintro _ S ⟨rfl, rfl⟩
  cases hx : inR x 0 7
  · exact bkX10_shorter_4 (fun _ => bkX10_shorter_18 ⟨_, rfl, by simp [sp_shorter, hx], Kp_rf _⟩) (fun h => absurd rfl h)
  refine bkX10_shorter_4 (fun h => absurd h (by decide)) (fun _ => ?_)
  refine bkX10_shorter_7 (kX10_w (lo := 1) (hi := 400) rfl rfl) ?_
  rintro _ S ⟨rfl, rfl⟩
  cases hy : inR y 1 400
  · exact bkX10_shorter_15 (fun h => absurd rfl h) (fun _ => bkX10_shorter_18 ⟨_, rfl, by simp [sp_shorter, hy], Kp_rf _⟩)
  refine bkX10_shorter_15 (fun _ => ?_) (fun h => absurd h (by decide))
  obtain ⟨w, hw, rfl⟩ := inR_get hx
  obtain ⟨N, hN1, hN2, rfl⟩ := inR_get1 (by omega) hy
  refine bkX10_shorter_20 (kX3_measure (N := N) hT (by omega) (by omega)) ?_
  rintro S' ⟨hk, e0, e5, e1, e2, e3, e4⟩
  refine bkX10_shorter_34 ⟨_, rfl, ?_, hk⟩
  rw [e5, sp_shorter, hx, hy, nI_tn (by omega), nI_tn (by omega)]
  rfl
/-! what a tally of pulses keeps -/
def p_ok (q : pl_T) : Prop := (q.1 = 0 → q.2.2.1 = -4 ∧ q.2.2.2.2.1 = -4) ∧ (0 < q.1 → 0 ≤ q.2.2.1.toInt ∧ q.2.2.1.toInt ≤ 400)
theorem p_ok0 : p_ok p0 := ⟨fun _ => ⟨rfl, rfl⟩, fun h => absurd h (by decide)⟩
theorem p_ok_nt {N bg len : Nat} {q : pl_T} (h : p_ok q) (hl : len ≤ 400) : p_ok (p_nt N q bg len) := by
  refine ⟨fun e => absurd (show q.1 + 1 = 0 from e) (by omega), fun _ => ?_⟩
  show 0 ≤ (if q.1 = 0 ∨ nI len < q.2.2.1 then nI len else q.2.2.1).toInt ∧ (if q.1 = 0 ∨ nI len < q.2.2.1 then nI len else q.2.2.1).toInt ≤ 400
  split
  · rw [nI_toInt (by omega)]; omega
  · rename_i z; exact h.2 (by omega)
theorem s_pl_inv {σ : Type} {ch ok : Nat → Bool} {nt : σ → Nat → Nat → σ} (I : σ → Prop) (M : Nat) (hI : ∀ s bg len, I s → len ≤ M → I (nt s bg len)) : ∀ (m i bg : Nat) (s : σ), i + m ≤ M → I s → I (s_pl ch ok nt m i bg s) := by
  intro m
  induction m with
  | zero => intro i bg s hm h; exact h
  | succ m ih =>
    intro i bg s hm h
    unfold s_pl
    split
    · refine ih _ _ _ (by omega) ?_
      split
      · exact hI _ _ _ h (by omega)
      · exact h
    · exact ih _ _ _ (by omega) h
theorem s_pl_rel {σ τ : Type} {ch ok : Nat → Bool} {nt : σ → Nat → Nat → σ} {nt' : τ → Nat → Nat → τ} (R : σ → τ → Prop) (M : Nat) (hI : ∀ s s' bg len, R s s' → len ≤ M → R (nt s bg len) (nt' s' bg len)) : ∀ (m i bg : Nat) (s : σ) (s' : τ), i + m ≤ M → R s s' → R (s_pl ch ok nt m i bg s) (s_pl ch ok nt' m i bg s') := by
  intro m
  induction m with
  | zero => intro i bg s s' hm h; exact h
  | succ m ih =>
    intro i bg s s' hm h
    unfold s_pl
    split
    · refine ih _ _ _ _ (by omega) ?_
      split
      · exact hI _ _ _ _ h (by omega)
      · exact h
    · exact ih _ _ _ _ (by omega) h
theorem s_ps_ok {N : Nat} {ok : Nat → Bool} {q : pl_T} (hn : n ≤ 400) (h : p_ok q) : p_ok (s_ps n t w N ok q) := by
  unfold s_ps
  rcases Nat.eq_zero_or_pos n with z | z
  · subst z; exact h
  · exact s_pl_inv p_ok 400 (fun s bg len h hl => p_ok_nt h hl) _ _ _ _ (by omega) h
/-- the shortest of all wires up to k -/
def s_wd (n : Nat) (t : Nat → Nat) : Nat → pl_T
  | 0 => p0
  | k + 1 => s_ps n t k 0 (fun _ => true) (s_wd n t k)
def p_mix (q r u : pl_T) : Prop := u.1 = q.1 + r.1 ∧ u.2.2.1 = (if r.1 = 0 then q.2.2.1 else if q.1 = 0 then r.2.2.1 else if r.2.2.1 < q.2.2.1 then r.2.2.1 else q.2.2.1)
theorem p_mix0 (q : pl_T) : p_mix q p0 q := ⟨rfl, rfl⟩
theorem p_mix_nt {q r u : pl_T} {bg len : Nat} (h : p_mix q r u) : p_mix q (p_nt 0 r bg len) (p_nt 0 u bg len) := by
  obtain ⟨qc, qk, qs, q'⟩ := q
  obtain ⟨rc, rk, rs, r'⟩ := r
  obtain ⟨uc, uk, us, u'⟩ := u
  obtain ⟨h1, h2⟩ := h
  simp only at h1 h2
  subst h1
  refine ⟨by show qc + rc + 1 = qc + (rc + 1); omega, ?_⟩
  show (if qc + rc = 0 ∨ nI len < us then nI len else us) = if rc + 1 = 0 then qs else if qc = 0 then (if rc = 0 ∨ nI len < rs then nI len else rs) else if (if rc = 0 ∨ nI len < rs then nI len else rs) < qs then (if rc = 0 ∨ nI len < rs then nI len else rs) else qs
  rw [if_neg (show ¬ rc + 1 = 0 by omega), h2]
  simp only [fa_lt]
  by_cases hr : rc = 0 <;> by_cases hq : qc = 0 <;> simp only [hr, hq, if_true, if_false, true_or, false_or, Nat.add_zero, Nat.zero_add]
  by_cases a : rs.toInt < qs.toInt
  · simp only [if_pos a, show ¬ (qc + rc = 0) by omega, false_or]
    by_cases b : (nI len).toInt < rs.toInt
    · simp only [if_pos b]; rw [if_pos (by omega)]
    · simp only [if_neg b]; rw [if_pos a]
  · simp only [if_neg a, show ¬ (qc + rc = 0) by omega, false_or]
    by_cases b : (nI len).toInt < rs.toInt
    · simp only [if_pos b]
    · simp only [if_neg b]; rw [if_neg a, if_neg (by omega)]
theorem s_wd_mix {q : pl_T} (hn : n ≤ 400) : p_mix q (s_ps n t w 0 (fun _ => true) p0) (s_ps n t w 0 (fun _ => true) q) := by
  unfold s_ps
  rcases Nat.eq_zero_or_pos n with z | z
  · subst z; rw [Nat.zero_sub]; unfold s_pl; exact p_mix0 q
  · have := s_pl_rel (ch := t_ch t w) (ok := fun _ => true) (nt := p_nt 0) (nt' := p_nt 0) (p_mix q) 400 (fun s s' bg len h _ => p_mix_nt h) (n - 1) 1 0 p0 q (by omega) (p_mix0 q)
    exact this
theorem s_wd_ok (hn : n ≤ 400) : ∀ k, p_ok (s_wd n t k)
  | 0 => p_ok0
  | k + 1 => s_ps_ok hn (s_wd_ok hn k)
def sp_wd (q : pl_T) : Int32 := if q.1 = 0 then 400 else q.2.2.1
def sp_widest (n : Nat) (t : Nat → Nat) : Int32 := sp_wd (s_wd n t 8)
theorem lX10_widest {S0 : hs_T} {Q : Option av_T → hs_T → Prop} (hT : TrX S0 0 n t) (hQ : ∀ S', Kp S0 S' → Q (some (vI (sp_widest n t))) S') :
    ∀ (m k : Nat) (S : hs_T), k + m = 8 → Kp S0 S → Ev (d + 2) mX10_widest 6 [some (vR 10 0), some (vI (sp_wd (s_wd n t k))), some (vI (nI k))] [] S Q := by
  have h2 := hT.2.1
  intro m
  induction m with
  | zero =>
    intro k S hk hK
    have e : k = 8 := by omega
    subst e
    exact bkX10_widest_6 (fun _ => bkX10_widest_54 (hQ S hK)) (fun h => absurd (by decide) h)
  | succ m ih =>
    intro k S hk hK
    refine bkX10_widest_6 (fun h => absurd h (nl_ (b := 8) (by omega) (by omega))) (fun _ => ?_)
    refine bkX10_widest_12 (kX3_measure (N := 0) (TrX_Kp hK (by omega) hT) (by omega) (by omega)) ?_
    rintro S' ⟨hk', e0, e5, e1, e2, e3, e4⟩
    have hok : p_ok (s_ps n t k 0 (fun b => okl (-1) (t_hi t k b)) p0) := s_ps_ok h2 p_ok0
    have hmix : p_mix (s_wd n t k) (s_ps n t k 0 (fun b => okl (-1) (t_hi t k b)) p0) (s_wd n t (k + 1)) := s_wd_mix h2
    have hcn : (s_ps n t k 0 (fun b => okl (-1) (t_hi t k b)) p0).1 ≤ 400 := by
      unfold s_ps
      rcases Nat.eq_zero_or_pos n with z | z
      · subst z; rw [Nat.zero_sub]; unfold s_pl; decide
      · have : ∀ (m i bg : Nat) (s : pl_T), bg < i → s.1 ≤ bg → (s_pl (t_ch t k) (fun b => okl (-1) (t_hi t k b)) (p_nt 0) m i bg s).1 ≤ i + m := by
          intro m
          induction m with
          | zero => intro i bg s h1 h2; show s.1 ≤ i + 0; omega
          | succ m ih =>
            intro i bg s h1 h2
            unfold s_pl
            split
            · have := ih (i + 1) i (if (decide (0 < bg) && okl (-1) (t_hi t k bg)) = true then p_nt 0 s bg (i - bg) else s) (by omega) (by
                split
                · show s.1 + 1 ≤ i; omega
                · omega)
              omega
            · have := ih (i + 1) bg s (by omega) h2
              omega
        have := this (n - 1) 1 0 p0 (by omega) (by decide)
        omega
    have nxt : ∀ v : Int32, v = sp_wd (s_wd n t (k + 1)) → Ev (d + 2) mX10_widest 48 [some (vR 10 0), some (vI v), some (vI (nI k))] [] S' Q := by
      rintro v rfl
      refine bkX10_widest_48 ?_
      rw [nI_1]
      exact ih (k + 1) S' (by omega) (Kp_tr hK hk')
    generalize s_ps n t k 0 (fun b => okl (-1) (t_hi t k b)) p0 = r at *
    obtain ⟨m1, m2⟩ := hmix
    refine bkX10_widest_26 (fun h => ?_) (fun h => ?_)
    · rw [e0] at h
      have h0 : r.1 = 0 := z_of (by omega) h
      refine nxt _ ?_
      rw [sp_wd, sp_wd, m1, m2, h0, if_pos rfl, Nat.add_zero]
    · rw [e0] at h
      have h0 : 0 < r.1 := p_of h
      refine bkX10_widest_36 (nxt _ ?_)
      have hr := hok.2 h0
      rw [e1, sp_wd, sp_wd, m1, m2, if_neg (show ¬ r.1 = 0 by omega), if_neg (show ¬ (s_wd n t k).1 + r.1 = 0 by omega)]
      by_cases hq : (s_wd n t k).1 = 0
      · simp only [if_pos hq]
        split
        · rfl
        · rename_i z
          rw [fa_lt, show (400 : Int32).toInt = 400 from rfl] at z
          rw [fa_eq, show (400 : Int32).toInt = 400 from rfl]; omega
      · simp only [if_neg hq]
theorem kX10_widest (hT : TrX S 0 n t) : Ci (d + 2) mX10_widest [vR 10 0] S (fun v S' => v = sp_widest n t ∧ Kp S S') := by
  refine cxX10_widest ?_
  exact bkX10_widest_0 (lX10_widest hT (fun S' h => ⟨_, rfl, rfl, h⟩) 8 0 S (by omega) (Kp_rf S))
end PU
