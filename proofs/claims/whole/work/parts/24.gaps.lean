/-! ===== setup, tight ===== -/
theorem s_nx_s (p : Nat → Bool) (m i : Nat) : s_nx p (m + 1) i = if p i = true then i else s_nx p m (i + 1) := rfl
theorem s_lst_v (p : Nat → Bool) : ∀ n, s_lst p n = -4 ∨ ∃ b, b < n ∧ s_lst p n = nI b
  | 0 => Or.inl rfl
  | n + 1 => by
    rw [s_lst_s]
    by_cases h : p n = true
    · rw [if_pos h]; exact Or.inr ⟨n, by omega, rfl⟩
    · rw [if_neg h]
      rcases s_lst_v p n with h | ⟨b, h1, h2⟩
      · exact Or.inl h
      · exact Or.inr ⟨b, by omega, h2⟩
def g_ah (ch : Nat → Bool) (i : Nat) : Int32 := if s_lst ch (i + 1) = -4 then -4 else nI i - s_lst ch (i + 1)
def g_bh (ch : Nat → Bool) (n i : Nat) : Int32 := if s_nx ch (n - (i + 1)) (i + 1) < n then nI (s_nx ch (n - (i + 1)) (i + 1) - i) else -4
def okv (v : Int32) : Prop := v = -4 ∨ 0 ≤ v.toInt
theorem okv_n {a : Nat} (h : a < 2 ^ 31) : okv (nI a) := Or.inr (by rw [nI_toInt h]; omega)
theorem okv_lt {v : Int32} (h : okv v) : v < 0 ↔ v = -4 := by
  rcases h with h | h
  · subst h; exact ⟨fun _ => rfl, fun _ => by decide⟩
  · rw [fa_lt]
    have e : (0 : Int32).toInt = 0 := rfl
    have m4 : (-4 : Int32).toInt = -4 := by decide
    constructor
    · intro z; omega
    · intro z; rw [z, m4] at h; omega
theorem g_ah_ok (ch : Nat → Bool) {i : Nat} (hi : i < 400) : okv (g_ah ch i) := by
  unfold g_ah
  rcases s_lst_v ch (i + 1) with h | ⟨b, h1, h2⟩
  · rw [if_pos h]; exact Or.inl rfl
  · rw [if_neg (by rw [h2]; exact ne4 (by omega)), h2, pk_sub (by omega)]; exact okv_n (by omega)
theorem g_bh_ok (ch : Nat → Bool) {n i : Nat} (hn : n ≤ 400) : okv (g_bh ch n i) := by
  unfold g_bh
  split
  · exact okv_n (by omega)
  · exact Or.inl rfl
def g_lw (v : Int32) (i : Nat) (q : Int32 × Int32) : Int32 × Int32 := if ¬ v = -4 ∧ (q.1 = -4 ∨ v < q.1) then (v, nI i) else q
def s_lw (up : Nat → Bool) (v : Nat → Int32) : Nat → Nat → Int32 × Int32 → Int32 × Int32
  | 0, _, q => q
  | m + 1, i, q => s_lw up v m (i + 1) (if up i = true then g_lw (v i) i q else q)
theorem s_lw_s (up : Nat → Bool) (v : Nat → Int32) (m i : Nat) (q : Int32 × Int32) : s_lw up v (m + 1) i q = s_lw up v m (i + 1) (if up i = true then g_lw (v i) i q else q) := rfl
theorem g_lw_ok {v : Int32} {i : Nat} {q : Int32 × Int32} (hv : okv v) (hq : okv q.1) : okv (g_lw v i q).1 := by
  unfold g_lw; split
  · exact hv
  · exact hq
def g_nr (A B a b : Int32) : Bool := (!decide (A = -4) && decide (A < a)) || (!decide (B = -4) && decide (B < b))
def f2 (S : hs_T) (qa qb : Int32 × Int32) (k : Nat) : Prop := S.1 2 0 0 = qa.1 ∧ S.1 2 0 1 = qa.2 ∧ S.1 2 0 2 = qb.1 ∧ S.1 2 0 3 = qb.2 ∧ S.1 2 0 4 = nI k
theorem ess_2 (j f : Nat) : ess 2 j f = false := by simp [ess]
section GA
variable {d : Nat} {S : hs_T} {n w i c e : Nat} {t : Nat → Nat} {qa qb : Int32 × Int32} {k : Nat} {A B : Int32}
theorem kX2_note (hf : f2 S qa qb k) (hA : okv A) (hB : okv B) (ha : okv qa.1) (hb : okv qb.1) : Cv d mX2_note [vR 2 0, vI (nI i), vI A, vI B] S (fun S' => Kp S S' ∧ f2 S' (g_lw A i qa) (g_lw B i qb) k) := by
  refine cxX2_note ?_
  have p2 : ∀ (S1 : hs_T) (q : Int32 × Int32), Kp S S1 → f2 S1 q qb k → Ev d mX2_note 29 [some (vR 2 0), some (vI (nI i)), some (vI A), some (vI B)] [] S1 (fun r S' => r = none ∧ Kp S S' ∧ f2 S' q (g_lw B i qb) k) := by
    rintro S1 q hk ⟨e0, e1, e2, e3, e4⟩
    unfold g_lw
    have no : ¬ (¬ B = -4 ∧ (qb.1 = -4 ∨ B < qb.1)) → Ev d mX2_note 58 [some (vR 2 0), some (vI (nI i)), some (vI A), some (vI B)] [] S1 (fun r S' => r = none ∧ Kp S S' ∧ f2 S' q (if ¬ B = -4 ∧ (qb.1 = -4 ∨ B < qb.1) then (B, nI i) else qb) k) := by
      intro h
      rw [if_neg h]
      exact bkX2_note_58 ⟨rfl, hk, e0, e1, e2, e3, e4⟩
    have yes : (¬ B = -4 ∧ (qb.1 = -4 ∨ B < qb.1)) → Ev d mX2_note 48 [some (vR 2 0), some (vI (nI i)), some (vI A), some (vI B)] [] S1 (fun r S' => r = none ∧ Kp S S' ∧ f2 S' q (if ¬ B = -4 ∧ (qb.1 = -4 ∨ B < qb.1) then (B, nI i) else qb) k) := by
      intro h
      rw [if_pos h]
      refine bkX2_note_48 (bkX2_note_58 ⟨rfl, Kp_n (Kp_n hk (fun f => ess_2 0 f)) (fun f => ess_2 0 f), ?_, ?_, ?_, ?_, ?_⟩) <;> simp only [sk_at]
      · rw [pk_un (by omega), pk_un (by omega)]; exact e0
      · rw [pk_un (by omega), pk_un (by omega)]; exact e1
      · rw [pk_un (by omega), pk_us]
      · rw [pk_us]
      · rw [pk_un (by omega), pk_un (by omega)]; exact e4
    refine bkX2_note_29 (fun h => no (fun z => z.1 ((okv_lt hB).mp h))) (fun h => ?_)
    have h4 : ¬ B = -4 := fun z => h ((okv_lt hB).mpr z)
    refine bkX2_note_33 (fun h2 => yes ⟨h4, Or.inl ?_⟩) (fun h2 => ?_) <;> rw [e2, okv_lt hb] at h2
    · exact h2
    · refine bkX2_note_40 (fun h3 => no ?_) (fun h3 => yes ⟨h4, Or.inr ?_⟩) <;> rw [e2] at h3
      · rintro ⟨_, z | z⟩
        · exact h2 z
        · rw [fa_lt] at z; rw [fa_le] at h3; omega
      · exact fa_of_nle h3
  obtain ⟨e0, e1, e2, e3, e4⟩ := hf
  have no : ¬ (¬ A = -4 ∧ (qa.1 = -4 ∨ A < qa.1)) → Ev d mX2_note 29 [some (vR 2 0), some (vI (nI i)), some (vI A), some (vI B)] [] S (fun r S' => r = none ∧ Kp S S' ∧ f2 S' (g_lw A i qa) (g_lw B i qb) k) := by
    intro h
    rw [show g_lw A i qa = qa from if_neg h]
    exact p2 _ _ (Kp_rf S) ⟨e0, e1, e2, e3, e4⟩
  have yes : (¬ A = -4 ∧ (qa.1 = -4 ∨ A < qa.1)) → Ev d mX2_note 19 [some (vR 2 0), some (vI (nI i)), some (vI A), some (vI B)] [] S (fun r S' => r = none ∧ Kp S S' ∧ f2 S' (g_lw A i qa) (g_lw B i qb) k) := by
    intro h
    rw [show g_lw A i qa = (A, nI i) from if_pos h]
    refine bkX2_note_19 (p2 _ _ (Kp_n (Kp_n (Kp_rf S) (fun f => ess_2 0 f)) (fun f => ess_2 0 f)) ⟨?_, ?_, ?_, ?_, ?_⟩) <;> simp only [sk_at]
    · rw [pk_un (by omega), pk_us]
    · rw [pk_us]
    · rw [pk_un (by omega), pk_un (by omega)]; exact e2
    · rw [pk_un (by omega), pk_un (by omega)]; exact e3
    · rw [pk_un (by omega), pk_un (by omega)]; exact e4
  refine bkX2_note_0 (fun h => no (fun z => z.1 ((okv_lt hA).mp h))) (fun h => ?_)
  have h4 : ¬ A = -4 := fun z => h ((okv_lt hA).mpr z)
  refine bkX2_note_4 (fun h2 => yes ⟨h4, Or.inl ?_⟩) (fun h2 => ?_) <;> rw [e0, okv_lt ha] at h2
  · exact h2
  · refine bkX2_note_11 (fun h3 => no ?_) (fun h3 => yes ⟨h4, Or.inr ?_⟩) <;> rw [e0] at h3
    · rintro ⟨_, z | z⟩
      · exact h2 z
      · rw [fa_lt] at z; rw [fa_le] at h3; omega
    · exact fa_of_nle h3
theorem lX2_firstChange {x2 : Int32} (hT : TrX S 0 n t) (hw : w < 8) :
    ∀ (m i : Nat), i + m = n → Ev (d + 1) mX2_firstChange 2 [some (vR 8 0), some (vI (nI w)), some (vI x2), some (vI (nI i))] [] S (fun r S' => ∃ v, r = some (vI v) ∧ v = nI (s_nx (t_ch t w) m i) ∧ S' = S) := by
  have h1 := hT.1
  have h2 := hT.2.1
  intro m
  induction m with
  | zero =>
    intro i hi
    refine bkX2_firstChange_2 (by omega) (fun _ => bkX2_firstChange_27 (by omega) ⟨_, rfl, ?_, rfl⟩) (fun h => absurd (by rw [h1]; exact nI_le (by omega) (by omega)) h)
    rw [h1]; show nI n = nI i; congr 1; omega
  | succ m ih =>
    intro i hi
    refine bkX2_firstChange_2 (by omega) (fun h => absurd h (by rw [h1]; exact nl_ (by omega) (by omega))) (fun _ => ?_)
    refine bkX2_firstChange_10 (by omega) (kX8_changes hT (by omega) hw (by omega)) ?_
    rintro _ S ⟨rfl, rfl⟩
    rw [s_nx_s]
    cases hp : t_ch t w i
    · refine bkX2_firstChange_16 (fun _ => bkX2_firstChange_21 ?_) (fun h => absurd rfl h)
      rw [nI_1]
      exact ih (i + 1) (by omega)
    · exact bkX2_firstChange_16 (fun h => absurd h (by decide)) (fun _ => bkX2_firstChange_19 ⟨_, rfl, rfl, rfl⟩)
theorem kX2_firstChange (hT : TrX S 0 n t) (hw : w < 8) (hi : i ≤ n) : Ci (d + 1) mX2_firstChange [vR 8 0, vI (nI w), vI (nI i)] S (fun v S' => v = nI (s_nx (t_ch t w) (n - i) i) ∧ S' = S) := by
  refine cxX2_firstChange ?_
  exact bkX2_firstChange_0 (lX2_firstChange hT hw (n - i) i (by omega))
theorem lX2_measure {S0 : hs_T} {u v : Nat} {Q : Option av_T → hs_T → Prop} (hT : TrX S0 0 n t) (hc : c < 8) (he : e < 8) (hu : u ≤ 400) (hv : v ≤ 400)
    (hQ : ∀ S', Kp S0 S' → f2 S' (s_lw (t_up t c) (g_ah (t_ch t e)) n 0 (-4, -4)) (s_lw (t_up t c) (g_bh (t_ch t e) n) n 0 (-4, -4)) (fb_ct (fun i => t_up t c i && g_nr (g_ah (t_ch t e) i) (g_bh (t_ch t e) n i) (nI u) (nI v)) n) → Q none S') :
    ∀ (m i cm : Nat) (qa qb : Int32 × Int32) (S : hs_T) (o9 o10 : Option av_T), i + m = n → 0 < i → okv qa.1 → okv qb.1 → (cm ≤ i ∨ cm = s_nx (t_ch t e) (n - (i + 1)) (i + 1)) → Kp S0 S → f2 S qa qb (fb_ct (fun i => t_up t c i && g_nr (g_ah (t_ch t e) i) (g_bh (t_ch t e) n i) (nI u) (nI v)) i) → s_lw (t_up t c) (g_ah (t_ch t e)) m i qa = s_lw (t_up t c) (g_ah (t_ch t e)) n 0 (-4, -4) → s_lw (t_up t c) (g_bh (t_ch t e) n) m i qb = s_lw (t_up t c) (g_bh (t_ch t e) n) n 0 (-4, -4) → Ev (d + 2) mX2_measure 39 [some (vR 2 0), some (vR 8 0), some (vI (nI c)), some (vI (nI e)), some (vI (nI u)), some (vI (nI v)), some (vI (s_lst (t_ch t e) i)), some (vI (nI cm)), some (vI (nI i)), o9, o10] [] S Q := by
  have h2 := hT.2.1
  intro m
  induction m with
  | zero =>
    intro i cm qa qb S o9 o10 hi h0 ha hb hcm hk hf l1 l2
    have h1 := (TrX_Kp hk (by omega) hT).1
    have ei : i = n := by omega
    subst ei
    refine bkX2_measure_39 (by omega) (fun _ => bkX2_measure_192 (hQ S hk ?_)) (fun h => absurd (by rw [h1]; exact nI_le (by omega) (by omega)) h)
    rw [← l1, ← l2]; exact hf
  | succ m ih =>
    intro i cm qa qb S o9 o10 hi h0 ha hb hcm hk hf l1 l2
    have hT' := TrX_Kp hk (by omega) hT
    have h1 := hT'.1
    rw [s_lw_s] at l1 l2
    have hle := s_nx_le (t_ch t e) (n - (i + 1)) (i + 1)
    refine bkX2_measure_39 (by omega) (fun h => absurd h (by rw [h1]; exact nl_ (by omega) (by omega))) (fun _ => ?_)
    refine bkX2_measure_48 (by omega) (kX8_changes hT' (by omega) he (by omega)) ?_
    rintro _ S ⟨rfl, rfl⟩
    have hcm' : s_nx (t_ch t e) (n - (i + 1)) (i + 1) ≤ i + 1 ∨ s_nx (t_ch t e) (n - (i + 1)) (i + 1) = s_nx (t_ch t e) (n - (i + 1 + 1)) (i + 1 + 1) := by
      rcases Nat.eq_zero_or_pos (n - (i + 1)) with z | z
      · rw [z]; exact Or.inl (Nat.le_refl _)
      · obtain ⟨q, hq⟩ : ∃ q, n - (i + 1) = q + 1 := ⟨n - (i + 1) - 1, by omega⟩
        rw [show n - (i + 1 + 1) = q by omega, hq, s_nx_s]
        split
        · exact Or.inl (Nat.le_refl _)
        · exact Or.inr rfl
    -- behind the two look-ups
    have p3 : ∀ (x7 : Int32), Ev (d + 2) mX2_measure 88 [some (vR 2 0), some (vR 8 0), some (vI (nI c)), some (vI (nI e)), some (vI (nI u)), some (vI (nI v)), some (vI (s_lst (t_ch t e) (i + 1))), some (vI x7), some (vI (nI i)), o9, o10] [vI (nI (s_nx (t_ch t e) (n - (i + 1)) (i + 1)))] S Q := by
      intro x7
      refine bkX2_measure_88 (by omega) (kX8_rises hT' (by omega) hc (by omega)) ?_
      rintro _ S ⟨rfl, rfl⟩
      cases hup : t_up t c i
      · rw [hup] at l1 l2
        refine bkX2_measure_97 (fun _ => bkX2_measure_186 ?_) (fun h => absurd rfl h)
        rw [nI_1]
        refine ih (i + 1) _ qa qb _ _ _ (by omega) (by omega) ha hb hcm' hk ?_ l1 l2
        rw [fb_ct_succ, hup]; exact hf
      · rw [hup] at l1 l2
        refine bkX2_measure_97 (fun h => absurd h (by decide)) (fun _ => ?_)
        have hAo := g_ah_ok (t_ch t e) (i := i) (by omega)
        have hBo := g_bh_ok (t_ch t e) (n := n) (i := i) h2
        have eA : g_ah (t_ch t e) i = if s_lst (t_ch t e) (i + 1) = -4 then -4 else nI i - s_lst (t_ch t e) (i + 1) := rfl
        have eB : g_bh (t_ch t e) n i = if s_nx (t_ch t e) (n - (i + 1)) (i + 1) < n then nI (s_nx (t_ch t e) (n - (i + 1)) (i + 1) - i) else -4 := rfl
        have ct : fb_ct (fun i => t_up t c i && g_nr (g_ah (t_ch t e) i) (g_bh (t_ch t e) n i) (nI u) (nI v)) (i + 1) = fb_ct (fun i => t_up t c i && g_nr (g_ah (t_ch t e) i) (g_bh (t_ch t e) n i) (nI u) (nI v)) i + (if g_nr (g_ah (t_ch t e) i) (g_bh (t_ch t e) n i) (nI u) (nI v) = true then 1 else 0) := by
          rw [fb_ct_succ, hup, Bool.true_and]
        have hlv := s_lst_v (t_ch t e) (i + 1)
        generalize g_ah (t_ch t e) i = A at *
        generalize g_bh (t_ch t e) n i = B at *
        generalize hcmv : s_nx (t_ch t e) (n - (i + 1)) (i + 1) = cm2 at *
        generalize hlst : s_lst (t_ch t e) (i + 1) = ls at *
        have p5 : ∀ o10, Ev (d + 2) mX2_measure 136 [some (vR 2 0), some (vR 8 0), some (vI (nI c)), some (vI (nI e)), some (vI (nI u)), some (vI (nI v)), some (vI ls), some (vI (nI cm2)), some (vI (nI i)), some (vI A), o10] [vI B] S Q := by
          intro o10
          refine bkX2_measure_136 (kX2_note hf hAo hBo ha hb) ?_
          rintro S1 ⟨hk1, e0, e1, e2, e3, e4⟩
          have fin : ∀ (b : Bool), b = g_nr A B (nI u) (nI v) → Ev (d + 2) mX2_measure 182 [some (vR 2 0), some (vR 8 0), some (vI (nI c)), some (vI (nI e)), some (vI (nI u)), some (vI (nI v)), some (vI ls), some (vI (nI cm2)), some (vI (nI i)), some (vI A), some (vI B)] [vI (bi_ b), vI (S1.1 2 0 4), vR 2 0] S1 Q := by
            intro b hb2
            refine bkX2_measure_182 (bkX2_measure_186 ?_)
            rw [nI_1, e4, bi_nI, nI_add, hb2, ← ct, ← hlst]
            refine ih (i + 1) cm2 _ _ _ _ _ (by omega) (by omega) (g_lw_ok hAo ha) (g_lw_ok hBo hb) hcm' (Kp_n (Kp_tr hk hk1) (fun f => ess_2 0 f)) ⟨?_, ?_, ?_, ?_, ?_⟩ l1 l2 <;> rw [sk_at]
            · rw [pk_un (by omega)]; exact e0
            · rw [pk_un (by omega)]; exact e1
            · rw [pk_un (by omega)]; exact e2
            · rw [pk_un (by omega)]; exact e3
            · rw [pk_us]
          have q2 : (!decide (A = -4) && decide (A < nI u)) = false → Ev (d + 2) mX2_measure 165 [some (vR 2 0), some (vR 8 0), some (vI (nI c)), some (vI (nI e)), some (vI (nI u)), some (vI (nI v)), some (vI ls), some (vI (nI cm2)), some (vI (nI i)), some (vI A), some (vI B)] [vI (S1.1 2 0 4), vR 2 0] S1 Q := by
            intro hz
            refine bkX2_measure_165 (fun h => ?_) (fun h => ?_) <;> rw [okv_lt hBo] at h
            · exact bkX2_measure_181 (fin false (by rw [g_nr, hz, decide_eq_true h]; rfl))
            · refine bkX2_measure_170 (fun h3 => bkX2_measure_181 (fin false ?_)) (fun h3 => bkX2_measure_177 (fin true ?_))
              · rw [g_nr, hz, decide_eq_false (show ¬ B < nI v by rw [fa_lt]; rw [fa_le] at h3; omega)]; simp
              · rw [g_nr, decide_eq_false h, decide_eq_true (fa_of_nle h3)]; simp
          refine bkX2_measure_148 (fun h => ?_) (fun h => ?_) <;> rw [okv_lt hAo] at h
          · exact q2 (by rw [decide_eq_true h]; rfl)
          · refine bkX2_measure_158 (fun h3 => bkX2_measure_177 (fin true ?_)) (fun h3 => q2 ?_)
            · rw [g_nr, decide_eq_false h, decide_eq_true h3]; rfl
            · rw [decide_eq_false h3]; simp
        have p4 : ∀ o9, Ev (d + 2) mX2_measure 115 [some (vR 2 0), some (vR 8 0), some (vI (nI c)), some (vI (nI e)), some (vI (nI u)), some (vI (nI v)), some (vI ls), some (vI (nI cm2)), some (vI (nI i)), o9, o10] [vI A] S Q := by
          intro o9
          refine bkX2_measure_115 (by omega) (fun h => ?_) (fun h => ?_) <;> rw [h1, nI_leI (by omega) (by omega)] at h
          · rw [if_neg (by omega)] at eB
            rw [eB] at p5
            exact bkX2_measure_134 (p5 _)
          · rw [if_pos (by omega)] at eB
            refine bkX2_measure_126 ?_
            rw [pk_sub (by omega), ← eB]
            exact p5 _
        rcases hlv with hls | ⟨b, hb1, hb2⟩
        · rw [if_pos hls] at eA
          refine bkX2_measure_100 (fun h => absurd h (by rw [hls]; decide)) (fun _ => ?_)
          rw [eA] at p4
          exact bkX2_measure_105 (p4 _)
        · rw [if_neg (by rw [hb2]; exact ne4 (by omega))] at eA
          refine bkX2_measure_100 (fun _ => ?_) (fun h => absurd (by rw [hb2]; exact nI_pos' (by omega)) h)
          refine bkX2_measure_110 ?_
          rw [← eA]
          exact p4 _
    have p2 : Ev (d + 2) mX2_measure 65 [some (vR 2 0), some (vR 8 0), some (vI (nI c)), some (vI (nI e)), some (vI (nI u)), some (vI (nI v)), some (vI (s_lst (t_ch t e) i)), some (vI (nI cm)), some (vI (nI i)), o9, o10] [vI (s_lst (t_ch t e) (i + 1))] S Q := by
      refine bkX2_measure_65 (fun h => ?_) (fun h => ?_)
      · refine bkX2_measure_79 (by rw [nI_1]; exact kX2_firstChange hT' he (by omega)) ?_
        rintro _ S ⟨rfl, rfl⟩
        exact p3 _
      · refine bkX2_measure_74 ?_
        have hcl : ¬ cm ≤ i := fun z => h (nI_le z (by omega))
        rcases hcm with z | z
        · exact absurd z hcl
        · have := p3 (nI cm)
          rw [← z] at this
          exact this
    rw [s_lst_s] at p2
    cases hp : t_ch t e i
    · rw [hp] at p2
      exact bkX2_measure_55 (fun _ => bkX2_measure_63 p2) (fun h => absurd rfl h)
    · rw [hp] at p2
      exact bkX2_measure_55 (fun h => absurd h (by decide)) (fun _ => bkX2_measure_58 p2)
theorem kX2_measure {u v : Nat} (hT : TrX S 0 n t) (hc : c < 8) (he : e < 8) (hu : u ≤ 400) (hv : v ≤ 400) : Cv (d + 2) mX2_measure [vR 2 0, vR 8 0, vI (nI c), vI (nI e), vI (nI u), vI (nI v)] S (fun S' => Kp S S' ∧ f2 S' (s_lw (t_up t c) (g_ah (t_ch t e)) n 0 (-4, -4)) (s_lw (t_up t c) (g_bh (t_ch t e) n) n 0 (-4, -4)) (fb_ct (fun i => t_up t c i && g_nr (g_ah (t_ch t e) i) (g_bh (t_ch t e) n i) (nI u) (nI v)) n)) := by
  refine cxX2_measure ?_
  refine bkX2_measure_0 ?_
  simp only [sk_sk, sk_at]
  have hf : f2 (sk_ S 2 0 (upd (upd (upd (upd (upd (S.1 2 0) 0 (-4)) 1 (-4)) 2 (-4)) 3 (-4)) 4 0)) (-4, -4) (-4, -4) 0 := by
    refine ⟨?_, ?_, ?_, ?_, ?_⟩ <;> rw [sk_at] <;> rfl
  have hk : Kp S (sk_ S 2 0 (upd (upd (upd (upd (upd (S.1 2 0) 0 (-4)) 1 (-4)) 2 (-4)) 3 (-4)) 4 0)) := Kp_n (Kp_rf S) (fun f => ess_2 0 f)
  rcases Nat.eq_zero_or_pos n with hn | hn
  · subst hn
    have h1 := (TrX_Kp hk (by omega) hT).1
    exact bkX2_measure_39 (by omega) (fun _ => bkX2_measure_192 ⟨rfl, hk, hf⟩) (fun h => absurd (by rw [h1]; decide) h)
  · obtain ⟨q, rfl⟩ : ∃ q, n = q + 1 := ⟨n - 1, by omega⟩
    refine lX2_measure hT hc he hu hv (fun S' h1 h2 => ⟨rfl, h1, h2⟩) q 1 0 (-4, -4) (-4, -4) _ _ _ (by omega) (by omega) (Or.inl rfl) (Or.inl rfl) (Or.inl (by omega)) hk ?_ ?_ ?_
    · rw [fb_ct_succ, t_up0]; exact hf
    · rw [s_lw_s, t_up0]; rfl
    · rw [s_lw_s, t_up0]; rfl
def sp_setup (n : Nat) (t : Nat → Nat) (x y z : Int32) : Int32 := if inR x 0 7 && inR y 0 7 && inR z 0 3 then (if z = 0 then (s_lw (t_up t x.toInt.toNat) (g_ah (t_ch t y.toInt.toNat)) n 0 (-4, -4)).1 else if z = 1 then (s_lw (t_up t x.toInt.toNat) (g_ah (t_ch t y.toInt.toNat)) n 0 (-4, -4)).2 else if z = 2 then (s_lw (t_up t x.toInt.toNat) (g_bh (t_ch t y.toInt.toNat) n) n 0 (-4, -4)).1 else (s_lw (t_up t x.toInt.toNat) (g_bh (t_ch t y.toInt.toNat) n) n 0 (-4, -4)).2) else -1
def sp_tight (n : Nat) (t : Nat → Nat) (x y z u : Int32) : Int32 := if inR x 0 7 && inR y 0 7 && inR z 0 400 && inR u 0 400 then nI (fb_ct (fun i => t_up t x.toInt.toNat i && g_nr (g_ah (t_ch t y.toInt.toNat) i) (g_bh (t_ch t y.toInt.toNat) n i) z u) n) else -1
theorem kX10_setup {x y z : Int32} (hT : TrX S 0 n t) : Ci (d + 3) mX10_setup [vR 10 0, vI x, vI y, vI z] S (fun v S' => v = sp_setup n t x y z ∧ Kp S S') := by
  refine cxX10_setup ?_
  refine bkX10_setup_0 kX10_isWire ?_
  rintro _ S ⟨rfl, rfl⟩
  cases hx : inR x 0 7
  · exact bkX10_setup_4 (fun _ => bkX10_setup_23 ⟨_, rfl, by simp [sp_setup, hx], Kp_rf _⟩) (fun h => absurd rfl h)
  refine bkX10_setup_4 (fun h => absurd h (by decide)) (fun _ => ?_)
  refine bkX10_setup_7 kX10_isWire ?_
  rintro _ S ⟨rfl, rfl⟩
  cases hy : inR y 0 7
  · exact bkX10_setup_11 (fun _ => bkX10_setup_23 ⟨_, rfl, by simp [sp_setup, hy], Kp_rf _⟩) (fun h => absurd rfl h)
  refine bkX10_setup_11 (fun h => absurd h (by decide)) (fun _ => ?_)
  refine bkX10_setup_14 (kX10_w (lo := 0) (hi := 3) rfl rfl) ?_
  rintro _ S ⟨rfl, rfl⟩
  cases hz : inR z 0 3
  · exact bkX10_setup_20 (fun h => absurd rfl h) (fun _ => bkX10_setup_23 ⟨_, rfl, by simp [sp_setup, hz], Kp_rf _⟩)
  refine bkX10_setup_20 (fun _ => ?_) (fun h => absurd h (by decide))
  obtain ⟨c, hc, rfl⟩ := inR_get hx
  obtain ⟨e, he, rfl⟩ := inR_get hy
  refine bkX10_setup_25 (kX2_measure (u := 0) (v := 0) hT (by omega) (by omega) (by omega) (by omega)) ?_
  rintro S' ⟨hk, e0, e1, e2, e3, e4⟩
  rw [sp_setup, hx, hy, hz, nI_tn (by omega), nI_tn (by omega)]
  simp only [Bool.and_self, if_true]
  refine bkX10_setup_40 (fun q => ?_) (fun q => ?_) (fun q => ?_) (fun q0 q1 q2 => ?_)
  · exact bkX10_setup_68 ⟨_, rfl, by rw [e0, if_pos q], hk⟩
  · exact bkX10_setup_76 ⟨_, rfl, by rw [e1, if_neg (by rw [q]; decide), if_pos q], hk⟩
  · exact bkX10_setup_84 ⟨_, rfl, by rw [e2, if_neg (by rw [q]; decide), if_neg (by rw [q]; decide), if_pos q], hk⟩
  · exact bkX10_setup_92 ⟨_, rfl, by rw [e3, if_neg q0, if_neg q1, if_neg q2], hk⟩
theorem kX10_tight {x y z u : Int32} (hT : TrX S 0 n t) : Ci (d + 3) mX10_tight [vR 10 0, vI x, vI y, vI z, vI u] S (fun v S' => v = sp_tight n t x y z u ∧ Kp S S') := by
  refine cxX10_tight ?_
  refine bkX10_tight_0 kX10_isWire ?_
  rintro _ S ⟨rfl, rfl⟩
  cases hx : inR x 0 7
  · exact bkX10_tight_4 (fun _ => bkX10_tight_37 ⟨_, rfl, by simp [sp_tight, hx], Kp_rf _⟩) (fun h => absurd rfl h)
  refine bkX10_tight_4 (fun h => absurd h (by decide)) (fun _ => ?_)
  refine bkX10_tight_7 kX10_isWire ?_
  rintro _ S ⟨rfl, rfl⟩
  cases hy : inR y 0 7
  · exact bkX10_tight_11 (fun _ => bkX10_tight_37 ⟨_, rfl, by simp [sp_tight, hy], Kp_rf _⟩) (fun h => absurd rfl h)
  refine bkX10_tight_11 (fun h => absurd h (by decide)) (fun _ => ?_)
  refine bkX10_tight_14 (kX10_w (lo := 0) (hi := 400) rfl rfl) ?_
  rintro _ S ⟨rfl, rfl⟩
  cases hz : inR z 0 400
  · exact bkX10_tight_22 (fun _ => bkX10_tight_37 ⟨_, rfl, by simp [sp_tight, hz], Kp_rf _⟩) (fun h => absurd rfl h)
  refine bkX10_tight_22 (fun h => absurd h (by decide)) (fun _ => ?_)
  refine bkX10_tight_25 (kX10_w (lo := 0) (hi := 400) rfl rfl) ?_
  rintro _ S ⟨rfl, rfl⟩
  cases hu : inR u 0 400
  · exact bkX10_tight_34 (fun h => absurd rfl h) (fun _ => bkX10_tight_37 ⟨_, rfl, by simp [sp_tight, hu], Kp_rf _⟩)
  refine bkX10_tight_34 (fun _ => ?_) (fun h => absurd h (by decide))
  rw [sp_tight, hx, hy, hz, hu]
  obtain ⟨c, hc, rfl⟩ := inR_get hx
  obtain ⟨e, he, rfl⟩ := inR_get hy
  obtain ⟨a, ha, rfl⟩ := inR_get hz
  obtain ⟨b, hb, rfl⟩ := inR_get hu
  refine bkX10_tight_39 (kX2_measure (u := a) (v := b) hT (by omega) (by omega) (by omega) (by omega)) ?_
  rintro S' ⟨hk, e0, e1, e2, e3, e4⟩
  rw [nI_tn (by omega), nI_tn (by omega)]
  exact bkX10_tight_55 ⟨_, rfl, e4, hk⟩
/-! the reference's -/
theorem lM_aheadOf {i : Nat} (hT : TrM S n t) (hw : w < 8) (hi : i < n) :
    ∀ (j : Nat), j ≤ i → Ev (d + 3) mX11_aheadOf 2 [some (vR 11 0), some (vI (nI w)), some (vI (nI i)), some (vI (nI j))] [] S (fun r S' => ∃ v, r = some (vI v) ∧ v = (if s_lst (t_ch t w) (j + 1) = -4 then -4 else nI i - s_lst (t_ch t w) (j + 1)) ∧ S' = S) := by
  have h2 := hT.2.1
  intro j
  induction j with
  | zero =>
    intro hj
    refine bkX11_aheadOf_2 (fun _ => bkX11_aheadOf_25 ⟨_, rfl, ?_, rfl⟩) (fun h => absurd (by decide) h)
    rw [s_lst_s, show t_ch t w 0 = false from rfl]; rfl
  | succ j ih =>
    intro hj
    refine bkX11_aheadOf_2 (fun h => absurd h (nI_nle (by omega) (by omega))) (fun _ => ?_)
    refine bkX11_aheadOf_6 (kM_changes hT hw (by omega)) ?_
    rintro _ S ⟨rfl, rfl⟩
    rw [s_lst_s]
    cases hp : t_ch t w (j + 1)
    · refine bkX11_aheadOf_12 (fun _ => bkX11_aheadOf_19 ?_) (fun h => absurd rfl h)
      rw [pk_m1]
      exact ih (by omega)
    · refine bkX11_aheadOf_12 (fun h => absurd h (by decide)) (fun _ => bkX11_aheadOf_15 ⟨_, rfl, ?_, rfl⟩)
      simp only [if_true]
      rw [if_neg (ne4 (by omega))]
theorem kM_aheadOf (hT : TrM S n t) (hw : w < 8) (hi : i < n) : Ci (d + 3) mX11_aheadOf [vR 11 0, vI (nI w), vI (nI i)] S (fun v S' => v = g_ah (t_ch t w) i ∧ S' = S) := by
  refine cxX11_aheadOf ?_
  exact bkX11_aheadOf_0 (lM_aheadOf hT hw hi i (Nat.le_refl _))
theorem lM_behindOf {i : Nat} (hT : TrM S n t) (hw : w < 8) (hi : i < n) :
    ∀ (m j : Nat), j + m = n → i < j → Ev (d + 3) mX11_behindOf 4 [some (vR 11 0), some (vI (nI w)), some (vI (nI i)), some (vI (nI j))] [] S (fun r S' => ∃ v, r = some (vI v) ∧ v = (if s_nx (t_ch t w) m j < n then nI (s_nx (t_ch t w) m j - i) else -4) ∧ S' = S) := by
  have h1 := hT.1
  have h2 := hT.2.1
  intro m
  induction m with
  | zero =>
    intro j hj hij
    refine bkX11_behindOf_4 (fun _ => bkX11_behindOf_31 ⟨_, rfl, ?_, rfl⟩) (fun h => absurd (by rw [h1]; exact nI_le (by omega) (by omega)) h)
    rw [if_neg (by show ¬ j < n; omega)]
  | succ m ih =>
    intro j hj hij
    refine bkX11_behindOf_4 (fun h => absurd h (by rw [h1]; exact nl_ (by omega) (by omega))) (fun _ => ?_)
    refine bkX11_behindOf_12 (kM_changes hT hw (by omega)) ?_
    rintro _ S ⟨rfl, rfl⟩
    rw [s_nx_s]
    cases hp : t_ch t w j
    · refine bkX11_behindOf_18 (fun _ => bkX11_behindOf_25 ?_) (fun h => absurd rfl h)
      rw [nI_1]
      exact ih (j + 1) (by omega) (by omega)
    · refine bkX11_behindOf_18 (fun h => absurd h (by decide)) (fun _ => bkX11_behindOf_21 ⟨_, rfl, ?_, rfl⟩)
      simp only [if_true]
      rw [if_pos (by omega), pk_sub (by omega)]
theorem kM_behindOf (hT : TrM S n t) (hw : w < 8) (hi : i < n) : Ci (d + 3) mX11_behindOf [vR 11 0, vI (nI w), vI (nI i)] S (fun v S' => v = g_bh (t_ch t w) n i ∧ S' = S) := by
  refine cxX11_behindOf ?_
  refine bkX11_behindOf_0 ?_
  rw [nI_1]
  exact lM_behindOf hT hw hi (n - (i + 1)) (i + 1) (by omega) (by omega)
theorem lM_setup {z : Nat} {Q : Option av_T → hs_T → Prop} (hT : TrM S n t) (hc : c < 8) (he : e < 8) (hz : z ≤ 3)
    (hQ : ∀ x6 o7 o8, Ev (d + 4) mX11_setup 144 [some (vR 11 0), some (vI (nI c)), some (vI (nI e)), some (vI (nI z)), some (vI (s_lw (t_up t c) (if z < 2 then g_ah (t_ch t e) else g_bh (t_ch t e) n) n 0 (-4, -4)).1), some (vI (s_lw (t_up t c) (if z < 2 then g_ah (t_ch t e) else g_bh (t_ch t e) n) n 0 (-4, -4)).2), some (vI x6), o7, o8] [] S Q) :
    ∀ (m i : Nat) (q : Int32 × Int32) (o7 o8 : Option av_T), i + m = n → s_lw (t_up t c) (if z < 2 then g_ah (t_ch t e) else g_bh (t_ch t e) n) m i q = s_lw (t_up t c) (if z < 2 then g_ah (t_ch t e) else g_bh (t_ch t e) n) n 0 (-4, -4) → Ev (d + 4) mX11_setup 39 [some (vR 11 0), some (vI (nI c)), some (vI (nI e)), some (vI (nI z)), some (vI q.1), some (vI q.2), some (vI (nI i)), o7, o8] [] S Q := by
  have h1 := hT.1
  have h2 := hT.2.1
  intro m
  induction m with
  | zero =>
    intro i q o7 o8 hi hl
    rw [← hl] at hQ
    exact bkX11_setup_39 (fun _ => hQ _ _ _) (fun h => absurd (by rw [h1]; exact nI_le (by omega) (by omega)) h)
  | succ m ih =>
    intro i q o7 o8 hi hl
    rw [s_lw_s] at hl
    refine bkX11_setup_39 (fun h => absurd h (by rw [h1]; exact nl_ (by omega) (by omega))) (fun _ => ?_)
    refine bkX11_setup_48 (kM_rises hT hc (by omega)) ?_
    rintro _ S ⟨rfl, rfl⟩
    cases hup : t_up t c i
    · rw [hup] at hl
      refine bkX11_setup_55 (fun _ => bkX11_setup_138 ?_) (fun h => absurd rfl h)
      rw [nI_1]
      exact ih (i + 1) q _ _ (by omega) hl
    · rw [hup] at hl
      simp only [if_true] at hl
      refine bkX11_setup_55 (fun h => absurd h (by decide)) (fun _ => ?_)
      have p2 : Ev (d + 4) mX11_setup 80 [some (vR 11 0), some (vI (nI c)), some (vI (nI e)), some (vI (nI z)), some (vI q.1), some (vI q.2), some (vI (nI i)), o7, o8] [vI ((if z < 2 then g_ah (t_ch t e) else g_bh (t_ch t e) n) i)] S Q := by
        generalize (if z < 2 then g_ah (t_ch t e) else g_bh (t_ch t e) n) i = v at *
        have no : ¬ (¬ v = -4 ∧ (q.1 = -4 ∨ v < q.1)) → Ev (d + 4) mX11_setup 107 [some (vR 11 0), some (vI (nI c)), some (vI (nI e)), some (vI (nI z)), some (vI q.1), some (vI q.2), some (vI (nI i)), some (vI v), o8] [] S Q := by
          intro h
          rw [show g_lw v i q = q from if_neg h] at hl
          refine bkX11_setup_107 (bkX11_setup_108 (fun _ => ?_) (fun h => absurd rfl h))
          refine bkX11_setup_120 (bkX11_setup_122 (fun _ => ?_) (fun h => absurd rfl h))
          refine bkX11_setup_134 (bkX11_setup_136 (bkX11_setup_138 ?_))
          rw [nI_1]
          exact ih (i + 1) q _ _ (by omega) hl
        have yes : (¬ v = -4 ∧ (q.1 = -4 ∨ v < q.1)) → Ev (d + 4) mX11_setup 103 [some (vR 11 0), some (vI (nI c)), some (vI (nI e)), some (vI (nI z)), some (vI q.1), some (vI q.2), some (vI (nI i)), some (vI v), o8] [] S Q := by
          intro h
          rw [show g_lw v i q = (v, nI i) from if_pos h] at hl
          refine bkX11_setup_103 (bkX11_setup_108 (fun h => absurd h (by decide)) (fun _ => ?_))
          refine bkX11_setup_115 (bkX11_setup_122 (fun h => absurd h (by decide)) (fun _ => ?_))
          refine bkX11_setup_129 (bkX11_setup_136 (bkX11_setup_138 ?_))
          rw [nI_1]
          exact ih (i + 1) (v, nI i) _ _ (by omega) hl
        refine bkX11_setup_80 (fun h => no (fun z => z.1 h)) (fun h => ?_)
        refine bkX11_setup_89 (fun h2 => yes ⟨h, Or.inl h2⟩) (fun h2 => ?_)
        refine bkX11_setup_96 (fun h3 => no ?_) (fun h3 => yes ⟨h, Or.inr (fa_of_nle h3)⟩)
        rintro ⟨_, z | z⟩
        · exact h2 z
        · rw [fa_lt] at z; rw [fa_le] at h3; omega
      refine bkX11_setup_58 (fun h => ?_) (fun h => ?_)
      · rw [show (2 : Int32) = nI 2 from rfl, nI_leI (by omega) (by omega)] at h
        rw [if_neg (by omega)] at p2
        refine bkX11_setup_73 (kM_behindOf hT he (by omega)) ?_
        rintro _ S ⟨rfl, rfl⟩
        exact p2
      · rw [show (2 : Int32) = nI 2 from rfl, nI_leI (by omega) (by omega)] at h
        rw [if_pos (by omega)] at p2
        refine bkX11_setup_63 (kM_aheadOf hT he (by omega)) ?_
        rintro _ S ⟨rfl, rfl⟩
        exact bkX11_setup_70 p2
theorem kM_setup {x y z : Int32} (hT : TrM S n t) : Ci (d + 4) mX11_setup [vR 11 0, vI x, vI y, vI z] S (fun v S' => v = sp_setup n t x y z ∧ Kp S S') := by
  refine cxX11_setup ?_
  refine bkX11_setup_0 kM_isWire ?_
  rintro _ S ⟨rfl, rfl⟩
  cases hx : inR x 0 7
  · exact bkX11_setup_4 (fun _ => bkX11_setup_26 ⟨_, rfl, by simp [sp_setup, hx], Kp_rf _⟩) (fun h => absurd rfl h)
  refine bkX11_setup_4 (fun h => absurd h (by decide)) (fun _ => ?_)
  refine bkX11_setup_7 kM_isWire ?_
  rintro _ S ⟨rfl, rfl⟩
  cases hy : inR y 0 7
  · exact bkX11_setup_11 (fun _ => bkX11_setup_26 ⟨_, rfl, by simp [sp_setup, hy], Kp_rf _⟩) (fun h => absurd rfl h)
  refine bkX11_setup_11 (fun h => absurd h (by decide)) (fun _ => ?_)
  refine bkX11_setup_14 (kM_inI (lo := 0) (hi := 3) rfl rfl) ?_
  rintro _ S ⟨rfl, rfl⟩
  cases hz : inR z 0 3
  · exact bkX11_setup_23 (fun h => absurd rfl h) (fun _ => bkX11_setup_26 ⟨_, rfl, by simp [sp_setup, hz], Kp_rf _⟩)
  refine bkX11_setup_23 (fun _ => ?_) (fun h => absurd h (by decide))
  rw [sp_setup, hx, hy, hz]
  obtain ⟨c, hc, rfl⟩ := inR_get hx
  obtain ⟨e, he, rfl⟩ := inR_get hy
  obtain ⟨q, hq, rfl⟩ := inR_get hz
  rw [nI_tn (by omega), nI_tn (by omega)]
  simp only [Bool.and_self, if_true]
  refine bkX11_setup_28 ?_
  refine lM_setup (z := q) hT (by omega) (by omega) (by omega) (fun x6 o7 o8 => ?_) n 0 (-4, -4) _ _ (by omega) rfl
  rcases (show q = 0 ∨ q = 1 ∨ q = 2 ∨ q = 3 by omega) with rfl | rfl | rfl | rfl
  · exact bkX11_setup_144 (fun h => absurd (by decide) h) (fun _ => bkX11_setup_150 (bkX11_setup_157 ⟨_, rfl, rfl, Kp_rf _⟩))
  · exact bkX11_setup_144 (fun _ => bkX11_setup_155 (bkX11_setup_157 ⟨_, rfl, rfl, Kp_rf _⟩)) (fun h => absurd h (by decide))
  · exact bkX11_setup_144 (fun h => absurd (by decide) h) (fun _ => bkX11_setup_150 (bkX11_setup_157 ⟨_, rfl, rfl, Kp_rf _⟩))
  · exact bkX11_setup_144 (fun _ => bkX11_setup_155 (bkX11_setup_157 ⟨_, rfl, rfl, Kp_rf _⟩)) (fun h => absurd h (by decide))
theorem lM_tight {u v : Int32} {Q : Option av_T → hs_T → Prop} (hT : TrM S n t) (hc : c < 8) (he : e < 8)
    (hQ : Q (some (vI (nI (fb_ct (fun i => t_up t c i && g_nr (g_ah (t_ch t e) i) (g_bh (t_ch t e) n i) u v) n)))) S) :
    ∀ (m i : Nat) (o7 o8 : Option av_T), i + m = n → Ev (d + 4) mX11_tight 47 [some (vR 11 0), some (vI (nI c)), some (vI (nI e)), some (vI u), some (vI v), some (vI (nI (fb_ct (fun i => t_up t c i && g_nr (g_ah (t_ch t e) i) (g_bh (t_ch t e) n i) u v) i))), some (vI (nI i)), o7, o8] [] S Q := by
  have h1 := hT.1
  have h2 := hT.2.1
  intro m
  induction m with
  | zero =>
    intro i o7 o8 hi
    have ei : i = n := by omega
    subst ei
    exact bkX11_tight_47 (fun _ => bkX11_tight_130 hQ) (fun h => absurd (by rw [h1]; exact nI_le (by omega) (by omega)) h)
  | succ m ih =>
    intro i o7 o8 hi
    refine bkX11_tight_47 (fun h => absurd h (by rw [h1]; exact nl_ (by omega) (by omega))) (fun _ => ?_)
    refine bkX11_tight_56 (kM_rises hT hc (by omega)) ?_
    rintro _ S ⟨rfl, rfl⟩
    have ih := fun o7 o8 => ih (i + 1) o7 o8 (by omega)
    rw [fb_ct_succ] at ih
    cases hup : t_up t c i
    · rw [hup] at ih
      refine bkX11_tight_63 (fun _ => bkX11_tight_124 ?_) (fun h => absurd rfl h)
      rw [nI_1]
      exact ih _ _
    · rw [hup, Bool.true_and] at ih
      refine bkX11_tight_63 (fun h => absurd h (by decide)) (fun _ => ?_)
      refine bkX11_tight_66 (kM_aheadOf hT he (by omega)) ?_
      rintro _ S ⟨rfl, rfl⟩
      refine bkX11_tight_73 (kM_behindOf hT he (by omega)) ?_
      rintro _ S ⟨rfl, rfl⟩
      generalize hK : fb_ct (fun i => t_up t c i && g_nr (g_ah (t_ch t e) i) (g_bh (t_ch t e) n i) u v) i = K at *
      generalize g_ah (t_ch t e) i = A at *
      generalize g_bh (t_ch t e) n i = B at *
      have fin : ∀ b : Bool, b = g_nr A B u v → Ev (d + 4) mX11_tight 118 [some (vR 11 0), some (vI (nI c)), some (vI (nI e)), some (vI u), some (vI v), some (vI (nI K)), some (vI (nI i)), some (vI A), some (vI B)] [vI (bi_ b), vI (nI K)] S Q := by
        intro b hb
        refine bkX11_tight_118 kM_flag ?_
        rintro _ S ⟨rfl, rfl⟩
        refine bkX11_tight_121 (bkX11_tight_124 ?_)
        rw [nI_1, bi_nI, nI_add, hb]
        exact ih _ _
      have q2 : (!decide (A = -4) && decide (A < u)) = false → Ev (d + 4) mX11_tight 99 [some (vR 11 0), some (vI (nI c)), some (vI (nI e)), some (vI u), some (vI v), some (vI (nI K)), some (vI (nI i)), some (vI A), some (vI B)] [vI (nI K)] S Q := by
        intro hz
        refine bkX11_tight_99 (fun h => ?_) (fun h => ?_)
        · exact bkX11_tight_117 (fin false (by rw [g_nr, hz, decide_eq_true h]; rfl))
        · refine bkX11_tight_106 (fun h3 => bkX11_tight_117 (fin false ?_)) (fun h3 => bkX11_tight_113 (fin true ?_))
          · rw [g_nr, hz, decide_eq_false (show ¬ B < v by rw [fa_lt]; rw [fa_le] at h3; omega)]; simp
          · rw [g_nr, decide_eq_false h, decide_eq_true (fa_of_nle h3)]; simp
      refine bkX11_tight_82 (fun h => ?_) (fun h => ?_)
      · exact q2 (by rw [decide_eq_true h]; rfl)
      · refine bkX11_tight_93 (fun h3 => bkX11_tight_113 (fin true ?_)) (fun h3 => q2 ?_)
        · rw [g_nr, decide_eq_false h, decide_eq_true h3]; rfl
        · rw [decide_eq_false h3]; simp
theorem kM_tight {x y z u : Int32} (hT : TrM S n t) : Ci (d + 4) mX11_tight [vR 11 0, vI x, vI y, vI z, vI u] S (fun v S' => v = sp_tight n t x y z u ∧ Kp S S') := by
  refine cxX11_tight ?_
  refine bkX11_tight_0 kM_isWire ?_
  rintro _ S ⟨rfl, rfl⟩
  cases hx : inR x 0 7
  · exact bkX11_tight_4 (fun _ => bkX11_tight_39 ⟨_, rfl, by simp [sp_tight, hx], Kp_rf _⟩) (fun h => absurd rfl h)
  refine bkX11_tight_4 (fun h => absurd h (by decide)) (fun _ => ?_)
  refine bkX11_tight_7 kM_isWire ?_
  rintro _ S ⟨rfl, rfl⟩
  cases hy : inR y 0 7
  · exact bkX11_tight_11 (fun _ => bkX11_tight_39 ⟨_, rfl, by simp [sp_tight, hy], Kp_rf _⟩) (fun h => absurd rfl h)
  refine bkX11_tight_11 (fun h => absurd h (by decide)) (fun _ => ?_)
  refine bkX11_tight_14 (kM_inI (lo := 0) (hi := 400) rfl rfl) ?_
  rintro _ S ⟨rfl, rfl⟩
  cases hz : inR z 0 400
  · exact bkX11_tight_23 (fun _ => bkX11_tight_39 ⟨_, rfl, by simp [sp_tight, hz], Kp_rf _⟩) (fun h => absurd rfl h)
  refine bkX11_tight_23 (fun h => absurd h (by decide)) (fun _ => ?_)
  refine bkX11_tight_26 (kM_inI (lo := 0) (hi := 400) rfl rfl) ?_
  rintro _ S ⟨rfl, rfl⟩
  cases hu : inR u 0 400
  · exact bkX11_tight_36 (fun h => absurd rfl h) (fun _ => bkX11_tight_39 ⟨_, rfl, by simp [sp_tight, hu], Kp_rf _⟩)
  refine bkX11_tight_36 (fun _ => ?_) (fun h => absurd h (by decide))
  rw [sp_tight, hx, hy, hz, hu]
  obtain ⟨c, hc, rfl⟩ := inR_get hx
  obtain ⟨e, he, rfl⟩ := inR_get hy
  rw [nI_tn (by omega), nI_tn (by omega)]
  refine bkX11_tight_41 ?_
  exact lM_tight hT (by omega) (by omega) ⟨_, rfl, rfl, Kp_rf _⟩ n 0 _ _ (by omega)
end GA
