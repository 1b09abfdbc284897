/-! ===== values ===== -/
def lb (x : Int64) (k : Nat) : Bool := x.toBitVec.getLsbD k
theorem lb_ext {x y : Int64} (h : ∀ i, i < 64 → lb x i = lb y i) : x = y := Int64.toBitVec_inj.mp (BitVec.eq_of_getLsbD_eq (fun i hi => h i hi))
theorem lb_or (x y : Int64) (i : Nat) : lb (x ||| y) i = (lb x i || lb y i) := by unfold lb; rw [Int64.toBitVec_or, BitVec.getLsbD_or]
theorem lb_and (x y : Int64) (i : Nat) : lb (x &&& y) i = (lb x i && lb y i) := by unfold lb; rw [Int64.toBitVec_and, BitVec.getLsbD_and]
theorem lb_0 (i : Nat) : lb 0 i = false := BitVec.getLsbD_zero
theorem lb_big {x : Int64} {i : Nat} (h : 64 ≤ i) : lb x i = false := BitVec.getLsbD_of_ge _ _ h
theorem lb_one (i : Nat) : lb 1 i = decide (i = 0) := by
  rcases Nat.lt_or_ge i 64 with h | h
  · exact (by decide +kernel : ∀ i, i < 64 → lb 1 i = decide (i = 0)) i h
  · rw [lb_big h, decide_eq_false (by omega)]
theorem s_l64 : ∀ n, n < 64 → ((lN n &&& 63).toBitVec.smod 64).toNat = n := by decide +kernel
theorem lb_shr (n : Nat) (hn : n < 64) (x : Int64) : lb (x >>> (lN n &&& 63)) 0 = lb x n := by
  unfold lb
  rw [Int64.toBitVec_shiftRight]
  show (x.toBitVec.sshiftRight ((lN n &&& 63).toBitVec.smod 64).toNat).getLsbD 0 = _
  rw [s_l64 n hn, BitVec.getLsbD_sshiftRight]
  simp [hn]
theorem lb_shl (n : Nat) (hn : n < 64) (i : Nat) (hi : i < 64) : lb ((1 : Int64) <<< (lN n &&& 63)) i = decide (i = n) := by
  have h1 := lb_one (i - n)
  unfold lb at h1 ⊢
  rw [Int64.toBitVec_shiftLeft]
  show ((1 : Int64).toBitVec <<< ((lN n &&& 63).toBitVec.smod 64).toNat).getLsbD i = _
  rw [s_l64 n hn, BitVec.getLsbD_shiftLeft, h1]
  by_cases e : i = n
  · subst e; simp [hi]
  · rcases Nat.lt_or_ge i n with h | h
    · simp [h, e]
    · rw [decide_eq_false (show ¬ i - n = 0 by omega), decide_eq_false e]; simp
theorem lb_test (x : Int64) {n : Nat} (hn : n < 64) : ((x >>> (lN n &&& 63)) &&& 1) = 0 ↔ lb x n = false := by
  rw [← lb_shr n hn x]
  generalize x >>> (lN n &&& 63) = y
  constructor
  · intro h
    have := lb_and y 1 0
    rw [h, lb_0, lb_one] at this
    simpa using this.symm
  · intro h
    refine lb_ext (fun i _ => ?_)
    rw [lb_and, lb_one, lb_0]
    by_cases e : i = 0
    · subst e; rw [h]; rfl
    · rw [decide_eq_false e, Bool.and_false]
theorem sl_sl (S : hs_T) (g g' : Nat → Int64) : sl_ (sl_ S g) g' = sl_ S g' := rfl
theorem lJ_fillL {d : Nat} {S : hs_T} {Q : Option av_T → hs_T → Prop} (hQ : ∀ h : Nat → Int64, (∀ a, a < 1024 → h a = 0) → Q none (sl_ S h)) :
    ∀ (m i : Nat) (h : Nat → Int64), i + m = 1024 → (∀ a, a < i → h a = 0) → Ev d mJ7_fill_d0a16 6 [some (vR 201 0), some (vJ 0), none, some (vI (nI i)), some (vI (nI 1024))] [] (sl_ S h) Q := by
  intro m
  induction m with
  | zero =>
    intro i h h1 h2
    have e : i = 1024 := by omega
    subst e
    refine Ev.iload_n dJ7_fill_d0a16_6 rfl rfl (Ev.iload dJ7_fill_d0a16_7 rfl ?_)
    refine Ev.icmp_ge (tgt := 22) dJ7_fill_d0a16_9 (by decide) (fun _ => ?_) (fun z => absurd (nI_le (Nat.le_refl _) (by omega)) z)
    exact Ev.vret dJ7_fill_d0a16_22 rfl (hQ h h2)
  | succ m ih =>
    intro i h h1 h2
    refine Ev.iload_n dJ7_fill_d0a16_6 rfl rfl (Ev.iload dJ7_fill_d0a16_7 rfl ?_)
    refine Ev.icmp_ge (tgt := 22) dJ7_fill_d0a16_9 (by decide) (fun z => absurd z (nl_ (by omega) (by omega))) (fun _ => ?_)
    refine Ev.aload_n dJ7_fill_d0a16_12 rfl rfl (Ev.iload_n dJ7_fill_d0a16_13 rfl rfl (Ev.lload_n dJ7_fill_d0a16_14 rfl rfl ?_))
    refine Ev.lastore (n := 1024) (by decide) (vp_lt (by omega) (by omega)) (S' := sl_ S (vp_updL h i 0)) (by rw [nI_clamp (by omega)]; rfl) dJ7_fill_d0a16_15 ?_
    refine Ev.iinc (v := nI (i + 1)) (ls' := [some (vR 201 0), some (vJ 0), none, some (vI (nI (i + 1))), some (vI (nI 1024))]) dJ7_fill_d0a16_16 rfl (nI_1 i) (by decide) rfl ?_
    refine Ev.goto (tgt := 6) dJ7_fill_d0a16_19 (by decide) ?_
    refine ih (i + 1) _ (by omega) (fun a ha => ?_)
    by_cases e : a = i
    · subst e; exact pk_uLs
    · rw [pk_uLn e]; exact h2 a (by omega)
theorem kJ_fillL {d : Nat} {S : hs_T} : Cv d mJ7_fill_d0a16 [vR 201 0, vJ 0] S (fun S' => ∃ h, S' = sl_ S h ∧ ∀ a, a < 1024 → h a = 0) := by
  refine Cx.of (by decide) (by simp [el_, ct_]) ?_
  show Ev d mJ7_fill_d0a16 0 [some (vR 201 0), some (vJ 0), none, none, none] [] S _
  refine Ev.iconst (v := 0) dJ7_fill_d0a16_0 (by decide) ?_
  refine Ev.istore_n (ls' := [some (vR 201 0), some (vJ 0), none, some (vI 0), none]) dJ7_fill_d0a16_1 rfl (by decide) rfl ?_
  refine Ev.aload_n dJ7_fill_d0a16_2 rfl rfl ?_
  refine Ev.alen (v := nI 1024) (n := 1024) (by decide) (by decide) (by decide) (Or.inr (Or.inl (by decide))) rfl dJ7_fill_d0a16_3 ?_
  refine Ev.istore (ls' := [some (vR 201 0), some (vJ 0), none, some (vI 0), some (vI (nI 1024))]) dJ7_fill_d0a16_4 (by decide) rfl ?_
  exact lJ_fillL (d := d) (S := S) (Q := fun r S' => r = none ∧ ∃ h, S' = sl_ S h ∧ ∀ a, a < 1024 → h a = 0) (fun h h2 => ⟨rfl, h, rfl, h2⟩) 1024 0 S.2.1 (by omega) (fun a ha => by omega)
def tmv (t : Nat → Nat) (n v : Nat) : Nat := fb_ct (fun i => decide (t i = v)) n
abbrev vl_T : Type := Nat × Int32 × Nat
def vl_st (m v : Nat) (q : vl_T) : vl_T := (q.1 + (if 0 < m then 1 else 0), (if q.2.2 < m then nI v else q.2.1), (if q.2.2 < m then m else q.2.2))
def s_vl (tm : Nat → Nat) : Nat → vl_T
  | 0 => (0, -4, 0)
  | v + 1 => vl_st (tm v) v (s_vl tm v)
theorem s_vl_s (tm : Nat → Nat) (v : Nat) : s_vl tm (v + 1) = vl_st (tm v) v (s_vl tm v) := rfl
theorem s_vl_le {tm : Nat → Nat} {N : Nat} (h : ∀ v, tm v ≤ N) : ∀ v, (s_vl tm v).2.2 ≤ N
  | 0 => Nat.zero_le _
  | v + 1 => by
    rw [s_vl_s]
    show (if (s_vl tm v).2.2 < tm v then tm v else (s_vl tm v).2.2) ≤ N
    split
    · exact h v
    · exact s_vl_le h v
def cd_ (t : Nat → Nat) (k : Nat) : Nat := 256 * t k + t (k + 1)
def s_nf (t : Nat → Nat) (k : Nat) : Nat → Bool
  | 0 => !decide (t k = t (k + 1))
  | j + 1 => s_nf t k j && !(decide (t j = t k) && decide (t (j + 1) = t (k + 1)))
theorem s_nf_s (t : Nat → Nat) (k j : Nat) : s_nf t k (j + 1) = (s_nf t k j && !(decide (t j = t k) && decide (t (j + 1) = t (k + 1)))) := rfl
def s_sb (t : Nat → Nat) (c : Nat) : Nat → Bool
  | 0 => false
  | k + 1 => s_sb t c k || (!decide (t k = t (k + 1)) && decide (c = cd_ t k))
theorem s_sb_s (t : Nat → Nat) (c k : Nat) : s_sb t c (k + 1) = (s_sb t c k || (!decide (t k = t (k + 1)) && decide (c = cd_ t k))) := rfl
theorem s_nf_sb {t : Nat → Nat} {k : Nat} (ht : ∀ i, i ≤ k + 1 → t i < 256) : ∀ j, j ≤ k → s_nf t k j = (!decide (t k = t (k + 1)) && !s_sb t (cd_ t k) j) := by
  intro j
  induction j with
  | zero => intro _; simp [s_nf, s_sb]
  | succ j ih =>
    intro hj
    rw [s_nf_s, s_sb_s, ih (by omega)]
    have a1 := ht j (by omega)
    have a2 := ht (j + 1) (by omega)
    have a3 := ht k (by omega)
    have a4 := ht (k + 1) (by omega)
    by_cases hk : t k = t (k + 1)
    · simp [hk]
    · have e : (!decide (t j = t (j + 1)) && decide (cd_ t k = cd_ t j)) = (decide (t j = t k) && decide (t (j + 1) = t (k + 1))) := by
        unfold cd_
        by_cases b1 : t j = t k
        · by_cases b2 : t (j + 1) = t (k + 1)
          · rw [decide_eq_false (show ¬ t j = t (j + 1) by omega), decide_eq_true (show 256 * t k + t (k + 1) = 256 * t j + t (j + 1) by omega), decide_eq_true b1, decide_eq_true b2]; rfl
          · rw [decide_eq_false (show ¬ 256 * t k + t (k + 1) = 256 * t j + t (j + 1) by omega), decide_eq_false b2]; simp
        · rw [decide_eq_false (show ¬ 256 * t k + t (k + 1) = 256 * t j + t (j + 1) by omega), decide_eq_false b1]; simp
      rw [e, decide_eq_false hk]
      cases s_sb t (cd_ t k) j <;> simp
def s_pr (t : Nat → Nat) (n : Nat) : Nat := fb_ct (fun k => s_nf t k k) (n - 1)
def sp_values (n : Nat) (t : Nat → Nat) (x : Int32) : Int32 := if inR x 0 3 then (if x = 0 then nI (s_vl (tmv t n) 256).1 else if x = 1 then nI (s_pr t n) else if x = 2 then (s_vl (tmv t n) 256).2.1 else nI (s_vl (tmv t n) 256).2.2) else -1
theorem ess_1 (j f : Nat) : ess 1 j f = false := by simp [ess]
theorem ess_200 (j f : Nat) : ess 200 j f = false := by simp [ess]
theorem tmv_le (t : Nat → Nat) (n v : Nat) : tmv t n v ≤ n := fb_ct_le _ _
section VA
variable {d : Nat} {S : hs_T} {n w i : Nat} {t : Nat → Nat}
theorem lX1_t1 {S0 : hs_T} {Q : Option av_T → hs_T → Prop} (hT : TrX S0 0 n t) (hQ : ∀ S' x2, Kp S0 S' → (∀ v, v < 256 → S'.1 200 0 v = nI (tmv t n v)) → Ev (d + 2) mX1_tally 42 [some (vR 1 0), some (vR 8 0), some (vI x2)] [] S' Q) :
    ∀ (m i : Nat) (S : hs_T), i + m = n → Kp S0 S → (∀ v, v < 256 → S.1 200 0 v = nI (tmv t i v)) → Ev (d + 2) mX1_tally 10 [some (vR 1 0), some (vR 8 0), some (vI (nI i))] [] S Q := by
  have h2 := hT.2.1
  intro m
  induction m with
  | zero =>
    intro i S hi hk hv
    have h1 := (TrX_Kp hk (by omega) hT).1
    have e : i = n := by omega
    subst e
    exact bkX1_tally_10 (by omega) (fun _ => hQ S _ hk hv) (fun h => absurd (by rw [h1]; exact nI_le (by omega) (by omega)) h)
  | succ m ih =>
    intro i S hi hk hv
    have hT' := TrX_Kp hk (by omega) hT
    have h1 := hT'.1
    refine bkX1_tally_10 (by omega) (fun h => absurd h (by rw [h1]; exact nl_ (by omega) (by omega))) (fun _ => ?_)
    refine bkX1_tally_18 (by omega) (kX8_sample hT' (by omega) (by omega)) ?_
    rintro _ S ⟨rfl, rfl⟩
    have ht := (hT.2.2 i (by omega)).2
    have e : nI (t i) &&& 255 = nI (t i) := by rw [pk_andN (by omega) 8 rfl, Nat.mod_eq_of_lt (by omega)]
    refine bkX1_tally_27 (by rw [e]; exact vp_lt (by omega) (by omega)) ?_
    rw [e, nI_clamp (by omega), nI_1]
    refine ih (i + 1) _ (by omega) (Kp_n hk (fun f => ess_200 0 f)) (fun v hv2 => ?_)
    rw [sk_at]
    unfold tmv
    rw [fb_ct_succ]
    by_cases ev : v = t i
    · subst ev
      rw [pk_us, hv _ hv2, nI_1, decide_eq_true rfl]; rfl
    · rw [pk_un ev, hv _ hv2, decide_eq_false (fun z => ev z.symm)]; rfl
def f1 (S : hs_T) (q : vl_T) : Prop := S.1 1 0 2 = nI q.1 ∧ S.1 1 0 3 = q.2.1 ∧ S.1 1 0 4 = nI q.2.2
theorem lX1_t2 {S0 : hs_T} {Q : Option av_T → hs_T → Prop} (hn : n ≤ 400) (hQ : ∀ S', Kp S0 S' → f1 S' (s_vl (tmv t n) 256) → Q none S') :
    ∀ (m v : Nat) (S : hs_T), v + m = 256 → Kp S0 S → (∀ v, v < 256 → S.1 200 0 v = nI (tmv t n v)) → f1 S (s_vl (tmv t n) v) → Ev (d + 2) mX1_tally 60 [some (vR 1 0), some (vR 8 0), some (vI (nI v))] [] S Q := by
  intro m
  induction m with
  | zero =>
    intro v S hv hk ht hf
    have e : v = 256 := by omega
    subst e
    exact bkX1_tally_60 (fun _ => bkX1_tally_126 (hQ S hk hf)) (fun h => absurd (by decide) h)
  | succ m ih =>
    intro v S hv hk ht hf
    have tl := tmv_le t n v
    have ql := s_vl_le (fun v => tmv_le t n v) v
    have e200 := ht v (by omega)
    have ih := fun S => ih (v + 1) S (by omega)
    rw [s_vl_s] at ih
    generalize s_vl (tmv t n) v = q at *
    obtain ⟨u, b, mo⟩ := q
    obtain ⟨e2, e3, e4⟩ := hf
    have e2 : S.1 1 0 2 = nI u := e2
    have e3 : S.1 1 0 3 = b := e3
    have e4 : S.1 1 0 4 = nI mo := e4
    have ql : mo ≤ n := ql
    have vin : vp_in (nI v) 256 := vp_lt (by omega) (by omega)
    refine bkX1_tally_60 (fun h => absurd h (nl_ (b := 256) (by omega) (by omega))) (fun _ => ?_)
    have p2 : ∀ k : Nat, k = (if 0 < tmv t n v then 1 else 0) → Ev (d + 2) mX1_tally 88 [some (vR 1 0), some (vR 8 0), some (vI (nI v))] [vI (nI k), vI (S.1 1 0 2), vR 1 0] S Q := by
      intro k hk2
      have k1 : Kp S0 (sk_ S 1 0 (upd (S.1 1 0) 2 (S.1 1 0 2 + nI k))) := Kp_n hk (fun f => ess_1 0 f)
      have a2 : (sk_ S 1 0 (upd (S.1 1 0) 2 (S.1 1 0 2 + nI k))).1 1 0 2 = nI (u + k) := by rw [sk_at, pk_us, e2, nI_add]
      have a3 : (sk_ S 1 0 (upd (S.1 1 0) 2 (S.1 1 0 2 + nI k))).1 1 0 3 = b := by rw [sk_at, pk_un (by omega)]; exact e3
      have a4 : (sk_ S 1 0 (upd (S.1 1 0) 2 (S.1 1 0 2 + nI k))).1 1 0 4 = nI mo := by rw [sk_at, pk_un (by omega)]; exact e4
      have at2 : ∀ v, v < 256 → (sk_ S 1 0 (upd (S.1 1 0) 2 (S.1 1 0 2 + nI k))).1 200 0 v = nI (tmv t n v) := fun v hv => by rw [sk_ne _ _ (by omega)]; exact ht v hv
      refine bkX1_tally_88 vin (fun h => ?_) (fun h => ?_) <;> rw [nI_clamp (by omega), at2 v (by omega), a4, nI_leI (by omega) (by omega)] at h <;> generalize sk_ S 1 0 (upd (S.1 1 0) 2 (S.1 1 0 2 + nI k)) = S2 at *
      · refine bkX1_tally_120 ?_
        rw [nI_1]
        refine ih S2 k1 at2 ⟨?_, ?_, ?_⟩
        · rw [a2, hk2]; rfl
        · rw [a3]; show b = if mo < tmv t n v then nI v else b; rw [if_neg (by omega)]
        · rw [a4]; show nI mo = nI (if mo < tmv t n v then tmv t n v else mo); rw [if_neg (by omega)]
      · refine bkX1_tally_105 vin (bkX1_tally_120 ?_)
        rw [nI_1, nI_clamp (by omega), at2 v (by omega)]
        refine ih _ (Kp_n (Kp_n k1 (fun f => ess_1 0 f)) (fun f => ess_1 0 f)) (fun v hv => by rw [sk_ne _ _ (by omega), sk_ne _ _ (by omega)]; exact at2 v hv) ⟨?_, ?_, ?_⟩ <;> simp only [sk_at]
        · rw [pk_un (by omega), pk_un (by omega), a2, hk2]; rfl
        · rw [pk_us]; show nI v = if mo < tmv t n v then nI v else b; rw [if_pos (by omega)]
        · rw [pk_un (by omega), pk_us]; show nI (tmv t n v) = nI (if mo < tmv t n v then tmv t n v else mo); rw [if_pos (by omega)]
    refine bkX1_tally_69 vin (fun h => ?_) (fun h => ?_) <;> rw [nI_clamp (by omega), e200] at h
    · have := z_of (by omega) h
      exact bkX1_tally_87 (p2 0 (by rw [if_neg (by omega)]))
    · have := p_of h
      exact bkX1_tally_83 (p2 1 (by rw [if_pos (by omega)]))
theorem kX1_tally (hT : TrX S 0 n t) : Cv (d + 2) mX1_tally [vR 1 0, vR 8 0] S (fun S' => Kp S S' ∧ f1 S' (s_vl (tmv t n) 256)) := by
  have h2 := hT.2.1
  refine cxX1_tally ?_
  refine bkX1_tally_0 (kJ_fill (k := 200) (j := 0) (n := 256) (by decide) (by decide) (by decide) (by omega)) ?_
  rintro _ ⟨h, rfl, hh⟩
  refine bkX1_tally_8 ?_
  refine lX1_t1 (S0 := S) hT (fun S1 x2 hk ht => ?_) n 0 _ (by omega) (Kp_n (Kp_rf S) (fun f => ess_200 0 f)) (fun v hv => by rw [sk_at, hh v hv]; rfl)
  refine bkX1_tally_42 ?_
  refine lX1_t2 (S0 := S) h2 (fun S' h1 h2 => ⟨rfl, h1, h2⟩) 256 0 _ (by omega) (Kp_n (Kp_n (Kp_n hk (fun f => ess_1 0 f)) (fun f => ess_1 0 f)) (fun f => ess_1 0 f)) (fun v hv => ?_) ?_
  · rw [sk_ne _ _ (by omega), sk_ne _ _ (by omega), sk_ne _ _ (by omega)]; exact ht v hv
  · simp only [sk_sk, sk_at]
    exact ⟨by rw [sk_at]; rfl, by rw [sk_at]; rfl, by rw [sk_at]; rfl⟩
theorem lX1_pairs {S0 : hs_T} {Q : Option av_T → hs_T → Prop} (hT : TrX S0 0 n t) (hQ : ∀ S', Kp S0 S' → Q (some (vI (nI (s_pr t n)))) S') :
    ∀ (m k : Nat) (S : hs_T) (o4 : Option av_T), k + 1 + m = n → Kp S0 S → (∀ c, c < 65536 → lb (S.2.1 (c / 64)) (c % 64) = s_sb t c k) → Ev (d + 3) mX1_unlikePairs 12 [some (vR 1 0), some (vR 8 0), some (vI (nI (fb_ct (fun k => s_nf t k k) k))), some (vI (nI (k + 1))), o4] [] S Q := by
  have h2 := hT.2.1
  intro m
  induction m with
  | zero =>
    intro k S o4 hi hk hb
    have h1 := (TrX_Kp hk (by omega) hT).1
    refine bkX1_unlikePairs_12 (by omega) (fun _ => bkX1_unlikePairs_106 ?_) (fun h => absurd (by rw [h1]; exact nI_le (by omega) (by omega)) h)
    have := hQ S hk
    rw [s_pr, show n - 1 = k by omega] at this
    exact this
  | succ m ih =>
    intro k S o4 hi hk hb
    have hT' := TrX_Kp hk (by omega) hT
    have h1 := hT'.1
    have ta := (hT.2.2 k (by omega)).2
    have tb := (hT.2.2 (k + 1) (by omega)).2
    refine bkX1_unlikePairs_12 (by omega) (fun h => absurd h (by rw [h1]; exact nl_ (by omega) (by omega))) (fun _ => ?_)
    refine bkX1_unlikePairs_20 (by omega) (by rw [nI_pred]; exact kX8_sample hT' (by omega) (by omega)) ?_
    rintro _ S ⟨rfl, rfl⟩
    refine bkX1_unlikePairs_27 (by omega) (kX8_sample hT' (by omega) (by omega)) ?_
    rintro _ S ⟨rfl, rfl⟩
    refine bkX1_unlikePairs_39 (by omega) (kX8_beginsRun hT' (by omega) (by omega)) ?_
    rintro _ S ⟨rfl, rfl⟩
    have ea : nI (t k) &&& 255 = nI (t k) := by rw [pk_andN (by omega) 8 rfl, Nat.mod_eq_of_lt (by omega)]
    have eb : nI (t (k + 1)) &&& 255 = nI (t (k + 1)) := by rw [pk_andN (by omega) 8 rfl, Nat.mod_eq_of_lt (by omega)]
    have ec : (nI (t k) &&& 255) <<< (8 &&& 31) ||| (nI (t (k + 1)) &&& 255) = nI (cd_ t k) := by
      rw [ea, eb, pk_shlN (n := t k) (8 &&& 31) 8 (by decide) (by omega), Nat.mul_comm]
      exact fa_or_sum (k := 8) _ (by omega)
    rw [ec]
    have hc : cd_ t k < 65536 := by unfold cd_; omega
    have er : t_rb t (k + 1) = !decide (t k = t (k + 1)) := by
      unfold t_rb
      rw [decide_eq_false (show ¬ k + 1 = 0 by omega), Nat.add_sub_cancel, Bool.false_or]
      by_cases e : t k = t (k + 1)
      · simp [e]
      · have e' : ¬ t (k + 1) = t k := fun z => e z.symm
        simp [e, e']
    have hnf := s_nf_sb (t := t) (k := k) (fun i hi => (hT.2.2 i (by omega)).2) k (Nat.le_refl _)
    rw [er]
    have skip : s_nf t k k = false → (∀ c, c < 65536 → s_sb t c (k + 1) = s_sb t c k) → Ev (d + 3) mX1_unlikePairs 100 [some (vR 1 0), some (vR 8 0), some (vI (nI (fb_ct (fun k => s_nf t k k) k))), some (vI (nI (k + 1))), some (vI (nI (cd_ t k)))] [] S Q := by
      intro h hs
      refine bkX1_unlikePairs_100 ?_
      have ih := ih (k + 1) S (some (vI (nI (cd_ t k)))) (by omega) hk (fun c hc => by rw [hs c hc]; exact hb c hc)
      rw [fb_ct_succ, h] at ih
      rw [nI_1]
      exact ih
    cases hne : decide (t k = t (k + 1))
    · rw [hne] at hnf
      refine bkX1_unlikePairs_51 (fun h => absurd h (by decide)) (fun _ => ?_)
      have e6 : nI (cd_ t k) >>> (6 &&& 31) = nI (cd_ t k / 64) := pk_shrN (by omega) (6 &&& 31) 6 (by decide)
      have e63 : (nI (cd_ t k) &&& 63).toInt64 = lN (cd_ t k % 64) := by
        rw [pk_andN (by omega) 6 rfl]; exact nI_l (by omega)
      have hin : vp_in (nI (cd_ t k) >>> (6 &&& 31)) 1024 := by rw [e6]; exact vp_lt (by omega) (by omega)
      refine bkX1_unlikePairs_54 hin ?_ ?_ <;> rw [lg_cmp_eq, e6, e63, nI_clamp (by omega), lb_test _ (Nat.mod_lt _ (by omega)), hb _ hc] <;> intro h
      · have h : s_sb t (cd_ t k) k = true := by simpa using h
        rw [h] at hnf
        refine skip hnf (fun c _ => ?_)
        rw [s_sb_s, hne]
        by_cases e : c = cd_ t k
        · rw [e, h]; rfl
        · rw [decide_eq_false e]; simp
      · rw [h] at hnf
        refine bkX1_unlikePairs_77 hin (bkX1_unlikePairs_100 ?_)
        rw [e6, e63, nI_clamp (by omega), nI_1, nI_1]
        have ih := ih (k + 1) (sl_ S (vp_updL S.2.1 (cd_ t k / 64) (S.2.1 (cd_ t k / 64) ||| (1 <<< (lN (cd_ t k % 64) &&& 63))))) (some (vI (nI (cd_ t k)))) (by omega) (Kp_sl hk) (fun c hc2 => ?_)
        · rw [fb_ct_succ, hnf] at ih
          exact ih
        · show lb (vp_updL S.2.1 (cd_ t k / 64) (S.2.1 (cd_ t k / 64) ||| (1 <<< (lN (cd_ t k % 64) &&& 63))) (c / 64)) (c % 64) = _
          rw [s_sb_s, hne, Bool.not_false, Bool.true_and]
          by_cases e : c / 64 = cd_ t k / 64
          · rw [e, pk_uLs, lb_or, ← e, hb c hc2, lb_shl _ (Nat.mod_lt _ (by omega)) _ (Nat.mod_lt _ (by omega))]
            congr 1
            apply decide_eq_decide.mpr
            omega
          · rw [pk_uLn e, hb c hc2, decide_eq_false (fun z => e (by rw [z])), Bool.or_false]
    · rw [hne] at hnf
      refine bkX1_unlikePairs_51 (fun _ => skip hnf (fun c _ => ?_)) (fun h => absurd rfl h)
      rw [s_sb_s, hne]; simp
theorem kX1_unlikePairs (hT : TrX S 0 n t) : Ci (d + 3) mX1_unlikePairs [vR 1 0, vR 8 0] S (fun v S' => v = nI (s_pr t n) ∧ Kp S S') := by
  refine cxX1_unlikePairs ?_
  refine bkX1_unlikePairs_0 kJ_fillL ?_
  rintro _ ⟨h, rfl, hh⟩
  refine bkX1_unlikePairs_8 ?_
  have hk : Kp S (sl_ S h) := Kp_sl (Kp_rf S)
  rcases Nat.eq_zero_or_pos n with z | z
  · subst z
    have h1 := (TrX_Kp hk (by omega) hT).1
    exact bkX1_unlikePairs_12 (by omega) (fun _ => bkX1_unlikePairs_106 ⟨_, rfl, rfl, hk⟩) (fun h => absurd (by rw [h1]; decide) h)
  · refine lX1_pairs (S0 := S) hT (fun S' h => ⟨_, rfl, rfl, h⟩) (n - 1) 0 _ _ (by omega) hk (fun c hc => ?_)
    show lb (h (c / 64)) (c % 64) = false
    rw [hh _ (by omega), lb_0]
theorem kX10_values {x : Int32} (hT : TrX S 0 n t) : Ci (d + 4) mX10_values [vR 10 0, vI x] S (fun v S' => v = sp_values n t x ∧ Kp S S') := by
  refine cxX10_values ?_
  refine bkX10_values_0 (kX10_w (lo := 0) (hi := 3) rfl rfl) ?_
  rintro _ S ⟨rfl, rfl⟩
  cases hx : inR x 0 3
  · exact bkX10_values_6 (fun h => absurd rfl h) (fun _ => bkX10_values_9 ⟨_, rfl, by simp [sp_values, hx], Kp_rf _⟩)
  refine bkX10_values_6 (fun _ => ?_) (fun h => absurd h (by decide))
  rw [sp_values, hx]
  simp only [if_true]
  refine bkX10_values_11 (fun a1 => ?_) (fun a => ?_)
  · refine bkX10_values_28 (kX1_tally hT) ?_
    rintro S' ⟨hk, e2, e3, e4⟩
    refine bkX10_values_39 (fun a => ?_) (fun a => ?_) (fun a0 a2 => ?_)
    · exact bkX10_values_68 ⟨_, rfl, by rw [e2, if_pos a], hk⟩
    · exact bkX10_values_76 ⟨_, rfl, by rw [e3, if_neg (by rw [a]; decide), if_neg a1, if_pos a], hk⟩
    · exact bkX10_values_84 ⟨_, rfl, by rw [e4, if_neg a0, if_neg a1, if_neg a2], hk⟩
  · refine bkX10_values_16 (kX1_unlikePairs hT) ?_
    rintro _ S' ⟨rfl, hk⟩
    exact bkX10_values_27 ⟨_, rfl, by rw [if_neg (by rw [a]; decide), if_pos a], hk⟩
/-! the reference's -/
theorem lM_timesOf {v : Nat} (hT : TrM S n t) (hv : v < 256) :
    ∀ (m i : Nat), i + m = n → Ev (d + 1) mX11_timesOf 4 [some (vR 11 0), some (vI (nI v)), some (vI (nI (tmv t i v))), some (vI (nI i))] [] S (fun r S' => ∃ x, r = some (vI x) ∧ x = nI (tmv t n v) ∧ S' = S) := by
  have h1 := hT.1
  have h2 := hT.2.1
  intro m
  induction m with
  | zero =>
    intro i hi
    have e : i = n := by omega
    subst e
    exact bkX11_timesOf_4 (fun _ => bkX11_timesOf_39 ⟨_, rfl, rfl, rfl⟩) (fun h => absurd (by rw [h1]; exact nI_le (by omega) (by omega)) h)
  | succ m ih =>
    intro i hi
    have ht := (hT.2.2 i (by omega)).2
    refine bkX11_timesOf_4 (fun h => absurd h (by rw [h1]; exact nl_ (by omega) (by omega))) (fun _ => ?_)
    have key : ∀ b : Bool, b = decide (t i = v) → Ev (d + 1) mX11_timesOf 28 [some (vR 11 0), some (vI (nI v)), some (vI (nI (tmv t i v))), some (vI (nI i))] [vI (bi_ b), vI (nI (tmv t i v))] S (fun r S' => ∃ x, r = some (vI x) ∧ x = nI (tmv t n v) ∧ S' = S) := by
      intro b hb
      refine bkX11_timesOf_28 kM_flag ?_
      rintro _ S ⟨rfl, rfl⟩
      refine bkX11_timesOf_31 ?_
      have := ct_bi (fun i => decide (t i = v)) i
      rw [hb, nI_1]
      unfold tmv at ih ⊢
      rw [this]
      exact ih (i + 1) (by omega)
    refine bkX11_timesOf_12 (vp_lt (by omega) (by omega)) ?_ ?_ <;> rw [nI_clamp (by omega), (hT.2.2 i (by omega)).1, nI_eq (by omega) (by omega)] <;> intro h
    · exact bkX11_timesOf_27 (key false (by rw [decide_eq_false h]))
    · exact bkX11_timesOf_23 (key true (by rw [decide_eq_true h]))
theorem kM_timesOf {v : Nat} (hT : TrM S n t) (hv : v < 256) : Ci (d + 1) mX11_timesOf [vR 11 0, vI (nI v)] S (fun x S' => x = nI (tmv t n v) ∧ S' = S) := by
  refine cxX11_timesOf ?_
  exact bkX11_timesOf_0 (lM_timesOf hT hv n 0 (by omega))
theorem lM_isFresh {k : Nat} (hT : TrM S n t) (hk : k + 1 < n) :
    ∀ (m j : Nat), j + m = k → Ev d mX11_isFresh 25 [some (vR 11 0), some (vI (nI k)), some (vI (bi_ (s_nf t k j))), some (vI (nI j))] [] S (fun r S' => ∃ v, r = some (vI v) ∧ v = bi_ (s_nf t k k) ∧ S' = S) := by
  have h2 := hT.2.1
  intro m
  induction m with
  | zero =>
    intro j hj
    have e : j = k := by omega
    subst e
    exact bkX11_isFresh_25 (fun _ => bkX11_isFresh_80 (bi_n _) ⟨_, rfl, rfl, rfl⟩) (fun h => absurd (nI_le (by omega) (by omega)) h)
  | succ m ih =>
    intro j hj
    have t1 := (hT.2.2 j (by omega))
    have t2 := (hT.2.2 (j + 1) (by omega))
    have t3 := (hT.2.2 k (by omega))
    have t4 := (hT.2.2 (k + 1) (by omega))
    have key : ∀ b : Bool, b = s_nf t k (j + 1) → Ev d mX11_isFresh 73 [some (vR 11 0), some (vI (nI k)), some (vI (bi_ (s_nf t k j))), some (vI (nI j))] [vI (bi_ b)] S (fun r S' => ∃ v, r = some (vI v) ∧ v = bi_ (s_nf t k k) ∧ S' = S) := by
      rintro b rfl
      refine bkX11_isFresh_73 ?_
      rw [nI_1]
      exact ih (j + 1) (by omega)
    rw [s_nf_s] at key
    refine bkX11_isFresh_25 (fun h => absurd h (nl_ (by omega) (by omega))) (fun _ => ?_)
    refine bkX11_isFresh_30 (fun h => ?_) (fun h => ?_)
    · rw [bi_0] at h
      exact bkX11_isFresh_72 (key false (by rw [h]; rfl))
    · rw [bi_ne0] at h
      rw [h, Bool.true_and] at key
      rw [h]
      refine bkX11_isFresh_34 (vp_lt (by omega) (by omega)) (vp_lt (by omega) (by omega)) ?_ ?_ <;> rw [nI_clamp (by omega), nI_clamp (by omega), t1.1, t3.1, nI_eq (by omega) (by omega)] <;> intro h3
      · exact bkX11_isFresh_68 (key true (by rw [decide_eq_false h3]; rfl))
      · rw [decide_eq_true h3, Bool.true_and] at key
        refine bkX11_isFresh_49 (by rw [nI_1]; exact vp_lt (by omega) (by omega)) (by rw [nI_1]; exact vp_lt (by omega) (by omega)) ?_ ?_ <;> rw [nI_1, nI_1, nI_clamp (by omega), nI_clamp (by omega), t2.1, t4.1, nI_eq (by omega) (by omega)] <;> intro h4
        · exact bkX11_isFresh_72 (key false (by rw [decide_eq_true h4]; rfl))
        · exact bkX11_isFresh_68 (key true (by rw [decide_eq_false h4]; rfl))
theorem kM_isFresh {k : Nat} (hT : TrM S n t) (hk : k + 1 < n) : Ci d mX11_isFresh [vR 11 0, vI (nI k)] S (fun v S' => v = bi_ (s_nf t k k) ∧ S' = S) := by
  have h2 := hT.2.1
  have t3 := (hT.2.2 k (by omega))
  have t4 := (hT.2.2 (k + 1) (by omega))
  refine cxX11_isFresh ?_
  have key : ∀ b : Bool, b = s_nf t k 0 → Ev d mX11_isFresh 22 [some (vR 11 0), some (vI (nI k)), none, none] [vI (bi_ b)] S (fun r S' => ∃ v, r = some (vI v) ∧ v = bi_ (s_nf t k k) ∧ S' = S) := by
    rintro b rfl
    exact bkX11_isFresh_22 (lM_isFresh hT hk k 0 (by omega))
  refine bkX11_isFresh_0 (vp_lt (by omega) (by omega)) (by rw [nI_1]; exact vp_lt (by omega) (by omega)) ?_ ?_ <;> rw [nI_1, nI_clamp (by omega), nI_clamp (by omega), t3.1, t4.1, nI_eq (by omega) (by omega)] <;> intro h
  · exact bkX11_isFresh_21 (key false (by show false = !decide _; rw [decide_eq_true h]; rfl))
  · exact bkX11_isFresh_17 (key true (by show true = !decide _; rw [decide_eq_false h]; rfl))
theorem lM_v2 {x x2 x3 x4 : Int32} {Q : Option av_T → hs_T → Prop} (hT : TrM S n t) (hQ : ∀ x6, Ev (d + 2) mX11_values 130 [some (vR 11 0), some (vI x), some (vI x2), some (vI x3), some (vI x4), some (vI (nI (s_pr t n))), some (vI x6)] [] S Q) :
    ∀ (m k : Nat), (n - 1) ≤ k + m → k ≤ n - 1 → Ev (d + 2) mX11_values 99 [some (vR 11 0), some (vI x), some (vI x2), some (vI x3), some (vI x4), some (vI (nI (fb_ct (fun k => s_nf t k k) k))), some (vI (nI k))] [] S Q := by
  have h1 := hT.1
  have h2 := hT.2.1
  have done : ∀ k, k = n - 1 → Ev (d + 2) mX11_values 99 [some (vR 11 0), some (vI x), some (vI x2), some (vI x3), some (vI x4), some (vI (nI (fb_ct (fun k => s_nf t k k) k))), some (vI (nI k))] [] S Q := by
    intro k hk
    refine bkX11_values_99 (fun _ => ?_) (fun h => absurd (by rw [h1, nI_1]; exact nI_le (by omega) (by omega)) h)
    have := hQ (nI k)
    rw [s_pr, ← hk] at this
    exact this
  intro m
  induction m with
  | zero => intro k h3 h4; exact done k (by omega)
  | succ m ih =>
    intro k h3 h4
    by_cases e : k = n - 1
    · exact done k e
    · refine bkX11_values_99 (fun h => absurd h (by rw [h1, nI_1]; exact nl_ (by omega) (by omega))) (fun _ => ?_)
      refine bkX11_values_110 (kM_isFresh hT (by omega)) ?_
      rintro _ S ⟨rfl, rfl⟩
      refine bkX11_values_118 kM_flag ?_
      rintro _ S ⟨rfl, rfl⟩
      refine bkX11_values_121 ?_
      rw [ct_bi (fun k => s_nf t k k) k, nI_1]
      exact ih (k + 1) (by omega) (by omega)
theorem lM_v1 {x : Int32} {Q : Option av_T → hs_T → Prop} (hT : TrM S n t) (hQ : ∀ x5 o6, Ev (d + 2) mX11_values 93 [some (vR 11 0), some (vI x), some (vI (nI (s_vl (tmv t n) 256).1)), some (vI (s_vl (tmv t n) 256).2.1), some (vI (nI (s_vl (tmv t n) 256).2.2)), some (vI x5), o6] [] S Q) :
    ∀ (m v : Nat) (o6 : Option av_T), v + m = 256 → Ev (d + 2) mX11_values 25 [some (vR 11 0), some (vI x), some (vI (nI (s_vl (tmv t n) v).1)), some (vI (s_vl (tmv t n) v).2.1), some (vI (nI (s_vl (tmv t n) v).2.2)), some (vI (nI v)), o6] [] S Q := by
  have h2 := hT.2.1
  intro m
  induction m with
  | zero =>
    intro v o6 hv
    have e : v = 256 := by omega
    subst e
    exact bkX11_values_25 (fun _ => hQ _ _) (fun h => absurd (by decide) h)
  | succ m ih =>
    intro v o6 hv
    have tl := tmv_le t n v
    have ql := s_vl_le (fun v => tmv_le t n v) v
    have ih := fun o6 => ih (v + 1) o6 (by omega)
    rw [s_vl_s] at ih
    refine bkX11_values_25 (fun h => absurd h (nl_ (b := 256) (by omega) (by omega))) (fun _ => ?_)
    refine bkX11_values_33 (kM_timesOf hT (by omega)) ?_
    rintro _ S ⟨rfl, rfl⟩
    generalize s_vl (tmv t n) v = q at *
    obtain ⟨u, b, mo⟩ := q
    have ql : mo ≤ n := ql
    unfold vl_st at ih
    simp only at ih
    have key : ∀ f : Bool, f = decide (0 < tmv t n v) → Ev (d + 2) mX11_values 52 [some (vR 11 0), some (vI x), some (vI (nI u)), some (vI b), some (vI (nI mo)), some (vI (nI v)), some (vI (nI (tmv t n v)))] [vI (bi_ f), vI (nI u)] S Q := by
      intro f hf
      refine bkX11_values_52 kM_flag ?_
      rintro _ S ⟨rfl, rfl⟩
      have eu : nI u + bi_ f = nI (u + if 0 < tmv t n v then 1 else 0) := by
        rw [bi_nI, nI_add, hf]
        by_cases h : 0 < tmv t n v <;> simp [h]
      refine bkX11_values_55 ?_ ?_ <;> rw [eu, nI_leI (by omega) (by omega)] <;> intro h
      · rw [if_neg (show ¬ mo < tmv t n v by omega), if_neg (show ¬ mo < tmv t n v by omega)] at ih
        refine bkX11_values_69 (bkX11_values_70 (fun _ => bkX11_values_83 (bkX11_values_85 ?_)) (fun h3 => absurd (nI_le (by omega) (by omega)) h3))
        rw [nI_1]; exact ih _
      · rw [if_pos (show mo < tmv t n v by omega), if_pos (show mo < tmv t n v by omega)] at ih
        refine bkX11_values_64 (bkX11_values_70 (fun h3 => absurd h3 (nl_ (by omega) (by omega))) (fun _ => bkX11_values_78 (bkX11_values_85 ?_)))
        rw [nI_1]; exact ih _
    refine bkX11_values_39 (fun h => ?_) (fun h => ?_)
    · have := z_of (by omega) h
      exact bkX11_values_51 (key false (by rw [decide_eq_false (by omega)]))
    · have := p_of h
      exact bkX11_values_47 (key true (by rw [decide_eq_true (by omega)]))
theorem kM_values {x : Int32} (hT : TrM S n t) : Ci (d + 2) mX11_values [vR 11 0, vI x] S (fun v S' => v = sp_values n t x ∧ Kp S S') := by
  refine cxX11_values ?_
  refine bkX11_values_0 (kM_inI (lo := 0) (hi := 3) rfl rfl) ?_
  rintro _ S ⟨rfl, rfl⟩
  cases hx : inR x 0 3
  · exact bkX11_values_9 (fun h => absurd rfl h) (fun _ => bkX11_values_12 ⟨_, rfl, by simp [sp_values, hx], Kp_rf _⟩)
  refine bkX11_values_9 (fun _ => ?_) (fun h => absurd h (by decide))
  rw [sp_values, hx]
  simp only [if_true]
  refine bkX11_values_14 ?_
  refine lM_v1 hT (fun x5 o6 => ?_) 256 0 _ (by omega)
  refine bkX11_values_93 ?_
  refine lM_v2 hT (fun x6 => ?_) n 0 (by omega) (by omega)
  refine bkX11_values_130 (fun a0 => ?_) (fun a => bkX11_values_134 (bkX11_values_159 ⟨_, rfl, by rw [if_pos a], Kp_rf _⟩))
  rw [if_neg a0]
  refine bkX11_values_138 (fun a1 => ?_) (fun a => bkX11_values_143 (bkX11_values_159 ⟨_, rfl, by rw [if_pos a], Kp_rf _⟩))
  rw [if_neg a1]
  refine bkX11_values_148 (fun a2 => ?_) (fun a => bkX11_values_153 (bkX11_values_159 ⟨_, rfl, by rw [if_pos a], Kp_rf _⟩))
  rw [if_neg a2]
  exact bkX11_values_157 (bkX11_values_159 ⟨_, rfl, rfl, Kp_rf _⟩)
end VA
