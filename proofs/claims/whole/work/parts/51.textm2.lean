/-! ===== the reference's text; what a text that is taken tells, on both sides ===== -/
section MX
variable {d n a : Nat} {S S0 : hs_T} {b p : Nat → Nat} {e : er_T} {x : ax_T}
def p0_ : Nat → Nat := fun k => if k = 232 then 100 else 0
theorem kM_firstDraft : Cv d mX11_firstDraft [vR 11 0] S (fun S' => DrM S' p0_ ∧ S'.1 11 0 6 = 0 ∧ (∀ f, f ≠ 6 → S'.1 11 0 f = S.1 11 0 f) ∧ fN S S') := by
  refine cxX11_firstDraft ?_
  refine bkX11_firstDraft_0 ?_
  have key : ∀ (m k : Nat) (g : Nat → Int32), k + m = 234 → (∀ i, i < k → g i = 0) → Ev d mX11_firstDraft 2 [some (vR 11 0), some (vI (nI k))] [] (sk_ S 1201 0 g) (fun r S' => r = none ∧ DrM S' p0_ ∧ S'.1 11 0 6 = 0 ∧ (∀ f, f ≠ 6 → S'.1 11 0 f = S.1 11 0 f) ∧ fN S S') := by
    intro m
    induction m with
    | zero =>
      intro k g hk hg
      refine bkX11_firstDraft_2 (fun _ => bkX11_firstDraft_22 ⟨rfl, fun i hi => ?_, ?_, fun f hf => ?_, ?_⟩) (fun hh => absurd (nI_le (a := 234) (b := k) (by omega) (by omega)) hh)
      · rw [sk_ne _ _ (by omega), sk_at, sk_at]
        unfold p0_
        by_cases e : i = 232
        · rw [if_pos e, e, pk_us]; rfl
        · rw [if_neg e, pk_un e, hg i (by omega)]; rfl
      · rw [sk_at, pk_us]
      · rw [sk_at, pk_un hf, sk_ne _ _ (by omega), sk_ne _ _ (by omega)]
      · refine ⟨rfl, fun k' j f a1 a2 => ?_⟩
        rw [rd_]
        by_cases e : k' = 11 ∧ j = 0
        · rw [if_pos e]
          obtain ⟨rfl, rfl⟩ := e
          rw [pk_un (by omega), sk_ne _ _ (by omega), sk_ne _ _ (by omega)]
        · rw [if_neg e, sk_ne _ _ (by omega), sk_ne _ _ (by omega)]
    | succ m ih =>
      intro k g hk hg
      refine bkX11_firstDraft_2 (fun hh => absurd hh (nl_ (b := 234) (by omega) (by omega))) (fun _ => ?_)
      refine bkX11_firstDraft_9 (vp_lt (by omega) (by omega)) ?_
      rw [nI_1, nI_clamp (by omega), sk_at, sk_sk]
      refine ih (k + 1) _ (by omega) (fun i hi => ?_)
      by_cases e : i = k
      · rw [e, pk_us]
      · rw [pk_un e]; exact hg i (by omega)
  have := key 234 0 (S.1 1201 0) (by omega) (fun i hi => by omega)
  rw [sk_id] at this
  exact this
theorem kM_keepDraft : Cv d mX11_keepDraft [vR 11 0] S (fun S' => ∃ g, S' = sk_ S 1200 0 g ∧ ∀ k, k < 234 → g k = S.1 1201 0 k) := by
  refine cxX11_keepDraft ?_
  refine bkX11_keepDraft_0 ?_
  have key : ∀ (m k : Nat) (g : Nat → Int32), k + m = 234 → (∀ i, i < k → g i = S.1 1201 0 i) → Ev d mX11_keepDraft 2 [some (vR 11 0), some (vI (nI k))] [] (sk_ S 1200 0 g) (fun r S' => r = none ∧ ∃ g, S' = sk_ S 1200 0 g ∧ ∀ k, k < 234 → g k = S.1 1201 0 k) := by
    intro m
    induction m with
    | zero =>
      intro k g hk hg
      exact bkX11_keepDraft_2 (fun _ => bkX11_keepDraft_27 ⟨rfl, g, rfl, fun i hi => hg i (by omega)⟩) (fun hh => absurd (nI_le (a := 234) (b := k) (by omega) (by omega)) hh)
    | succ m ih =>
      intro k g hk hg
      refine bkX11_keepDraft_2 (fun hh => absurd hh (nl_ (b := 234) (by omega) (by omega))) (fun _ => ?_)
      refine bkX11_keepDraft_9 (vp_lt (by omega) (by omega)) ?_
      rw [nI_1, nI_clamp (by omega), sk_at, sk_sk, sk_ne _ _ (by omega)]
      refine ih (k + 1) _ (by omega) (fun i hi => ?_)
      by_cases e : i = k
      · rw [e, pk_us]
      · rw [pk_un e]; exact hg i (by omega)
  have := key 234 0 (S.1 1200 0) (by omega) (fun i hi => by omega)
  rw [sk_id] at this
  exact this
theorem RA_p0 : RA p0_ x0_ := by
  refine ⟨rfl, fun s hs => absurd hs (by simp [x0_]), ⟨rfl, fun i hi => absurd hi (by simp [x0_])⟩, rfl, rfl⟩
/-- what text may change on the reference's side -/
def fM11 (S S' : hs_T) : Prop := S'.2 = S.2 ∧ ∀ k j f, k ≠ 1200 → k ≠ 1201 → ¬ (k = 11 ∧ (f = 6 ∨ (8 ≤ f ∧ f ≤ 14))) → S'.1 k j f = S.1 k j f
def wrM (b : Nat → Nat) (n : Nat) (e : er_T) (S S' : hs_T) (v : Int32) : Prop := v = (-10) - nI (t_po b n e.2) ∧ S'.1 11 0 13 = nI e.1 ∧ S'.1 1200 0 = S.1 1200 0
def gdM' (k : Nat) (x : ax_T) (S S' : hs_T) (v : Int32) : Prop := v = nI k ∧ S'.1 11 0 13 = 0 ∧ AX x ∧ ∃ p, PrM S' p ∧ RA p x
theorem kM_text (hT : TpM S n b) : Ci (d + 7) mX11_text [vR 11 0] S (fun v S' => fM11 S S' ∧ S'.1 11 0 8 = 0 ∧ oc (p_top (t_co b n) (t_vl b n)) (fun e => wrM b n e S S' v) (fun z => (okx z.2.2 ∧ gdM' z.1 z.2.2 S S' v) ∨ (¬ okx z.2.2 ∧ wrM b n (6, z.2.1) S S' v))) := by
  have hn := hT.2.1
  have hb : ∀ i, i < n → b i < 256 := fun i hi => (hT.2.2 i hi).2
  refine cxX11_text ?_
  refine bkX11_text_0 kM_firstDraft ?_
  rintro S1 ⟨hD, h6, hf, hN⟩
  have hN0 : fN S (sk_ (sk_ S 11 0 (upd (S.1 11 0) 13 0)) 11 0 (upd ((sk_ S 11 0 (upd (S.1 11 0) 13 0)).1 11 0) 9 0)) := by
    refine ⟨rfl, fun k j f a1 a2 => ?_⟩
    rw [rd_]
    by_cases e : k = 11 ∧ j = 0
    · rw [if_pos e]
      obtain ⟨rfl, rfl⟩ := e
      rw [pk_un (by omega), sk_at, pk_un (by omega)]
    · rw [if_neg e, sk_ne _ _ (by omega)]
  have hN1 : fN S S1 := fN_tr hN0 hN
  have c9 : S1.1 11 0 9 = 0 := by rw [hf 9 (by omega)]; simp [rd_, up_]
  have c13 : S1.1 11 0 13 = 0 := by rw [hf 13 (by omega)]; simp [rd_, up_]
  have hT1 : TpM S1 n b := by
    refine ⟨by rw [hN1.2 11 0 8 (by omega) (by omega)]; exact hT.1, hn, fun i hi => ?_⟩
    rw [hN1.2 1207 0 i (by omega) (by omega)]; exact hT.2.2 i hi
  -- the end: a fault
  have bad44 : ∀ (e : er_T) (S2 : hs_T) (x1 : Int32), fN S S2 → FM S2 b n e → Ev (d + 7) mX11_text 61 [some (vR 11 0), some (vI x1)] [] S2 (fun r S' => ∃ v, r = some (vI v) ∧ fM11 S S' ∧ S'.1 11 0 8 = 0 ∧ wrM b n e S S' v) := by
    intro e S2 x1 hF h2
    have c : (sk_ S2 11 0 (upd (S2.1 11 0) 8 0)).1 11 0 13 = nI e.1 := by rw [sk_at, pk_un (by omega)]; exact h2.1
    have h21 := h2.2.1
    have h22 := h2.2.2.1
    refine bkX11_text_61 (fun hh => absurd hh ?_) (fun _ => bkX11_text_73 ⟨_, rfl, ⟨hF.1, fun k j f k1 k2 k3 => ?_⟩, ?_, ?_, c, ?_⟩)
    · rw [c]; exact nl_ (a := 0) (by omega) (by omega)
    · rw [rd_]
      by_cases e : k = 11 ∧ j = 0
      · rw [if_pos e]
        obtain ⟨rfl, rfl⟩ := e
        rw [pk_un (by omega)]; exact hF.2 11 0 f (by omega) (by omega)
      · rw [if_neg e]; exact hF.2 k j f (by omega) k2
    · rw [sk_at, pk_us]
    · rw [sk_at, pk_un (by omega), h2.2.2.2]
    · rw [sk_ne _ _ (by omega)]
      funext f
      exact hF.2 1200 0 f (by omega) (by omega)
  have bad20 : ∀ (e : er_T) (S2 : hs_T) (x1 : Int32), fN S S2 → BM b n S2 S2 e → Ev (d + 7) mX11_text 20 [some (vR 11 0), some (vI x1)] [] S2 (fun r S' => ∃ v, r = some (vI v) ∧ fM11 S S' ∧ S'.1 11 0 8 = 0 ∧ wrM b n e S S' v) := by
    intro e S2 x1 hF h2
    exact bkX11_text_20 (fun _ => bkX11_text_44 (fun _ => bad44 e S2 x1 hF h2.2) (fun hh => absurd hh (f13 h2))) (fun hh => absurd hh (f13 h2))
  -- the end: all lines read
  have good44 : ∀ (S2 : hs_T) (k a : Nat) (x : ax_T), fN S S2 → LMs b n S2 a x → Ev (d + 7) mX11_text 44 [some (vR 11 0), some (vI (nI k))] [] S2 (fun r S' => ∃ v, r = some (vI v) ∧ fM11 S S' ∧ S'.1 11 0 8 = 0 ∧ ((okx x ∧ gdM' k x S S' v) ∨ (¬ okx x ∧ wrM b n (6, a) S S' v))) := by
    intro S2 k a x hF h2
    obtain ⟨p, hG, hR, hA, h6⟩ := h2
    refine bkX11_text_44 (fun hh => absurd (g13 hG) hh) (fun _ => ?_)
    refine bkX11_text_51 (kM_isWhole hG.2.2.2 hR hA) ?_
    rintro v S2 ⟨w, rfl, hw, rfl⟩
    cases w
    · have hno : ¬ okx x := fun z => absurd (hw.mpr z) (by decide)
      refine bkX11_text_56 (kM_needsG hG (by omega) (c := 6) rfl) ?_
      intro S3 h3
      refine (bad44 (6, a) S3 _ (fN_tr hF (fM_fN h3.1)) h3.2).imp ?_
      rintro r S' ⟨v, rfl, z1, z2, z3⟩
      exact ⟨v, rfl, z1, z2, Or.inr ⟨hno, z3⟩⟩
    · have hyes : okx x := hw.mp rfl
      refine bkX11_text_56 kM_needsT ?_
      rintro S2 rfl
      have c : (sk_ S2 11 0 (upd (S2.1 11 0) 8 0)).1 11 0 13 = 0 := by rw [sk_at, pk_un (by omega)]; exact g13 hG
      refine bkX11_text_61 (fun _ => ?_) (fun hh => absurd (by rw [c]; decide) hh)
      refine bkX11_text_81 kM_keepDraft ?_
      rintro _ ⟨g, rfl, hg⟩
      refine bkX11_text_85 ⟨_, rfl, ⟨hF.1, fun k j f k1 k2 k3 => ?_⟩, ?_, Or.inl ⟨hyes, rfl, ?_, hA, p, fun k hk => ?_, hR⟩⟩
      · rw [sk_ne _ _ (by omega), rd_]
        by_cases e : k = 11 ∧ j = 0
        · rw [if_pos e]
          obtain ⟨rfl, rfl⟩ := e
          rw [pk_un (by omega)]; exact hF.2 11 0 f (by omega) (by omega)
        · rw [if_neg e]; exact hF.2 k j f (by omega) k2
      · rw [sk_ne _ _ (by omega), sk_at, pk_us]
      · rw [sk_ne _ _ (by omega)]; exact c
      · rw [sk_at, hg k hk, sk_ne _ _ (by omega)]; exact hG.2.2.2 k hk
  have loop : ∀ (m k a : Nat) (S2 : hs_T) (x : ax_T), k + m = 400 → k ≤ a → fN S S2 → LMs b n S2 a x → Ev (d + 7) mX11_text 20 [some (vR 11 0), some (vI (nI k))] [] S2 (fun r S' => ∃ v, r = some (vI v) ∧ fM11 S S' ∧ S'.1 11 0 8 = 0 ∧ oc (p_all (t_co b n) (t_vl b n) m k a x) (fun e => wrM b n e S S' v) (fun z => (okx z.2.2 ∧ gdM' z.1 z.2.2 S S' v) ∨ (¬ okx z.2.2 ∧ wrM b n (6, z.2.1) S S' v))) := by
    intro m
    induction m with
    | zero =>
      intro k a S2 x hk hka hF h2
      have hG : ∃ p, GM b n S2 S2 a p := by obtain ⟨p, hG, _⟩ := h2; exact ⟨p, hG⟩
      obtain ⟨p, hG⟩ := hG
      have h0 : t_co b n a = 0 := t_co_end b (by omega)
      refine bkX11_text_20 (fun hh => absurd (g13 hG) hh) (fun _ => ?_)
      refine bkX11_text_27 (fun _ => good44 S2 k a x hF h2) (fun hh => absurd ?_ hh)
      exact (srt hG.2.2.1 (w := 0) (by omega)).mpr (by rw [h0]; rfl)
    | succ m ih =>
      intro k a S2 x hk hka hF h2
      have hA : AX x := by obtain ⟨p, _, _, hA, _⟩ := h2; exact hA
      have hG : ∃ p, GM b n S2 S2 a p := by obtain ⟨p, hG, _⟩ := h2; exact ⟨p, hG⟩
      obtain ⟨p, hG⟩ := hG
      rw [p_all_s]
      refine bkX11_text_20 (fun hh => absurd (g13 hG) hh) (fun _ => ?_)
      refine bkX11_text_27 (fun hh => ?_) (fun hh => ?_) <;> rw [show (0 : Int32) = nI 0 from rfl, srt hG.2.2.1 (by omega), so_0] at hh
      · rw [if_pos hh]
        exact good44 S2 k a x hF h2
      · rw [if_neg hh]
        have hok := p_ln_ok (t_co b n) (t_vl b n) a hA
        refine bkX11_text_34 (kM_readLine h2) ?_
        rintro S3 ⟨hF3, h3⟩
        refine bkX11_text_38 ?_
        rw [nI_1]
        cases hx : p_ln (t_co b n) (t_vl b n) x a with
        | inl e =>
          rw [hx] at h3
          rw [eb_l]
          exact bad20 e S3 _ (fN_tr hF hF3) h3
        | inr z =>
          rw [hx] at h3 hok
          rw [eb_r]
          exact ih (k + 1) z.1 S3 z.2 (by omega) (by have := hok.1; omega) (fN_tr hF hF3) h3
  refine bkX11_text_16 (kM_token0 hT1 c9 c13) ?_
  rintro S2 ⟨hK, h2⟩
  have hN2 : fN S S2 := fN_tr hN1 (fM_fN (fK_fM hK))
  unfold p_top
  by_cases ht : t_co b n 0 = 1
  · rw [if_pos ht] at h2 ⊢
    exact bad20 (1, 0) S2 _ hN2 ⟨fM_rf _, h2⟩
  · rw [if_neg ht] at h2 ⊢
    refine loop 400 0 0 S2 x0_ (by omega) (by omega) hN2 ⟨p0_, ⟨fM_rf _, TpM_fK hK hT1, h2, DrM_fK hK hD⟩, RA_p0, AX_0, ?_⟩
    rw [hK.2 11 0 6 (by omega), h6]; rfl
end MX
/-! what was told, on both sides -/
section PP
variable {S : hs_T} {r : Nat} {u p : Nat → Nat} {x : ax_T}
theorem CR_CdX {c : Nat} {l : List tm_T} (hD : DrX S r u) (hc : c ≤ 24) (hl : l.length ≤ 3) (hu : CR u c l) (hp : CR p c l) : CdX S r p c l.length := by
  refine ⟨by rw [hD.2.2.2.1 c hc, hu.1], fun i hi => ?_⟩
  have h := hD.2.2.2.2.1 (3 * c + i) (by omega)
  rw [h.1, h.2, (hu.2 i hi).1, (hu.2 i hi).2, (hp.2 i hi).1, (hp.2 i hi).2]
  exact ⟨rfl, rfl⟩
theorem RA_PrX (hD : DrX S r u) (hu : RA u x) (hp : RA p x) (hA : AX x) : PrX S r p := by
  have h8 := hA.1
  have hk3 : x.2.1.length ≤ 3 := by
    rcases hA.2.2.1 with hh | hh
    · omega
    · exact hh.2.1
  refine ⟨by rw [hD.1.1, hu.1, hp.1], by rw [hD.1.2.1, hu.2.2.2.1, hp.2.2.2.1], by rw [hD.1.2.2, hu.2.2.2.2, hp.2.2.2.2], fun s hs => ?_, ?_⟩
  · rw [hp.1] at hs
    have hS := hA.2.1 s hs
    have h3 := hS.2.1
    have su := hu.2.1 s hs
    have sp := hp.2.1 s hs
    refine ⟨by rw [hD.2.1 s (by omega), su.1, sp.1], fun q hq => ?_⟩
    rw [sp.1] at hq
    have bu := su.2 q hq
    have bp := sp.2 q hq
    have hB := hS.2.2 q hq
    have c1 := hD.2.2.1 (3 * s + q) (by omega)
    have hcx := cx_lt (show 3 * s + q < 24 by omega)
    refine ⟨by rw [c1.1, bu.2.1, bp.2.1], by rw [c1.2, bu.2.2, bp.2.2], ?_⟩
    have hpc : p (3 * s + q) = (bg (sg x.1 s) q).1.length := by have := bp.1.1; rw [hcx] at this; exact this
    rw [hpc]
    exact CR_CdX hD (by omega) hB.1.2.1 bu.1 bp.1
  · have hpc : p 231 = x.2.1.length := hp.2.2.1.1
    rw [hpc]
    exact CR_CdX hD (Nat.le_refl _) hk3 hu.2.2.1 hp.2.2.1
theorem okc_of {c : Nat} {l : List tm_T} (hp : CR p c l) (h : ∀ i, i < l.length → okt (lg l i).1 (lg l i).2) : okc p c l.length := fun i hi => by
  rw [(hp.2 i hi).1, (hp.2 i hi).2]; exact h i hi
theorem RA_WFp (hp : RA p x) (hA : AX x) (ho : okx x) : WFp p := by
  have h8 := hA.1
  have hd := hA.2.2.2.1
  refine ⟨by rw [hp.1]; exact h8, fun s hs => ?_, ?_, ?_, by rw [hp.2.2.2.1]; exact hd, by rw [hp.2.2.2.1, hp.2.2.2.2]; exact ho.1⟩
  · rw [hp.1] at hs
    have hS := hA.2.1 s hs
    have sp := hp.2.1 s hs
    rw [sp.1]
    refine ⟨hS.1, hS.2.1, fun q hq => ?_⟩
    have h3 := hS.2.1
    have bp := sp.2 q hq
    have hB := hS.2.2 q hq
    have hcx := cx_lt (show 3 * s + q < 24 by omega)
    have hpc : p (3 * s + q) = (bg (sg x.1 s) q).1.length := by have := bp.1.1; rw [hcx] at this; exact this
    rw [bp.2.1, bp.2.2, hpc, hp.1]
    exact ⟨hB.2.1, ho.2 s q hs hq, hB.1.2.1, okc_of bp.1 hB.1.2.2⟩
  · have hpc : p 231 = x.2.1.length := hp.2.2.1.1
    rw [hpc]
    rcases hA.2.2.1 with hh | hh
    · omega
    · exact hh.2.1
  · have hpc : p 231 = x.2.1.length := hp.2.2.1.1
    rw [hpc]
    rcases hA.2.2.1 with hh | hh
    · intro i hi; omega
    · exact okc_of hp.2.2.1 hh.2.2
end PP
