/-! ===== keep, depth, ahead; the whole text on the class's side ===== -/
def tN (x : Int32) : Nat := x.toBitVec.toNat
theorem nI_tN (x : Int32) : nI (tN x) = x := by
  apply Int32.toBitVec_inj.1
  show BitVec.ofNat 32 x.toBitVec.toNat = x.toBitVec
  simp
section RL
variable {d r n a : Nat} {S0 S : hs_T} {b u : Nat → Nat} {e : er_T} {x : ax_T}
theorem kX4_readKeep (hb : ∀ i, i < n → b i < 256) (h : LXs r b n S a x) (h5 : t_co b n a = 5) : Cv (d + 3) mX4_readKeep [vR 4 0] S (oL r b n S (p_ln (t_co b n) (t_vl b n) x a)) := by
  obtain ⟨u, hG, hR, hZ, hA, hf1, hf2⟩ := h
  have hok := p_ln_ok (t_co b n) (t_vl b n) a hA
  have hr : S.2.2 1 = r := hG.1.2.2.1
  have hr2 := hG.1.2.2.2
  have hk3 : x.2.1.length ≤ 3 := by
    rcases hA.2.2.1 with hh | hh
    · omega
    · exact hh.2.1
  have hk : S.1 603 r 24 = nI x.2.1.length := by rw [hG.2.2.2.2.2.1 24 (Nat.le_refl _)]; exact congrArg nI hR.2.2.1.1
  unfold p_ln at hok ⊢
  rw [if_neg (by omega), if_pos h5] at hok ⊢
  refine cxX4_readKeep ?_
  refine bkX4_readKeep_0 (P := fun v S' => v = nI x.2.1.length ∧ S' = S) (by rw [hr]; exact hr2) ?_ ?_
  · rw [hr, ← hk]; exact kX5_termCount (c := 24) hr2 (Nat.le_refl _)
  rintro _ S ⟨rfl, rfl⟩
  refine bkX4_readKeep_9 (fun hh => ?_) (fun hh => ?_) <;> rw [show (0 : Int32) = nI 0 from rfl, nI_leI (by omega) (by omega)] at hh
  · rw [if_neg (by omega)] at hok ⊢
    have u231 : u (cx 24) = 0 := by rw [hR.2.2.1.1]; omega
    have badT : ∀ {e : er_T} (S1 : hs_T), BX r b n S S1 e → Ev (d + 3) mX4_readKeep 28 [some (vR 4 0)] [] S1 (fun r' S' => r' = none ∧ oL r b n S (.inl e) S') := by
      intro e S1 h
      refine bkX4_readKeep_28 (kX4_takeB h (w := 59) (by omega) rfl) ?_
      intro S' h'
      exact bkX4_readKeep_34 ⟨rfl, oL_bad h' (fL_rf r S)⟩
    refine bkX4_readKeep_18 (kX4_advance hG (by omega)) ?_
    intro S1 h1
    cases hx1 : p_nx (t_co b n) a with
    | inl e =>
      rw [hx1] at h1
      rw [eb_l]
      refine bkX4_readKeep_22 (kX4_readConditionB h1) ?_
      intro S2 h2
      exact badT S2 h2
    | inr a1 =>
      rw [hx1] at h1 hok
      rw [eb_r] at hok ⊢
      refine bkX4_readKeep_22 (kX4_readCondition hb (c := 24) (Nat.le_refl _) h1 u231 rfl) ?_
      intro S2 h2
      cases hx2 : p_cd (t_co b n) (t_vl b n) true 3 a1 with
      | inl e =>
        rw [hx2] at h2
        rw [eb_l]
        exact badT S2 h2
      | inr z =>
        obtain ⟨a2, l⟩ := z
        rw [hx2] at h2 hok
        rw [eb_r] at hok ⊢
        obtain ⟨u', g1, w1⟩ := h2
        have g1 : GX r b n S S2 a2 u' := g1
        have w1 : CW 24 u l u' := w1
        refine bkX4_readKeep_28 (kX4_take hb g1 (w := 59) (by omega) rfl) ?_
        intro S3 h3
        refine bkX4_readKeep_34 ⟨rfl, ?_⟩
        show oL r b n S (eb (p_tk (t_co b n) 59 a2) _) S3
        have hok : oc (eb (p_tk (t_co b n) 59 a2) (fun a2 => .inr (a2, (x.1, l, x.2.2)))) (okE (t_co b n) a) (fun z => a < z.1 ∧ AX z.2) := hok
        cases hx3 : p_tk (t_co b n) 59 a2 with
        | inl e => rw [hx3] at h3; exact oL_bad h3 (fL_rf r S)
        | inr a3 =>
          rw [hx3] at h3 hok
          have h3 : GX r b n S S3 a3 u' := h3
          have hAx : AX (x.1, l, x.2.2) := hok.2
          have fr : ∀ k, k ≠ 231 → ¬ (144 ≤ k ∧ k < 147) → ¬ (219 ≤ k ∧ k < 222) → u' k = u k := fun k k1 k2 k3 => w1.2.2.2 k (fun hh => by
            unfold inCd at hh; rw [show cx 24 = 231 from rfl] at hh; omega)
          refine ⟨fX_fL h3.1.1, u', GX_base h3 (fX_rf r S3), ⟨?_, fun s hs => ?_, w1.1, ?_, ?_⟩, fun s hs1 hs2 => ?_, hAx, ?_, ?_⟩
          · rw [fr 230 (by omega) (by omega) (by omega)]; exact hR.1
          · have hs : s < x.1.length := hs
            have h8 := hA.1
            refine SR_of (hR.2.1 s hs) (hA.2.1 s hs) (fun k hk => ?_)
            refine fr k ?_ ?_ ?_ <;> rcases hk with hk | ⟨i, hi, hk⟩ <;> try omega
            all_goals (unfold inCd at hk; rw [cx_lt (by omega)] at hk; omega)
          · rw [fr 232 (by omega) (by omega) (by omega)]; exact hR.2.2.2.1
          · rw [fr 233 (by omega) (by omega) (by omega)]; exact hR.2.2.2.2
          · have hz := hZ s hs1 hs2
            refine ⟨?_, fun q hq => ?_⟩
            · rw [fr _ (by omega) (by omega) (by omega)]; exact hz.1
            · rw [fr _ (by omega) (by omega) (by omega)]; exact hz.2 q hq
          · rw [(flag_of h3.1.1).1]; exact hf1
          · rw [(flag_of h3.1.1).2]; exact hf2
  · rw [if_pos (by omega)]
    refine bkX4_readKeep_12 (kX4_refuse hG (by omega) (w := 4) rfl) ?_
    intro S' h'
    exact bkX4_readKeep_17 ⟨rfl, oL_bad h' (fL_rf r S)⟩
/-- a flag set -/
theorem GX_flag {f : Nat} {y : Int32} (hG : GX r b n S S a u) (hf : f = 6 ∨ f = 7 ∨ f = 10) : GX r b n (sk_ S 4 0 (upd (S.1 4 0) f y)) (sk_ S 4 0 (upd (S.1 4 0) f y)) a u := by
  obtain ⟨hE, ⟨r1, r2, r3, r4, r5, r6, r7⟩, hD⟩ := hG
  refine ⟨⟨fX_rf _ _, TkZ_of hE.2.1 rfl rfl rfl rfl, hE.2.2.1, hE.2.2.2⟩, ⟨?_, ?_, ?_, ?_, ?_, r6, r7⟩, hD⟩ <;> rw [sk_at]
  · rw [pk_un (by omega)]; exact r1
  · rw [pk_un (by omega)]; exact r2
  · rw [pk_un (by omega)]; exact r3
  · rw [pk_un (by omega)]; exact r4
  · rw [pk_un (by omega)]; exact r5
theorem fL_flag {f : Nat} {y : Int32} (hf : f = 6 ∨ f = 7) : fL r S (sk_ S 4 0 (upd (S.1 4 0) f y)) := by
  refine ⟨rfl, ?_, fun k j f' h1 h2 => ?_⟩
  · rw [sk_at, pk_un (by omega)]
  · rw [sk_ne _ _ (fun hh => h1 hh.1)]
theorem BX_5 {f v k : Nat} (h : BX r b n S0 S e) (hk : (f = 6 ∧ k = 230 ∧ v ≤ 8) ∨ (f = 7 ∧ k = 232 ∧ v ≤ 400) ∨ (f = 8 ∧ k = 233 ∧ v ≤ 400)) : BX r b n S0 (sk_ S 5 r (upd (S.1 5 r) f (nI v))) e := by
  obtain ⟨hE, hF, u, hD⟩ := h
  exact ⟨ExR_r hE (Or.inl rfl), FX_of (S := S) rfl hF, _, DrX_5 hD hk⟩
theorem GX_5 {f v k : Nat} (h : GX r b n S0 S a u) (hk : (f = 6 ∧ k = 230 ∧ v ≤ 8) ∨ (f = 7 ∧ k = 232 ∧ v ≤ 400) ∨ (f = 8 ∧ k = 233 ∧ v ≤ 400)) : GX r b n S0 (sk_ S 5 r (upd (S.1 5 r) f (nI v))) a (un_ u k v) :=
  ⟨ExR_r h.1 (Or.inl rfl), RdX_of (S := S) rfl h.2.1, DrX_5 h.2.2 hk⟩
theorem RA_un {k v : Nat} {x y : ax_T} (hR : RA u x) (hA : AX x) (h1 : y.1 = x.1) (h2 : y.2.1 = x.2.1) (hk : (k = 232 ∧ y.2.2.1 = v ∧ y.2.2.2.1 = x.2.2.2.1) ∨ (k = 233 ∧ y.2.2.1 = x.2.2.1 ∧ y.2.2.2.1 = v)) : RA (un_ u k v) y := by
  obtain ⟨a1, a2, a3, a4, a5⟩ := hR
  have h8 := hA.1
  have hk3 : x.2.1.length ≤ 3 := by
    rcases hA.2.2.1 with hh | hh
    · omega
    · exact hh.2.1
  unfold RA
  rw [h1, h2]
  refine ⟨?_, fun s hs => ?_, ?_, ?_, ?_⟩
  · rw [un_n (by omega)]; exact a1
  · refine SR_of (a2 s hs) (hA.2.1 s hs) (fun z hz => ?_)
    refine un_n ?_
    rcases hz with hz | ⟨i, hi, hz⟩
    · omega
    · unfold inCd at hz; rw [cx_lt (by omega)] at hz; omega
  · refine CR_of a3 hk3 (fun z hz => un_n ?_)
    unfold inCd at hz
    rw [show cx 24 = 231 from rfl] at hz
    omega
  · rcases hk with ⟨rfl, g1, g2⟩ | ⟨rfl, g1, g2⟩
    · rw [un_s, g1]
    · rw [un_n (by omega), g1]; exact a4
  · rcases hk with ⟨rfl, g1, g2⟩ | ⟨rfl, g1, g2⟩
    · rw [un_n (by omega), g2]; exact a5
    · rw [un_s, g2]
theorem FZ_un {k v : Nat} {x y : ax_T} (hZ : FZ u x) (h1 : y.1 = x.1) (hk : k = 232 ∨ k = 233) : FZ (un_ u k v) y := by
  intro s hs1 hs2
  rw [h1] at hs1
  have hz := hZ s hs1 hs2
  exact ⟨by rw [un_n (by omega)]; exact hz.1, fun q hq => by rw [un_n (by omega)]; exact hz.2 q hq⟩
theorem kX4_readDepth (hb : ∀ i, i < n → b i < 256) (h : LXs r b n S a x) (hT : t_co b n a = 6) : Cv (d + 3) mX4_readDepth [vR 4 0] S (oL r b n S (p_ln (t_co b n) (t_vl b n) x a)) := by
  obtain ⟨u, hG, hR, hZ, hA, hf1, hf2⟩ := h
  have hok := p_ln_ok (t_co b n) (t_vl b n) a hA
  unfold p_ln at hok ⊢
  rw [if_neg (by omega), if_neg (by omega), if_pos hT] at hok ⊢
  refine cxX4_readDepth ?_
  refine bkX4_readDepth_0 (fun hh => ?_) (fun hh => ?_) <;> rw [hf1] at hh
  · rw [bi_0] at hh
    rw [hh] at hok
    rw [hh]
    simp only [Bool.false_eq_true, if_false] at hok ⊢
    have hL1 : fL r S (sk_ S 4 0 (upd (S.1 4 0) 6 1)) := fL_flag (by omega)
    have hG1 := GX_flag (f := 6) (y := 1) hG (by omega)
    have e6 : (sk_ S 4 0 (upd (S.1 4 0) 6 1)).1 4 0 6 = 1 := by rw [sk_at, pk_us]
    have e7 : (sk_ S 4 0 (upd (S.1 4 0) 6 1)).1 4 0 7 = S.1 4 0 7 := by rw [sk_at, pk_un (by omega)]
    refine bkX4_readDepth_13 (kX4_advance hG1 (by omega)) ?_
    generalize sk_ S 4 0 (upd (S.1 4 0) 6 1) = S1 at *
    have badT : ∀ {e : er_T} (S2 : hs_T) (w : Nat), BX r b n S1 S2 e → w ≤ 400 → Ev (d + 3) mX4_readDepth 34 [some (vR 4 0)] [vI (nI w), vR 5 r] S2 (fun r' S' => r' = none ∧ oL r b n S (.inl e) S') := by
      intro e S2 w h hw
      refine bkX4_readDepth_34 h.1.2.2.2 (kX4_takeB (BX_5 (f := 7) (k := 232) h (by omega)) (w := 59) (by omega) rfl) ?_
      intro S' h'
      exact bkX4_readDepth_43 ⟨rfl, oL_bad h' hL1⟩
    intro S2 h2
    cases hx1 : p_nx (t_co b n) a with
    | inl e =>
      rw [hx1] at h2
      rw [eb_l]
      have hr2 : S2.2.2 1 = r := h2.1.2.2.1
      refine bkX4_readDepth_22 (kX4_takeNumberB h2) ?_
      rintro _ S3 ⟨rfl, h3⟩
      rw [hr2]
      exact badT S3 0 h3 (by omega)
    | inr a1 =>
      rw [hx1] at h2 hok
      rw [eb_r] at hok ⊢
      have h2 : GX r b n S1 S2 a1 u := h2
      have hr2 : S2.2.2 1 = r := h2.1.2.2.1
      have hnm := p_nm_ok (t_co b n) (t_vl b n) 1 400 a1
      refine bkX4_readDepth_22 (kX4_takeNumber hb h2 (lo := 1) (hi := 400) (by omega) (by omega) rfl rfl) ?_
      rintro _ S3 ⟨⟨w, rfl, hw⟩, h3⟩
      rw [hr2]
      cases hx2 : p_nm (t_co b n) (t_vl b n) 1 400 a1 with
      | inl e =>
        rw [hx2] at h3
        rw [eb_l]
        exact badT S3 w h3 (by omega)
      | inr a2 =>
        rw [hx2] at h3 hok hnm
        rw [eb_r] at hok ⊢
        obtain ⟨hv, h3⟩ := h3
        have hv2 := hnm.2.2
        rw [hv]
        refine bkX4_readDepth_34 h3.1.2.2.2 (kX4_take hb (GX_5 (f := 7) (k := 232) h3 (by omega)) (w := 59) (by omega) rfl) ?_
        intro S4 h4
        refine bkX4_readDepth_43 ⟨rfl, ?_⟩
        cases hx3 : p_tk (t_co b n) 59 a2 with
        | inl e => rw [hx3] at h4; exact oL_bad h4 hL1
        | inr a3 =>
          rw [hx3] at h4 hok
          have h4 : GX r b n S1 S4 a3 (un_ u 232 (t_vl b n a1)) := h4
          exact ⟨fL_tr hL1 (fX_fL h4.1.1), _, GX_base h4 (fX_rf r S4), RA_un hR hA rfl rfl (by exact Or.inl ⟨rfl, rfl, rfl⟩), FZ_un hZ rfl (by omega), hok.2, by rw [(flag_of h4.1.1).1]; exact e6, by rw [(flag_of h4.1.1).2, e7]; exact hf2⟩
  · rw [bi_ne0] at hh
    rw [hh, if_pos rfl]
    refine bkX4_readDepth_7 (kX4_refuse hG (by omega) (w := 4) rfl) ?_
    intro S' h'
    exact bkX4_readDepth_12 ⟨rfl, oL_bad h' (fL_rf r S)⟩
theorem kX4_readAhead (hb : ∀ i, i < n → b i < 256) (h : LXs r b n S a x) (hT : t_co b n a = 7) : Cv (d + 3) mX4_readAhead [vR 4 0] S (oL r b n S (p_ln (t_co b n) (t_vl b n) x a)) := by
  obtain ⟨u, hG, hR, hZ, hA, hf1, hf2⟩ := h
  have hok := p_ln_ok (t_co b n) (t_vl b n) a hA
  unfold p_ln at hok ⊢
  rw [if_neg (by omega), if_neg (by omega), if_neg (by omega), if_pos hT] at hok ⊢
  refine cxX4_readAhead ?_
  refine bkX4_readAhead_0 (fun hh => ?_) (fun hh => ?_) <;> rw [hf2] at hh
  · rw [bi_0] at hh
    rw [hh] at hok
    rw [hh]
    simp only [Bool.false_eq_true, if_false] at hok ⊢
    have hL1 : fL r S (sk_ S 4 0 (upd (S.1 4 0) 7 1)) := fL_flag (by omega)
    have hG1 := GX_flag (f := 7) (y := 1) hG (by omega)
    have e6 : (sk_ S 4 0 (upd (S.1 4 0) 7 1)).1 4 0 7 = 1 := by rw [sk_at, pk_us]
    have e7 : (sk_ S 4 0 (upd (S.1 4 0) 7 1)).1 4 0 6 = S.1 4 0 6 := by rw [sk_at, pk_un (by omega)]
    refine bkX4_readAhead_13 (kX4_advance hG1 (by omega)) ?_
    generalize sk_ S 4 0 (upd (S.1 4 0) 7 1) = S1 at *
    have badT : ∀ {e : er_T} (S2 : hs_T) (w : Nat), BX r b n S1 S2 e → w ≤ 400 → Ev (d + 3) mX4_readAhead 34 [some (vR 4 0)] [vI (nI w), vR 5 r] S2 (fun r' S' => r' = none ∧ oL r b n S (.inl e) S') := by
      intro e S2 w h hw
      refine bkX4_readAhead_34 h.1.2.2.2 (kX4_takeB (BX_5 (f := 8) (k := 233) h (by omega)) (w := 59) (by omega) rfl) ?_
      intro S' h'
      exact bkX4_readAhead_43 ⟨rfl, oL_bad h' hL1⟩
    intro S2 h2
    cases hx1 : p_nx (t_co b n) a with
    | inl e =>
      rw [hx1] at h2
      rw [eb_l]
      have hr2 : S2.2.2 1 = r := h2.1.2.2.1
      refine bkX4_readAhead_22 (kX4_takeNumberB h2) ?_
      rintro _ S3 ⟨rfl, h3⟩
      rw [hr2]
      exact badT S3 0 h3 (by omega)
    | inr a1 =>
      rw [hx1] at h2 hok
      rw [eb_r] at hok ⊢
      have h2 : GX r b n S1 S2 a1 u := h2
      have hr2 : S2.2.2 1 = r := h2.1.2.2.1
      have hnm := p_nm_ok (t_co b n) (t_vl b n) 0 399 a1
      refine bkX4_readAhead_22 (kX4_takeNumber hb h2 (lo := 0) (hi := 399) (by omega) (by omega) rfl rfl) ?_
      rintro _ S3 ⟨⟨w, rfl, hw⟩, h3⟩
      rw [hr2]
      cases hx2 : p_nm (t_co b n) (t_vl b n) 0 399 a1 with
      | inl e =>
        rw [hx2] at h3
        rw [eb_l]
        exact badT S3 w h3 (by omega)
      | inr a2 =>
        rw [hx2] at h3 hok hnm
        rw [eb_r] at hok ⊢
        obtain ⟨hv, h3⟩ := h3
        have hv2 := hnm.2.2
        rw [hv]
        refine bkX4_readAhead_34 h3.1.2.2.2 (kX4_take hb (GX_5 (f := 8) (k := 233) h3 (by omega)) (w := 59) (by omega) rfl) ?_
        intro S4 h4
        refine bkX4_readAhead_43 ⟨rfl, ?_⟩
        cases hx3 : p_tk (t_co b n) 59 a2 with
        | inl e => rw [hx3] at h4; exact oL_bad h4 hL1
        | inr a3 =>
          rw [hx3] at h4 hok
          have h4 : GX r b n S1 S4 a3 (un_ u 233 (t_vl b n a1)) := h4
          exact ⟨fL_tr hL1 (fX_fL h4.1.1), _, GX_base h4 (fX_rf r S4), RA_un hR hA rfl rfl (by exact Or.inr ⟨rfl, rfl, rfl⟩), FZ_un hZ rfl (by omega), hok.2, by rw [(flag_of h4.1.1).1, e7]; exact hf1, by rw [(flag_of h4.1.1).2]; exact e6⟩
  · rw [bi_ne0] at hh
    rw [hh, if_pos rfl]
    refine bkX4_readAhead_7 (kX4_refuse hG (by omega) (w := 4) rfl) ?_
    intro S' h'
    exact bkX4_readAhead_12 ⟨rfl, oL_bad h' (fL_rf r S)⟩
end RL
