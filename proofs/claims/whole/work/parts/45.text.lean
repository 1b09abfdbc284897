/-! ===== readAll and text on the class's side ===== -/
def FX1 (S : hs_T) (b : Nat → Nat) (n : Nat) (e : er_T) : Prop := S.1 4 0 8 = nI e.1 ∧ 1 ≤ e.1 ∧ e.1 ≤ 6 ∧ S.1 4 0 9 = nI (t_po b n e.2)
def okx (x : ax_T) : Prop := x.2.2.2.1 < x.2.2.1 ∧ ∀ s q, s < x.1.length → q < (sg x.1 s).length → (bg (sg x.1 s) q).2.2 = 8 ∨ (bg (sg x.1 s) q).2.2 < x.1.length
section TY
variable {d r n a : Nat} {S0 S : hs_T} {b u : Nat → Nat} {e : er_T} {x : ax_T}
theorem kX4_refuseB1 {y : Int32} (h : BX r b n S0 S e) : Cv d mX4_refuse [vR 4 0, vI y] S (fun S' => BX r b n S0 S' e ∧ FX1 S' b n e) := by
  obtain ⟨hE, ⟨f1, f2⟩, u, hD⟩ := h
  refine cxX4_refuse ?_
  rcases f2 with ⟨g1, g2, g3, g4⟩ | ⟨g1, g2, g3⟩
  · refine bkX4_refuse_0 (fun _ => ?_) (fun hh => absurd hh (by rw [g1]; exact nI_ne0 (by omega) (by omega)))
    have k1 : (sk_ S 4 0 (upd (S.1 4 0) 3 1)).1 4 0 8 = nI e.1 := by simp [rd_, up_]; exact g1
    have k2 : (sk_ S 4 0 (upd (S.1 4 0) 3 1)).1 4 0 9 = nI (t_po b n e.2) := by simp [rd_, up_]; exact g4
    refine bkX4_refuse_32 ⟨rfl, ⟨ExR_4 hE (by omega), ⟨?_, Or.inl ⟨k1, g2, g3, k2⟩⟩, u, hD⟩, k1, g2, g3, k2⟩
    simp [rd_, up_]
  · refine bkX4_refuse_0 (fun hh => absurd g1 hh) (fun _ => ?_)
    refine bkX4_refuse_7 (fun hh => absurd f1 hh) (fun _ => ?_)
    refine bkX4_refuse_16 (bkX4_refuse_21 (bkX4_refuse_32 ⟨rfl, ?_⟩))
    have k : FX1 (sk_ (sk_ (sk_ S 4 0 (upd (S.1 4 0) 8 1)) 4 0 (upd ((sk_ S 4 0 (upd (S.1 4 0) 8 1)).1 4 0) 9 ((sk_ S 4 0 (upd (S.1 4 0) 8 1)).1 4 0 4))) 4 0 (upd ((sk_ (sk_ S 4 0 (upd (S.1 4 0) 8 1)) 4 0 (upd ((sk_ S 4 0 (upd (S.1 4 0) 8 1)).1 4 0) 9 ((sk_ S 4 0 (upd (S.1 4 0) 8 1)).1 4 0 4))).1 4 0) 3 1)) b n e := by
      refine ⟨?_, by omega, by omega, ?_⟩
      · simp [rd_, up_]; rw [g2]; rfl
      · simp [rd_, up_]; exact g3
    refine ⟨⟨ExR_4 (ExR_4 (ExR_4 hE (by omega)) (by omega)) (by omega), ⟨?_, Or.inl k⟩, u, hD⟩, k⟩
    simp [rd_, up_]
theorem BX_10 {y : Int32} (h : BX r b n S S e) : BX r b n (sk_ S 4 0 (upd (S.1 4 0) 10 y)) (sk_ S 4 0 (upd (S.1 4 0) 10 y)) e := by
  obtain ⟨hE, hF, u, hD⟩ := h
  refine ⟨⟨fX_rf _ _, TkZ_of hE.2.1 rfl rfl rfl rfl, hE.2.2.1, hE.2.2.2⟩, ?_, u, hD⟩
  unfold FX at hF ⊢
  rw [sk_at, pk_un (by omega), pk_un (by omega), pk_un (by omega), pk_un (by omega)]
  exact hF
theorem LXs_10 {y : Int32} (h : LXs r b n S a x) : LXs r b n (sk_ S 4 0 (upd (S.1 4 0) 10 y)) a x := by
  obtain ⟨u, hG, hR, hZ, hA, hf1, hf2⟩ := h
  refine ⟨u, GX_flag hG (by omega), hR, hZ, hA, ?_, ?_⟩ <;> rw [sk_at, pk_un (by omega)]
  · exact hf1
  · exact hf2
/-- what the whole reading ends in -/
def oA (r : Nat) (b : Nat → Nat) (n : Nat) (S0 : hs_T) (res : er_T ⊕ (Nat × Nat × ax_T)) (S : hs_T) : Prop := fA r S0 S ∧ oc res (FX1 S b n) (fun z => (okx z.2.2 ∧ S.1 4 0 8 = 0 ∧ S.1 4 0 10 = nI z.1 ∧ z.1 ≤ 400 ∧ AX z.2.2 ∧ ∃ u, DrX S r u ∧ RA u z.2.2) ∨ (¬ okx z.2.2 ∧ FX1 S b n (6, z.2.1)))
theorem tX4_all111 (hA : fA r S0 S) (h : BX r b n S S e) (h1 : FX1 S b n e) {o : Int32} {Q : Option av_T → hs_T → Prop} (hQ : ∀ S', fA r S0 S' → FX1 S' b n e → Q none S') :
    Ev (d + 5) mX4_readAll 111 [some (vR 4 0), some (vI o)] [] S Q := by
  obtain ⟨hE, hF, u, hD⟩ := h
  have hr : S.2.2 1 = r := hE.2.2.1
  have hr2 := hE.2.2.2
  refine bkX4_readAll_111 (P := fun v S' => LdX S r u v ∧ S' = S) (by rw [hr]; exact hr2) (by rw [hr]; exact kX5_leadsNowhere hD hr2) ?_
  rintro v S ⟨_, rfl⟩
  have ref : Ev (d + 5) mX4_readAll 138 [some (vR 4 0), some (vI o)] [] S Q := by
    refine bkX4_readAll_138 (kX4_refuseB1 ⟨hE, hF, u, hD⟩) ?_
    rintro S' ⟨g1, g2⟩
    exact bkX4_readAll_144 (hQ S' (fA_fL hA (fX_fL g1.1.1)) g2)
  refine bkX4_readAll_118 (fun _ => ref) (fun _ => ?_)
  exact bkX4_readAll_121 (by rw [hr]; exact hr2) (fun _ => bkX4_readAll_144 (hQ S hA h1)) (fun _ => ref)
theorem tX4_all6 (hA : fA r S0 S) (h : BX r b n S S e) {k : Nat} (hk2 : k ≤ 400) (hw : ¬ FX1 S b n e → k < 400) {Q : Option av_T → hs_T → Prop} (hQ : ∀ S', fA r S0 S' → FX1 S' b n e → Q none S') :
    Ev (d + 5) mX4_readAll 6 [some (vR 4 0), some (vI (nI k))] [] S Q := by
  have one : ∀ (S : hs_T) (y : Int32), fA r S0 S → BX r b n S S e → FX1 S b n e → Ev (d + 5) mX4_readAll 6 [some (vR 4 0), some (vI y)] [] S Q := by
    intro S y hA h h1
    refine bkX4_readAll_6 (fun _ => tX4_all111 hA h h1 hQ) (fun _ => ?_)
    refine bkX4_readAll_13 (fun _ => tX4_all111 hA h h1 hQ) (fun hh => absurd hh ?_)
    have h2 := h1.2.1
    have h3 := h1.2.2.1
    rw [h1.1]; exact nI_ne0 (by omega) (by omega)
  by_cases h1 : FX1 S b n e
  · exact one S _ hA h h1
  · have hk3 := hw h1
    have h8 : S.1 4 0 8 = 0 := by
      rcases h.2.1.2 with g | g
      · exact absurd g h1
      · exact g.1
    have hB := BX_10 (y := S.1 4 0 10 + 1) h
    refine bkX4_readAll_6 (fun hh => absurd hh (nl_ (b := 400) hk3 (by omega))) (fun _ => ?_)
    refine bkX4_readAll_13 (fun hh => absurd h8 hh) (fun _ => ?_)
    refine bkX4_readAll_20 (fun hh => absurd hh (by rw [h.2.1.1]; decide)) (fun _ => ?_)
    refine bkX4_readAll_27 (fun hh => absurd hh (by rw [hB.2.1.1]; decide)) (fun hh => absurd hh (by rw [hB.2.1.1]; decide)) (fun hh => absurd hh (by rw [hB.2.1.1]; decide)) (fun hh => absurd hh (by rw [hB.2.1.1]; decide)) (fun _ _ _ _ => ?_)
    refine bkX4_readAll_100 (kX4_refuseB1 hB) ?_
    rintro S' ⟨g1, g2⟩
    refine bkX4_readAll_105 ?_
    exact one S' _ (fA_fL (fA_4 hA) (fX_fL g1.1.1)) (BX_base g1 (fX_rf r S')) g2
theorem okx_of (hR : RA u x) (hA : AX x) (hD : DrX S r u) : (∀ s q, s < u 230 → q < u (222 + s) → ¬ nwX S r s q) ↔ ∀ s q, s < x.1.length → q < (sg x.1 s).length → (bg (sg x.1 s) q).2.2 = 8 ∨ (bg (sg x.1 s) q).2.2 < x.1.length := by
  have h8 := hA.1
  have key : ∀ s q, s < x.1.length → q < (sg x.1 s).length → (¬ nwX S r s q ↔ (bg (sg x.1 s) q).2.2 = 8 ∨ (bg (sg x.1 s) q).2.2 < x.1.length) := by
    intro s q hs hq
    have hS := hA.2.1 s hs
    have h3 := hS.2.1
    have hg := (hS.2.2 q hq).2.2
    have e1 : S.1 602 r (3 * s + q) = nI (bg (sg x.1 s) q).2.2 := by rw [(hD.2.2.1 (3 * s + q) (by omega)).2, ((hR.2.1 s hs).2 q hq).2.2]
    have e2 : S.1 5 r 6 = nI x.1.length := by rw [hD.1.1, hR.1]
    unfold nwX
    rw [e1, e2, show (8 : Int32) = nI 8 from rfl, nI_eq (by omega) (by omega), nI_ltI (by omega) (by omega)]
    omega
  constructor
  · intro h s q hs hq
    exact (key s q hs hq).mp (h s q (by rw [hR.1]; exact hs) (by rw [(hR.2.1 s hs).1]; exact hq))
  · intro h s q hs hq
    rw [hR.1] at hs
    rw [(hR.2.1 s hs).1] at hq
    exact (key s q hs hq).mpr (h s q hs hq)
theorem gX4_all111 (hF : fA r S0 S) (h : LXs r b n S a x) {k : Nat} {o : Int32} (hk : S.1 4 0 10 = nI k) (hk4 : k ≤ 400) :
    Ev (d + 5) mX4_readAll 111 [some (vR 4 0), some (vI o)] [] S (fun r' S' => r' = none ∧ oA r b n S0 (.inr (k, a, x)) S') := by
  obtain ⟨u, hG, hR, hZ, hA, hf1, hf2⟩ := h
  have hr : S.2.2 1 = r := hG.1.2.2.1
  have hr2 := hG.1.2.2.2
  have hO := okx_of hR hA hG.2.2
  have hd4 := hA.2.2.2.1
  have ha4 := hA.2.2.2.2
  refine bkX4_readAll_111 (P := fun v S' => LdX S r u v ∧ S' = S) (by rw [hr]; exact hr2) (by rw [hr]; exact kX5_leadsNowhere hG.2.2 hr2) ?_
  rintro v S ⟨hL, rfl⟩
  have ref : ¬ okx x → Ev (d + 5) mX4_readAll 138 [some (vR 4 0), some (vI o)] [] S (fun r' S' => r' = none ∧ oA r b n S0 (.inr (k, a, x)) S') := by
    intro hno
    refine bkX4_readAll_138 (P := fun S' => BX r b n S S' (6, a)) (kX4_refuse hG (by omega) (w := 6) rfl) ?_
    intro S' g1
    refine bkX4_readAll_144 ⟨rfl, fA_fL hF (fX_fL g1.1.1), Or.inr ⟨hno, ?_⟩⟩
    rcases g1.2.1.2 with g | g
    · exact g
    · exact absurd g.2.1 (by show ¬ 6 = 1; omega)
  refine bkX4_readAll_118 (fun hv => ?_) (fun hv => ?_)
  · rcases hL with ⟨_, s, q, h1, h2, h3⟩ | ⟨h1, _⟩
    · exact ref (fun ho => absurd h3 (hO.mpr ho.2 s q h1 h2))
    · exact absurd h1 hv
  · rcases hL with ⟨h1, _⟩ | ⟨_, hall⟩
    · rw [h1] at hv; exact absurd hv (by decide)
    · have e7 : S.1 5 r 7 = nI x.2.2.1 := by rw [hG.2.2.1.2.1, hR.2.2.2.1]
      have e8 : S.1 5 r 8 = nI x.2.2.2.1 := by rw [hG.2.2.1.2.2, hR.2.2.2.2]
      refine bkX4_readAll_121 (by rw [hr]; exact hr2) (fun hh => ?_) (fun hh => ?_) <;> rw [hr, e7, e8, nI_ltI (by omega) (by omega)] at hh
      · exact bkX4_readAll_144 ⟨rfl, hF, Or.inl ⟨⟨hh, hO.mp hall⟩, hG.2.1.2.2.2.2.1, hk, hk4, hA, u, hG.2.2, hR⟩⟩
      · exact ref (fun ho => hh ho.1)
theorem lX4_readAll (hb : ∀ i, i < n → b i < 256) (hn : n ≤ 400) : ∀ (m k a : Nat) (S : hs_T) (x : ax_T), k + m = 400 → k ≤ a → fA r S0 S → LXs r b n S a x → S.1 4 0 10 = nI k →
    Ev (d + 5) mX4_readAll 6 [some (vR 4 0), some (vI (nI k))] [] S (fun r' S' => r' = none ∧ oA r b n S0 (p_all (t_co b n) (t_vl b n) m k a x) S') := by
  intro m
  induction m with
  | zero =>
    intro k a S x hk hka hF h hl
    refine bkX4_readAll_6 (fun _ => gX4_all111 hF h hl (by omega)) (fun hh => absurd ?_ hh)
    exact nI_le (a := 400) (by omega) (by omega)
  | succ m ih =>
    intro k a S x hk hka hF h hl
    have hRd : RdX S b n a := by obtain ⟨u, hG, _⟩ := h; exact hG.2.1
    have hA : AX x := by obtain ⟨u, _, _, _, hA, _⟩ := h; exact hA
    rw [p_all_s]
    refine bkX4_readAll_6 (fun hh => absurd hh (nl_ (b := 400) (by omega) (by omega))) (fun _ => ?_)
    refine bkX4_readAll_13 (fun hh => absurd hRd.2.2.2.2.1 hh) (fun _ => ?_)
    refine bkX4_readAll_20 (fun hh => ?_) (fun hh => ?_) <;> rw [show (0 : Int32) = nI 0 from rfl, tok_eq hb hRd (by omega)] at hh
    · rw [if_pos hh]
      exact gX4_all111 hF h hl (by omega)
    · rw [if_neg hh]
      have hok := p_ln_ok (t_co b n) (t_vl b n) a hA
      -- with the line counted
      have hF1 : fA r S0 (sk_ S 4 0 (upd (S.1 4 0) 10 (S.1 4 0 10 + 1))) := fA_4 hF
      have h1 : LXs r b n (sk_ S 4 0 (upd (S.1 4 0) 10 (S.1 4 0 10 + 1))) a x := LXs_10 h
      have hl1 : (sk_ S 4 0 (upd (S.1 4 0) 10 (S.1 4 0 10 + 1))).1 4 0 10 = nI (k + 1) := by rw [sk_at, pk_us, hl, nI_1]
      have hRd1 : RdX (sk_ S 4 0 (upd (S.1 4 0) 10 (S.1 4 0 10 + 1))) b n a := by obtain ⟨u, hG, _⟩ := h1; exact hG.2.1
      -- behind a line
      have after : ∀ S1 : hs_T, oL r b n (sk_ S 4 0 (upd (S.1 4 0) 10 (S.1 4 0 10 + 1))) (p_ln (t_co b n) (t_vl b n) x a) S1 → Ev (d + 5) mX4_readAll 105 [some (vR 4 0), some (vI (nI k))] [] S1 (fun r' S' => r' = none ∧ oA r b n S0 (eb (p_ln (t_co b n) (t_vl b n) x a) (fun z => p_all (t_co b n) (t_vl b n) m (k + 1) z.1 z.2)) S') := by
        rintro S1 ⟨hf, h1⟩
        have hc : S1.1 4 0 10 = nI (k + 1) := hf.2.1.trans hl1
        refine bkX4_readAll_105 ?_
        rw [nI_1]
        have hF2 : fA r S0 S1 := fA_fL hF1 hf
        cases hx : p_ln (t_co b n) (t_vl b n) x a with
        | inl e =>
          rw [hx] at h1 hok
          rw [eb_l]
          have hB : BX r b n S1 S1 e := h1
          refine tX4_all6 hF2 hB (by omega) (fun hn1 => ?_) (fun S' g1 g2 => ⟨rfl, g1, g2⟩)
          have h11 : e.1 = 1 := by
            rcases hB.2.1.2 with g | g
            · exact absurd g hn1
            · exact g.2.1
          have h12 := hok.2.2.2 h11
          by_cases hlt : e.2 < 400
          · omega
          · have := t_co_end b (n := n) (k := e.2) (by omega)
            omega
        | inr z =>
          rw [hx] at h1 hok
          rw [eb_r]
          exact ih (k + 1) z.1 _ z.2 (by omega) (by have := hok.1; omega) hF2 h1 hc
      refine bkX4_readAll_27 (fun hh => ?_) (fun hh => ?_) (fun hh => ?_) (fun hh => ?_) (fun n1 n2 n3 n4 => ?_)
      · have hh := (tok_eq hb hRd1 (w := 4) (by omega)).mp hh
        refine bkX4_readAll_72 (kX4_readState hb h1 hh) ?_
        intro S1 h1
        exact bkX4_readAll_76 (after S1 h1)
      · have hh := (tok_eq hb hRd1 (w := 5) (by omega)).mp hh
        refine bkX4_readAll_79 (kX4_readKeep hb h1 hh) ?_
        intro S1 h1
        exact bkX4_readAll_83 (after S1 h1)
      · have hh := (tok_eq hb hRd1 (w := 6) (by omega)).mp hh
        refine bkX4_readAll_86 (kX4_readDepth hb h1 hh) ?_
        intro S1 h1
        exact bkX4_readAll_90 (after S1 h1)
      · have hh := (tok_eq hb hRd1 (w := 7) (by omega)).mp hh
        refine bkX4_readAll_93 (kX4_readAhead hb h1 hh) ?_
        intro S1 h1
        exact bkX4_readAll_97 (after S1 h1)
      · have m1 : ¬ t_co b n a = 4 := fun z => n1 ((tok_eq hb hRd1 (w := 4) (by omega)).mpr z)
        have m2 : ¬ t_co b n a = 5 := fun z => n2 ((tok_eq hb hRd1 (w := 5) (by omega)).mpr z)
        have m3 : ¬ t_co b n a = 6 := fun z => n3 ((tok_eq hb hRd1 (w := 6) (by omega)).mpr z)
        have m4 : ¬ t_co b n a = 7 := fun z => n4 ((tok_eq hb hRd1 (w := 7) (by omega)).mpr z)
        have eln : p_ln (t_co b n) (t_vl b n) x a = .inl (2, a) := by
          unfold p_ln
          rw [if_neg m1, if_neg m2, if_neg m3, if_neg m4]
        obtain ⟨u, hG, _⟩ := h1
        refine bkX4_readAll_100 (kX4_refuse hG (by omega) (w := 2) rfl) ?_
        intro S1 h1
        refine after S1 ?_
        rw [eln]
        exact oL_bad h1 (fL_rf r _)
theorem kX4_readAll (hb : ∀ i, i < n → b i < 256) (hn : n ≤ 400) (hK : TkZ S b n) (hr1 : S.2.2 1 = r) (hr : r < 2) : Cv (d + 5) mX4_readAll [vR 4 0] S (oA r b n S (p_top (t_co b n) (t_vl b n))) := by
  refine cxX4_readAll ?_
  refine bkX4_readAll_0 (kX4_begin hK hr1 hr) ?_
  rintro S1 ⟨hA, hc, h1⟩
  refine bkX4_readAll_4 ?_
  show Ev (d + 5) mX4_readAll 6 [some (vR 4 0), some (vI (nI 0))] [] S1 _
  unfold p_top
  by_cases ht : t_co b n 0 = 1
  · rw [if_pos ht] at h1 ⊢
    have h1 : BX r b n S1 S1 (1, 0) := h1
    exact tX4_all6 hA h1 (by omega) (fun _ => by omega) (fun S' g1 g2 => ⟨rfl, g1, g2⟩)
  · rw [if_neg ht] at h1 ⊢
    have h1 : LXs r b n S1 0 x0_ := h1
    exact lX4_readAll hb hn 400 0 0 _ _ (by omega) (by omega) hA h1 hc
theorem kX4_exchange {j : Nat} : Cr d mX4_exchange [vR 4 0, vR 5 j] S (fun v S' => v = some (5, S.2.2 1) ∧ S' = sd_ S 1 j) := cxX4_exchange (bkX4_exchange_0 ⟨_, rfl, rfl, rfl⟩)
/-- what text may change on the class's side -/
def fX10 (r : Nat) (S S' : hs_T) : Prop := ∀ k j f, k ≠ 4 → k ≠ 802 → k ≠ 803 → k ≠ 804 → ¬ (k = 7 ∧ (f = 1 ∨ f = 5)) → ¬ (k = 10 ∧ f = 11) → ¬ (j = r ∧ (k = 5 ∨ (600 ≤ k ∧ k ≤ 605))) → S'.1 k j f = S.1 k j f
/-- text: faulty, or taken -/
def wrX (b : Nat → Nat) (n : Nat) (e : er_T) (S S' : hs_T) (v : Int32) : Prop := v = (-10) - nI (t_po b n e.2) ∧ S'.1 10 0 11 = nI e.1 ∧ S'.2.2 0 = S.2.2 0 ∧ S'.2.2 1 = S.2.2 1
def gdX (r : Nat) (k : Nat) (x : ax_T) (S S' : hs_T) (v : Int32) : Prop := v = nI k ∧ S'.1 10 0 11 = 0 ∧ S'.2.2 0 = r ∧ S'.2.2 1 = S.2.2 0 ∧ AX x ∧ ∃ u, DrX S' r u ∧ RA u x
theorem kX10_text (hT : TpX S n b) (hr : S.2.2 1 = r) (hr2 : r < 2) : Ci (d + 9) mX10_text [vR 10 0] S (fun v S' => fX10 r S S' ∧ S'.1 7 0 1 = 0 ∧ oc (p_top (t_co b n) (t_vl b n)) (fun e => wrX b n e S S' v) (fun z => (okx z.2.2 ∧ gdX r z.1 z.2.2 S S' v) ∨ (¬ okx z.2.2 ∧ wrX b n (6, z.2.1) S S' v))) := by
  have hb : ∀ i, i < n → b i < 256 := fun i hi => (hT.2.2 i hi).2
  refine cxX10_text ?_
  refine bkX10_text_0 (kX7_split hT) ?_
  rintro S1 ⟨hK, hF⟩
  have e1 : S1.2.2 1 = r := by rw [hF.1]; exact hr
  refine bkX10_text_12 (P := oA r b n S1 (p_top (t_co b n) (t_vl b n))) (kX4_readAll hb hT.2.1 hK e1 hr2) ?_
  rintro S2 ⟨hA, h2⟩
  have q0 : S2.2.2 0 = S.2.2 0 := by rw [hA.1, hF.1]
  have q1 : S2.2.2 1 = S.2.2 1 := by rw [hA.1, hF.1]
  -- the cells behind it
  have fr : ∀ (S3 : hs_T) (y : Int32), S3.1 = (sk_ (sk_ S2 7 0 (upd (S2.1 7 0) 1 0)) 10 0 (upd ((sk_ S2 7 0 (upd (S2.1 7 0) 1 0)).1 10 0) 11 y)).1 → fX10 r S S3 ∧ S3.1 7 0 1 = 0 ∧ S3.1 10 0 11 = y := by
    intro S3 y h3
    refine ⟨fun k j f k1 k2 k3 k4 k5 k6 k7 => ?_, ?_, ?_⟩ <;> rw [h3]
    · have base : S2.1 k j f = S.1 k j f := (hA.2 k j f k1 k7).trans (hF.2 k j f k2 k3 k4 (by omega))
      rw [rd_]
      by_cases c1 : k = 10 ∧ j = 0
      · rw [if_pos c1]
        obtain ⟨rfl, rfl⟩ := c1
        rw [pk_un (by omega)]; exact base
      · rw [if_neg c1, rd_]
        by_cases c2 : k = 7 ∧ j = 0
        · rw [if_pos c2]
          obtain ⟨rfl, rfl⟩ := c2
          rw [pk_un (by omega)]; exact base
        · rw [if_neg c2]; exact base
    · simp [rd_, up_]
    · simp [rd_, up_]
  have bad : ∀ e : er_T, FX1 S2 b n e → Ev (d + 9) mX10_text 19 [some (vR 10 0), some (vR 7 0)] [] S2 (fun r' S' => ∃ v, r' = some (vI v) ∧ fX10 r S S' ∧ S'.1 7 0 1 = 0 ∧ wrX b n e S S' v) := by
    intro e hf
    obtain ⟨f1, f2, f3, f4⟩ := hf
    refine bkX10_text_19 (fun hh => absurd hh ?_) (fun _ => ?_)
    · show ¬ S2.1 4 0 8 = 0
      rw [f1]; exact nI_ne0 (by omega) (by omega)
    · obtain ⟨g1, g2, g3⟩ := fr _ _ rfl
      refine bkX10_text_45 ⟨_, rfl, g1, g2, ?_, g3.trans f1, q0, q1⟩
      show (-10) - S2.1 4 0 9 = _
      rw [f4]
  cases hx : p_top (t_co b n) (t_vl b n) with
  | inl e =>
    rw [hx] at h2
    exact bad e h2
  | inr z =>
    rw [hx] at h2
    rcases h2 with ⟨ho, h8, h10, hz4, hAx, u, hD, hR⟩ | ⟨hno, hf⟩
    · refine bkX10_text_19 (fun _ => ?_) (fun hh => absurd h8 hh)
      obtain ⟨g1, g2, g3⟩ := fr (sd_ (sd_ (sk_ (sk_ S2 7 0 (upd (S2.1 7 0) 1 0)) 10 0 (upd ((sk_ S2 7 0 (upd (S2.1 7 0) 1 0)).1 10 0) 11 ((sk_ S2 7 0 (upd (S2.1 7 0) 1 0)).1 4 0 8))) 1 (S2.2.2 0)) 0 (S2.2.2 1)) _ rfl
      refine bkX10_text_56 kX4_exchange ?_
      rintro _ _ ⟨rfl, rfl⟩
      refine bkX10_text_68 ⟨_, rfl, g1, g2, Or.inl ⟨ho, ?_, g3.trans h8, ?_, ?_, hAx, u, hD, hR⟩⟩
      · exact h10
      · show S2.2.2 1 = r
        rw [q1]; exact hr
      · show S2.2.2 0 = _
        exact q0
    · refine (bad _ hf).imp ?_
      rintro r' S' ⟨v, rfl, g1, g2, g3⟩
      exact ⟨v, rfl, g1, g2, Or.inr ⟨hno, g3⟩⟩
end TY
