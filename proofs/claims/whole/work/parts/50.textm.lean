/-! ===== the reference's lines and its text ===== -/
section ML
variable {d n a : Nat} {S S0 : hs_T} {b p : Nat → Nat} {e : er_T} {x : ax_T}
theorem RA_st {p' : Nat → Nat} {l : List br_T} (hR : RA p x) (hA : AX x) (h8 : x.1.length < 8) (w : SM x.1.length 0 p l p') : RA p' (x.1 ++ [l], x.2) := by
  obtain ⟨w1, w2, w3, w4⟩ := w
  refine ⟨?_, fun s hs => ?_, ?_, ?_, ?_⟩
  · rw [w3]; simp
  · show SR p' s (sg (x.1 ++ [l]) s)
    rcases sg_a hs with ⟨k1, k2⟩ | ⟨k1, k2⟩
    · rw [k2]
      refine SR_of (hR.2.1 s k1) (hA.2.1 s k1) (fun k hk => ?_)
      refine w4 k ?_ ?_ (fun i _ hi hh => ?_)
      · rcases hk with hk | ⟨i, hi, hk⟩
        · omega
        · unfold inCd at hk; rw [cx_lt (by omega)] at hk; omega
      · rcases hk with hk | ⟨i, hi, hk⟩
        · omega
        · unfold inCd at hk; rw [cx_lt (by omega)] at hk; omega
      · unfold inCd at hh
        rw [cx_lt (by omega)] at hh
        rcases hk with hk | ⟨i', hi', hk⟩
        · omega
        · unfold inCd at hk; rw [cx_lt (by omega)] at hk; omega
    · rw [k2, k1]
      refine ⟨by rw [w2, Nat.zero_add], fun i hi => ?_⟩
      have := w1 i hi
      rw [Nat.zero_add] at this
      exact this
  · refine CR_of hR.2.2.1 ?_ (fun k hk => ?_)
    · show x.2.1.length ≤ 3
      rcases hA.2.2.1 with hh | hh
      · omega
      · exact hh.2.1
    · unfold inCd at hk
      rw [show cx 24 = 231 from rfl] at hk
      exact w4 k (by omega) (by omega) (fun i _ hi hh => by unfold inCd at hh; rw [cx_lt (by omega)] at hh; omega)
  · rw [w4 232 (by omega) (by omega) (fun i _ hi hh => by unfold inCd at hh; rw [cx_lt (by omega)] at hh; omega)]; exact hR.2.2.2.1
  · rw [w4 233 (by omega) (by omega) (fun i _ hi hh => by unfold inCd at hh; rw [cx_lt (by omega)] at hh; omega)]; exact hR.2.2.2.2
theorem RA_kp {p1 : Nat → Nat} {l : List tm_T} (hR : RA p x) (hA : AX x) (hl : l.length ≤ 3) (w : PM 24 0 l p p1) : RA (un_ p1 231 l.length) (x.1, l, x.2.2) := by
  obtain ⟨w1, w2⟩ := w
  have h8 := hA.1
  have fr : ∀ k, k ≠ 231 → ¬ (144 ≤ k ∧ k < 147) → ¬ (219 ≤ k ∧ k < 222) → un_ p1 231 l.length k = p k := fun k k1 k2 k3 => by
    rw [un_n k1]; exact w2 k (by omega) (by omega)
  refine ⟨?_, fun s hs => ?_, ⟨un_s _ _ _, fun i hi => ?_⟩, ?_, ?_⟩
  · rw [fr 230 (by omega) (by omega) (by omega)]; exact hR.1
  · have hs : s < x.1.length := hs
    refine SR_of (hR.2.1 s hs) (hA.2.1 s hs) (fun k hk => ?_)
    refine fr k ?_ ?_ ?_ <;> rcases hk with hk | ⟨i, hi, hk⟩ <;> try omega
    all_goals (unfold inCd at hk; rw [cx_lt (by omega)] at hk; omega)
  · have hi : i < l.length := hi
    have := w1 i hi
    rw [Nat.zero_add] at this
    rw [un_n (by omega), un_n (by omega)]
    exact this
  · rw [fr 232 (by omega) (by omega) (by omega)]; exact hR.2.2.2.1
  · rw [fr 233 (by omega) (by omega) (by omega)]; exact hR.2.2.2.2
theorem tM_rl109 {x1 : Int32} {S1 S2 : hs_T} (hf : fN S S1) (h : BM b n S1 S2 e) : Ev (d + 6) mX11_readLine 109 [some (vR 11 0), some (vI x1)] [] S2 (fun r S' => r = none ∧ oN b n S (.inl e) S') := by
  refine bkX11_readLine_109 (kM_tokenW h) ?_
  intro S' h'
  exact bkX11_readLine_113 (fun hh => absurd hh (f13l h')) (fun _ => bkX11_readLine_120 ⟨rfl, oN_bad hf h'⟩)
theorem kM_readLine (h : LMs b n S a x) : Cv (d + 6) mX11_readLine [vR 11 0] S (oN b n S (p_ln (t_co b n) (t_vl b n) x a)) := by
  obtain ⟨p, hG, hR, hA, h6⟩ := h
  have hok := p_ln_ok (t_co b n) (t_vl b n) a hA
  have h8 := hA.1
  refine cxX11_readLine ?_
  -- no line begins so
  have no : ¬ (4 ≤ t_co b n a ∧ t_co b n a ≤ 7) → Ev (d + 6) mX11_readLine 17 [some (vR 11 0), none] [vI (-4)] S (fun r S' => r = none ∧ oN b n S (p_ln (t_co b n) (t_vl b n) x a) S') := by
    intro hn
    have eln : p_ln (t_co b n) (t_vl b n) x a = .inl (2, a) := by
      unfold p_ln
      rw [if_neg (by omega), if_neg (by omega), if_neg (by omega), if_neg (by omega)]
    rw [eln]
    refine bkX11_readLine_17 (fun _ => bkX11_readLine_29 (bkX11_readLine_30 (kM_needsG hG (by omega) (c := 2) rfl) ?_)) (fun hh => absurd rfl hh)
    intro S1 h1
    refine bkX11_readLine_34 (fun _ => bkX11_readLine_54 (bkX11_readLine_59 (kM_needsW h1) ?_)) (fun hh => absurd hh (by decide))
    intro S2 h2
    exact bkX11_readLine_63 (fun _ => tM_rl109 (fN_rf S) h2) (fun hh => absurd hh (f13 h2))
  refine bkX11_readLine_0 (fun hh => ?_) (fun hh => ?_) <;> rw [show (1 : Int32) = nI 1 from rfl, srt hG.2.2.1 (by omega)] at hh
  · refine bkX11_readLine_15 (no (fun hr => hh ?_))
    rw [so_1]; omega
  refine bkX11_readLine_8 (kM_lineG hG hh) ?_
  rintro _ S ⟨rfl, rfl⟩
  refine bkX11_readLine_12 ?_
  by_cases hr : 4 ≤ t_co b n a ∧ t_co b n a ≤ 7
  case neg => rw [if_neg hr]; exact no hr
  rw [if_pos hr]
  refine bkX11_readLine_17 (fun h4 => ?_) (fun _ => bkX11_readLine_25 (bkX11_readLine_30 kM_needsT ?_))
  · exact absurd h4 (fun z => absurd (by rw [z]; decide : nI (t_co b n a + 16) < 0) (nI_pos (by omega)))
  rintro S rfl
  have cmp : ∀ w, w < 2 ^ 31 → (nI (t_co b n a + 16) = nI w ↔ t_co b n a + 16 = w) := fun w hw => nI_eq (by omega) hw
  -- another line than a state: told before?
  have told : ∀ (g : Bool) (y : Int32), ¬ t_co b n a = 4 → (tl_ x >>> (nI (t_co b n a + 16) &&& 31)) &&& 1 = bi_ g → tl_ x ||| (1 <<< (nI (t_co b n a + 16) &&& 31)) = y →
      (g = true → p_ln (t_co b n) (t_vl b n) x a = .inl (4, a)) →
      (g = false → ∀ S1 : hs_T, fN S S1 → GM b n S1 S1 a p → S1.1 11 0 6 = y → Ev (d + 6) mX11_readLine 109 [some (vR 11 0), some (vI (nI (t_co b n a + 16)))] [] S1 (fun r S' => r = none ∧ oN b n S (p_ln (t_co b n) (t_vl b n) x a) S')) →
      Ev (d + 6) mX11_readLine 34 [some (vR 11 0), some (vI (nI (t_co b n a + 16)))] [] S (fun r S' => r = none ∧ oN b n S (p_ln (t_co b n) (t_vl b n) x a) S') := by
    intro g y h4 hg hy hbad hgood
    refine bkX11_readLine_34 (fun _ => bkX11_readLine_54 (bkX11_readLine_59 kM_needsT ?_)) (fun hh => absurd ((cmp 20 (by omega)).mp hh) (by omega))
    rintro S rfl
    refine bkX11_readLine_63 (fun hh => absurd (g13 hG) hh) (fun _ => ?_)
    refine bkX11_readLine_70 (fun hh => absurd ((cmp 20 (by omega)).mp hh) (by omega)) (fun _ => ?_)
    refine bkX11_readLine_76 (fun hh => ?_) (fun hh => ?_) <;> rw [h6, hg] at hh
    · rw [bi_ne0] at hh
      rw [hbad hh]
      refine bkX11_readLine_92 (bkX11_readLine_93 (kM_needsG hG (by omega) (c := 4) rfl) ?_)
      intro S1 h1
      refine bkX11_readLine_97 ?_
      have hB : BM b n (sk_ S1 11 0 (upd (S1.1 11 0) 6 ((S1.1 11 0 6) ||| (1 <<< (nI (t_co b n a + 16) &&& 31))))) (sk_ S1 11 0 (upd (S1.1 11 0) 6 ((S1.1 11 0 6) ||| (1 <<< (nI (t_co b n a + 16) &&& 31))))) (4, a) := by
        refine ⟨fM_rf _, ?_⟩
        have := h1.2
        unfold FM at this ⊢
        rw [sk_at, pk_un (by omega), pk_un (by omega)]
        exact this
      exact tM_rl109 (fN_tr (fM_fN h1.1) fN_6) hB
    · rw [bi_0] at hh
      refine bkX11_readLine_88 (bkX11_readLine_93 kM_needsT ?_)
      rintro S rfl
      refine bkX11_readLine_97 ?_
      refine hgood hh _ fN_6 (GM_6 hG) ?_
      rw [sk_at, pk_us, h6]; exact hy
  have h47 : t_co b n a = 4 ∨ t_co b n a = 5 ∨ t_co b n a = 6 ∨ t_co b n a = 7 := by omega
  rcases h47 with hT | hT | hT | hT
  · -- a state
    unfold p_ln at hok ⊢
    rw [if_pos hT] at hok ⊢
    have e230 : S.1 1201 0 230 = nI x.1.length := by rw [hG.2.2.2 230 (by omega), hR.1]
    refine bkX11_readLine_34 (fun hh => absurd ((cmp 20 (by omega)).mpr (by omega)) hh) (fun _ => ?_)
    refine bkX11_readLine_41 (fun hh => ?_) (fun hh => ?_) <;> rw [e230, show (8 : Int32) = nI 8 from rfl, nI_leI (by omega) (by omega)] at hh
    · rw [if_pos hh]
      refine bkX11_readLine_58 (bkX11_readLine_59 (kM_needsG hG (by omega) (c := 5) rfl) ?_)
      intro S1 h1
      exact bkX11_readLine_63 (fun _ => tM_rl109 (fN_rf S) h1) (fun hh => absurd hh (f13 h1))
    · rw [if_neg hh] at hok ⊢
      refine bkX11_readLine_54 (bkX11_readLine_59 kM_needsT ?_)
      rintro S rfl
      refine bkX11_readLine_63 (fun hh => absurd (g13 hG) hh) (fun _ => ?_)
      refine bkX11_readLine_70 (fun _ => ?_) (fun hh => absurd ((cmp 20 (by omega)).mpr (by omega)) hh)
      refine bkX11_readLine_109 (kM_tokenG hG) ?_
      intro S1 h1
      rw [p_bs_q] at hok ⊢
      cases hx : p_nx (t_co b n) a with
      | inl e =>
        rw [hx] at h1
        have h1 : BM b n S S1 e := h1
        rw [eb_l, eb_l, eb_l]
        exact bkX11_readLine_113 (fun hh => absurd hh (f13l h1)) (fun _ => bkX11_readLine_120 ⟨rfl, oN_bad (fN_rf S) h1⟩)
      | inr a1 =>
        rw [hx] at h1 hok
        have h1 : GM b n S S1 a1 p := h1
        rw [eb_r] at hok ⊢
        refine bkX11_readLine_113 (fun _ => ?_) (fun hh => absurd (by rw [g13 h1]; decide) hh)
        refine bkX11_readLine_121 (fun hh => absurd ((cmp 20 (by omega)).mpr (by omega)) hh) (fun _ => ?_)
        refine bkX11_readLine_127 (kM_readState h1 (by omega) hR.1) ?_
        intro S2 h2
        refine bkX11_readLine_131 ?_
        cases hx2 : p_qb (t_co b n) (t_vl b n) 2 a1 with
        | inl e =>
          rw [hx2] at h2
          rw [eb_l, eb_l]
          exact tM_rl198 (fN_rf S) h2
        | inr z =>
          obtain ⟨a2, l⟩ := z
          rw [hx2] at h2 hok
          obtain ⟨p2, g2, w2⟩ := h2
          have g2 : GM b n S S2 a2 p2 := g2
          have w2 : SM x.1.length 0 p l p2 := w2
          have eq : eb (eb (.inr (a2, l)) (fun q => eb (p_tk (t_co b n) 59 q.1) (fun a2 => .inr (a2, q.2)))) (fun z => .inr (z.1, (x.1 ++ [z.2], x.2))) = eb (p_tk (t_co b n) 59 a2) (fun a3 => (.inr (a3, (x.1 ++ [l], x.2)) : er_T ⊕ (Nat × ax_T))) := by
            rw [eb_r]
            show eb (eb (p_tk (t_co b n) 59 a2) _) _ = _
            cases p_tk (t_co b n) 59 a2 <;> rfl
          rw [eq] at hok ⊢
          refine gM_rl198 (a0 := a) (fN_rf S) g2 (RA_st hR hA (by omega) w2) (fun a3 h3 => ?_) ?_
          · rw [h3] at hok; exact hok.2
          · rw [g2.1.2 11 0 6 (by omega) (by omega)]; exact h6
  · -- keep
    have hk3 : x.2.1.length ≤ 3 := by
      rcases hA.2.2.1 with hh | hh
      · omega
      · exact hh.2.1
    have tb := tlB_k (decide (0 < x.2.1.length)) x.2.2.2.2.1 x.2.2.2.2.2
    refine told (decide (0 < x.2.1.length)) (tlB true x.2.2.2.2.1 x.2.2.2.2.2) (by omega) (by rw [hT]; exact tb.1) (by rw [hT]; exact tb.2) (fun hg => ?_) (fun hg S1 hf hG1 h61 => ?_)
    · unfold p_ln
      rw [if_neg (by omega), if_pos hT, if_pos (of_decide_eq_true hg)]
    · have hg := of_decide_eq_false hg
      unfold p_ln at hok ⊢
      rw [if_neg (by omega), if_pos hT, if_neg hg] at hok ⊢
      refine bkX11_readLine_109 (kM_tokenG hG1) ?_
      intro S2 h2
      cases hx : p_nx (t_co b n) a with
      | inl e =>
        rw [hx] at h2
        have h2 : BM b n S1 S2 e := h2
        rw [eb_l]
        exact bkX11_readLine_113 (fun hh => absurd hh (f13l h2)) (fun _ => bkX11_readLine_120 ⟨rfl, oN_bad hf h2⟩)
      | inr a1 =>
        rw [hx] at h2 hok
        have h2 : GM b n S1 S2 a1 p := h2
        rw [eb_r] at hok ⊢
        refine bkX11_readLine_113 (fun _ => ?_) (fun hh => absurd (by rw [g13 h2]; decide) hh)
        refine bkX11_readLine_121 (fun _ => ?_) (fun hh => absurd ((cmp 20 (by omega)).mp hh) (by omega))
        refine bkX11_readLine_134 (fun hh => absurd ((cmp 21 (by omega)).mpr (by omega)) hh) (fun _ => ?_)
        refine bkX11_readLine_140 (kM_readCond (c := 24) (Nat.le_refl _) h2 rfl) ?_
        intro v S3 h3
        have hcd := p_cd_ok (t_co b n) (t_vl b n) 3 true a1
        cases hx2 : p_cd (t_co b n) (t_vl b n) true 3 a1 with
        | inl e =>
          rw [hx2] at h3
          rw [eb_l]
          refine bkX11_readLine_153 (by exact vp_lt (k := 231) (by omega) (by omega)) ?_
          exact tM_rl198 hf (BM_w h3)
        | inr z =>
          obtain ⟨a2, l⟩ := z
          rw [hx2] at h3 hok hcd
          rw [eb_r] at hok ⊢
          obtain ⟨hv, p2, g2, w2⟩ := h3
          have hv : v = nI l.length := by rw [hv]; show nI (0 + l.length) = _; rw [Nat.zero_add]
          have g2 : GM b n S1 S3 a2 p2 := g2
          have w2 : PM 24 0 l p p2 := w2
          have hl3 : l.length ≤ 3 := hcd.2.2.1
          have hl1 : 1 ≤ l.length := hcd.2.1
          subst hv
          refine bkX11_readLine_153 (by exact vp_lt (k := 231) (by omega) (by omega)) ?_
          have hok : oc (eb (p_tk (t_co b n) 59 a2) (fun a2 => .inr (a2, (x.1, l, x.2.2)))) (okE (t_co b n) a) (fun z => a < z.1 ∧ AX z.2) := hok
          show Ev (d + 6) mX11_readLine 198 _ [] (sk_ S3 1201 0 (upd (S3.1 1201 0) 231 (nI l.length))) (fun r S' => r = none ∧ oN b n S (eb (p_tk (t_co b n) 59 a2) (fun a2 => .inr (a2, (x.1, l, x.2.2)))) S')
          refine gM_rl198 (a0 := a) hf (GM_w g2) (RA_kp hR hA hl3 w2) (fun a3 h3 => ?_) ?_
          · rw [h3] at hok; exact hok.2
          · show S3.1 11 0 6 = _
            rw [g2.1.2 11 0 6 (by omega) (by omega), h61]
            show tlB true _ _ = tlB (decide (0 < l.length)) _ _
            rw [decide_eq_true (show 0 < l.length by omega)]
  · -- depth
    have tb := tlB_d (decide (0 < x.2.1.length)) x.2.2.2.2.1 x.2.2.2.2.2
    refine told x.2.2.2.2.1 (tlB (decide (0 < x.2.1.length)) true x.2.2.2.2.2) (by omega) (by rw [hT]; exact tb.1) (by rw [hT]; exact tb.2) (fun hg => ?_) (fun hg S1 hf hG1 h61 => ?_)
    · unfold p_ln
      rw [if_neg (by omega), if_neg (by omega), if_pos hT, if_pos hg]
    · unfold p_ln at hok ⊢
      rw [if_neg (by omega), if_neg (by omega), if_pos hT, if_neg (by rw [hg]; decide)] at hok ⊢
      refine bkX11_readLine_109 (kM_tokenG hG1) ?_
      intro S2 h2
      cases hx : p_nx (t_co b n) a with
      | inl e =>
        rw [hx] at h2
        have h2 : BM b n S1 S2 e := h2
        rw [eb_l]
        exact bkX11_readLine_113 (fun hh => absurd hh (f13l h2)) (fun _ => bkX11_readLine_120 ⟨rfl, oN_bad hf h2⟩)
      | inr a1 =>
        rw [hx] at h2 hok
        have h2 : GM b n S1 S2 a1 p := h2
        rw [eb_r] at hok ⊢
        refine bkX11_readLine_113 (fun _ => ?_) (fun hh => absurd (by rw [g13 h2]; decide) hh)
        refine bkX11_readLine_121 (fun _ => ?_) (fun hh => absurd ((cmp 20 (by omega)).mp hh) (by omega))
        refine bkX11_readLine_134 (fun _ => ?_) (fun hh => absurd ((cmp 21 (by omega)).mp hh) (by omega))
        refine bkX11_readLine_157 (fun hh => absurd ((cmp 22 (by omega)).mpr (by omega)) hh) (fun _ => ?_)
        refine bkX11_readLine_163 (kM_readNumber h2 (lo := 1) (hi := 400) (by omega) (by omega) rfl rfl) ?_
        intro v S3 h3
        cases hx2 : p_nm (t_co b n) (t_vl b n) 1 400 a1 with
        | inl e =>
          rw [hx2] at h3
          rw [eb_l]
          refine bkX11_readLine_178 (by exact vp_lt (k := 232) (by omega) (by omega)) ?_
          exact tM_rl198 hf (BM_w h3)
        | inr a2 =>
          rw [hx2] at h3 hok
          rw [eb_r] at hok ⊢
          obtain ⟨rfl, g2⟩ := h3
          refine bkX11_readLine_178 (by exact vp_lt (k := 232) (by omega) (by omega)) ?_
          show Ev (d + 6) mX11_readLine 198 _ [] (sk_ S3 1201 0 (upd (S3.1 1201 0) 232 (nI (t_vl b n a1)))) _
          refine gM_rl198 (a0 := a) hf (GM_w g2) (RA_un hR hA rfl rfl (Or.inl ⟨rfl, rfl, rfl⟩)) (fun a3 h3 => ?_) ?_
          · rw [h3] at hok; exact hok.2
          · show S3.1 11 0 6 = _
            rw [g2.1.2 11 0 6 (by omega) (by omega), h61]
            rfl
  · -- ahead
    have tb := tlB_a (decide (0 < x.2.1.length)) x.2.2.2.2.1 x.2.2.2.2.2
    refine told x.2.2.2.2.2 (tlB (decide (0 < x.2.1.length)) x.2.2.2.2.1 true) (by omega) (by rw [hT]; exact tb.1) (by rw [hT]; exact tb.2) (fun hg => ?_) (fun hg S1 hf hG1 h61 => ?_)
    · unfold p_ln
      rw [if_neg (by omega), if_neg (by omega), if_neg (by omega), if_pos hT, if_pos hg]
    · unfold p_ln at hok ⊢
      rw [if_neg (by omega), if_neg (by omega), if_neg (by omega), if_pos hT, if_neg (by rw [hg]; decide)] at hok ⊢
      refine bkX11_readLine_109 (kM_tokenG hG1) ?_
      intro S2 h2
      cases hx : p_nx (t_co b n) a with
      | inl e =>
        rw [hx] at h2
        have h2 : BM b n S1 S2 e := h2
        rw [eb_l]
        exact bkX11_readLine_113 (fun hh => absurd hh (f13l h2)) (fun _ => bkX11_readLine_120 ⟨rfl, oN_bad hf h2⟩)
      | inr a1 =>
        rw [hx] at h2 hok
        have h2 : GM b n S1 S2 a1 p := h2
        rw [eb_r] at hok ⊢
        refine bkX11_readLine_113 (fun _ => ?_) (fun hh => absurd (by rw [g13 h2]; decide) hh)
        refine bkX11_readLine_121 (fun _ => ?_) (fun hh => absurd ((cmp 20 (by omega)).mp hh) (by omega))
        refine bkX11_readLine_134 (fun _ => ?_) (fun hh => absurd ((cmp 21 (by omega)).mp hh) (by omega))
        refine bkX11_readLine_157 (fun _ => ?_) (fun hh => absurd ((cmp 22 (by omega)).mp hh) (by omega))
        refine bkX11_readLine_182 (kM_readNumber h2 (lo := 0) (hi := 399) (by omega) (by omega) rfl rfl) ?_
        intro v S3 h3
        cases hx2 : p_nm (t_co b n) (t_vl b n) 0 399 a1 with
        | inl e =>
          rw [hx2] at h3
          rw [eb_l]
          refine bkX11_readLine_197 (by exact vp_lt (k := 233) (by omega) (by omega)) ?_
          exact tM_rl198 hf (BM_w h3)
        | inr a2 =>
          rw [hx2] at h3 hok
          rw [eb_r] at hok ⊢
          obtain ⟨rfl, g2⟩ := h3
          refine bkX11_readLine_197 (by exact vp_lt (k := 233) (by omega) (by omega)) ?_
          show Ev (d + 6) mX11_readLine 198 _ [] (sk_ S3 1201 0 (upd (S3.1 1201 0) 233 (nI (t_vl b n a1)))) _
          refine gM_rl198 (a0 := a) hf (GM_w g2) (RA_un hR hA rfl rfl (Or.inr ⟨rfl, rfl, rfl⟩)) (fun a3 h3 => ?_) ?_
          · rw [h3] at hok; exact hok.2
          · show S3.1 11 0 6 = _
            rw [g2.1.2 11 0 6 (by omega) (by omega), h61]
            rfl
/-! isWhole -/
def gdM (p : Nat → Nat) (s q : Nat) : Prop := p (48 + (3 * s + q)) = 8 ∨ p (48 + (3 * s + q)) < p 230
theorem kM_isWhole (hD : DrM S p) (hR : RA p x) (hA : AX x) : Ci d mX11_isWhole [vR 11 0] S (fun v S' => ∃ w : Bool, v = bi_ w ∧ (w = true ↔ okx x) ∧ S' = S) := by
  have h8 := hA.1
  have hd4 := hA.2.2.2.1
  have ha4 := hA.2.2.2.2
  have e232 : S.1 1201 0 232 = nI x.2.2.1 := by rw [hD 232 (by omega), hR.2.2.2.1]
  have e233 : S.1 1201 0 233 = nI x.2.2.2.1 := by rw [hD 233 (by omega), hR.2.2.2.2]
  have e230 : S.1 1201 0 230 = nI x.1.length := by rw [hD 230 (by omega), hR.1]
  have hgd : ∀ s q, s < x.1.length → q < (sg x.1 s).length → (gdM p s q ↔ ((bg (sg x.1 s) q).2.2 = 8 ∨ (bg (sg x.1 s) q).2.2 < x.1.length)) := by
    intro s q hs hq
    unfold gdM
    rw [((hR.2.1 s hs).2 q hq).2.2, hR.1]
  -- the branches of state s
  have inner : ∀ (s : Nat), s < x.1.length → (∀ (w : Bool) (o4 : Option av_T), (w = true ↔ x.2.2.2.1 < x.2.2.1 ∧ ∀ s' q', s' < s + 1 → q' < (sg x.1 s').length → gdM p s' q') → Ev d mX11_isWhole 106 [some (vR 11 0), some (vI (bi_ w)), some (vI (nI s)), some (vI (nI (sg x.1 s).length)), o4] [] S (fun r S' => ∃ v, r = some (vI v) ∧ ∃ w : Bool, v = bi_ w ∧ (w = true ↔ okx x) ∧ S' = S)) →
      ∀ (m q : Nat) (w : Bool) (o4 : Option av_T), q + m = (sg x.1 s).length → (w = true ↔ (x.2.2.2.1 < x.2.2.1 ∧ ∀ s' q', s' < s → q' < (sg x.1 s').length → gdM p s' q') ∧ ∀ q', q' < q → gdM p s q') → Ev d mX11_isWhole 41 [some (vR 11 0), some (vI (bi_ w)), some (vI (nI s)), some (vI (nI q)), o4] [] S (fun r S' => ∃ v, r = some (vI v) ∧ ∃ w : Bool, v = bi_ w ∧ (w = true ↔ okx x) ∧ S' = S) := by
    intro s hs kk m
    have hS := hA.2.1 s hs
    have h3 := hS.2.1
    have ei : (222 : Int32) + nI s = nI (222 + s) := by rw [show (222 : Int32) = nI 222 from rfl, nI_add]
    have e222 : S.1 1201 0 (222 + s) = nI (sg x.1 s).length := by rw [hD (222 + s) (by omega), (hR.2.1 s hs).1]
    induction m with
    | zero =>
      intro q w o4 hq hw
      have e : q = (sg x.1 s).length := by omega
      subst e
      refine bkX11_isWhole_41 (by rw [ei]; exact vp_lt (by omega) (by omega)) (fun _ => kk w _ ?_) (fun hh => absurd ?_ hh)
      · rw [hw]
        constructor
        · rintro ⟨⟨z1, z2⟩, z3⟩
          refine ⟨z1, fun s' q' k1 k2 => ?_⟩
          by_cases e : s' = s
          · subst e; exact z3 q' k2
          · exact z2 s' q' (by omega) k2
        · rintro ⟨z1, z2⟩
          exact ⟨⟨z1, fun s' q' k1 k2 => z2 s' q' (by omega) k2⟩, fun q' k => z2 s q' (by omega) k⟩
      · rw [ei, nI_clamp (by omega), e222]; exact nI_le (Nat.le_refl _) (by omega)
    | succ m ih =>
      intro q w o4 hq hw
      have hb8 := (hS.2.2 q (by omega)).2.2
      have ej : (48 : Int32) + 3 * nI s + nI q = nI (48 + (3 * s + q)) := by rw [show (48 : Int32) = nI 48 from rfl, show (3 : Int32) = nI 3 from rfl, pk_mul, nI_add, nI_add, Nat.add_assoc]
      have eto : S.1 1201 0 (48 + (3 * s + q)) = nI (p (48 + (3 * s + q))) := hD _ (by omega)
      have ple : p (48 + (3 * s + q)) ≤ 8 := by rw [((hR.2.1 s hs).2 q (by omega)).2.2]; exact hb8
      refine bkX11_isWhole_41 (by rw [ei]; exact vp_lt (by omega) (by omega)) (fun hh => absurd hh ?_) (fun _ => ?_)
      · rw [ei, nI_clamp (by omega), e222]; exact nl_ (by omega) (by omega)
      have step : ∀ (g : Bool) (o4 : Int32), (g = true ↔ w = true ∧ gdM p s q) → Ev d mX11_isWhole 99 [some (vR 11 0), some (vI (bi_ w)), some (vI (nI s)), some (vI (nI q)), some (vI o4)] [vI (bi_ g)] S (fun r S' => ∃ v, r = some (vI v) ∧ ∃ w : Bool, v = bi_ w ∧ (w = true ↔ okx x) ∧ S' = S) := by
        intro g o4 hg
        refine bkX11_isWhole_99 ?_
        rw [nI_1]
        refine ih (q + 1) g _ (by omega) ?_
        rw [hg, hw]
        constructor
        · rintro ⟨⟨z1, z2⟩, z3⟩
          refine ⟨z1, fun q' k => ?_⟩
          by_cases e : q' = q
          · subst e; exact z3
          · exact z2 q' (by omega)
        · rintro ⟨z1, z2⟩
          exact ⟨⟨z1, fun q' k => z2 q' (by omega)⟩, z2 q (by omega)⟩
      refine bkX11_isWhole_55 (by rw [ej]; exact vp_lt (by omega) (by omega)) ?_ ?_ <;> rw [ej, nI_clamp (by omega), eto]
      · intro hw0
        rw [bi_0] at hw0
        exact bkX11_isWhole_98 (step false _ ⟨fun z => absurd z (by decide), fun z => by rw [hw0] at z; exact absurd z.1 (by decide)⟩)
      · intro hw1
        rw [bi_ne0] at hw1
        refine bkX11_isWhole_74 (fun h => ?_) (fun h => ?_) <;> rw [show (8 : Int32) = nI 8 from rfl, nI_eq (by omega) (by omega)] at h
        · exact bkX11_isWhole_94 (step true _ ⟨fun _ => ⟨hw1, Or.inl h⟩, fun _ => rfl⟩)
        · refine bkX11_isWhole_81 (fun h2 => ?_) (fun h2 => ?_) <;> rw [hD 230 (by omega), nI_leI (by rw [hR.1]; omega) (by omega)] at h2
          · exact bkX11_isWhole_98 (step false _ ⟨fun z => absurd z (by decide), fun z => by rcases z.2 with z | z <;> omega⟩)
          · exact bkX11_isWhole_94 (step true _ ⟨fun _ => ⟨hw1, Or.inr (by omega)⟩, fun _ => rfl⟩)
  have outer : ∀ (m s : Nat) (w : Bool) (o3 o4 : Option av_T), s + m = x.1.length → (w = true ↔ x.2.2.2.1 < x.2.2.1 ∧ ∀ s' q', s' < s → q' < (sg x.1 s').length → gdM p s' q') → Ev d mX11_isWhole 27 [some (vR 11 0), some (vI (bi_ w)), some (vI (nI s)), o3, o4] [] S (fun r S' => ∃ v, r = some (vI v) ∧ ∃ w : Bool, v = bi_ w ∧ (w = true ↔ okx x) ∧ S' = S) := by
    intro m
    induction m with
    | zero =>
      intro s w o3 o4 hs hw
      have es : s = x.1.length := by omega
      subst es
      refine bkX11_isWhole_27 (fun _ => bkX11_isWhole_112 (bi_n w) ⟨_, rfl, w, rfl, ?_, rfl⟩) (fun hh => absurd ?_ hh)
      · rw [hw]
        unfold okx
        constructor
        · rintro ⟨z1, z2⟩
          exact ⟨z1, fun s q k1 k2 => (hgd s q k1 k2).mp (z2 s q k1 k2)⟩
        · rintro ⟨z1, z2⟩
          exact ⟨z1, fun s q k1 k2 => (hgd s q k1 k2).mpr (z2 s q k1 k2)⟩
      · rw [e230]; exact nI_le (Nat.le_refl _) (by omega)
    | succ m ih =>
      intro s w o3 o4 hs hw
      refine bkX11_isWhole_27 (fun hh => absurd hh (by rw [e230]; exact nl_ (by omega) (by omega))) (fun _ => bkX11_isWhole_39 ?_)
      refine inner s (by omega) (fun w o4 hw => ?_) (sg x.1 s).length 0 w _ (by omega) ?_
      · refine bkX11_isWhole_106 ?_
        rw [nI_1]
        exact ih (s + 1) w _ _ (by omega) hw
      · rw [hw]
        exact ⟨fun z => ⟨z, fun q' k => by omega⟩, fun z => z.1⟩
  refine cxX11_isWhole ?_
  refine bkX11_isWhole_0 (fun h => ?_) (fun h => ?_) <;> rw [e232, e233, nI_leI (by omega) (by omega)] at h
  · exact bkX11_isWhole_23 (bkX11_isWhole_24 (outer x.1.length 0 false _ _ (by omega) ⟨fun z => absurd z (by decide), fun z => by omega⟩))
  · exact bkX11_isWhole_19 (bkX11_isWhole_24 (outer x.1.length 0 true _ _ (by omega) ⟨fun _ => ⟨by omega, fun s' q' k => by omega⟩, fun _ => rfl⟩))
end ML
