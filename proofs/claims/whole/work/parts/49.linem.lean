/-! ===== the reference's branches, states, lines ===== -/
section MB
variable {d n a : Nat} {S S0 : hs_T} {b p : Nat → Nat} {e : er_T}
/-- a branch that was read -/
def BWm (c : Nat) (p : Nat → Nat) (x : br_T) (p' : Nat → Nat) : Prop := BR p' c x ∧ ∀ k, ¬ (inCd c k ∨ k = 24 + c ∨ k = 48 + c) → p' k = p k
def oM (α : Type) (b : Nat → Nat) (n : Nat) (S0 : hs_T) (res : er_T ⊕ (Nat × α)) (φ : α → (Nat → Nat) → Prop) (S : hs_T) : Prop := oc res (BM b n S0 S) (fun z => ∃ p', GM b n S0 S z.1 p' ∧ φ z.2 p')
section TB
variable {c : Nat} {Q : Option av_T → hs_T → Prop}
theorem tM_rb159 (h : BM b n S0 S e) (hc : c < 24) (hQ : ∀ S', BM b n S0 S' e → Q none S') : Ev (d + 4) mX11_readBranch 159 [some (vR 11 0), some (vI (nI c))] [] S Q := by
  refine bkX11_readBranch_159 (kM_readNumberW h) ?_
  intro v S' h'
  refine bkX11_readBranch_174 (by rw [show (48 : Int32) = nI 48 from rfl, nI_add]; exact vp_lt (by omega) (by omega)) ?_
  exact bkX11_readBranch_175 (hQ _ (BM_w h'))
theorem tM_rb107 (h : BM b n S0 S e) (hc : c < 24) (hQ : ∀ S', BM b n S0 S' e → Q none S') : Ev (d + 4) mX11_readBranch 107 [some (vR 11 0), some (vI (nI c))] [] S Q :=
  bkX11_readBranch_107 (fun _ => tM_rb159 h hc hQ) (fun hh => absurd hh (f13 h))
theorem tM_rb103 (h : BM b n S0 S e) (hc : c < 24) (hQ : ∀ S', BM b n S0 S' e → Q none S') : Ev (d + 4) mX11_readBranch 103 [some (vR 11 0), some (vI (nI c))] [] S Q := by
  refine bkX11_readBranch_103 (kM_tokenW h) ?_
  intro S' h'
  exact tM_rb107 h' hc hQ
theorem tM_rb69 (h : BM b n S0 S e) (hc : c < 24) (hQ : ∀ S', BM b n S0 S' e → Q none S') : Ev (d + 4) mX11_readBranch 69 [some (vR 11 0), some (vI (nI c))] [] S Q :=
  bkX11_readBranch_69 (fun _ => tM_rb103 h hc hQ) (fun hh => absurd hh (f13 h))
theorem tM_rb68 {y : Int32} (h : BM b n S0 S e) (hc : c < 24) (hQ : ∀ S', BM b n S0 S' e → Q none S') : Ev (d + 4) mX11_readBranch 68 [some (vR 11 0), some (vI (nI c))] [vI y, vI (24 + nI c), vR 1201 0] S Q :=
  bkX11_readBranch_68 (by rw [show (24 : Int32) = nI 24 from rfl, nI_add]; exact vp_lt (by omega) (by omega)) (tM_rb69 (BM_w h) hc hQ)
theorem tM_rb14 {y : Int32} (h : BM b n S0 S e) (hc : c < 24) (hQ : ∀ S', BM b n S0 S' e → Q none S') : Ev (d + 4) mX11_readBranch 14 [some (vR 11 0), some (vI (nI c))] [vI y, vI (0 + nI c), vR 1201 0] S Q := by
  refine bkX11_readBranch_14 (by rw [show (0 : Int32) = nI 0 from rfl, nI_add]; exact vp_lt (by omega) (by omega)) (by rw [show (24 : Int32) = nI 24 from rfl, nI_add]; exact vp_lt (by omega) (by omega)) (fun _ => tM_rb69 (BM_w (BM_w h)) hc hQ) (fun hh => absurd hh (f13 (BM_w (BM_w h))))
end TB
theorem kM_readBranchW {c : Nat} (h : BM b n S0 S e) (hc : c < 24) : Cv (d + 4) mX11_readBranch [vR 11 0, vI (nI c)] S (fun S' => BM b n S0 S' e) := by
  refine cxX11_readBranch ?_
  refine bkX11_readBranch_0 (kM_readCondW h) ?_
  intro v S' h'
  exact tM_rb14 h' hc (fun S' h' => ⟨rfl, h'⟩)
theorem kM_readBranch {c : Nat} (h : GM b n S0 S a p) (hc : c < 24) {x : Int32} (hx : x = nI c) : Cv (d + 4) mX11_readBranch [vR 11 0, vI x] S (oM _ b n S0 (p_br (t_co b n) (t_vl b n) a) (BWm c p)) := by
  subst hx
  have hcx := cx_lt hc
  refine cxX11_readBranch ?_
  unfold p_br
  refine bkX11_readBranch_0 (kM_readCond (c := c) (by omega) h (by rw [show (3 : Int32) = nI 3 from rfl, pk_mul])) ?_
  intro v S1 h1
  have hok := p_cd_ok (t_co b n) (t_vl b n) 3 true a
  cases hx1 : p_cd (t_co b n) (t_vl b n) true 3 a with
  | inl e =>
    rw [hx1] at h1
    rw [eb_l]
    exact tM_rb14 h1 hc (fun S' h' => ⟨rfl, h'⟩)
  | inr z =>
    rw [hx1] at h1 hok
    obtain ⟨a1, l⟩ := z
    obtain ⟨hv, p1, g1, w1⟩ := h1
    have g1 : GM b n S0 S1 a1 p1 := g1
    have w1 : PM c 0 l p p1 := w1
    have hl3 : l.length ≤ 3 := hok.2.2.1
    have hv : v = nI l.length := by rw [hv]; show nI (0 + l.length) = _; rw [Nat.zero_add]
    subst hv
    rw [eb_r]
    have e0 : (0 : Int32) + nI c = nI c := by rw [show (0 : Int32) = nI 0 from rfl, nI_add, Nat.zero_add]
    have e24 : (24 : Int32) + nI c = nI (24 + c) := by rw [show (24 : Int32) = nI 24 from rfl, nI_add]
    have e48 : (48 : Int32) + nI c = nI (48 + c) := by rw [show (48 : Int32) = nI 48 from rfl, nI_add]
    -- the row so far, with times t
    have row : ∀ t g k, (un_ (un_ (un_ (un_ p1 c l.length) (24 + c) 1) (24 + c) t) (48 + c) g) k = (un_ (un_ (un_ p1 c l.length) (24 + c) t) (48 + c) g) k := by
      intro t g k
      unfold un_
      by_cases k1 : k = 48 + c
      · rw [if_pos k1, if_pos k1]
      · rw [if_neg k1, if_neg k1]
        by_cases k2 : k = 24 + c
        · rw [if_pos k2, if_pos k2]
        · rw [if_neg k2, if_neg k2, if_neg k2]
    have fin : ∀ (t g : Nat) (p2 : Nat → Nat), (∀ k, k ≠ 48 + c → p2 k = un_ (un_ p1 c l.length) (24 + c) t k) → p2 (48 + c) = g → BWm c p (l, t, g) p2 := by
      intro t g p2 hp hg
      refine ⟨⟨⟨?_, fun i hi => ?_⟩, ?_, hg⟩, fun k hk => ?_⟩
      · rw [hcx, hp _ (by omega), un_n (by omega), un_s]
      · have hi : i < l.length := hi
        have := w1.1 i hi
        rw [Nat.zero_add] at this
        rw [hp _ (by omega), hp _ (by omega), un_n (by omega), un_n (by omega), un_n (by omega), un_n (by omega)]
        exact this
      · rw [hp _ (by omega), un_s]
      · unfold inCd at hk
        rw [hcx] at hk
        rw [hp _ (by omega), un_n (by omega), un_n (by omega)]
        exact w1.2 k (by omega) (by omega)
    -- from 'go' on
    have k107 : ∀ (S : hs_T) (a5 t : Nat), GM b n S0 S a5 (un_ (un_ p1 c l.length) (24 + c) t) → Ev (d + 4) mX11_readBranch 107 [some (vR 11 0), some (vI (nI c))] [] S (fun r' S' => r' = none ∧ oM _ b n S0 (eb (p_to (t_co b n) (t_vl b n) a5) (fun z => .inr (z.1, (l, t, z.2)))) (BWm c p) S') := by
      intro S a5 t h5
      unfold p_to
      have num : ¬ t_co b n a5 = 10 → (so (t_co b n a5) ≠ 1) → Ev (d + 4) mX11_readBranch 159 [some (vR 11 0), some (vI (nI c))] [] S (fun r' S' => r' = none ∧ oM _ b n S0 (eb (if t_co b n a5 = 10 then eb (p_nx (t_co b n) a5) (fun a6 => .inr (a6, 8)) else eb (p_nm (t_co b n) (t_vl b n) 0 7 a5) (fun a6 => .inr (a6, t_vl b n a5))) (fun z => .inr (z.1, (l, t, z.2)))) (BWm c p) S') := by
        intro n10 _
        rw [if_neg n10]
        refine bkX11_readBranch_159 (kM_readNumber h5 (lo := 0) (hi := 7) (by omega) (by omega) rfl rfl) ?_
        intro v S2 h2
        rw [e48]
        cases hx : p_nm (t_co b n) (t_vl b n) 0 7 a5 with
        | inl e =>
          rw [hx] at h2
          rw [eb_l, eb_l]
          refine bkX11_readBranch_174 (vp_lt (by omega) (by omega)) ?_
          exact bkX11_readBranch_175 ⟨rfl, BM_w h2⟩
        | inr a6 =>
          rw [hx] at h2
          obtain ⟨rfl, h2⟩ := h2
          rw [eb_r, eb_r]
          refine bkX11_readBranch_174 (vp_lt (by omega) (by omega)) ?_
          rw [nI_clamp (by omega)]
          exact bkX11_readBranch_175 ⟨rfl, _, GM_w h2, fin _ _ _ (fun k hk => un_n hk) (un_s _ _ _)⟩
      refine bkX11_readBranch_107 (fun hh => absurd (g13 h5) hh) (fun _ => ?_)
      refine bkX11_readBranch_114 (fun hh => ?_) (fun hh => ?_) <;> rw [show (1 : Int32) = nI 1 from rfl, srt h5.2.2.1 (by omega)] at hh
      · refine num (fun h10 => hh ?_) hh
        rw [so_1]; omega
      · refine bkX11_readBranch_122 (kM_wordG h5 hh) ?_
        rintro _ S ⟨rfl, rfl⟩
        by_cases h10 : t_co b n a5 = 10
        · rw [if_pos h10, if_pos (by omega), h10]
          refine bkX11_readBranch_127 (fun hh => absurd rfl hh) (fun _ => bkX11_readBranch_132 (bkX11_readBranch_137 kM_needsT ?_))
          rintro S rfl
          have h6 := GM_w (k := 48 + c) (v := 8) h5
          refine bkX11_readBranch_141 (P := fun S' => oc (p_nx (t_co b n) a5) (BM b n S0 S') (fun a' => GM b n S0 S' a' (un_ (un_ (un_ p1 c l.length) (24 + c) t) (48 + c) 8))) (by rw [e48]; exact vp_lt (by omega) (by omega)) (by rw [e48, nI_clamp (by omega)]; exact kM_tokenG h6) ?_
          intro S2 h2
          refine bkX11_readBranch_156 (bkX11_readBranch_175 ⟨rfl, ?_⟩)
          cases hx : p_nx (t_co b n) a5 with
          | inl e => rw [hx] at h2; exact h2
          | inr a6 =>
            rw [hx] at h2
            exact ⟨_, h2, fin _ _ _ (fun k hk => un_n hk) (un_s _ _ _)⟩
        · rw [if_neg h10]
          have hn2 : ¬ t_co b n a5 = 2 := ((so_1 _).mp hh).2.1
          have epn : p_nm (t_co b n) (t_vl b n) 0 7 a5 = .inl (2, a5) := by unfold p_nm; rw [if_neg hn2]
          rw [epn, eb_l, eb_l]
          have hny : ¬ (if 8 ≤ t_co b n a5 ∧ t_co b n a5 ≤ 10 then nI (t_co b n a5 + 22) else (-4)) = 32 := by
            by_cases hr : 8 ≤ t_co b n a5 ∧ t_co b n a5 ≤ 10
            · rw [if_pos hr, show (32 : Int32) = nI 32 from rfl, nI_eq (by omega) (by omega)]; omega
            · rw [if_neg hr]; decide
          refine bkX11_readBranch_127 (fun _ => bkX11_readBranch_136 (bkX11_readBranch_137 (kM_needsG h5 (by omega) (c := 2) rfl) ?_)) (fun hh => absurd hh hny)
          intro S2 h2
          refine bkX11_readBranch_141 (by rw [e48]; exact vp_lt (by omega) (by omega)) (kM_tokenW (BM_w h2)) ?_
          intro S3 h3
          exact bkX11_readBranch_156 (bkX11_readBranch_175 ⟨rfl, h3⟩)
    have k69 : ∀ (S : hs_T) (a4 t : Nat), GM b n S0 S a4 (un_ (un_ p1 c l.length) (24 + c) t) → Ev (d + 4) mX11_readBranch 69 [some (vR 11 0), some (vI (nI c))] [] S (fun r' S' => r' = none ∧ oM _ b n S0 (eb (p_tk (t_co b n) 9 a4) (fun a5 => eb (p_to (t_co b n) (t_vl b n) a5) (fun z => .inr (z.1, (l, t, z.2))))) (BWm c p) S') := by
      intro S a4 t h4
      unfold p_tk
      have no : ¬ t_co b n a4 = 9 → Ev (d + 4) mX11_readBranch 98 [some (vR 11 0), some (vI (nI c))] [vR 11 0] S (fun r' S' => r' = none ∧ oM _ b n S0 (eb (if t_co b n a4 = 9 then p_nx (t_co b n) a4 else .inl (2, a4)) (fun a5 => eb (p_to (t_co b n) (t_vl b n) a5) (fun z => .inr (z.1, (l, t, z.2))))) (BWm c p) S') := by
        intro h9
        rw [if_neg h9, eb_l]
        refine bkX11_readBranch_98 (bkX11_readBranch_99 (kM_needsG h4 (by omega) (c := 2) rfl) ?_)
        intro S2 h2
        exact tM_rb103 h2 hc (fun S' h' => ⟨rfl, h'⟩)
      refine bkX11_readBranch_69 (fun hh => absurd (g13 h4) hh) (fun _ => ?_)
      refine bkX11_readBranch_76 (fun hh => ?_) (fun hh => ?_) <;> rw [show (1 : Int32) = nI 1 from rfl, srt h4.2.2.1 (by omega)] at hh
      · refine no (fun h9 => hh ?_)
        rw [so_1]; omega
      · refine bkX11_readBranch_85 (kM_wordG h4 hh) ?_
        rintro _ S ⟨rfl, rfl⟩
        by_cases h9 : t_co b n a4 = 9
        · rw [if_pos (by omega), if_pos h9, h9]
          refine bkX11_readBranch_89 (fun hh => absurd rfl hh) (fun _ => bkX11_readBranch_94 (bkX11_readBranch_99 kM_needsT ?_))
          rintro S rfl
          refine bkX11_readBranch_103 (kM_tokenG h4) ?_
          intro S2 h2
          cases hx : p_nx (t_co b n) a4 with
          | inl e =>
            rw [hx] at h2
            rw [eb_l]
            exact tM_rb107 h2 hc (fun S' h' => ⟨rfl, h'⟩)
          | inr a5 =>
            rw [hx] at h2
            rw [eb_r]
            exact k107 S2 a5 t h2
        · have hny : ¬ (if 8 ≤ t_co b n a4 ∧ t_co b n a4 ≤ 10 then nI (t_co b n a4 + 22) else (-4)) = 31 := by
            by_cases hr : 8 ≤ t_co b n a4 ∧ t_co b n a4 ≤ 10
            · rw [if_pos hr, show (31 : Int32) = nI 31 from rfl, nI_eq (by omega) (by omega)]; omega
            · rw [if_neg hr]; decide
          exact bkX11_readBranch_89 (fun _ => no h9) (fun hh => absurd hh hny)
    -- the two stores
    have g2 : GM b n S0 (sk_ (sk_ S1 1201 0 (upd (S1.1 1201 0) c (nI l.length))) 1201 0 (upd ((sk_ S1 1201 0 (upd (S1.1 1201 0) c (nI l.length))).1 1201 0) (24 + c) 1)) a1 (un_ (un_ p1 c l.length) (24 + c) 1) := GM_w (k := 24 + c) (v := 1) (GM_w (k := c) (v := l.length) g1)
    show Ev (d + 4) mX11_readBranch 14 _ _ S1 (fun r' S' => r' = none ∧ oM _ b n S0 (eb (p_tt (t_co b n) (t_vl b n) a1) (fun w => eb (p_tk (t_co b n) 9 w.1) (fun a5 => eb (p_to (t_co b n) (t_vl b n) a5) (fun z => .inr (z.1, (l, w.2, z.2)))))) (BWm c p) S')
    refine bkX11_readBranch_14 (by rw [e0]; exact vp_lt (by omega) (by omega)) (by rw [e24]; exact vp_lt (by omega) (by omega)) ?_ ?_ <;> rw [e0, e24, nI_clamp (by omega), nI_clamp (by omega)]
    · intro hh; exact absurd (g13 g2) hh
    · intro _
      generalize sk_ (sk_ S1 1201 0 _) 1201 0 _ = S2 at g2 ⊢
      unfold p_tt
      have one : ¬ t_co b n a1 = 8 → Ev (d + 4) mX11_readBranch 69 [some (vR 11 0), some (vI (nI c))] [] S2 (fun r' S' => r' = none ∧ oM _ b n S0 (eb (if t_co b n a1 = 8 then eb (p_nx (t_co b n) a1) (fun a2 => eb (p_nm (t_co b n) (t_vl b n) 1 99 a2) (fun a3 => .inr (a3, t_vl b n a2))) else .inr (a1, 1)) (fun w => eb (p_tk (t_co b n) 9 w.1) (fun a5 => eb (p_to (t_co b n) (t_vl b n) a5) (fun z => .inr (z.1, (l, w.2, z.2)))))) (BWm c p) S') := by
        intro h8
        rw [if_neg h8, eb_r]
        exact k69 S2 a1 1 g2
      refine bkX11_readBranch_32 (fun hh => ?_) (fun hh => ?_) <;> rw [show (1 : Int32) = nI 1 from rfl, srt g2.2.2.1 (by omega)] at hh
      · refine one (fun h8 => hh ?_)
        rw [so_1]; omega
      · refine bkX11_readBranch_40 (kM_wordG g2 hh) ?_
        rintro _ S ⟨rfl, rfl⟩
        by_cases h8 : t_co b n a1 = 8
        · rw [if_pos h8, if_pos (by omega), h8]
          refine bkX11_readBranch_44 (fun hh => absurd rfl hh) (fun _ => ?_)
          refine bkX11_readBranch_49 (kM_tokenG g2) ?_
          intro S3 h3
          cases hx : p_nx (t_co b n) a1 with
          | inl e =>
            rw [hx] at h3
            rw [eb_l, eb_l]
            refine bkX11_readBranch_53 (kM_readNumberW h3) ?_
            intro v S4 h4
            exact tM_rb68 h4 hc (fun S' h' => ⟨rfl, h'⟩)
          | inr a2 =>
            rw [hx] at h3
            rw [eb_r]
            refine bkX11_readBranch_53 (kM_readNumber h3 (lo := 1) (hi := 99) (by omega) (by omega) rfl rfl) ?_
            intro v S4 h4
            cases hx2 : p_nm (t_co b n) (t_vl b n) 1 99 a2 with
            | inl e =>
              rw [hx2] at h4
              rw [eb_l, eb_l]
              exact tM_rb68 h4 hc (fun S' h' => ⟨rfl, h'⟩)
            | inr a3 =>
              rw [hx2] at h4
              obtain ⟨rfl, h4⟩ := h4
              rw [eb_r, eb_r, e24]
              refine bkX11_readBranch_68 (vp_lt (by omega) (by omega)) ?_
              rw [nI_clamp (by omega)]
              have h5 := GM_w (k := 24 + c) (v := t_vl b n a2) h4
              have er : un_ (un_ (un_ p1 c l.length) (24 + c) 1) (24 + c) (t_vl b n a2) = un_ (un_ p1 c l.length) (24 + c) (t_vl b n a2) := by
                funext k
                unfold un_
                by_cases k2 : k = 24 + c
                · rw [if_pos k2, if_pos k2]
                · rw [if_neg k2, if_neg k2, if_neg k2]
              rw [er] at h5
              exact k69 _ a3 _ h5
        · have hny : ¬ (if 8 ≤ t_co b n a1 ∧ t_co b n a1 ≤ 10 then nI (t_co b n a1 + 22) else (-4)) = 30 := by
            by_cases hr : 8 ≤ t_co b n a1 ∧ t_co b n a1 ≤ 10
            · rw [if_pos hr, show (30 : Int32) = nI 30 from rfl, nI_eq (by omega) (by omega)]; omega
            · rw [if_neg hr]; decide
          exact bkX11_readBranch_44 (fun _ => one h8) (fun hh => absurd hh hny)
/-! states -/
def p_qb (T V : Nat → Nat) (m a : Nat) : er_T ⊕ (Nat × List br_T) := eb (p_br T V a) (fun q => if T q.1 = 124 then eb (p_bs T V m q.1) (fun z => .inr (z.1, q.2 :: z.2)) else .inr (q.1, [q.2]))
theorem p_bs_q (T V : Nat → Nat) (m a : Nat) : p_bs T V (m + 1) a = eb (p_nx T a) (fun a1 => p_qb T V m a1) := rfl
def SM (s q : Nat) (p : Nat → Nat) (l : List br_T) (p' : Nat → Nat) : Prop := (∀ i, i < l.length → BR p' (3 * s + (q + i)) (bg l i)) ∧ p' (222 + s) = q + l.length ∧ p' 230 = s + 1 ∧ ∀ k, k ≠ 222 + s → k ≠ 230 → (∀ i, q ≤ i → i < 3 → ¬ (inCd (3 * s + i) k ∨ k = 24 + (3 * s + i) ∨ k = 48 + (3 * s + i))) → p' k = p k
theorem tM_rs83 {s : Nat} {x2 x3 : Int32} (h : BM b n S0 S e) (hs : s < 8) {Q : Option av_T → hs_T → Prop} (hQ : ∀ S', BM b n S0 S' e → Q none S') : Ev (d + 5) mX11_readState 13 [some (vR 11 0), some (vI (nI s)), some (vI x2), some (vI x3)] [] S Q :=
  bkX11_readState_13 (fun _ => bkX11_readState_83 (by rw [show (222 : Int32) = nI 222 from rfl, nI_add]; exact vp_lt (by omega) (by omega)) (hQ _ (BM_w (BM_w h)))) (fun hh => absurd hh (f13 h))
theorem SM_1 {s q : Nat} {x : br_T} {p p1 : Nat → Nat} (hs : s < 8) (hq : q < 3) (hx : x.1.length ≤ 3) (w : BWm (3 * s + q) p x p1) : SM s q p [x] (un_ (un_ p1 (222 + s) (q + 1)) 230 (s + 1)) := by
  have hcx := cx_lt (show 3 * s + q < 24 by omega)
  refine ⟨fun i hi => ?_, ?_, un_s _ _ _, fun k k1 k2 k3 => ?_⟩
  · have e : i = 0 := by simp at hi; omega
    subst e
    refine BR_of (u := p1) (x := x) w.1 hx (fun k hk => ?_)
    unfold inCd at hk
    rw [show q + 0 = q from rfl, hcx] at hk
    rw [un_n (by omega), un_n (by omega)]
  · rw [un_n (by omega), un_s]; rfl
  · rw [un_n k2, un_n k1]
    exact w.2 k (k3 q (Nat.le_refl _) hq)
theorem SM_c {s q : Nat} {x : br_T} {l : List br_T} {p p1 p' : Nat → Nat} (hs : s < 8) (hq : q < 3) (hx : x.1.length ≤ 3) (w : BWm (3 * s + q) p x p1) (h : SM s (q + 1) p1 l p') : SM s q p (x :: l) p' := by
  have hcx := cx_lt (show 3 * s + q < 24 by omega)
  obtain ⟨h1, h2, h3, h4⟩ := h
  refine ⟨fun i hi => ?_, by rw [h2]; simp; omega, h3, fun k k1 k2 k3 => ?_⟩
  · match i, hi with
    | 0, _ =>
      refine BR_of (u := p1) (x := x) w.1 hx (fun k hk => ?_)
      unfold inCd at hk
      rw [show q + 0 = q from rfl, hcx] at hk
      refine h4 k (by omega) (by omega) (fun i i1 i2 hh => ?_)
      unfold inCd at hh
      rw [cx_lt (by omega)] at hh
      omega
    | i + 1, hi =>
      have := h1 i (by simp at hi; exact hi)
      rw [show q + (i + 1) = q + 1 + i by omega]
      exact this
  · rw [h4 k k1 k2 (fun i i1 i2 => k3 i (by omega) i2)]
    exact w.2 k (k3 q (Nat.le_refl _) hq)
theorem sM_readState {s m q : Nat} (hs : s < 8) (hq : q < 3) (h : GM b n S0 S a p)
    (hnx : ∀ (S1 : hs_T) (a2 : Nat) (p1 : Nat → Nat), GM b n S0 S1 a2 p1 → t_co b n a2 = 124 → Ev (d + 5) mX11_readState 61 [some (vR 11 0), some (vI (nI s)), some (vI (nI (q + 1))), some (vI 1)] [] S1 (fun r S' => r = none ∧ oM _ b n S0 (p_bs (t_co b n) (t_vl b n) m a2) (SM s (q + 1) p1) S')) :
    Ev (d + 5) mX11_readState 13 [some (vR 11 0), some (vI (nI s)), some (vI (nI q)), some (vI 1)] [] S (fun r S' => r = none ∧ oM _ b n S0 (p_qb (t_co b n) (t_vl b n) m a) (SM s q p) S') := by
  unfold p_qb
  have hok := p_br_ok (t_co b n) (t_vl b n) a
  have e222 : (222 : Int32) + nI s = nI (222 + s) := by rw [show (222 : Int32) = nI 222 from rfl, nI_add]
  refine bkX11_readState_13 (fun hh => absurd (g13 h) hh) (fun _ => ?_)
  refine bkX11_readState_20 (fun hh => absurd hh (by decide)) (fun _ => ?_)
  refine bkX11_readState_24 (kM_readBranch h (c := 3 * s + q) (by omega) (by rw [show (3 : Int32) = nI 3 from rfl, pk_mul, nI_add])) ?_
  intro S1 h1
  cases hx : p_br (t_co b n) (t_vl b n) a with
  | inl e =>
    rw [hx] at h1
    have h1 : BM b n S0 S1 e := h1
    rw [eb_l]
    refine bkX11_readState_33 (fun _ => bkX11_readState_55 (bkX11_readState_56 (fun _ => ?_) (fun hh => absurd rfl hh))) (fun hh => absurd hh (f13 h1))
    exact tM_rs83 h1 hs (fun S' h' => ⟨rfl, h'⟩)
  | inr z =>
    rw [hx] at h1 hok
    obtain ⟨a2, x⟩ := z
    obtain ⟨p1, g1, w1⟩ := h1
    have g1 : GM b n S0 S1 a2 p1 := g1
    have w1 : BWm (3 * s + q) p x p1 := w1
    have hx3 : x.1.length ≤ 3 := hok.2.1.2.1
    rw [eb_r]
    refine bkX11_readState_33 (fun hh => absurd (g13 g1) hh) (fun _ => ?_)
    rw [nI_1]
    refine bkX11_readState_43 (fun hh => ?_) (fun hh => ?_) <;> rw [show (4 : Int32) = nI 4 from rfl, srt g1.2.2.1 (by omega), so_4] at hh
    · rw [if_neg hh]
      refine bkX11_readState_55 (bkX11_readState_56 (fun _ => ?_) (fun hh => absurd rfl hh))
      refine bkX11_readState_13 (fun hh => absurd (g13 g1) hh) (fun _ => ?_)
      refine bkX11_readState_20 (fun _ => ?_) (fun hh => absurd rfl hh)
      refine bkX11_readState_83 (by rw [e222]; exact vp_lt (by omega) (by omega)) ⟨rfl, ?_⟩
      rw [e222, nI_clamp (by omega), nI_1]
      exact ⟨_, GM_w (GM_w g1), SM_1 hs hq hx3 w1⟩
    · rw [if_pos hh]
      refine bkX11_readState_51 (bkX11_readState_56 (fun h0 => absurd h0 (by decide)) (fun _ => ?_))
      refine (hnx S1 a2 p1 g1 hh).imp ?_
      rintro r S' ⟨rfl, h'⟩
      refine ⟨rfl, ?_⟩
      show oM _ b n S0 (eb (p_bs (t_co b n) (t_vl b n) m a2) (fun z => .inr (z.1, x :: z.2))) (SM s q p) S'
      cases hx3' : p_bs (t_co b n) (t_vl b n) m a2 with
      | inl e => rw [hx3'] at h'; exact h'
      | inr y =>
        rw [hx3'] at h'
        obtain ⟨p', f1, f2⟩ := h'
        exact ⟨p', f1, SM_c hs hq hx3 w1 f2⟩
theorem lM_readState {s : Nat} (hs : s < 8) : ∀ (m q a : Nat) (S : hs_T) (p : Nat → Nat), q + (m + 1) = 3 → GM b n S0 S a p →
    Ev (d + 5) mX11_readState 13 [some (vR 11 0), some (vI (nI s)), some (vI (nI q)), some (vI 1)] [] S (fun r S' => r = none ∧ oM _ b n S0 (p_qb (t_co b n) (t_vl b n) m a) (SM s q p) S') := by
  intro m
  induction m with
  | zero =>
    intro q a S p hq h
    refine sM_readState hs (by omega) h (fun S1 a2 p1 h1 _ => ?_)
    refine bkX11_readState_61 (fun _ => bkX11_readState_71 (bkX11_readState_72 (kM_needsG h1 (by omega) (c := 5) rfl) ?_)) (fun hh => absurd (nI_le (a := 3) (b := q + 1) (by omega) (by omega)) hh)
    intro S2 h2
    refine bkX11_readState_76 (kM_tokenW h2) ?_
    intro S3 h3
    exact bkX11_readState_80 (tM_rs83 h3 hs (fun S' h' => ⟨rfl, h'⟩))
  | succ m ih =>
    intro q a S p hq h
    refine sM_readState hs (by omega) h (fun S1 a2 p1 h1 _ => ?_)
    rw [p_bs_q]
    refine bkX11_readState_61 (fun hh => absurd hh (nl_ (b := 3) (by omega) (by omega))) (fun _ => bkX11_readState_67 (bkX11_readState_72 kM_needsT ?_))
    rintro S1 rfl
    refine bkX11_readState_76 (kM_tokenG h1) ?_
    intro S2 h2
    cases hx : p_nx (t_co b n) a2 with
    | inl e =>
      rw [hx] at h2
      rw [eb_l]
      exact bkX11_readState_80 (tM_rs83 h2 hs (fun S' h' => ⟨rfl, h'⟩))
    | inr a4 =>
      rw [hx] at h2
      rw [eb_r]
      exact bkX11_readState_80 (ih (q + 1) a4 S2 p1 (by omega) h2)
theorem kM_readState {s : Nat} (h : GM b n S0 S a p) (hs : s < 8) (hp : p 230 = s) : Cv (d + 5) mX11_readState [vR 11 0] S (oM _ b n S0 (p_qb (t_co b n) (t_vl b n) 2 a) (SM s 0 p)) := by
  refine cxX11_readState ?_
  refine bkX11_readState_0 ?_
  rw [h.2.2.2 230 (by omega), hp]
  exact lM_readState hs 2 0 a S p (by omega) h
/-! lines -/
def tlB (k d a : Bool) : Int32 := (if k then 2097152 else 0) + (if d then 4194304 else 0) + (if a then 8388608 else 0)
theorem tlB_k : ∀ k d a : Bool, ((tlB k d a >>> (nI 21 &&& 31)) &&& 1 = bi_ k) ∧ (tlB k d a ||| (1 <<< (nI 21 &&& 31)) = tlB true d a) := by decide +kernel
theorem tlB_d : ∀ k d a : Bool, ((tlB k d a >>> (nI 22 &&& 31)) &&& 1 = bi_ d) ∧ (tlB k d a ||| (1 <<< (nI 22 &&& 31)) = tlB k true a) := by decide +kernel
theorem tlB_a : ∀ k d a : Bool, ((tlB k d a >>> (nI 23 &&& 31)) &&& 1 = bi_ a) ∧ (tlB k d a ||| (1 <<< (nI 23 &&& 31)) = tlB k d true) := by decide +kernel
def tl_ (x : ax_T) : Int32 := tlB (decide (0 < x.2.1.length)) x.2.2.2.2.1 x.2.2.2.2.2
/-- the reference between lines -/
def LMs (b : Nat → Nat) (n : Nat) (S : hs_T) (a : Nat) (x : ax_T) : Prop := ∃ p, GM b n S S a p ∧ RA p x ∧ AX x ∧ S.1 11 0 6 = tl_ x
def fN (S0 S : hs_T) : Prop := S.2 = S0.2 ∧ ∀ k j f, ¬ (k = 11 ∧ (f = 6 ∨ (9 ≤ f ∧ f ≤ 14))) → k ≠ 1201 → S.1 k j f = S0.1 k j f
theorem fN_rf (S : hs_T) : fN S S := ⟨rfl, fun _ _ _ _ _ => rfl⟩
theorem fN_tr {S S' S'' : hs_T} (h : fN S S') (h2 : fN S' S'') : fN S S'' := ⟨h2.1.trans h.1, fun k j f a c => (h2.2 k j f a c).trans (h.2 k j f a c)⟩
theorem fM_fN {S S' : hs_T} (h : fM S S') : fN S S' := ⟨h.1, fun k j f a c => h.2 k j f (by omega) c⟩
theorem fN_6 {x : Int32} : fN S (sk_ S 11 0 (upd (S.1 11 0) 6 x)) := by
  refine ⟨rfl, fun k j f a c => ?_⟩
  rw [rd_]
  by_cases e : k = 11 ∧ j = 0
  · rw [if_pos e]
    obtain ⟨rfl, rfl⟩ := e
    exact pk_un (by omega)
  · rw [if_neg e]
theorem GM_6 {x : Int32} (h : GM b n S S a p) : GM b n (sk_ S 11 0 (upd (S.1 11 0) 6 x)) (sk_ S 11 0 (upd (S.1 11 0) 6 x)) a p := by
  obtain ⟨h1, ⟨t1, t2, t3⟩, ⟨r1, r2, r3, r4, r5, r6⟩, h4⟩ := h
  refine ⟨fM_rf _, ⟨?_, t2, t3⟩, ⟨?_, ?_, ?_, fun hc => ?_, ?_, r6⟩, h4⟩ <;> rw [sk_at, pk_un (by omega)]
  · exact t1
  · exact r1
  · exact r2
  · exact r3
  · exact r4 hc
  · exact r5
theorem BM_base {S1 : hs_T} (h : BM b n S1 S e) : BM b n S S e := ⟨fM_rf S, h.2⟩
theorem GM_base {S1 : hs_T} (h : GM b n S1 S a p) : GM b n S S a p := ⟨fM_rf S, h.2⟩
def oN (b : Nat → Nat) (n : Nat) (S0 : hs_T) (res : er_T ⊕ (Nat × ax_T)) (S : hs_T) : Prop := fN S0 S ∧ oc res (BM b n S S) (fun z => LMs b n S z.1 z.2)
theorem oN_bad {S1 S' : hs_T} (hf : fN S S1) (h : BM b n S1 S' e) : oN b n S (.inl e) S' := ⟨fN_tr hf (fM_fN h.1), BM_base h⟩
theorem tM_rl198 {x1 : Int32} {S1 : hs_T} (hf : fN S S1) {S2 : hs_T} (h : BM b n S1 S2 e) : Ev (d + 6) mX11_readLine 198 [some (vR 11 0), some (vI x1)] [] S2 (fun r S' => r = none ∧ oN b n S (.inl e) S') := by
  refine bkX11_readLine_198 (fun _ => ?_) (fun hh => absurd hh (f13 h))
  refine bkX11_readLine_223 (kM_tokenW h) ?_
  intro S' h'
  exact bkX11_readLine_227 ⟨rfl, oN_bad hf h'⟩
theorem gM_rl198 {x1 : Int32} {S1 S2 : hs_T} {y : ax_T} {a0 : Nat} (hf : fN S S1) (h : GM b n S1 S2 a p) (hR : RA p y) (hA : ∀ a2, p_tk (t_co b n) 59 a = .inr a2 → AX y) (h6 : S2.1 11 0 6 = tl_ y) : Ev (d + 6) mX11_readLine 198 [some (vR 11 0), some (vI x1)] [] S2 (fun r S' => r = none ∧ oN b n S (eb (p_tk (t_co b n) 59 a) (fun a2 => .inr (a2, y))) S') := by
  refine bkX11_readLine_198 (fun hh => absurd (g13 h) hh) (fun _ => ?_)
  refine bkX11_readLine_205 (fun hh => ?_) (fun hh => ?_) <;> rw [show (3 : Int32) = nI 3 from rfl, srt h.2.2.1 (by omega), so_3] at hh
  · have e : p_tk (t_co b n) 59 a = .inl (2, a) := by unfold p_tk; rw [if_neg hh]
    rw [e, eb_l]
    refine bkX11_readLine_218 (bkX11_readLine_219 (kM_needsG h (by omega) (c := 2) rfl) ?_)
    intro S3 h3
    refine bkX11_readLine_223 (kM_tokenW h3) ?_
    intro S' h'
    exact bkX11_readLine_227 ⟨rfl, oN_bad hf h'⟩
  · have e : p_tk (t_co b n) 59 a = p_nx (t_co b n) a := by unfold p_tk; rw [if_pos hh]
    rw [e] at hA
    rw [e]
    refine bkX11_readLine_214 (bkX11_readLine_219 kM_needsT ?_)
    rintro S2 rfl
    refine bkX11_readLine_223 (kM_token h.2.1 h.2.2.1) ?_
    rintro S' ⟨hF, h'⟩
    refine bkX11_readLine_227 ⟨rfl, ?_⟩
    have hfS : fN S S' := fN_tr (fN_tr hf (fM_fN h.1)) (fM_fN (fK_fM hF))
    cases hx : p_nx (t_co b n) a with
    | inl e => rw [hx] at h'; exact ⟨hfS, fM_rf _, h'⟩
    | inr a2 =>
      rw [hx] at h'
      refine ⟨hfS, p, ⟨fM_rf _, TpM_fK hF h.2.1, h', DrM_fK hF h.2.2.2⟩, hR, hA a2 hx, ?_⟩
      rw [hF.2 11 0 6 (by omega)]; exact h6
end MB
