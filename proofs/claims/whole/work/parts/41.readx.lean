/-! ===== the class's reader: conditions, branches, states ===== -/
theorem FX_of {S S' : hs_T} {b : Nat → Nat} {n : Nat} {e : er_T} (h : S'.1 4 0 = S.1 4 0) (hf : FX S b n e) : FX S' b n e := by
  unfold FX; rw [h]; exact hf
theorem RdX_of {S S' : hs_T} {b : Nat → Nat} {n a : Nat} (h : S'.1 4 0 = S.1 4 0) (hf : RdX S b n a) : RdX S' b n a := by
  unfold RdX; rw [h]; exact hf
theorem lt20 : ∀ t, t < 20 → nI t - 20 < 0 := by decide +kernel
/-- the terms l written from place q of condition c on -/
def PQ (c q : Nat) (l : List tm_T) (u u' : Nat → Nat) : Prop := u' (cx c) = q + l.length ∧ (∀ i, i < l.length → u' (72 + (3 * c + (q + i))) = (lg l i).1 ∧ u' (147 + (3 * c + (q + i))) = (lg l i).2) ∧ (∀ k, k ≠ cx c → ¬ (72 + 3 * c + q ≤ k ∧ k < 72 + 3 * c + 3) → ¬ (147 + 3 * c + q ≤ k ∧ k < 147 + 3 * c + 3) → u' k = u k) ∧ q + l.length ≤ 3 ∧ 1 ≤ l.length
theorem PQ_1 {c q k v : Nat} {u : Nat → Nat} (hc : c ≤ 24) (hq : q < 3) : PQ c q [(k, v)] u (u_tm u c q k v) := by
  have hx := cx_c hc
  refine ⟨un_s _ _ _, fun i hi => ?_, fun z z1 z2 z3 => ?_, by simp; omega, by simp⟩
  · have e : i = 0 := by simp at hi; omega
    subst e
    show u_tm u c q k v (72 + (3 * c + q)) = _ ∧ u_tm u c q k v (147 + (3 * c + q)) = _
    unfold u_tm
    rw [un_n (by omega), un_n (by omega), un_s, un_n (by omega), un_s]
    exact ⟨rfl, rfl⟩
  · unfold u_tm
    rw [un_n z1, un_n (by omega), un_n (by omega)]
theorem PQ_c {c q k v : Nat} {l : List tm_T} {u u' : Nat → Nat} (hc : c ≤ 24) (hq : q < 3) (h : PQ c (q + 1) l (u_tm u c q k v) u') : PQ c q ((k, v) :: l) u u' := by
  have hx := cx_c hc
  obtain ⟨h1, h2, h3, h4, h5⟩ := h
  refine ⟨by rw [h1]; simp; omega, fun i hi => ?_, fun z z1 z2 z3 => ?_, by simp; omega, by simp⟩
  · match i, hi with
    | 0, _ =>
      rw [Nat.add_zero, h3 _ (by omega) (by omega) (by omega), h3 _ (by omega) (by omega) (by omega)]
      unfold u_tm
      rw [un_n (by omega), un_n (by omega), un_s, un_n (by omega), un_s]
      exact ⟨rfl, rfl⟩
    | i + 1, hi =>
      have := h2 i (by simp at hi; omega)
      rw [show q + (i + 1) = q + 1 + i by omega]
      exact this
  · rw [h3 z z1 (by omega) (by omega)]
    unfold u_tm
    rw [un_n z1, un_n (by omega), un_n (by omega)]
section RX
variable {d r n a c : Nat} {S0 S : hs_T} {b u : Nat → Nat} {e : er_T}
/-- what a reading of x ends in -/
def oR (α : Type) (r : Nat) (b : Nat → Nat) (n : Nat) (S0 : hs_T) (res : er_T ⊕ (Nat × α)) (φ : α → (Nat → Nat) → Prop) (S : hs_T) : Prop := oc res (BX r b n S0 S) (fun z => ∃ u', GX r b n S0 S z.1 u' ∧ φ z.2 u')
theorem tX4_rc68 {x1 x2 x3 : Int32} {k v : Nat} (h : BX r b n S0 S e) (hc : c ≤ 24) {Q : Option av_T → hs_T → Prop} (hQ : ∀ S', BX r b n S0 S' e → Q none S') :
    Ev (d + 2) mX4_readCondition 68 [some (vR 4 0), some (vI x1), some (vI x2), some (vI x3)] [vI (nI v), vI (nI k), vI (nI c), vR 5 r] S Q := by
  obtain ⟨hE, hF, u, hD⟩ := h
  refine bkX4_readCondition_68 hE.2.2.2 (kX5_addTerm hE hD hc) ?_
  rintro S' ⟨h4, hE', hD'⟩
  refine bkX4_readCondition_71 (fun hh => absurd hh ?_) (fun _ => bkX4_readCondition_80 (hQ S' ⟨hE', FX_of h4 hF, _, hD'⟩))
  rw [h4, hF.1]; decide
theorem tX4_rc43 {x1 : Int32} {k q : Nat} (h : BX r b n S0 S e) (hx : x1 = nI c) (hc : c ≤ 24) (hk : k ≤ 6) {Q : Option av_T → hs_T → Prop} (hQ : ∀ S', BX r b n S0 S' e → Q none S') :
    Ev (d + 2) mX4_readCondition 43 [some (vR 4 0), some (vI x1), some (vI (nI q)), some (vI (nI k))] [] S Q := by
  subst hx
  have hr : S.2.2 1 = r := h.1.2.2.1
  have go : ∀ y : Int32, Ev (d + 2) mX4_readCondition 61 [some (vR 4 0), some (vI (nI c)), some (vI (nI q)), some (vI (nI k))] [vI y, vR 4 0, vI (nI k), vI (nI c), vR 5 (S.2.2 1)] S Q := by
    intro y
    refine bkX4_readCondition_61 (kX4_greatestOf hk) ?_
    rintro _ S ⟨rfl, rfl⟩
    refine bkX4_readCondition_65 (kX4_takeNumberB h) ?_
    rintro _ S' ⟨rfl, h'⟩
    rw [hr]
    exact tX4_rc68 (v := 0) h' hc hQ
  exact bkX4_readCondition_43 (fun _ => bkX4_readCondition_60 (go _)) (fun _ => bkX4_readCondition_56 (go _))
theorem tX4_rc15 {x1 x2 : Int32} {o3 : Option av_T} (h : BX r b n S0 S e) {Q : Option av_T → hs_T → Prop} (hQ : ∀ S', BX r b n S0 S' e → Q none S') :
    Ev (d + 2) mX4_readCondition 15 [some (vR 4 0), some (vI x1), some (vI x2), o3] [] S Q := by
  refine bkX4_readCondition_15 (fun _ => ?_) (fun hh => absurd ?_ hh)
  · refine bkX4_readCondition_33 (kX4_refuseB h) ?_
    intro S' h'
    exact bkX4_readCondition_38 (hQ S' h')
  · rw [h.2.1.1]; decide
theorem lX4_readCondition (hb : ∀ i, i < n → b i < 256) (hc : c ≤ 24) : ∀ (m q a : Nat) (S : hs_T) (u : Nat → Nat) (o3 : Option av_T), q + m = 3 → GX r b n S0 S a u → u (cx c) = q → (q ≠ 0 → t_co b n a = 38) →
    Ev (d + 2) mX4_readCondition 2 [some (vR 4 0), some (vI (nI c)), some (vI (nI q)), o3] [] S (fun r' S' => r' = none ∧ oR _ r b n S0 (p_cd (t_co b n) (t_vl b n) (decide (q = 0)) m a) (fun l u' => PQ c q l u u') S') := by
  intro m
  induction m with
  | zero =>
    intro q a S u o3 hq h hu hT
    have e3 : q = 3 := by omega
    subst e3
    rw [p_cd_0]
    refine bkX4_readCondition_2 (fun _ => ?_) (fun hh => absurd (by decide) hh)
    refine bkX4_readCondition_87 (kX4_refuse h (by omega) (w := 5) rfl) ?_
    intro S' h'
    exact bkX4_readCondition_92 ⟨rfl, h'⟩
  | succ m ih =>
    intro q a S u o3 hq h hu hT
    rw [p_cd_s]
    refine bkX4_readCondition_2 (fun hh => absurd hh (nl_ (b := 3) (by omega) (by omega))) (fun _ => ?_)
    -- from the term's name on
    have body : ∀ (a1 : Nat) (S : hs_T) (o3 : Option av_T), GX r b n S0 S a1 u → Ev (d + 2) mX4_readCondition 15 [some (vR 4 0), some (vI (nI c)), some (vI (nI q)), o3] [] S (fun r' S' => r' = none ∧ oR _ r b n S0 (if 20 ≤ t_co b n a1 ∧ t_co b n a1 ≤ 26 then eb (p_nx (t_co b n) a1) (fun a2 => eb (p_nm (t_co b n) (t_vl b n) (tlo (t_co b n a1 - 20)) (thi (t_co b n a1 - 20)) a2) (fun a3 =>
        if t_co b n a3 = 38 then eb (p_cd (t_co b n) (t_vl b n) false m a3) (fun q => .inr (q.1, (t_co b n a1 - 20, t_vl b n a2) :: q.2)) else .inr (a3, [(t_co b n a1 - 20, t_vl b n a2)])))
      else .inl (2, a1)) (fun l u' => PQ c q l u u') S') := by
      intro a1 S o3 h
      have ht := t_co_le b n a1 hb
      have ref : ∀ x3 : Int32, ¬ (20 ≤ t_co b n a1 ∧ t_co b n a1 ≤ 26) → Ev (d + 2) mX4_readCondition 33 [some (vR 4 0), some (vI (nI c)), some (vI (nI q)), some (vI x3)] [] S (fun r' S' => r' = none ∧ oR _ r b n S0 (if 20 ≤ t_co b n a1 ∧ t_co b n a1 ≤ 26 then eb (p_nx (t_co b n) a1) (fun a2 => eb (p_nm (t_co b n) (t_vl b n) (tlo (t_co b n a1 - 20)) (thi (t_co b n a1 - 20)) a2) (fun a3 =>
        if t_co b n a3 = 38 then eb (p_cd (t_co b n) (t_vl b n) false m a3) (fun q => .inr (q.1, (t_co b n a1 - 20, t_vl b n a2) :: q.2)) else .inr (a3, [(t_co b n a1 - 20, t_vl b n a2)])))
      else .inl (2, a1)) (fun l u' => PQ c q l u u') S') := by
        intro x3 hn
        rw [if_neg hn]
        refine bkX4_readCondition_33 (kX4_refuse h (by omega) (w := 2) rfl) ?_
        intro S' h'
        exact bkX4_readCondition_38 ⟨rfl, h'⟩
      by_cases h20 : 20 ≤ t_co b n a1
      · have es : S.1 4 0 3 - 20 = nI (t_co b n a1 - 20) := by rw [h.2.1.2.1, show (20 : Int32) = nI 20 from rfl, pk_sub h20]
        refine bkX4_readCondition_15 (fun hh => absurd hh (by rw [es]; exact nI_pos (by omega))) (fun _ => ?_)
        rw [es]
        refine bkX4_readCondition_27 (fun hh => ?_) (fun hh => ref _ ?_) <;> rw [show (6 : Int32) = nI 6 from rfl, nI_leI (by omega) (by omega)] at hh
        · rw [if_pos ⟨h20, by omega⟩]
          generalize hk : t_co b n a1 - 20 = k at *
          refine bkX4_readCondition_39 (kX4_advance h (by omega)) ?_
          intro S' h'
          cases hx : p_nx (t_co b n) a1 with
          | inl e =>
            rw [hx] at h'
            rw [eb_l]
            exact tX4_rc43 h' rfl hc hh (fun S' h' => ⟨rfl, h'⟩)
          | inr a2 =>
            rw [hx] at h'
            have h' : GX r b n S0 S' a2 u := h'
            rw [eb_r]
            have hr : S'.2.2 1 = r := h'.1.2.2.1
            have go : ∀ y : Int32, y = nI (tlo k) → Ev (d + 2) mX4_readCondition 61 [some (vR 4 0), some (vI (nI c)), some (vI (nI q)), some (vI (nI k))] [vI y, vR 4 0, vI (nI k), vI (nI c), vR 5 (S'.2.2 1)] S' (fun r' S' => r' = none ∧ oR _ r b n S0 (eb (p_nm (t_co b n) (t_vl b n) (tlo k) (thi k) a2) (fun a3 =>
                if t_co b n a3 = 38 then eb (p_cd (t_co b n) (t_vl b n) false m a3) (fun q => .inr (q.1, (k, t_vl b n a2) :: q.2)) else .inr (a3, [(k, t_vl b n a2)]))) (fun l u' => PQ c q l u u') S') := by
              intro y hy
              have hlo : tlo k < 2 ^ 31 := by unfold tlo; split <;> omega
              have hhi : thi k < 2 ^ 31 := by unfold thi; repeat' split
                                              all_goals omega
              refine bkX4_readCondition_61 (kX4_greatestOf hh) ?_
              rintro _ S' ⟨rfl, rfl⟩
              refine bkX4_readCondition_65 (kX4_takeNumber hb h' hlo hhi hy rfl) ?_
              rintro v S' ⟨⟨w, rfl, hw⟩, h'⟩
              rw [hr]
              cases hx2 : p_nm (t_co b n) (t_vl b n) (tlo k) (thi k) a2 with
              | inl e =>
                rw [hx2] at h'
                rw [eb_l]
                exact tX4_rc68 h' hc (fun S' h' => ⟨rfl, h'⟩)
              | inr a3 =>
                rw [hx2] at h'
                obtain ⟨hv, h'⟩ := h'
                rw [eb_r, hv]
                refine bkX4_readCondition_68 h'.1.2.2.2 (kX5_addTerm h'.1 h'.2.2 hc) ?_
                rintro S'' ⟨h4, hE', hD'⟩
                rw [hu, if_pos (by omega)] at hD'
                have hG : GX r b n S0 S'' a3 (u_tm u c q k (t_vl b n a2)) := ⟨hE', RdX_of h4 h'.2.1, hD'⟩
                refine bkX4_readCondition_71 (fun hh => ?_) (fun hh => ?_) <;> rw [show (38 : Int32) = nI 38 from rfl, tok_eq hb hG.2.1 (by omega)] at hh
                · rw [if_pos hh]
                  refine bkX4_readCondition_81 ?_
                  rw [nI_1]
                  have hL := ih (q + 1) a3 S'' (u_tm u c q k (t_vl b n a2)) (some (vI (nI k))) (by omega) hG (un_s _ _ _) (fun _ => hh)
                  rw [decide_eq_false (by omega)] at hL
                  refine hL.imp ?_
                  rintro r' S3 ⟨rfl, h3⟩
                  refine ⟨rfl, ?_⟩
                  cases hx3 : p_cd (t_co b n) (t_vl b n) false m a3 with
                  | inl e => rw [hx3] at h3; exact h3
                  | inr z =>
                    rw [hx3] at h3
                    obtain ⟨u', g1, g2⟩ := h3
                    exact ⟨u', g1, PQ_c hc (by omega) g2⟩
                · rw [if_neg hh]
                  exact bkX4_readCondition_80 ⟨rfl, _, hG, PQ_1 hc (by omega)⟩
            refine bkX4_readCondition_43 (fun h6 => bkX4_readCondition_60 (go _ ?_)) (fun h6 => bkX4_readCondition_56 (go _ ?_)) <;> rw [show (6 : Int32) = nI 6 from rfl, nI_eq (by omega) (by omega)] at h6
            · rw [tlo, if_neg h6]; rfl
            · rw [tlo, if_pos h6]; rfl
        · omega
      · refine bkX4_readCondition_15 (fun _ => ref _ (by omega)) (fun hh => absurd ?_ hh)
        rw [h.2.1.2.1]; exact lt20 _ (by omega)
    by_cases hq0 : q = 0
    · subst hq0
      refine bkX4_readCondition_7 (fun _ => ?_) (fun hh => absurd (by decide) hh)
      exact body a S o3 h
    · rw [decide_eq_false hq0]
      refine bkX4_readCondition_7 (fun hh => absurd hh ?_) (fun _ => ?_)
      · exact nl_ (a := 0) (by omega) (by omega)
      · refine bkX4_readCondition_11 (kX4_advance h (by rw [hT hq0]; omega)) ?_
        intro S' h'
        simp only [Bool.false_eq_true, if_false]
        cases hx : p_nx (t_co b n) a with
        | inl e =>
          rw [hx] at h'
          rw [eb_l]
          exact tX4_rc15 h' (fun S' h' => ⟨rfl, h'⟩)
        | inr a1 =>
          rw [hx] at h'
          rw [eb_r]
          exact body a1 S' o3 h'
/-- a condition that was read -/
def CW (c : Nat) (u : Nat → Nat) (l : List tm_T) (u' : Nat → Nat) : Prop := CR u' c l ∧ 1 ≤ l.length ∧ l.length ≤ 3 ∧ ∀ k, ¬ inCd c k → u' k = u k
theorem kX4_readCondition (hb : ∀ i, i < n → b i < 256) (hc : c ≤ 24) (h : GX r b n S0 S a u) (hu : u (cx c) = 0) {x : Int32} (hx : x = nI c) : Cv (d + 2) mX4_readCondition [vR 4 0, vI x] S (oR _ r b n S0 (p_cd (t_co b n) (t_vl b n) true 3 a) (CW c u)) := by
  subst hx
  refine cxX4_readCondition ?_
  refine bkX4_readCondition_0 ?_
  refine (lX4_readCondition hb hc 3 0 a S u _ (by omega) h hu (fun h => absurd rfl h)).imp ?_
  rintro r' S' ⟨rfl, h'⟩
  refine ⟨rfl, ?_⟩
  rw [decide_eq_true rfl] at h'
  cases hx : p_cd (t_co b n) (t_vl b n) true 3 a with
  | inl e => rw [hx] at h'; exact h'
  | inr z =>
    rw [hx] at h'
    obtain ⟨u', g1, g2, g3, g4, g5, g6⟩ := h'
    refine ⟨u', g1, ⟨by omega, fun i hi => ?_⟩, g6, by omega, fun k hk => ?_⟩
    · have := g3 i hi
      rw [Nat.zero_add] at this
      exact this
    · unfold inCd at hk
      exact g4 k (by omega) (by omega) (by omega)
theorem kX4_readConditionB (h : BX r b n S0 S e) {x : Int32} : Cv (d + 2) mX4_readCondition [vR 4 0, vI x] S (fun S' => BX r b n S0 S' e) := by
  refine cxX4_readCondition ?_
  refine bkX4_readCondition_0 ?_
  refine bkX4_readCondition_2 (fun hh => absurd hh (by decide)) (fun _ => ?_)
  refine bkX4_readCondition_7 (fun _ => ?_) (fun hh => absurd (by decide) hh)
  exact tX4_rc15 h (fun S' h' => ⟨rfl, h'⟩)
/-! a branch -/
def u_br (u : Nat → Nat) (s q t g : Nat) : Nat → Nat := un_ (un_ (un_ u (24 + (3 * s + q)) t) (48 + (3 * s + q)) g) (222 + s) (q + 1)
theorem Bd_br {s q t g : Nat} (h : Bd u) (hs : s < 8) (hq : q < 3) (hg : g ≤ 8) : Bd (u_br u s q t g) := by
  obtain ⟨h1, h2, h3, h4, h5⟩ := h
  refine ⟨?_, fun s' hs' => ?_, fun c' hc' => ?_, ?_, ?_⟩ <;> unfold u_br
  · rw [un_n (by omega), un_n (by omega), un_n (by omega)]; exact h1
  · by_cases e : s' = s
    · rw [e, un_s]; omega
    · rw [un_n (by omega), un_n (by omega), un_n (by omega)]; exact h2 s' hs'
  · have hx' := cx_c hc'
    rw [un_n (by omega), un_n (by omega), un_n (by omega)]; exact h3 c' hc'
  · rw [un_n (by omega), un_n (by omega), un_n (by omega)]; exact h4
  · rw [un_n (by omega), un_n (by omega), un_n (by omega)]; exact h5
theorem kX5_addBranch {s q t g : Nat} (hE : ExR r b n S0 S) (hD : DrX S r u) (hs : s < 8) (hq : q < 3) (hg : g ≤ 8) : Cv d mX5_addBranch [vR 5 r, vI (nI s), vI (nI q), vI (nI t), vI (nI g)] S (fun S' => S'.1 4 0 = S.1 4 0 ∧ ExR r b n S0 S' ∧ DrX S' r (u_br u s q t g)) := by
  have hr := hE.2.2.2
  obtain ⟨⟨a1, a2, a3⟩, a4, a5, a6, a7, aB⟩ := hD
  refine cxX5_addBranch ?_
  refine bkX5_addBranch_0 (fun h => absurd h (nI_pos (by omega))) (fun _ => ?_)
  refine bkX5_addBranch_4 (fun h => absurd h (nl_ (b := 8) (by omega) (by omega))) (fun _ => ?_)
  refine bkX5_addBranch_10 (fun h => absurd h (nI_pos (by omega))) (fun _ => ?_)
  refine bkX5_addBranch_14 (fun h => absurd h (nl_ (b := 3) (by omega) (by omega))) (fun _ => ?_)
  have em : (nI s * 3 + nI q).toNatClampNeg = 3 * s + q := by rw [m3, nI_clamp (by omega)]
  have es : (nI s).toNatClampNeg = s := nI_clamp (by omega)
  refine bkX5_addBranch_19 hr (by rw [m3]; exact vp_lt (by omega) (by omega)) (vp_lt (by omega) (by omega)) (bkX5_addBranch_51 ⟨rfl, rfl, ExR_r (ExR_r (ExR_r hE (by omega)) (by omega)) (by omega), ?_⟩)
  refine ⟨⟨?_, ?_, ?_⟩, fun s' hs' => ?_, fun c' hc' => ?_, fun c' hc' => ?_, fun i hi => ?_, Bd_br aB hs hq hg⟩ <;> unfold u_br
  · rw [un_n (by omega), un_n (by omega), un_n (by omega)]; exact a1
  · rw [un_n (by omega), un_n (by omega), un_n (by omega)]; exact a2
  · rw [un_n (by omega), un_n (by omega), un_n (by omega)]; exact a3
  · simp only [rd_, and_self, if_true, es, nI_1, Nat.reduceEqDiff, false_and, if_false]
    by_cases e : s' = s
    · subst e; rw [pk_us, un_s]
    · rw [pk_un e, un_n (by omega), un_n (by omega), un_n (by omega)]
      exact a4 s' hs'
  · simp only [rd_, and_self, if_true, em, Nat.reduceEqDiff, false_and, if_false]
    by_cases e : c' = 3 * s + q
    · subst e
      rw [pk_us, pk_us, un_n (by omega), un_n (by omega), un_s, un_n (by omega), un_s]; exact ⟨rfl, rfl⟩
    · rw [pk_un e, pk_un e, un_n (by omega), un_n (by omega), un_n (by omega), un_n (by omega), un_n (by omega), un_n (by omega)]; exact a5 c' hc'
  · have hx' := cx_c hc'
    rw [un_n (by omega), un_n (by omega), un_n (by omega)]; exact a6 c' hc'
  · rw [un_n (by omega), un_n (by omega), un_n (by omega), un_n (by omega), un_n (by omega), un_n (by omega)]; exact a7 i hi
/-- a branch stands in the row -/
def BR (u : Nat → Nat) (c : Nat) (x : br_T) : Prop := CR u c x.1 ∧ u (24 + c) = x.2.1 ∧ u (48 + c) = x.2.2
def inBr (s q k : Nat) : Prop := inCd (3 * s + q) k ∨ k = 24 + (3 * s + q) ∨ k = 48 + (3 * s + q) ∨ k = 222 + s
def BW (s q : Nat) (u : Nat → Nat) (x : br_T) (u' : Nat → Nat) : Prop := BR u' (3 * s + q) x ∧ u' (222 + s) = q + 1 ∧ ∀ k, ¬ inBr s q k → u' k = u k
section TB
variable {s q t : Nat} {Q : Option av_T → hs_T → Prop}
theorem tX4_rb67 {g : Nat} (h : BX r b n S0 S e) (hs : s < 8) (hq : q < 3) (hg : g ≤ 8) (hQ : ∀ S', BX r b n S0 S' e → Q none S') :
    Ev (d + 3) mX4_readBranch 67 [some (vR 4 0), some (vI (nI s)), some (vI (nI q)), some (vI (nI t)), some (vI (nI g))] [] S Q := by
  obtain ⟨hE, hF, u, hD⟩ := h
  have hr := hE.2.2.1
  refine bkX4_readBranch_67 (by rw [hr]; exact hE.2.2.2) (P := fun S' => S'.1 4 0 = S.1 4 0 ∧ ExR r b n S0 S' ∧ DrX S' r (u_br u s q t g)) (by rw [hr]; exact kX5_addBranch hE hD hs hq hg) ?_
  rintro S' ⟨h4, hE', hD'⟩
  exact bkX4_readBranch_79 (hQ S' ⟨hE', FX_of h4 hF, _, hD'⟩)
theorem tX4_rb38 {o4 : Option av_T} (h : BX r b n S0 S e) (hs : s < 8) (hq : q < 3) (hQ : ∀ S', BX r b n S0 S' e → Q none S') :
    Ev (d + 3) mX4_readBranch 38 [some (vR 4 0), some (vI (nI s)), some (vI (nI q)), some (vI (nI t)), o4] [] S Q := by
  refine bkX4_readBranch_38 (fun _ => ?_) (fun hh => absurd hh (by rw [h.2.1.1]; decide))
  refine bkX4_readBranch_58 (kX4_takeNumberB h) ?_
  rintro _ S' ⟨rfl, h'⟩
  exact bkX4_readBranch_65 (tX4_rb67 (g := 0) h' hs hq (by omega) hQ)
theorem tX4_rb32 {o4 : Option av_T} (h : BX r b n S0 S e) (hs : s < 8) (hq : q < 3) (hQ : ∀ S', BX r b n S0 S' e → Q none S') :
    Ev (d + 3) mX4_readBranch 32 [some (vR 4 0), some (vI (nI s)), some (vI (nI q)), some (vI (nI t)), o4] [] S Q := by
  refine bkX4_readBranch_32 (kX4_takeB h (w := 9) (by omega) rfl) ?_
  intro S' h'
  exact tX4_rb38 h' hs hq hQ
theorem tX4_rb9 {o3 o4 : Option av_T} (h : BX r b n S0 S e) (hs : s < 8) (hq : q < 3) (hQ : ∀ S', BX r b n S0 S' e → Q none S') :
    Ev (d + 3) mX4_readBranch 9 [some (vR 4 0), some (vI (nI s)), some (vI (nI q)), o3, o4] [] S Q := by
  refine bkX4_readBranch_9 (fun _ => ?_) (fun hh => absurd hh (by rw [h.2.1.1]; decide))
  exact tX4_rb32 (t := 1) h hs hq hQ
end TB
theorem kX4_readBranchB {s q : Nat} (h : BX r b n S0 S e) (hs : s < 8) (hq : q < 3) : Cv (d + 3) mX4_readBranch [vR 4 0, vI (nI s), vI (nI q)] S (fun S' => BX r b n S0 S' e) := by
  refine cxX4_readBranch ?_
  refine bkX4_readBranch_0 (kX4_readConditionB h) ?_
  intro S' h'
  exact tX4_rb9 h' hs hq (fun S' h' => ⟨rfl, h'⟩)
theorem kX4_readBranch {s q : Nat} (hb : ∀ i, i < n → b i < 256) (h : GX r b n S0 S a u) (hs : s < 8) (hq : q < 3) (hu : u (3 * s + q) = 0) : Cv (d + 3) mX4_readBranch [vR 4 0, vI (nI s), vI (nI q)] S (oR _ r b n S0 (p_br (t_co b n) (t_vl b n) a) (BW s q u)) := by
  have hcx : cx (3 * s + q) = 3 * s + q := by unfold cx; rw [if_neg (by omega)]
  refine cxX4_readBranch ?_
  unfold p_br
  refine bkX4_readBranch_0 (kX4_readCondition hb (c := 3 * s + q) (by omega) h (by rw [hcx]; exact hu) (m3 s q)) ?_
  intro S1 h1
  cases hx1 : p_cd (t_co b n) (t_vl b n) true 3 a with
  | inl e =>
    rw [hx1] at h1
    rw [eb_l]
    exact tX4_rb9 h1 hs hq (fun S' h' => ⟨rfl, h'⟩)
  | inr z =>
    rw [hx1] at h1
    rw [eb_r]
    obtain ⟨u1, g1, w1⟩ := h1
    obtain ⟨a1, l⟩ := z
    have g1 : GX r b n S0 S1 a1 u1 := g1
    -- from 'go' on
    have k38 : ∀ (S : hs_T) (o4 : Option av_T) (a5 t : Nat), GX r b n S0 S a5 u1 → Ev (d + 3) mX4_readBranch 38 [some (vR 4 0), some (vI (nI s)), some (vI (nI q)), some (vI (nI t)), o4] [] S (fun r' S' => r' = none ∧ oR _ r b n S0 (eb (p_to (t_co b n) (t_vl b n) a5) (fun z => .inr (z.1, (l, t, z.2)))) (BW s q u) S') := by
      intro S o4 a5 t h5
      have fin : ∀ (S : hs_T) (a6 g : Nat), GX r b n S0 S a6 u1 → g ≤ 8 → Ev (d + 3) mX4_readBranch 67 [some (vR 4 0), some (vI (nI s)), some (vI (nI q)), some (vI (nI t)), some (vI (nI g))] [] S (fun r' S' => r' = none ∧ ∃ u', GX r b n S0 S' a6 u' ∧ BW s q u (l, t, g) u') := by
        intro S a6 g h6 hg
        have hr := h6.1.2.2.1
        refine bkX4_readBranch_67 (by rw [hr]; exact h6.1.2.2.2) (P := fun S' => S'.1 4 0 = S.1 4 0 ∧ ExR r b n S0 S' ∧ DrX S' r (u_br u1 s q t g)) (by rw [hr]; exact kX5_addBranch h6.1 h6.2.2 hs hq hg) ?_
        rintro S' ⟨h4, hE', hD'⟩
        refine bkX4_readBranch_79 ⟨rfl, _, ⟨hE', RdX_of h4 h6.2.1, hD'⟩, ⟨⟨?_, fun i hi => ?_⟩, ?_, ?_⟩, un_s _ _ _, fun k hk => ?_⟩
        · rw [hcx]; unfold u_br
          rw [un_n (by omega), un_n (by omega), un_n (by omega), ← hcx]; exact w1.1.1
        · have hl : l.length ≤ 3 := w1.2.2.1
          unfold u_br
          have hi' : i < l.length := hi
          rw [un_n (by omega), un_n (by omega), un_n (by omega), un_n (by omega), un_n (by omega), un_n (by omega)]; exact w1.1.2 i hi
        · unfold u_br; rw [un_n (by omega), un_n (by omega), un_s]
        · unfold u_br; rw [un_n (by omega), un_s]
        · unfold inBr at hk
          unfold u_br
          rw [un_n (by omega), un_n (by omega), un_n (by omega)]
          exact w1.2.2.2 k (fun z => hk (Or.inl z))
      unfold p_to
      refine bkX4_readBranch_38 (fun hh => ?_) (fun hh => ?_) <;> rw [show (10 : Int32) = nI 10 from rfl, tok_eq hb h5.2.1 (by omega)] at hh
      · rw [if_neg hh]
        refine bkX4_readBranch_58 (kX4_takeNumber hb h5 (lo := 0) (hi := 7) (by omega) (by omega) rfl rfl) ?_
        rintro v S' ⟨⟨w, rfl, hw⟩, h'⟩
        cases hx : p_nm (t_co b n) (t_vl b n) 0 7 a5 with
        | inl e =>
          rw [hx] at h'
          rw [eb_l, eb_l]
          exact bkX4_readBranch_65 (tX4_rb67 h' hs hq (by omega) (fun S' h' => ⟨rfl, h'⟩))
        | inr a6 =>
          rw [hx] at h'
          obtain ⟨hv, h'⟩ := h'
          rw [eb_r, eb_r]
          have hv2 := t_vl_le b n a5
          have e2 : w = t_vl b n a5 := (nI_eq (by omega) (by omega)).mp hv
          subst e2
          exact bkX4_readBranch_65 (fin S' a6 _ h' (by omega))
      · rw [if_pos hh]
        refine bkX4_readBranch_51 (kX4_advance h5 (by omega)) ?_
        intro S' h'
        cases hx : p_nx (t_co b n) a5 with
        | inl e =>
          rw [hx] at h'
          rw [eb_l, eb_l]
          exact bkX4_readBranch_55 (tX4_rb67 (g := 8) h' hs hq (by omega) (fun S' h' => ⟨rfl, h'⟩))
        | inr a6 =>
          rw [hx] at h'
          rw [eb_r, eb_r]
          exact bkX4_readBranch_55 (fin S' a6 8 h' (by omega))
    have k32 : ∀ (S : hs_T) (o4 : Option av_T) (a4 t : Nat), GX r b n S0 S a4 u1 → Ev (d + 3) mX4_readBranch 32 [some (vR 4 0), some (vI (nI s)), some (vI (nI q)), some (vI (nI t)), o4] [] S (fun r' S' => r' = none ∧ oR _ r b n S0 (eb (p_tk (t_co b n) 9 a4) (fun a5 => eb (p_to (t_co b n) (t_vl b n) a5) (fun z => .inr (z.1, (l, t, z.2))))) (BW s q u) S') := by
      intro S o4 a4 t h4
      refine bkX4_readBranch_32 (kX4_take hb h4 (w := 9) (by omega) rfl) ?_
      intro S' h'
      cases hx : p_tk (t_co b n) 9 a4 with
      | inl e =>
        rw [hx] at h'
        rw [eb_l]
        exact tX4_rb38 h' hs hq (fun S' h' => ⟨rfl, h'⟩)
      | inr a5 =>
        rw [hx] at h'
        rw [eb_r]
        exact k38 S' o4 a5 t h'
    show Ev (d + 3) mX4_readBranch 9 _ [] S1 (fun r' S' => r' = none ∧ oR _ r b n S0 (eb (p_tt (t_co b n) (t_vl b n) a1) (fun w => eb (p_tk (t_co b n) 9 w.1) (fun a5 => eb (p_to (t_co b n) (t_vl b n) a5) (fun z => .inr (z.1, (l, w.2, z.2)))))) (BW s q u) S')
    unfold p_tt
    refine bkX4_readBranch_9 (fun hh => ?_) (fun hh => ?_) <;> rw [show (8 : Int32) = nI 8 from rfl, tok_eq hb g1.2.1 (by omega)] at hh
    · rw [if_neg hh, eb_r]
      exact k32 S1 _ a1 1 g1
    · rw [if_pos hh]
      refine bkX4_readBranch_20 (kX4_advance g1 (by omega)) ?_
      intro S' h'
      cases hx : p_nx (t_co b n) a1 with
      | inl e =>
        rw [hx] at h'
        rw [eb_l, eb_l]
        refine bkX4_readBranch_24 (kX4_takeNumberB h') ?_
        rintro _ S' ⟨rfl, h'⟩
        exact bkX4_readBranch_31 (tX4_rb32 (t := 0) h' hs hq (fun S' h' => ⟨rfl, h'⟩))
      | inr a2 =>
        rw [hx] at h'
        rw [eb_r]
        refine bkX4_readBranch_24 (kX4_takeNumber hb h' (lo := 1) (hi := 99) (by omega) (by omega) rfl rfl) ?_
        rintro v S' ⟨⟨w, rfl, hw⟩, h'⟩
        cases hx2 : p_nm (t_co b n) (t_vl b n) 1 99 a2 with
        | inl e =>
          rw [hx2] at h'
          rw [eb_l, eb_l]
          exact bkX4_readBranch_31 (tX4_rb32 h' hs hq (fun S' h' => ⟨rfl, h'⟩))
        | inr a3 =>
          rw [hx2] at h'
          obtain ⟨hv, h'⟩ := h'
          rw [eb_r, eb_r, hv]
          exact bkX4_readBranch_31 (k32 S' _ a3 _ h')
end RX
