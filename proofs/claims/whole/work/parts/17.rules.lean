/-! ===== what was told: p is laid as the reference's row ===== -/
def okt (k v : Nat) : Prop := k ≤ 6 ∧ (k < 4 → v < 8) ∧ v ≤ 999
def okc (p : Nat → Nat) (c m : Nat) : Prop := ∀ i, i < m → okt (p (72 + (3 * c + i))) (p (147 + (3 * c + i)))
def WFp (p : Nat → Nat) : Prop := p 230 ≤ 8 ∧ (∀ s, s < p 230 → 1 ≤ p (222 + s) ∧ p (222 + s) ≤ 3 ∧ ∀ b, b < p (222 + s) → p (24 + (3 * s + b)) ≤ 99 ∧ (p (48 + (3 * s + b)) = 8 ∨ p (48 + (3 * s + b)) < p 230) ∧ p (3 * s + b) ≤ 3 ∧ okc p (3 * s + b) (p (3 * s + b))) ∧ p 231 ≤ 3 ∧ okc p 24 (p 231) ∧ p 232 ≤ 400 ∧ p 233 < p 232
def CdX (S : hs_T) (r : Nat) (p : Nat → Nat) (c m : Nat) : Prop := S.1 603 r c = nI m ∧ ∀ i, i < m → S.1 604 r (3 * c + i) = nI (p (72 + (3 * c + i))) ∧ S.1 605 r (3 * c + i) = nI (p (147 + (3 * c + i)))
def PrX (S : hs_T) (r : Nat) (p : Nat → Nat) : Prop := S.1 5 r 6 = nI (p 230) ∧ S.1 5 r 7 = nI (p 232) ∧ S.1 5 r 8 = nI (p 233) ∧ (∀ s, s < p 230 → S.1 600 r s = nI (p (222 + s)) ∧ ∀ b, b < p (222 + s) → S.1 601 r (3 * s + b) = nI (p (24 + (3 * s + b))) ∧ S.1 602 r (3 * s + b) = nI (p (48 + (3 * s + b))) ∧ CdX S r p (3 * s + b) (p (3 * s + b))) ∧ CdX S r p 24 (p 231)
def PrM (S : hs_T) (p : Nat → Nat) : Prop := ∀ k, k < 234 → S.1 1200 0 k = nI (p k)
def t_tm (t : Nat → Nat) (k v i lk : Nat) : Bool := if k = 0 then t_hi t v i else if k = 1 then !t_hi t v i else if k = 2 then t_up t v i else if k = 3 then t_dn t v i else if k = 4 then decide (t i = v) else if k = 5 then !decide (t i = v) else decide (v ≤ lk)
def s_all (f : Nat → Bool) : Nat → Nat → Bool
  | 0, _ => true
  | m + 1, a => f a && s_all f m (a + 1)
/-- a condition whose m terms lie from a on -/
def c_so (t p : Nat → Nat) (a m i lk : Nat) : Bool := s_all (fun q => t_tm t (p (72 + q)) (p (147 + q)) i lk) m a
section RL
variable {d : Nat} {S : hs_T} {r n w i j : Nat} {t p : Nat → Nat}
theorem kX5_branchCount {x : Int32} (hr : r < 2) (hW : WFp p) (hp : PrX S r p) : Ci d mX5_branchCount [vR 5 r, vI x] S (fun v S' => v = (if inR x 0 ((p 230 : Int) - 1) then nI (p (222 + x.toInt.toNat)) else 0) ∧ S' = S) := by
  have h8 := hW.1
  refine cxX5_branchCount ?_
  refine bkX5_branchCount_0 (fun h => ?_) (fun h => ?_)
  · rw [fa_lt] at h
    have e : inR x 0 ((p 230 : Int) - 1) = false := decide_eq_false (fun z => by have : (0 : Int32).toInt = 0 := rfl; omega)
    exact bkX5_branchCount_27 (bkX5_branchCount_28 ⟨_, rfl, by rw [e]; rfl, rfl⟩)
  · rw [fa_lt] at h
    obtain ⟨s, rfl, hs⟩ := nI_rng (x := x) (by have : (0 : Int32).toInt = 0 := rfl; omega)
    have hs31 := (fb_rng (nI s)).2
    refine bkX5_branchCount_4 hr (fun h2 => ?_) (fun h2 => ?_)
    · rw [hp.1, nI_leI (by omega) (by omega)] at h2
      have e : inR (nI s) 0 ((p 230 : Int) - 1) = false := by rw [inR_nI (by omega)]; exact decide_eq_false (by omega)
      exact bkX5_branchCount_27 (bkX5_branchCount_28 ⟨_, rfl, by rw [e]; rfl, rfl⟩)
    · rw [hp.1, nI_leI (by omega) (by omega)] at h2
      have e : inR (nI s) 0 ((p 230 : Int) - 1) = true := by rw [inR_nI (by omega)]; exact decide_eq_true (by omega)
      refine bkX5_branchCount_12 (fun h3 => absurd h3 (nl_ (b := 8) (by omega) (by omega))) (fun _ => ?_)
      refine bkX5_branchCount_18 hr (vp_lt (by omega) (by omega)) ?_
      refine bkX5_branchCount_28 ⟨_, rfl, ?_, rfl⟩
      rw [e, nI_clamp (by omega), nI_tn (by omega)]
      exact (hp.2.2.2.1 s (by omega)).1
theorem kX5_bc {s : Nat} (hr : r < 2) (hW : WFp p) (hp : PrX S r p) (hs : s < p 230) : Ci d mX5_branchCount [vR 5 r, vI (nI s)] S (fun v S' => v = nI (p (222 + s)) ∧ S' = S) := by
  have h8 := hW.1
  refine (kX5_branchCount (x := nI s) hr hW hp).imp ?_
  rintro v S' ⟨rfl, rfl⟩
  refine ⟨?_, rfl⟩
  rw [inR_nI (by omega), decide_eq_true (by omega), nI_tn (by omega)]
  rfl
theorem kX5_branchPlace {x y : Int32} (hr : r < 2) (hW : WFp p) (hp : PrX S r p) : Ci (d + 1) mX5_branchPlace [vR 5 r, vI x, vI y] S (fun v S' => v = (if inR x 0 ((p 230 : Int) - 1) && inR y 0 ((p (222 + x.toInt.toNat) : Int) - 1) then nI (3 * x.toInt.toNat + y.toInt.toNat) else -1) ∧ S' = S) := by
  have h8 := hW.1
  refine cxX5_branchPlace ?_
  refine bkX5_branchPlace_0 (fun h => ?_) (fun h => ?_)
  · rw [fa_lt] at h
    have e : inR y 0 ((p (222 + x.toInt.toNat) : Int) - 1) = false := decide_eq_false (fun z => by have : (0 : Int32).toInt = 0 := rfl; omega)
    exact bkX5_branchPlace_21 (bkX5_branchPlace_22 ⟨_, rfl, by rw [e, Bool.and_false]; rfl, rfl⟩)
  · rw [fa_lt] at h
    obtain ⟨b, rfl, hb⟩ := nI_rng (x := y) (by have : (0 : Int32).toInt = 0 := rfl; omega)
    have hb31 := (fb_rng (nI b)).2
    refine bkX5_branchPlace_4 hr (kX5_branchCount hr hW hp) ?_
    rintro _ S ⟨rfl, rfl⟩
    cases hx : inR x 0 ((p 230 : Int) - 1)
    · refine bkX5_branchPlace_10 (fun _ => bkX5_branchPlace_21 (bkX5_branchPlace_22 ⟨_, rfl, rfl, rfl⟩)) (fun h2 => absurd ?_ h2)
      exact nI_le (a := 0) (b := b) (Nat.zero_le _) (by omega)
    · obtain ⟨s, hs, rfl⟩ := inR_get hx
      rw [nI_tn (by omega), nI_tn (by omega)]
      have h3 := (hW.2.1 s (by omega)).2.1
      simp only [if_true, Bool.true_and]
      refine bkX5_branchPlace_10 (fun h2 => ?_) (fun h2 => ?_)
      · rw [nI_leI (by omega) (by omega)] at h2
        refine bkX5_branchPlace_21 (bkX5_branchPlace_22 ⟨_, rfl, ?_, rfl⟩)
        rw [inR_nI (by omega), decide_eq_false (by omega)]
        rfl
      · rw [nI_leI (by omega) (by omega)] at h2
        refine bkX5_branchPlace_13 (bkX5_branchPlace_22 ⟨_, rfl, ?_, rfl⟩)
        rw [inR_nI (by omega), decide_eq_true (by omega), show (3 : Int32) = nI 3 from rfl, pk_mul, nI_add, Nat.mul_comm]
        rfl
theorem kX5_bp {s b : Nat} (hr : r < 2) (hW : WFp p) (hp : PrX S r p) (hs : s < p 230) (hb : b < p (222 + s)) : Ci (d + 1) mX5_branchPlace [vR 5 r, vI (nI s), vI (nI b)] S (fun v S' => v = nI (3 * s + b) ∧ S' = S) := by
  have h8 := hW.1
  have h3 := (hW.2.1 s hs).2.1
  refine (kX5_branchPlace (x := nI s) (y := nI b) hr hW hp).imp ?_
  rintro v S' ⟨rfl, rfl⟩
  refine ⟨?_, rfl⟩
  rw [nI_tn (by omega), nI_tn (by omega), inR_nI (by omega), inR_nI (by omega), decide_eq_true (by omega), decide_eq_true (by omega)]
  rfl
theorem kX5_timesOf {c : Nat} (hr : r < 2) (hc : c < 24) : Ci d mX5_timesOf [vR 5 r, vI (nI c)] S (fun v S' => v = S.1 601 r c ∧ S' = S) := by
  refine cxX5_timesOf ?_
  refine bkX5_timesOf_0 (fun h => absurd h (nI_pos (by omega))) (fun _ => ?_)
  refine bkX5_timesOf_4 (fun h => absurd h (nl_ (b := 24) (by omega) (by omega))) (fun _ => ?_)
  refine bkX5_timesOf_10 hr (vp_lt (by omega) (by omega)) ?_
  exact bkX5_timesOf_20 ⟨_, rfl, by rw [nI_clamp (by omega)], rfl⟩
theorem kX5_targetOf {c : Nat} (hr : r < 2) (hc : c < 24) : Ci d mX5_targetOf [vR 5 r, vI (nI c)] S (fun v S' => v = S.1 602 r c ∧ S' = S) := by
  refine cxX5_targetOf ?_
  refine bkX5_targetOf_0 (fun h => absurd h (nI_pos (by omega))) (fun _ => ?_)
  refine bkX5_targetOf_4 (fun h => absurd h (nl_ (b := 24) (by omega) (by omega))) (fun _ => ?_)
  refine bkX5_targetOf_10 hr (vp_lt (by omega) (by omega)) ?_
  exact bkX5_targetOf_20 ⟨_, rfl, by rw [nI_clamp (by omega)], rfl⟩
theorem kX5_termCount {c : Nat} (hr : r < 2) (hc : c ≤ 24) : Ci d mX5_termCount [vR 5 r, vI (nI c)] S (fun v S' => v = S.1 603 r c ∧ S' = S) := by
  refine cxX5_termCount ?_
  refine bkX5_termCount_0 (fun h => absurd h (nI_pos (by omega))) (fun _ => ?_)
  refine bkX5_termCount_4 (fun h => absurd h (nI_nlt (a := 24) (b := c) (by omega) (by omega))) (fun _ => ?_)
  refine bkX5_termCount_10 hr (vp_lt (by omega) (by omega)) ?_
  exact bkX5_termCount_20 ⟨_, rfl, by rw [nI_clamp (by omega)], rfl⟩
theorem m3 (c i : Nat) : nI c * 3 + nI i = nI (3 * c + i) := by rw [show (3 : Int32) = nI 3 from rfl, pk_mul, nI_add, Nat.mul_comm]
theorem kX5_termKind {c m : Nat} (hr : r < 2) (hc : c ≤ 24) (hC : CdX S r p c m) (hm : m ≤ 3) (hi : i < m) : Ci (d + 1) mX5_termKind [vR 5 r, vI (nI c), vI (nI i)] S (fun v S' => v = nI (p (72 + (3 * c + i))) ∧ S' = S) := by
  refine cxX5_termKind ?_
  refine bkX5_termKind_0 (fun h => absurd h (nI_pos (by omega))) (fun _ => ?_)
  refine bkX5_termKind_4 hr (kX5_termCount hr hc) ?_
  rintro _ S ⟨rfl, rfl⟩
  refine bkX5_termKind_10 (fun h => absurd h (by rw [hC.1]; exact nl_ hi (by omega))) (fun _ => ?_)
  refine bkX5_termKind_13 hr (by rw [m3]; exact vp_lt (by omega) (by omega)) ?_
  refine bkX5_termKind_27 ⟨_, rfl, ?_, rfl⟩
  rw [m3, nI_clamp (by omega)]
  exact (hC.2 i hi).1
theorem kX5_termNumber {c m : Nat} (hr : r < 2) (hc : c ≤ 24) (hC : CdX S r p c m) (hm : m ≤ 3) (hi : i < m) : Ci (d + 1) mX5_termNumber [vR 5 r, vI (nI c), vI (nI i)] S (fun v S' => v = nI (p (147 + (3 * c + i))) ∧ S' = S) := by
  refine cxX5_termNumber ?_
  refine bkX5_termNumber_0 (fun h => absurd h (nI_pos (by omega))) (fun _ => ?_)
  refine bkX5_termNumber_4 hr (kX5_termCount hr hc) ?_
  rintro _ S ⟨rfl, rfl⟩
  refine bkX5_termNumber_10 (fun h => absurd h (by rw [hC.1]; exact nl_ hi (by omega))) (fun _ => ?_)
  refine bkX5_termNumber_13 hr (by rw [m3]; exact vp_lt (by omega) (by omega)) ?_
  refine bkX5_termNumber_27 ⟨_, rfl, ?_, rfl⟩
  rw [m3, nI_clamp (by omega)]
  exact (hC.2 i hi).2
theorem kX5_termHolds {k v lk : Nat} (hT : TrX S j n t) (hj : j < 4) (hi : i < n) (ho : okt k v) (hlk : lk ≤ 400) : Ci (d + 2) mX5_termHolds [vI (nI k), vI (nI v), vR 8 j, vI (nI i), vI (nI lk)] S (fun r S' => r = bi_ (t_tm t k v i lk) ∧ S' = S) := by
  obtain ⟨h6, h4, h9⟩ := ho
  have hn := hT.2.1
  have ht := (hT.2.2 i hi).2
  have ne : ∀ {a : Nat}, nI k = nI a → a < 2 ^ 31 → k = a := fun h ha => (nI_eq (by omega) ha).mp h
  refine cxX5_termHolds ?_
  refine bkX5_termHolds_0 (fun h => ?_) (fun h => ?_) (fun h => ?_) (fun h => ?_) (fun h => ?_) (fun h => ?_) (fun g0 g1 g2 g3 g4 g5 => ?_)
  · have e : k = 0 := ne (a := 0) h (by omega)
    subst e
    refine bkX5_termHolds_40 hj (kX8_high hT hj (h4 (by omega)) hi) ?_
    rintro _ S ⟨rfl, rfl⟩
    exact bkX5_termHolds_46 (bi_n _) ⟨_, rfl, rfl, rfl⟩
  · have e : k = 1 := ne (a := 1) h (by omega)
    subst e
    refine bkX5_termHolds_47 hj (kX8_high hT hj (h4 (by omega)) hi) ?_
    rintro _ S ⟨rfl, rfl⟩
    refine bkX5_termHolds_53 (fun h => ?_) (fun h => ?_)
    · rw [bi_ne0] at h
      exact bkX5_termHolds_60 (bkX5_termHolds_61 (by decide) ⟨_, rfl, by simp [t_tm, h, bi_], rfl⟩)
    · rw [bi_0] at h
      exact bkX5_termHolds_56 (bkX5_termHolds_61 (by decide) ⟨_, rfl, by simp [t_tm, h, bi_], rfl⟩)
  · have e : k = 2 := ne (a := 2) h (by omega)
    subst e
    refine bkX5_termHolds_62 hj (kX8_rises hT hj (h4 (by omega)) hi) ?_
    rintro _ S ⟨rfl, rfl⟩
    exact bkX5_termHolds_68 (bi_n _) ⟨_, rfl, rfl, rfl⟩
  · have e : k = 3 := ne (a := 3) h (by omega)
    subst e
    refine bkX5_termHolds_69 hj (kX8_falls hT hj (h4 (by omega)) hi) ?_
    rintro _ S ⟨rfl, rfl⟩
    exact bkX5_termHolds_75 (bi_n _) ⟨_, rfl, rfl, rfl⟩
  · have e : k = 4 := ne (a := 4) h (by omega)
    subst e
    refine bkX5_termHolds_76 hj (kX8_sample hT hj hi) ?_
    rintro _ S ⟨rfl, rfl⟩
    refine bkX5_termHolds_81 (fun h => ?_) (fun h => ?_)
    · rw [nI_eq (by omega) (by omega)] at h
      exact bkX5_termHolds_89 (bkX5_termHolds_90 (by decide) ⟨_, rfl, by simp [t_tm, h, bi_], rfl⟩)
    · rw [nI_eq (by omega) (by omega)] at h
      exact bkX5_termHolds_85 (bkX5_termHolds_90 (by decide) ⟨_, rfl, by simp [t_tm, h, bi_], rfl⟩)
  · have e : k = 5 := ne (a := 5) h (by omega)
    subst e
    refine bkX5_termHolds_91 hj (kX8_sample hT hj hi) ?_
    rintro _ S ⟨rfl, rfl⟩
    refine bkX5_termHolds_96 (fun h => ?_) (fun h => ?_)
    · rw [nI_eq (by omega) (by omega)] at h
      exact bkX5_termHolds_104 (bkX5_termHolds_105 (by decide) ⟨_, rfl, by simp [t_tm, h, bi_], rfl⟩)
    · rw [nI_eq (by omega) (by omega)] at h
      exact bkX5_termHolds_100 (bkX5_termHolds_105 (by decide) ⟨_, rfl, by simp [t_tm, h, bi_], rfl⟩)
  · have e : k = 6 := by
      have n0 : k ≠ 0 := fun z => g0 (by rw [z]; rfl)
      have n1 : k ≠ 1 := fun z => g1 (by rw [z]; rfl)
      have n2 : k ≠ 2 := fun z => g2 (by rw [z]; rfl)
      have n3 : k ≠ 3 := fun z => g3 (by rw [z]; rfl)
      have n4 : k ≠ 4 := fun z => g4 (by rw [z]; rfl)
      have n5 : k ≠ 5 := fun z => g5 (by rw [z]; rfl)
      omega
    subst e
    refine bkX5_termHolds_106 (fun h => ?_) (fun h => ?_)
    · rw [nI_ltI (by omega) (by omega)] at h
      exact bkX5_termHolds_116 (bkX5_termHolds_117 (by decide) ⟨_, rfl, by simp [t_tm, show ¬ v ≤ lk by omega, bi_], rfl⟩)
    · rw [nI_ltI (by omega) (by omega)] at h
      exact bkX5_termHolds_112 (bkX5_termHolds_117 (by decide) ⟨_, rfl, by simp [t_tm, show v ≤ lk by omega, bi_], rfl⟩)
theorem lX5_holds {c m lk : Nat} {Q : Option av_T → hs_T → Prop} (hT : TrX S j n t) (hj : j < 4) (hi : i < n) (hlk : lk ≤ 400) (hr : r < 2) (hc : c ≤ 24) (hC : CdX S r p c m) (hm : m ≤ 3) (ho : okc p c m) :
    ∀ (k q : Nat), q + k = m → Q (some (vI (bi_ (c_so t p (3 * c + q) k i lk)))) S → Ev (d + 3) mX5_holds 3 [some (vR 5 r), some (vI (nI c)), some (vR 8 j), some (vI (nI i)), some (vI (nI lk)), some (vI (nI q))] [] S Q := by
  intro k
  induction k with
  | zero =>
    intro q hq hQ
    refine bkX5_holds_3 hr (kX5_termCount hr hc) ?_
    rintro _ S ⟨rfl, rfl⟩
    refine bkX5_holds_10 (fun _ => bkX5_holds_45 hQ) (fun h => absurd ?_ h)
    rw [hC.1]; exact nI_le (by omega) (by omega)
  | succ k ih =>
    intro q hq hQ
    refine bkX5_holds_3 hr (kX5_termCount hr hc) ?_
    rintro _ S ⟨rfl, rfl⟩
    refine bkX5_holds_10 (fun h => absurd h (by rw [hC.1]; exact nl_ (by omega) (by omega))) (fun _ => ?_)
    refine bkX5_holds_13 hr (kX5_termKind hr hc hC hm (by omega)) ?_
    rintro _ S ⟨rfl, rfl⟩
    refine bkX5_holds_20 hr (kX5_termNumber hr hc hC hm (by omega)) ?_
    rintro _ S ⟨rfl, rfl⟩
    refine bkX5_holds_27 (kX5_termHolds hT hj hi (ho q (by omega)) hlk) ?_
    rintro _ S ⟨rfl, rfl⟩
    have e : c_so t p (3 * c + q) (k + 1) i lk = (t_tm t (p (72 + (3 * c + q))) (p (147 + (3 * c + q))) i lk && c_so t p (3 * c + (q + 1)) k i lk) := rfl
    rw [e] at hQ
    refine bkX5_holds_34 (fun h => ?_) (fun h => ?_)
    · rw [bi_ne0] at h
      rw [h, Bool.true_and] at hQ
      refine bkX5_holds_39 ?_
      rw [nI_1]
      exact ih (q + 1) (by omega) hQ
    · rw [bi_0] at h
      rw [h, Bool.false_and] at hQ
      exact bkX5_holds_37 hQ
theorem kX5_holds {c m lk : Nat} (hT : TrX S j n t) (hj : j < 4) (hi : i < n) (hlk : lk ≤ 400) (hr : r < 2) (hc : c ≤ 24) (hC : CdX S r p c m) (hm : m ≤ 3) (ho : okc p c m) : Ci (d + 3) mX5_holds [vR 5 r, vI (nI c), vR 8 j, vI (nI i), vI (nI lk)] S (fun v S' => v = bi_ (c_so t p (3 * c) m i lk) ∧ S' = S) := by
  refine cxX5_holds ?_
  exact bkX5_holds_0 (lX5_holds hT hj hi hlk hr hc hC hm ho m 0 (by omega) ⟨_, rfl, rfl, rfl⟩)
/-! the reference's condition -/
theorem sM_isSo {lk q : Nat} {b : Bool} {x1 x2 : Int32} {o7 : Option av_T} {Q : Option av_T → hs_T → Prop} (hT : TrM S n t) (hi : i < n) (hlk : lk ≤ 400) (hp : PrM S p) (hq : q < 75) (ho : okt (p (72 + q)) (p (147 + q)))
    (hQ : ∀ o, Ev (d + 2) mX11_isSo 247 [some (vR 11 0), some (vI x1), some (vI x2), some (vI (nI i)), some (vI (nI lk)), some (vI (bi_ (b && t_tm t (p (72 + q)) (p (147 + q)) i lk))), some (vI (nI q)), some (vI o)] [] S Q) :
    Ev (d + 2) mX11_isSo 14 [some (vR 11 0), some (vI x1), some (vI x2), some (vI (nI i)), some (vI (nI lk)), some (vI (bi_ b)), some (vI (nI q)), o7] [] S Q := by
  obtain ⟨h6, h4, h9⟩ := ho
  have hn := hT.2.1
  have ht := (hT.2.2 i hi).2
  have e1 : S.1 1200 0 (72 + nI q).toNatClampNeg = nI (p (72 + q)) := by
    rw [show (72 : Int32) = nI 72 from rfl, nI_add, nI_clamp (by omega)]; exact hp _ (by omega)
  have e2 : S.1 1200 0 (147 + nI q).toNatClampNeg = nI (p (147 + q)) := by
    rw [show (147 : Int32) = nI 147 from rfl, nI_add, nI_clamp (by omega)]; exact hp _ (by omega)
  have hQ := hQ (nI (p (147 + q)))
  generalize p (72 + q) = k at *
  generalize p (147 + q) = v at *
  have ne : ∀ {a : Nat}, nI k = nI a → a < 2 ^ 31 → k = a := fun h ha => (nI_eq (by omega) ha).mp h
  have hi1 : vp_in (147 + nI q) 234 := by rw [show (147 : Int32) = nI 147 from rfl, nI_add]; exact vp_lt (by omega) (by omega)
  have hi2 : vp_in (72 + nI q) 234 := by rw [show (72 : Int32) = nI 72 from rfl, nI_add]; exact vp_lt (by omega) (by omega)
  refine bkX11_isSo_14 hi1 hi2 ?_ ?_ ?_ ?_ ?_ ?_ ?_ <;> rw [e1, e2]
  · intro h
    have e : k = 0 := ne (a := 0) h (by omega)
    subst e
    rw [show t_tm t 0 v i lk = t_hi t v i from rfl] at hQ
    refine bkX11_isSo_76 (fun h => ?_) (fun h => ?_)
    · rw [bi_0] at h; subst h
      exact bkX11_isSo_95 (bkX11_isSo_96 hQ)
    · rw [bi_ne0] at h; subst h
      refine bkX11_isSo_81 (kM_isHigh hT (h4 (by omega)) hi) ?_
      rintro _ S ⟨rfl, rfl⟩
      refine bkX11_isSo_88 (fun h => ?_) (fun h => ?_)
      · rw [bi_0] at h; rw [h] at hQ; exact bkX11_isSo_95 (bkX11_isSo_96 hQ)
      · rw [bi_ne0] at h; rw [h] at hQ; exact bkX11_isSo_91 (bkX11_isSo_96 hQ)
  · intro h
    have e : k = 1 := ne (a := 1) h (by omega)
    subst e
    rw [show t_tm t 1 v i lk = !t_hi t v i from rfl] at hQ
    refine bkX11_isSo_101 (fun h => ?_) (fun h => ?_)
    · rw [bi_0] at h; subst h
      exact bkX11_isSo_120 (bkX11_isSo_121 hQ)
    · rw [bi_ne0] at h; subst h
      refine bkX11_isSo_106 (kM_isHigh hT (h4 (by omega)) hi) ?_
      rintro _ S ⟨rfl, rfl⟩
      refine bkX11_isSo_113 (fun h => ?_) (fun h => ?_)
      · rw [bi_ne0] at h; rw [h] at hQ; exact bkX11_isSo_120 (bkX11_isSo_121 hQ)
      · rw [bi_0] at h; rw [h] at hQ; exact bkX11_isSo_116 (bkX11_isSo_121 hQ)
  · intro h
    have e : k = 2 := ne (a := 2) h (by omega)
    subst e
    rw [show t_tm t 2 v i lk = t_up t v i from rfl] at hQ
    refine bkX11_isSo_126 (fun h => ?_) (fun h => ?_)
    · rw [bi_0] at h; subst h
      exact bkX11_isSo_145 (bkX11_isSo_146 hQ)
    · rw [bi_ne0] at h; subst h
      refine bkX11_isSo_131 (kM_rises hT (h4 (by omega)) hi) ?_
      rintro _ S ⟨rfl, rfl⟩
      refine bkX11_isSo_138 (fun h => ?_) (fun h => ?_)
      · rw [bi_0] at h; rw [h] at hQ; exact bkX11_isSo_145 (bkX11_isSo_146 hQ)
      · rw [bi_ne0] at h; rw [h] at hQ; exact bkX11_isSo_141 (bkX11_isSo_146 hQ)
  · intro h
    have e : k = 3 := ne (a := 3) h (by omega)
    subst e
    rw [show t_tm t 3 v i lk = t_dn t v i from rfl] at hQ
    refine bkX11_isSo_151 (fun h => ?_) (fun h => ?_)
    · rw [bi_0] at h; subst h
      exact bkX11_isSo_170 (bkX11_isSo_171 hQ)
    · rw [bi_ne0] at h; subst h
      refine bkX11_isSo_156 (kM_falls hT (h4 (by omega)) hi) ?_
      rintro _ S ⟨rfl, rfl⟩
      refine bkX11_isSo_163 (fun h => ?_) (fun h => ?_)
      · rw [bi_0] at h; rw [h] at hQ; exact bkX11_isSo_170 (bkX11_isSo_171 hQ)
      · rw [bi_ne0] at h; rw [h] at hQ; exact bkX11_isSo_166 (bkX11_isSo_171 hQ)
  · intro h
    have e : k = 4 := ne (a := 4) h (by omega)
    subst e
    rw [show t_tm t 4 v i lk = decide (t i = v) from rfl] at hQ
    refine bkX11_isSo_176 (fun h => ?_) (fun h => ?_)
    · rw [bi_0] at h; subst h
      exact bkX11_isSo_196 (bkX11_isSo_197 hQ)
    · rw [bi_ne0] at h; subst h
      refine bkX11_isSo_181 (vp_lt (by omega) (by omega)) ?_ ?_ <;> rw [nI_clamp (by omega), (hT.2.2 i hi).1, nI_eq (by omega) (by omega)] <;> intro h
      · rw [decide_eq_false h] at hQ; exact bkX11_isSo_196 (bkX11_isSo_197 hQ)
      · rw [decide_eq_true h] at hQ; exact bkX11_isSo_192 (bkX11_isSo_197 hQ)
  · intro h
    have e : k = 5 := ne (a := 5) h (by omega)
    subst e
    rw [show t_tm t 5 v i lk = !decide (t i = v) from rfl] at hQ
    refine bkX11_isSo_202 (fun h => ?_) (fun h => ?_)
    · rw [bi_0] at h; subst h
      exact bkX11_isSo_222 (bkX11_isSo_223 hQ)
    · rw [bi_ne0] at h; subst h
      refine bkX11_isSo_207 (vp_lt (by omega) (by omega)) ?_ ?_ <;> rw [nI_clamp (by omega), (hT.2.2 i hi).1, nI_eq (by omega) (by omega)] <;> intro h
      · rw [decide_eq_true h] at hQ; exact bkX11_isSo_222 (bkX11_isSo_223 hQ)
      · rw [decide_eq_false h] at hQ; exact bkX11_isSo_218 (bkX11_isSo_223 hQ)
  · intro g0 g1 g2 g3 g4 g5
    have e : k = 6 := by
      have n0 : k ≠ 0 := fun z => g0 (by rw [z]; rfl)
      have n1 : k ≠ 1 := fun z => g1 (by rw [z]; rfl)
      have n2 : k ≠ 2 := fun z => g2 (by rw [z]; rfl)
      have n3 : k ≠ 3 := fun z => g3 (by rw [z]; rfl)
      have n4 : k ≠ 4 := fun z => g4 (by rw [z]; rfl)
      have n5 : k ≠ 5 := fun z => g5 (by rw [z]; rfl)
      omega
    subst e
    rw [show t_tm t 6 v i lk = decide (v ≤ lk) from rfl] at hQ
    refine bkX11_isSo_228 (fun h => ?_) (fun h => ?_)
    · rw [bi_0] at h; subst h
      exact bkX11_isSo_244 (bkX11_isSo_245 hQ)
    · rw [bi_ne0] at h; subst h
      refine bkX11_isSo_233 (fun h => ?_) (fun h => ?_)
      · rw [nI_ltI (by omega) (by omega)] at h
        rw [decide_eq_false (by omega)] at hQ; exact bkX11_isSo_244 (bkX11_isSo_245 hQ)
      · rw [nI_ltI (by omega) (by omega)] at h
        rw [decide_eq_true (by omega)] at hQ; exact bkX11_isSo_240 (bkX11_isSo_245 hQ)
theorem lM_isSo {a m lk : Nat} {Q : Option av_T → hs_T → Prop} (hT : TrM S n t) (hi : i < n) (hlk : lk ≤ 400) (hp : PrM S p) (hm : a + m ≤ 75) (ho : ∀ q, q < m → okt (p (72 + (a + q))) (p (147 + (a + q)))) :
    ∀ (k q : Nat) (b : Bool) (o7 : Option av_T), q + k = m → Q (some (vI (bi_ (b && c_so t p (a + q) k i lk)))) S → Ev (d + 2) mX11_isSo 6 [some (vR 11 0), some (vI (nI a)), some (vI (nI m)), some (vI (nI i)), some (vI (nI lk)), some (vI (bi_ b)), some (vI (nI (a + q))), o7] [] S Q := by
  intro k
  induction k with
  | zero =>
    intro q b o7 hq hQ
    have e : q = m := by omega
    subst e
    refine bkX11_isSo_6 (fun _ => bkX11_isSo_253 (bi_n _) ?_) (fun h => absurd (by rw [nI_add]; exact nI_le (Nat.le_refl _) (by omega)) h)
    rw [show c_so t p (a + q) 0 i lk = true from rfl, Bool.and_true] at hQ
    exact hQ
  | succ k ih =>
    intro q b o7 hq hQ
    refine bkX11_isSo_6 (fun h => absurd h (by rw [nI_add]; exact nl_ (by omega) (by omega))) (fun _ => ?_)
    refine sM_isSo hT hi hlk hp (by omega) (ho q (by omega)) (fun o => ?_)
    refine bkX11_isSo_247 ?_
    rw [nI_1]
    refine ih (q + 1) _ _ (by omega) ?_
    rw [show c_so t p (a + q) (k + 1) i lk = (t_tm t (p (72 + (a + q))) (p (147 + (a + q))) i lk && c_so t p (a + (q + 1)) k i lk) from rfl, ← Bool.and_assoc] at hQ
    exact hQ
theorem kM_isSo {a m lk : Nat} (hT : TrM S n t) (hi : i < n) (hlk : lk ≤ 400) (hp : PrM S p) (hm : a + m ≤ 75) (ho : ∀ q, q < m → okt (p (72 + (a + q))) (p (147 + (a + q)))) : Ci (d + 2) mX11_isSo [vR 11 0, vI (nI a), vI (nI m), vI (nI i), vI (nI lk)] S (fun v S' => v = bi_ (c_so t p a m i lk) ∧ S' = S) := by
  refine cxX11_isSo ?_
  exact bkX11_isSo_0 (lM_isSo (b := true) hT hi hlk hp hm ho m 0 _ (by omega) ⟨_, rfl, rfl, rfl⟩)
theorem kM_isKept (hT : TrM S n t) (hi : i < n) (hp : PrM S p) (hW : WFp p) : Ci (d + 3) mX11_isKept [vR 11 0, vI (nI i)] S (fun v S' => v = bi_ (c_so t p 72 (p 231) i i) ∧ S' = S) := by
  have h2 := hT.2.1
  refine cxX11_isKept ?_
  refine bkX11_isKept_0 (P := fun v S' => v = bi_ (c_so t p 72 (p 231) i i) ∧ S' = S) ?_ ?_
  · rw [hp 231 (by omega)]
    exact kM_isSo (a := 72) hT hi (by omega) hp (by have := hW.2.2.1; omega) (fun q hq => hW.2.2.2.1 q hq)
  · rintro _ S ⟨rfl, rfl⟩
    exact bkX11_isKept_16 (bi_n _) ⟨_, rfl, rfl, rfl⟩
end RL
