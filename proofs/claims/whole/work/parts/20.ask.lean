/-! ===== what a question leaves; rule, branch, next, stored ===== -/
/-- the cells that matter -/
def ess (k j f : Nat) : Bool := decide (k ∈ [5, 600, 601, 602, 603, 604, 605, 6, 700, 800, 10, 1200, 1202, 1204, 1205, 1207, 1230, 1231, 1232]) || (decide (k = 7) && decide (f = 1)) || ((decide (k = 8) || decide (k = 900)) && !decide (j = 1)) || (decide (k = 11) && decide (f ∈ [3, 8, 13, 33]))
def Kp (S S' : hs_T) : Prop := S'.2.2 = S.2.2 ∧ ∀ k j f, ess k j f = true → S'.1 k j f = S.1 k j f
theorem Kp_rf (S : hs_T) : Kp S S := ⟨rfl, fun _ _ _ _ => rfl⟩
theorem Kp_tr {S S' S'' : hs_T} (h : Kp S S') (h2 : Kp S' S'') : Kp S S'' := ⟨h2.1.trans h.1, fun k j f e => (h2.2 k j f e).trans (h.2 k j f e)⟩
theorem Kp_sk {S S' : hs_T} {k j : Nat} {g : Nat → Int32} (h : Kp S S') (hg : ∀ f, ess k j f = true → g f = S'.1 k j f) : Kp S (sk_ S' k j g) := by
  refine Kp_tr h ⟨rfl, fun k' j' f e => ?_⟩
  by_cases hk : k' = k ∧ j' = j
  · obtain ⟨rfl, rfl⟩ := hk
    rw [sk_at]; exact hg f e
  · rw [sk_ne _ _ hk]
theorem Kp_sl {S S' : hs_T} {g : Nat → Int64} (h : Kp S S') : Kp S (sl_ S' g) := Kp_tr h ⟨rfl, fun _ _ _ _ => rfl⟩
theorem Kp_wx {S S' : hs_T} {g h : Nat → Int32} (hk : Kp S S') : Kp S (wx_ S' g h) := Kp_sk (Kp_sk hk (fun f e => absurd e (by simp [ess]))) (fun f e => absurd e (by simp [ess]))
theorem ess11 {f : Nat} (h : ess 11 0 f = true) : f = 3 ∨ f = 8 ∨ f = 13 ∨ f = 33 := by simpa [ess] using h
theorem Kp_mx {S : hs_T} {g h : Nat → Int32} (hk : kp_run S g) : Kp S (mx_ S g h) := Kp_sk (Kp_sk (Kp_rf S) (fun f e => hk f (by have := ess11 e; omega))) (fun f e => absurd e (by simp [ess]))
theorem scX_Kp {S S' : hs_T} (h : scX S S') : Kp S S' := by obtain ⟨g, h, rfl⟩ := h; exact Kp_wx (Kp_rf S)
theorem scM_Kp {S S' : hs_T} (h : scM S S') : Kp S S' := by obtain ⟨g, h, rfl, hk⟩ := h; exact Kp_mx hk
theorem s10 (x : Int32) : (x - 10).toInt = if x.toInt < -2147483638 then x.toInt + 4294967286 else x.toInt - 10 := by
  have h := fb_rng x
  rw [Int32.toInt_sub, show (10 : Int32).toInt = 10 from rfl, Int.bmod]
  split <;> split <;> omega
theorem inR_s10 (x : Int32) {hi : Int} (h : hi < 1000) : inR (x - 10) 0 hi = inR x 10 (10 + hi) := by
  have hr := fb_rng x
  unfold inR
  rw [s10]
  apply decide_eq_decide.mpr
  split <;> omega
section AK
variable {d : Nat} {S : hs_T} {n w i r : Nat} {t p : Nat → Nat} {x y z : Int32}
theorem kX10_fault : Ci d mX10_fault [vR 10 0] S (fun v S' => v = S.1 10 0 11 ∧ S' = S) := cxX10_fault (bkX10_fault_0 ⟨_, rfl, rfl, rfl⟩)
theorem kX10_torn : Ci d mX10_torn [vR 10 0] S (fun v S' => v = S.1 10 0 12 ∧ S' = S) := cxX10_torn (bkX10_torn_0 ⟨_, rfl, rfl, rfl⟩)
theorem kM_fault : Ci d mX11_fault [vR 11 0] S (fun v S' => v = S.1 11 0 13 ∧ S' = S) := cxX11_fault (bkX11_fault_0 ⟨_, rfl, rfl, rfl⟩)
theorem kM_torn : Ci d mX11_torn [vR 11 0] S (fun v S' => v = S.1 11 0 33 ∧ S' = S) := cxX11_torn (bkX11_torn_0 ⟨_, rfl, rfl, rfl⟩)
def sp_rule (p : Nat → Nat) (x : Int32) : Int32 := if x = 0 then nI (p 230) else if x = 1 then nI (p 232) else if x = 2 then nI (p 233) else if x = 3 then nI (p 231) else if inR x 10 (9 + (p 230 : Int)) then nI (p (222 + (x.toInt.toNat - 10))) else -1
theorem i9 {k : Nat} (hk : k ≤ 400) : ((9 : Int32) + nI k).toInt = 9 + (k : Int) := by rw [show (9 : Int32) = nI 9 from rfl, nI_add, nI_toInt (by omega)]; omega
theorem i19 {k : Nat} (hk : k ≤ 400) : ((19 : Int32) + nI k).toInt = 19 + (k : Int) := by rw [show (19 : Int32) = nI 19 from rfl, nI_add, nI_toInt (by omega)]; omega
theorem kX10_rule (hD : S.2.2 0 = r) (hr : r < 2) (hW : WFp p) (hp : PrX S r p) : Ci (d + 1) mX10_rule [vR 10 0, vI x] S (fun v S' => v = sp_rule p x ∧ S' = S) := by
  have h8 := hW.1
  have hr' : S.2.2 0 < 2 := by rw [hD]; exact hr
  refine cxX10_rule ?_
  refine bkX10_rule_0 (fun e => ?_) (fun e => ?_) (fun e => ?_) (fun e => ?_) (fun e0 e1 e2 e3 => ?_)
  · exact bkX10_rule_32 hr' ⟨_, rfl, by rw [hD, hp.1, sp_rule, if_pos e], rfl⟩
  · exact bkX10_rule_40 hr' ⟨_, rfl, by rw [hD, hp.2.1, sp_rule, if_neg (by rw [e]; decide), if_pos e], rfl⟩
  · exact bkX10_rule_48 hr' ⟨_, rfl, by rw [hD, hp.2.2.1, sp_rule, if_neg (by rw [e]; decide), if_neg (by rw [e]; decide), if_pos e], rfl⟩
  · refine bkX10_rule_56 hr' (by rw [hD]; exact kX5_termCount (c := 24) hr (by omega)) ?_
    rintro _ S ⟨rfl, rfl⟩
    exact bkX10_rule_65 ⟨_, rfl, by rw [hp.2.2.2.2.1, sp_rule, if_neg (by rw [e]; decide), if_neg (by rw [e]; decide), if_neg (by rw [e]; decide), if_pos e], rfl⟩
  · have es : sp_rule p x = if inR x 10 (9 + (p 230 : Int)) then nI (p (222 + (x.toInt.toNat - 10))) else -1 := by
      rw [sp_rule, if_neg e0, if_neg e1, if_neg e2, if_neg e3]
    refine bkX10_rule_66 hr' (kX10_w (lo := 10) (hi := 9 + (p 230 : Int)) rfl (by rw [hD, hp.1]; exact i9 (by omega))) ?_
    rintro _ S ⟨rfl, rfl⟩
    cases hx : inR x 10 (9 + (p 230 : Int))
    · exact bkX10_rule_82 (fun _ => bkX10_rule_99 (bkX10_rule_100 ⟨_, rfl, by rw [es, hx]; rfl, rfl⟩)) (fun h => absurd rfl h)
    · refine bkX10_rule_82 (fun h => absurd h (by decide)) (fun _ => ?_)
      obtain ⟨k, hk, hk2, rfl⟩ := inR_get1 (by omega) hx
      refine bkX10_rule_85 hr' (P := fun v S' => v = nI (p (222 + (k - 10))) ∧ S' = S) ?_ ?_
      · rw [hD, show (10 : Int32) = nI 10 from rfl, pk_sub (by omega)]
        exact kX5_bc hr hW hp (by omega)
      · rintro _ S ⟨rfl, rfl⟩
        exact bkX10_rule_96 (bkX10_rule_100 ⟨_, rfl, by rw [es, hx, nI_tn (by omega)]; rfl, rfl⟩)
theorem kM_isState (hW : WFp p) (hp : PrM S p) : Ci (d + 1) mX11_isState [vR 11 0, vI x] S (fun v S' => v = bi_ (inR x 0 ((p 230 : Int) - 1)) ∧ S' = S) := by
  have h8 := hW.1
  refine cxX11_isState ?_
  refine bkX11_isState_0 (kM_inI (lo := 0) (hi := (p 230 : Int) - 1) rfl ?_) ?_
  · rw [hp 230 (by omega), Int32.toInt_toInt64]; exact pk_sub_toInt (b := 1) (by omega) (by omega)
  rintro _ S ⟨rfl, rfl⟩
  exact bkX11_isState_17 (bi_n _) ⟨_, rfl, rfl, rfl⟩
theorem kM_rule (hW : WFp p) (hp : PrM S p) : Ci (d + 2) mX11_rule [vR 11 0, vI x] S (fun v S' => v = sp_rule p x ∧ S' = S) := by
  have h8 := hW.1
  refine cxX11_rule ?_
  refine bkX11_rule_0 (fun e => ?_) (fun e => ?_) (fun e => ?_) (fun e => ?_) (fun e0 e1 e2 e3 => ?_)
  · exact bkX11_rule_32 ⟨_, rfl, by rw [hp 230 (by omega), sp_rule, if_pos e], rfl⟩
  · exact bkX11_rule_41 ⟨_, rfl, by rw [hp 232 (by omega), sp_rule, if_neg (by rw [e]; decide), if_pos e], rfl⟩
  · exact bkX11_rule_50 ⟨_, rfl, by rw [hp 233 (by omega), sp_rule, if_neg (by rw [e]; decide), if_neg (by rw [e]; decide), if_pos e], rfl⟩
  · exact bkX11_rule_59 ⟨_, rfl, by rw [hp 231 (by omega), sp_rule, if_neg (by rw [e]; decide), if_neg (by rw [e]; decide), if_neg (by rw [e]; decide), if_pos e], rfl⟩
  · have es : sp_rule p x = if inR x 10 (9 + (p 230 : Int)) then nI (p (222 + (x.toInt.toNat - 10))) else -1 := by
      rw [sp_rule, if_neg e0, if_neg e1, if_neg e2, if_neg e3]
    refine bkX11_rule_68 (kM_isState hW hp) ?_
    rintro _ S ⟨rfl, rfl⟩
    rw [inR_s10 x (by omega), show (10 : Int) + ((p 230 : Int) - 1) = 9 + (p 230 : Int) by omega]
    cases hx : inR x 10 (9 + (p 230 : Int))
    · exact bkX11_rule_76 (fun _ => bkX11_rule_95 (bkX11_rule_96 ⟨_, rfl, by rw [es, hx]; rfl, rfl⟩)) (fun h => absurd rfl h)
    · refine bkX11_rule_76 (fun h => absurd h (by decide)) (fun _ => ?_)
      obtain ⟨k, hk, hk2, rfl⟩ := inR_get1 (by omega) hx
      have e : (222 : Int32) + nI k - 10 = nI (222 + (k - 10)) := by
        rw [show (222 : Int32) = nI 222 from rfl, nI_add, show (10 : Int32) = nI 10 from rfl, pk_sub (by omega)]; congr 1; omega
      refine bkX11_rule_79 (by rw [e]; exact vp_lt (by omega) (by omega)) ?_
      rw [e, nI_clamp (by omega), hp _ (by omega)]
      exact bkX11_rule_96 ⟨_, rfl, by rw [es, hx, nI_tn (by omega)]; rfl, rfl⟩
/-! branch -/
def s_brc (p : Nat → Nat) (k : Nat) (z : Int32) : Int32 := if inR z 10 (9 + (p k : Int)) then nI (p (72 + (3 * k + (z.toInt.toNat - 10)))) else if inR z 20 (19 + (p k : Int)) then nI (p (147 + (3 * k + (z.toInt.toNat - 20)))) else if z = 0 then nI (p k) else if z = 1 then nI (p (24 + k)) else if z = 2 then nI (p (48 + k)) else -1
def sp_branch (p : Nat → Nat) (x y z : Int32) : Int32 := if inR x 0 ((p 230 : Int) - 1) && inR y 0 ((p (222 + x.toInt.toNat) : Int) - 1) then s_brc p (3 * x.toInt.toNat + y.toInt.toNat) z else -1
theorem kX10_branch (hD : S.2.2 0 = r) (hr : r < 2) (hW : WFp p) (hp : PrX S r p) : Ci (d + 2) mX10_branch [vR 10 0, vI x, vI y, vI z] S (fun v S' => v = sp_branch p x y z ∧ S' = S) := by
  have h8 := hW.1
  have hr' : S.2.2 0 < 2 := by rw [hD]; exact hr
  refine cxX10_branch ?_
  refine bkX10_branch_0 hr' (by rw [hD]; exact kX5_branchPlace hr hW hp) ?_
  rintro _ S ⟨rfl, rfl⟩
  cases hx : inR x 0 ((p 230 : Int) - 1) && inR y 0 ((p (222 + x.toInt.toNat) : Int) - 1)
  · exact bkX10_branch_9 (fun h => absurd h (by show ¬ (0 : Int32) ≤ -1; decide)) (fun _ => bkX10_branch_16 ⟨_, rfl, by rw [sp_branch, hx]; rfl, rfl⟩)
  · have hx1 := (Bool.and_eq_true _ _ ▸ hx).1
    have hy1 := (Bool.and_eq_true _ _ ▸ hx).2
    obtain ⟨s, hs, rfl⟩ := inR_get hx1
    obtain ⟨b, hb, rfl⟩ := inR_get hy1
    rw [nI_tn (by omega)] at hb hx hy1
    have h3 := (hW.2.1 s (by omega)).2.1
    have es : sp_branch p (nI s) (nI b) z = s_brc p (3 * s + b) z := by rw [sp_branch, nI_tn (by omega), nI_tn (by omega), hx]; rfl
    rw [es, nI_tn (by omega), nI_tn (by omega)]
    obtain ⟨h99, htg, hm3, hoc⟩ := (hW.2.1 s (by omega)).2.2 b (by omega)
    obtain ⟨q1, q2, hC⟩ := (hp.2.2.2.1 s (by omega)).2 b (by omega)
    generalize hk : 3 * s + b = k at *
    have hk24 : k < 24 := by omega
    refine bkX10_branch_9 (fun _ => ?_) (fun h => absurd (nI_pos' (by omega)) h)
    refine bkX10_branch_18 hr' (by rw [hD]; exact kX5_termCount hr (by omega)) ?_
    rintro _ S ⟨rfl, rfl⟩
    rw [hC.1]
    refine bkX10_branch_27 (kX10_w (lo := 10) (hi := 9 + (p k : Int)) rfl (i9 (by omega))) ?_
    rintro _ S ⟨rfl, rfl⟩
    cases h10 : inR z 10 (9 + (p k : Int))
    · refine bkX10_branch_40 (fun _ => ?_) (fun h => absurd rfl h)
      refine bkX10_branch_57 (kX10_w (lo := 20) (hi := 19 + (p k : Int)) rfl (i19 (by omega))) ?_
      rintro _ S ⟨rfl, rfl⟩
      cases h20 : inR z 20 (19 + (p k : Int))
      · refine bkX10_branch_68 (fun _ => ?_) (fun h => absurd rfl h)
        have e2 : s_brc p k z = if z = 0 then nI (p k) else if z = 1 then nI (p (24 + k)) else if z = 2 then nI (p (48 + k)) else -1 := by
          rw [s_brc, h10, h20]; rfl
        rw [e2]
        refine bkX10_branch_85 (fun e => ?_) (fun e => ?_) (fun e => ?_) (fun e0 e1 e2 => ?_)
        · exact bkX10_branch_112 ⟨_, rfl, by rw [if_pos e], rfl⟩
        · refine bkX10_branch_115 hr' (by rw [hD]; exact kX5_timesOf hr hk24) ?_
          rintro _ S ⟨rfl, rfl⟩
          exact bkX10_branch_124 ⟨_, rfl, by rw [if_neg (by rw [e]; decide), if_pos e, q1], rfl⟩
        · refine bkX10_branch_125 hr' (by rw [hD]; exact kX5_targetOf hr hk24) ?_
          rintro _ S ⟨rfl, rfl⟩
          exact bkX10_branch_134 ⟨_, rfl, by rw [if_neg (by rw [e]; decide), if_neg (by rw [e]; decide), if_pos e, q2], rfl⟩
        · exact bkX10_branch_135 ⟨_, rfl, by rw [if_neg e0, if_neg e1, if_neg e2], rfl⟩
      · refine bkX10_branch_68 (fun h => absurd h (by decide)) (fun _ => ?_)
        obtain ⟨q, hq1, hq2, rfl⟩ := inR_get1 (by omega) h20
        refine bkX10_branch_71 hr' (P := fun v S' => v = nI (p (147 + (3 * k + (q - 20)))) ∧ S' = S) ?_ ?_
        · rw [hD, show (20 : Int32) = nI 20 from rfl, pk_sub (by omega)]
          exact kX5_termNumber hr (by omega) hC hm3 (by omega)
        · rintro _ S ⟨rfl, rfl⟩
          exact bkX10_branch_84 ⟨_, rfl, by rw [s_brc, h10, h20, nI_tn (by omega)]; rfl, rfl⟩
    · refine bkX10_branch_40 (fun h => absurd h (by decide)) (fun _ => ?_)
      obtain ⟨q, hq1, hq2, rfl⟩ := inR_get1 (by omega) h10
      refine bkX10_branch_43 hr' (P := fun v S' => v = nI (p (72 + (3 * k + (q - 10)))) ∧ S' = S) ?_ ?_
      · rw [hD, show (10 : Int32) = nI 10 from rfl, pk_sub (by omega)]
        exact kX5_termKind hr (by omega) hC hm3 (by omega)
      · rintro _ S ⟨rfl, rfl⟩
        exact bkX10_branch_56 ⟨_, rfl, by rw [s_brc, h10, nI_tn (by omega)]; rfl, rfl⟩
theorem kM_branch (hW : WFp p) (hp : PrM S p) : Ci (d + 2) mX11_branch [vR 11 0, vI x, vI y, vI z] S (fun v S' => v = sp_branch p x y z ∧ S' = S) := by
  have h8 := hW.1
  refine cxX11_branch ?_
  refine bkX11_branch_0 (kM_isState hW hp) ?_
  rintro _ S ⟨rfl, rfl⟩
  cases hx : inR x 0 ((p 230 : Int) - 1)
  · exact bkX11_branch_5 (fun _ => bkX11_branch_30 ⟨_, rfl, by rw [sp_branch, hx]; rfl, rfl⟩) (fun h => absurd rfl h)
  · refine bkX11_branch_5 (fun h => absurd h (by decide)) (fun _ => ?_)
    obtain ⟨s, hs, rfl⟩ := inR_get hx
    have h3 := (hW.2.1 s (by omega)).2.1
    have e222 : (222 : Int32) + nI s = nI (222 + s) := by rw [show (222 : Int32) = nI 222 from rfl, nI_add]
    refine bkX11_branch_8 (by rw [e222]; exact vp_lt (by omega) (by omega)) (P := fun v S' => v = bi_ (inR y 0 ((p (222 + s) : Int) - 1)) ∧ S' = S) ?_ ?_
    · rw [e222, nI_clamp (by omega), hp _ (by omega)]
      exact kM_inI (lo := 0) rfl (by rw [Int32.toInt_toInt64]; exact pk_sub_toInt (b := 1) (by omega) (by omega))
    rintro _ S ⟨rfl, rfl⟩
    cases hy : inR y 0 ((p (222 + s) : Int) - 1)
    · exact bkX11_branch_27 (fun h => absurd rfl h) (fun _ => bkX11_branch_30 ⟨_, rfl, by rw [sp_branch, nI_tn (by omega), hx, hy]; rfl, rfl⟩)
    · refine bkX11_branch_27 (fun _ => ?_) (fun h => absurd h (by decide))
      obtain ⟨b, hb, rfl⟩ := inR_get hy
      have es : sp_branch p (nI s) (nI b) z = s_brc p (3 * s + b) z := by rw [sp_branch, nI_tn (by omega), nI_tn (by omega), hx, hy]; rfl
      rw [es]
      obtain ⟨h99, htg, hm3, hoc⟩ := (hW.2.1 s (by omega)).2.2 b (by omega)
      refine bkX11_branch_32 (kM_inI (lo := 0) (hi := 2) rfl rfl) ?_
      rintro _ S ⟨rfl, rfl⟩
      rw [a3]
      generalize hk : 3 * s + b = k at *
      have hk24 : k < 24 := by omega
      have e0 : (0 : Int32) + nI k = nI k := Int32.zero_add _
      have e24 : (24 : Int32) + nI k = nI (24 + k) := by rw [show (24 : Int32) = nI 24 from rfl, nI_add]
      have e48 : (48 : Int32) + nI k = nI (48 + k) := by rw [show (48 : Int32) = nI 48 from rfl, nI_add]
      cases h02 : inR z 0 2
      · refine bkX11_branch_48 (fun _ => ?_) (fun h => absurd rfl h)
        have nz : ∀ a : Nat, a ≤ 2 → ¬ z = nI a := by
          intro a ha e
          rw [e, inR_nI (by omega)] at h02
          exact absurd h02 (by rw [decide_eq_true (by omega)]; decide)
        refine bkX11_branch_96 (by rw [e0]; exact vp_lt (by omega) (by omega)) (P := fun v S' => v = bi_ (inR z 10 (9 + (p k : Int))) ∧ S' = S) ?_ ?_
        · rw [e0, nI_clamp (by omega), hp _ (by omega)]
          exact kM_inI rfl (by rw [Int32.toInt_toInt64]; exact i9 (by omega))
        rintro _ S ⟨rfl, rfl⟩
        cases h10 : inR z 10 (9 + (p k : Int))
        · refine bkX11_branch_117 (fun _ => ?_) (fun h => absurd rfl h)
          refine bkX11_branch_138 (by rw [e0]; exact vp_lt (by omega) (by omega)) (P := fun v S' => v = bi_ (inR z 20 (19 + (p k : Int))) ∧ S' = S) ?_ ?_
          · rw [e0, nI_clamp (by omega), hp _ (by omega)]
            exact kM_inI rfl (by rw [Int32.toInt_toInt64]; exact i19 (by omega))
          rintro _ S ⟨rfl, rfl⟩
          cases h20 : inR z 20 (19 + (p k : Int))
          · refine bkX11_branch_159 (fun _ => ?_) (fun h => absurd rfl h)
            exact bkX11_branch_183 (bkX11_branch_184 ⟨_, rfl, by rw [s_brc, h10, h20]; simp [show ¬ z = 0 from nz 0 (by omega), show ¬ z = 1 from nz 1 (by omega), show ¬ z = 2 from nz 2 (by omega)], rfl⟩)
          · refine bkX11_branch_159 (fun h => absurd h (by decide)) (fun _ => ?_)
            obtain ⟨q, hq1, hq2, rfl⟩ := inR_get1 (by omega) h20
            have e : (147 : Int32) + (3 * nI k) + nI q - 20 = nI (147 + (3 * k + (q - 20))) := by
              rw [show (147 : Int32) = nI 147 from rfl, show (3 : Int32) = nI 3 from rfl, pk_mul, nI_add, nI_add, show (20 : Int32) = nI 20 from rfl, pk_sub (by omega)]; congr 1; omega
            refine bkX11_branch_162 (by rw [e]; exact vp_lt (by omega) (by omega)) ?_
            rw [e, nI_clamp (by omega), hp _ (by omega)]
            exact bkX11_branch_184 ⟨_, rfl, by rw [s_brc, h10, h20, nI_tn (by omega)]; rfl, rfl⟩
        · refine bkX11_branch_117 (fun h => absurd h (by decide)) (fun _ => ?_)
          obtain ⟨q, hq1, hq2, rfl⟩ := inR_get1 (by omega) h10
          have e : (72 : Int32) + (3 * nI k) + nI q - 10 = nI (72 + (3 * k + (q - 10))) := by
            rw [show (72 : Int32) = nI 72 from rfl, show (3 : Int32) = nI 3 from rfl, pk_mul, nI_add, nI_add, show (10 : Int32) = nI 10 from rfl, pk_sub (by omega)]; congr 1; omega
          refine bkX11_branch_120 (by rw [e]; exact vp_lt (by omega) (by omega)) ⟨_, rfl, ?_, rfl⟩
          rw [e, nI_clamp (by omega), hp _ (by omega), s_brc, h10, nI_tn (by omega)]; rfl
      · refine bkX11_branch_48 (fun h => absurd h (by decide)) (fun _ => ?_)
        obtain ⟨q, hq, rfl⟩ := inR_get h02
        have n10 : inR (nI q) 10 (9 + (p k : Int)) = false := by rw [inR_nI (by omega)]; exact decide_eq_false (by omega)
        have n20 : inR (nI q) 20 (19 + (p k : Int)) = false := by rw [inR_nI (by omega)]; exact decide_eq_false (by omega)
        have e2 : s_brc p k (nI q) = if nI q = 0 then nI (p k) else if nI q = 1 then nI (p (24 + k)) else if nI q = 2 then nI (p (48 + k)) else -1 := by
          rw [s_brc, n10, n20]; rfl
        rw [e2]
        refine bkX11_branch_51 (fun h0 => ?_) (fun h0 => ?_)
        · refine bkX11_branch_67 (fun h1 => ?_) (fun h1 => ?_)
          · refine bkX11_branch_85 (by rw [e48]; exact vp_lt (by omega) (by omega)) ?_
            rw [e48, nI_clamp (by omega), hp _ (by omega)]
            have q2 : q = 2 := by
              have : q ≠ 0 := fun e => h0 (by rw [e]; rfl)
              have : q ≠ 1 := fun e => h1 (by rw [e]; rfl)
              omega
            exact bkX11_branch_95 ⟨_, rfl, by rw [if_neg h0, if_neg h1, if_pos (by rw [q2]; rfl)], rfl⟩
          · refine bkX11_branch_72 (by rw [e24]; exact vp_lt (by omega) (by omega)) ?_
            rw [e24, nI_clamp (by omega), hp _ (by omega)]
            exact bkX11_branch_95 ⟨_, rfl, by rw [if_neg h0, if_pos h1], rfl⟩
        · refine bkX11_branch_55 (by rw [e0]; exact vp_lt (by omega) (by omega)) ?_
          rw [e0, nI_clamp (by omega), hp _ (by omega)]
          exact bkX11_branch_95 ⟨_, rfl, by rw [if_pos h0], rfl⟩
/-! next -/
def s_fst (k : Nat → Bool) : Nat → Nat → Int32
  | 0, _ => -4
  | m + 1, i => if k i then nI i else s_fst k m (i + 1)
def kpt (t p : Nat → Nat) (i : Nat) : Bool := c_so t p 72 (p 231) i i
def sp_next (n : Nat) (t p : Nat → Nat) (x : Int32) : Int32 := if inR x 0 ((n : Int) - 1) then s_fst (kpt t p) (n - x.toInt.toNat) x.toInt.toNat else -1
theorem kX5_keeps (hT : TrX S 0 n t) (hi : i < n) (hr : r < 2) (hW : WFp p) (hp : PrX S r p) : Ci (d + 3) mX5_holds [vR 5 r, vI 24, vR 8 0, vI (nI i), vI (nI i)] S (fun v S' => v = bi_ (kpt t p i) ∧ S' = S) := by
  have h2 := hT.2.1
  exact kX5_holds (c := 24) (m := p 231) (lk := i) hT (by omega) hi (by omega) hr (by omega) hp.2.2.2.2 hW.2.2.1 hW.2.2.2.1
theorem lX10_next {x1 : Int32} {Q : Option av_T → hs_T → Prop} (hD : S.2.2 0 = r) (hr : r < 2) (hT : TrX S 0 n t) (hW : WFp p) (hp : PrX S r p) :
    ∀ (m i : Nat), i + m = n → Q (some (vI (s_fst (kpt t p) m i))) S → Ev (d + 4) mX10_next 15 [some (vR 10 0), some (vI x1), some (vI (nI i))] [] S Q := by
  have h1 := hT.1
  have h2 := hT.2.1
  intro m
  induction m with
  | zero =>
    intro i hi hQ
    exact bkX10_next_15 (fun _ => bkX10_next_52 hQ) (fun h => absurd (by rw [h1]; exact nI_le (by omega) (by omega)) h)
  | succ m ih =>
    intro i hi hQ
    refine bkX10_next_15 (fun h => absurd h (by rw [h1]; exact nl_ (by omega) (by omega))) (fun _ => ?_)
    refine bkX10_next_26 (by rw [hD]; exact hr) (by rw [hD]; exact kX5_keeps hT (by omega) hr hW hp) ?_
    rintro _ S ⟨rfl, rfl⟩
    unfold s_fst at hQ
    cases hk : kpt t p i
    · rw [hk] at hQ
      refine bkX10_next_41 (fun _ => bkX10_next_46 ?_) (fun h => absurd rfl h)
      rw [nI_1]
      exact ih (i + 1) (by omega) hQ
    · rw [hk] at hQ
      exact bkX10_next_41 (fun h => absurd h (by decide)) (fun _ => bkX10_next_44 hQ)
theorem kX10_next (hD : S.2.2 0 = r) (hr : r < 2) (hT : TrX S 0 n t) (hW : WFp p) (hp : PrX S r p) : Ci (d + 4) mX10_next [vR 10 0, vI x] S (fun v S' => v = sp_next n t p x ∧ S' = S) := by
  have h1 := hT.1
  have h2 := hT.2.1
  refine cxX10_next ?_
  refine bkX10_next_0 (kX8_has h1 h2 (by omega)) ?_
  rintro _ S ⟨rfl, rfl⟩
  cases hx : inR x 0 ((n : Int) - 1)
  · exact bkX10_next_8 (fun h => absurd rfl h) (fun _ => bkX10_next_11 ⟨_, rfl, by simp [sp_next, hx], rfl⟩)
  · refine bkX10_next_8 (fun _ => ?_) (fun h => absurd h (by decide))
    obtain ⟨k, hk, rfl⟩ := inR_get hx
    refine bkX10_next_13 ?_
    exact lX10_next hD hr hT hW hp (n - k) k (by omega) ⟨_, rfl, by rw [sp_next, if_pos hx, nI_tn (by omega)], rfl⟩
theorem lM_next {k : Nat} {Q : Option av_T → hs_T → Prop} (hT : TrM S n t) (hW : WFp p) (hp : PrM S p) (hk : k ≤ n) (hQ : Q (some (vI (s_fst (kpt t p) (n - k) k))) S) :
    ∀ (m : Nat), k + m ≤ n → Ev (d + 4) mX11_next 20 [some (vR 11 0), some (vI (nI k)), some (vI (s_fst (kpt t p) (n - (k + m)) (k + m))), some (vI (nI (k + m) - 1))] [] S Q := by
  have h2 := hT.2.1
  intro m
  induction m with
  | zero =>
    intro hm
    refine bkX11_next_20 (fun _ => bkX11_next_45 hQ) (fun h => absurd ?_ h)
    rw [fa_lt, show (1 : Int32) = nI 1 from rfl, pk_sub_toInt (by omega) (by omega), nI_toInt (by omega)]; omega
  | succ m ih =>
    intro hm
    have e1 : nI (k + (m + 1)) - 1 = nI (k + m) := nI_pred (k + m)
    rw [e1]
    refine bkX11_next_20 (fun h => absurd h (nI_nlt (by omega) (by omega))) (fun _ => ?_)
    refine bkX11_next_25 (kM_isKept hT (by omega) hp hW) ?_
    rintro _ S ⟨rfl, rfl⟩
    have ih := ih (by omega)
    have e2 : n - (k + m) = (n - (k + (m + 1))) + 1 := by omega
    have e3 : nI (k + m) + (-1) = nI (k + m) - 1 := by rw [Int32.sub_eq_add_neg]
    rw [e2] at ih
    unfold s_fst at ih
    change Ev (d + 4) mX11_next 30 _ [vI (bi_ (kpt t p (k + m)))] _ Q
    cases hkp : kpt t p (k + m)
    · rw [hkp] at ih
      refine bkX11_next_30 (fun _ => bkX11_next_37 (bkX11_next_38 ?_)) (fun h => absurd rfl h)
      rw [e3]; exact ih
    · rw [hkp] at ih
      refine bkX11_next_30 (fun h => absurd h (by decide)) (fun _ => bkX11_next_33 (bkX11_next_38 ?_))
      rw [e3]; exact ih
theorem kM_next (hT : TrM S n t) (hW : WFp p) (hp : PrM S p) : Ci (d + 4) mX11_next [vR 11 0, vI x] S (fun v S' => v = sp_next n t p x ∧ S' = S) := by
  have h1 := hT.1
  have h2 := hT.2.1
  refine cxX11_next ?_
  refine bkX11_next_0 (kM_isSample h1 h2) ?_
  rintro _ S ⟨rfl, rfl⟩
  cases hx : inR x 0 ((n : Int) - 1)
  · exact bkX11_next_5 (fun h => absurd rfl h) (fun _ => bkX11_next_8 ⟨_, rfl, by simp [sp_next, hx], rfl⟩)
  · refine bkX11_next_5 (fun _ => ?_) (fun h => absurd h (by decide))
    obtain ⟨k, hk, rfl⟩ := inR_get hx
    refine bkX11_next_10 ?_
    have := lM_next (d := d) (k := k) (Q := fun r S' => ∃ v, r = some (vI v) ∧ v = sp_next n t p (nI k) ∧ S' = _) hT hW hp (by omega) ⟨_, rfl, by rw [sp_next, if_pos hx, nI_tn (by omega)], rfl⟩ (n - k) (by omega)
    rw [show k + (n - k) = n by omega, Nat.sub_self] at this
    rw [h1]
    exact this
/-! stored -/
def s_sto (k : Nat → Bool) (X : Nat) : Nat → Nat → Nat → Int32 → Int32 → Int32 → Int32
  | 0, _, n, f, l, z => if X = 0 then nI n else if X = 1 then f else if X = 2 then l else z
  | m + 1, i, n, f, l, z => if k i then s_sto k X m (i + 1) (n + 1) (if n = 0 then nI i else f) (nI i) (if n + 10 = X then nI i else z) else s_sto k X m (i + 1) n f l z
theorem s_sto_late {k : Nat → Bool} {X : Nat} (hX : 10 ≤ X) : ∀ (m i n : Nat) (f l z : Int32), X < n + 10 → s_sto k X m i n f l z = z := by
  intro m
  induction m with
  | zero => intro i n f l z h; simp [s_sto, show X ≠ 0 by omega, show X ≠ 1 by omega, show X ≠ 2 by omega]
  | succ m ih =>
    intro i n f l z h
    unfold s_sto
    split
    · rw [ih _ _ _ _ _ (by omega), if_neg (by omega)]
    · exact ih _ _ _ _ _ h
def s_sd (n : Nat) (t p : Nat → Nat) (X H : Nat) : Int32 := s_sto (kpt t p) X (min n (H + p 232 - p 233) - (H - p 233)) (H - p 233) 0 (-4) (-4) (-1)
def sp_stored (n : Nat) (t p : Nat → Nat) (x : Int32) : Int32 := if inR x 0 2 || inR x 10 409 then (if (s_go t p n).1 = -4 then -4 else s_sd n t p x.toInt.toNat (s_go t p n).1.toInt.toNat) else -1
theorem s_run_hit : ∀ (m i st lk : Nat) (cm : Nat → Int32) (en lo : Int32), (s_run t p m i st lk cm en lo).1 = -4 ∨ ∃ h, (s_run t p m i st lk cm en lo).1 = nI h ∧ h < i + m := by
  intro m
  induction m with
  | zero => intro i st lk cm en lo; exact Or.inl rfl
  | succ m ih =>
    intro i st lk cm en lo
    unfold s_run
    split
    · rename_i cm' hc
      rcases ih (i + 1) st (lk + 1) cm' en (lo + 1) with h | ⟨h, h1, h2⟩
      · exact Or.inl h
      · exact Or.inr ⟨h, h1, by omega⟩
    · rename_i g cm' hc
      split
      · exact Or.inr ⟨i, rfl, by omega⟩
      · rcases ih (i + 1) g 0 (fun _ => 0) (en + 1) (lo + 1) with h | ⟨h, h1, h2⟩
        · exact Or.inl h
        · exact Or.inr ⟨h, h1, by omega⟩
theorem s_go_hit (m : Nat) : (s_go t p m).1 = -4 ∨ ∃ h, (s_go t p m).1 = nI h ∧ h < m := by
  unfold s_go
  split
  · exact Or.inl rfl
  · rcases s_run_hit (t := t) (p := p) m 0 0 0 (fun _ => 0) 0 0 with h | ⟨h, h1, h2⟩
    · exact Or.inl h
    · exact Or.inr ⟨h, h1, by omega⟩
theorem x10 {X k : Nat} (hX : X ≤ 409) (hk : k ≤ 400) : nI k = nI X - 10 ↔ k + 10 = X := by
  rw [fa_eq, nI_toInt (by omega), show (10 : Int32) = nI 10 from rfl, pk_sub_toInt (by omega) (by omega)]; omega
theorem lX10_stored {X stop : Nat} {x5 : Int32} {Q : Option av_T → hs_T → Prop} (hD : S.2.2 0 = r) (hr : r < 2) (hT : TrX S 0 n t) (hW : WFp p) (hp : PrX S r p) (hX : X ≤ 409) (hs : stop ≤ n) :
    ∀ (m i k : Nat) (f l : Int32), i + m = stop → k ≤ i → Q (some (vI (s_sto (kpt t p) X m i k f l (-1)))) S → Ev (d + 4) mX10_stored 114 [some (vR 10 0), some (vI (nI X)), some (vI f), some (vI l), some (vI (nI k)), some (vI x5), some (vI (nI stop)), some (vI (nI i))] [] S Q := by
  have h1 := hT.1
  have h2 := hT.2.1
  have lt : ∀ {a : Nat}, nI X = nI a → a < 2 ^ 31 → X = a := fun h ha => (nI_eq (by omega) ha).mp h
  intro m
  induction m with
  | zero =>
    intro i k f l hi hk hQ
    unfold s_sto at hQ
    refine bkX10_stored_114 (fun _ => ?_) (fun h => absurd (nI_le (by omega) (by omega)) h)
    refine bkX10_stored_180 (fun e => ?_) (fun e => ?_) (fun e => ?_) (fun e0 e1 e2 => ?_)
    · rw [if_pos (lt (a := 0) e (by omega))] at hQ; exact bkX10_stored_208 hQ
    · have e := lt (a := 1) e (by omega); rw [if_neg (by omega), if_pos e] at hQ; exact bkX10_stored_211 hQ
    · have e := lt (a := 2) e (by omega); rw [if_neg (by omega), if_neg (by omega), if_pos e] at hQ; exact bkX10_stored_213 hQ
    · rw [if_neg (fun z => e0 (by rw [z]; rfl)), if_neg (fun z => e1 (by rw [z]; rfl)), if_neg (fun z => e2 (by rw [z]; rfl))] at hQ
      exact bkX10_stored_215 hQ
  | succ m ih =>
    intro i k f l hi hk hQ
    refine bkX10_stored_114 (fun h => absurd h (nl_ (by omega) (by omega))) (fun _ => ?_)
    refine bkX10_stored_121 (by rw [hD]; exact hr) (by rw [hD]; exact kX5_keeps hT (by omega) hr hW hp) ?_
    rintro _ S ⟨rfl, rfl⟩
    unfold s_sto at hQ
    cases hkp : kpt t p i
    · rw [hkp] at hQ
      refine bkX10_stored_138 (fun h => absurd rfl h) (fun _ => bkX10_stored_141 (bkX10_stored_174 ?_))
      rw [nI_1]
      exact ih (i + 1) k f l (by omega) (by omega) hQ
    · rw [hkp] at hQ
      refine bkX10_stored_138 (fun _ => ?_) (fun h => absurd h (by decide))
      simp only [if_true] at hQ
      refine bkX10_stored_144 (fun h => ?_) (fun h => ?_) <;> rw [x10 hX (by omega)] at h
      · rw [if_neg h] at hQ
        refine bkX10_stored_156 (fun h0 => ?_) (fun h0 => ?_)
        · rw [if_neg (fun z => h0 (by rw [z]; rfl))] at hQ
          refine bkX10_stored_166 (bkX10_stored_167 (bkX10_stored_174 ?_))
          rw [nI_1, nI_1]
          exact ih (i + 1) (k + 1) _ _ (by omega) (by omega) hQ
        · rw [if_pos ((nI_eq (b := 0) (by omega) (by omega)).mp h0)] at hQ
          refine bkX10_stored_161 (bkX10_stored_167 (bkX10_stored_174 ?_))
          rw [nI_1, nI_1]
          exact ih (i + 1) (k + 1) _ _ (by omega) (by omega) hQ
      · rw [s_sto_late (by omega) _ _ _ _ _ _ (by omega), if_pos h] at hQ
        exact bkX10_stored_153 hQ
theorem b_in {x : Int32} (h : (inR x 0 2 || inR x 10 409) = true) : ∃ X : Nat, X ≤ 409 ∧ x = nI X := by
  rcases Bool.or_eq_true _ _ ▸ h with h | h
  · obtain ⟨X, h1, h2⟩ := inR_get h; exact ⟨X, by omega, h2⟩
  · obtain ⟨X, h1, h2, h3⟩ := inR_get1 (by omega) h; exact ⟨X, by omega, h3⟩
theorem TrX_w' {g h : Nat → Int32} {j : Nat} (hT : TrX S j n t) : TrX (wx_ S g h) j n t := by
  unfold TrX; rw [wx_o _ _ _ (by omega) (by omega), wx_o _ _ _ (by omega) (by omega)]; exact hT
theorem kX10_stored (hD : S.2.2 0 = r) (hr : r < 2) (hT : TrX S 0 n t) (hW : WFp p) (hp : PrX S r p) : Ci (d + 6) mX10_stored [vR 10 0, vI x] S (fun v S' => v = sp_stored n t p x ∧ Kp S S') := by
  have h1 := hT.1
  have h2 := hT.2.1
  have h8 := hW.1
  have hdp := hW.2.2.2.2
  refine cxX10_stored ?_
  have body : (inR x 0 2 || inR x 10 409) = true → Ev (d + 6) mX10_stored 23 [some (vR 10 0), some (vI x), none, none, none, none, none, none] [] S (fun r S' => ∃ v, r = some (vI v) ∧ v = sp_stored n t p x ∧ Kp S S') := by
    intro hb
    obtain ⟨X, hX, rfl⟩ := b_in hb
    refine bkX10_stored_23 (P := po_run S (s_go t p n)) (by rw [hD, h1]; exact kX9_follow hT (by omega) (Nat.le_refl _) hr hW hp) ?_
    rintro _ ⟨g, h, rfl, g1, g2, g3, g4⟩
    have hk : Kp S (wx_ S g h) := Kp_wx (Kp_rf S)
    rcases s_go_hit (t := t) (p := p) n with hg | ⟨H, hg, hH⟩
    · refine bkX10_stored_45 (fun z => absurd z (by rw [wx_g, g1, hg]; decide)) (fun _ => ?_)
      exact bkX10_stored_55 ⟨_, rfl, by rw [sp_stored, if_pos hb, if_pos hg], hk⟩
    · have hne : ¬ (s_go t p n).1 = -4 := by
        rw [hg, fa_eq, nI_toInt (by omega)]; have : (-4 : Int32).toInt = -4 := by decide
        omega
      have es : sp_stored n t p (nI X) = s_sd n t p X H := by rw [sp_stored, if_pos hb, if_neg hne, hg, nI_tn (by omega), nI_tn (by omega)]
      refine bkX10_stored_45 (fun _ => ?_) (fun z => absurd (by rw [wx_g, g1, hg]; exact nI_pos' (by omega)) z)
      have hD' : (wx_ S g h).2.2 0 = r := hD
      refine bkX10_stored_58 (by rw [hD']; exact hr) ?_
      rw [hD', wx_g, g1, hg, wx_o _ _ _ (by omega) (by omega), wx_o _ _ _ (by omega) (by omega), h1, hp.2.1, hp.2.2.1]
      have a1 : nI H - nI (p 233) + nI (p 232) = nI (H + p 232 - p 233) := by
        rw [fa_eq, nI_toInt (by omega), fb_addI] <;> rw [pk_sub_toInt (by omega) (by omega), nI_toInt (by omega)] <;> omega
      have a2 : (if nI n < nI H - nI (p 233) + nI (p 232) then nI n else nI H - nI (p 233) + nI (p 232)) = nI (min n (H + p 232 - p 233)) := by
        rw [a1]
        split
        · rename_i z; rw [nI_ltI (by omega) (by omega)] at z; rw [Nat.min_eq_left (by omega)]
        · rename_i z; rw [nI_ltI (by omega) (by omega)] at z; rw [Nat.min_eq_right (by omega)]
      have a3 : (if nI H - nI (p 233) < 0 then 0 else nI H - nI (p 233)) = nI (H - p 233) := by
        split
        · rename_i z; rw [fa_lt, pk_sub_toInt (by omega) (by omega)] at z
          have : (0 : Int32).toInt = 0 := rfl
          rw [show H - p 233 = 0 by omega]; rfl
        · rename_i z; rw [fa_lt, pk_sub_toInt (by omega) (by omega)] at z
          have : (0 : Int32).toInt = 0 := rfl
          rw [pk_sub (by omega)]
      rw [a2, a3]
      refine lX10_stored (X := X) hD' hr (TrX_w' hT) hW (PrX_w hp) hX (by omega) (min n (H + p 232 - p 233) - (H - p 233)) (H - p 233) 0 _ _ (by omega) (by omega) ⟨_, rfl, es.symm, hk⟩
  refine bkX10_stored_0 (kX10_w (lo := 0) (hi := 2) rfl rfl) ?_
  rintro _ S ⟨rfl, rfl⟩
  cases ha : inR x 0 2
  · refine bkX10_stored_6 (fun h => absurd rfl h) (fun _ => ?_)
    refine bkX10_stored_9 (kX10_w (lo := 10) (hi := 409) rfl rfl) ?_
    rintro _ S ⟨rfl, rfl⟩
    cases hb : inR x 10 409
    · exact bkX10_stored_18 (fun h => absurd rfl h) (fun _ => bkX10_stored_21 ⟨_, rfl, by simp [sp_stored, ha, hb], Kp_rf _⟩)
    · exact bkX10_stored_18 (fun _ => body (by rw [ha, hb]; rfl)) (fun h => absurd h (by decide))
  · exact bkX10_stored_6 (fun _ => body (by rw [ha]; rfl)) (fun h => absurd h (by decide))
theorem lM_stored {X H stop : Nat} {x6 : Int32} {Q : Option av_T → hs_T → Prop} (hT : TrM S n t) (hW : WFp p) (hp : PrM S p) (hX : X ≤ 409) (hs : stop ≤ n) (hx6 : (if nI n < x6 + nI (p 232) then nI n else x6 + nI (p 232)) = nI stop) :
    ∀ (m i k : Nat) (f l z : Int32), i + m = stop → k ≤ i → (f = -4 ↔ k = 0) → Q (some (vI (s_sto (kpt t p) X m i k f l z))) S → Ev (d + 4) mX11_stored 90 [some (vR 11 0), some (vI (nI X)), some (vI (nI k)), some (vI f), some (vI l), some (vI z), some (vI x6), some (vI (nI i))] [] S Q := by
  have h1 := hT.1
  have h2 := hT.2.1
  have lt : ∀ {a : Nat}, nI X = nI a → a < 2 ^ 31 → X = a := fun h ha => (nI_eq (by omega) ha).mp h
  intro m
  induction m with
  | zero =>
    intro i k f l z hi hk hf hQ
    refine bkX11_stored_90 (P := fun v S' => v = nI stop ∧ S' = S) (by rw [h1, hp 232 (by omega), ← hx6]; exact kM_less) ?_
    rintro _ S ⟨rfl, rfl⟩
    unfold s_sto at hQ
    refine bkX11_stored_110 (fun _ => ?_) (fun h => absurd (nI_le (by omega) (by omega)) h)
    refine bkX11_stored_165 (fun e0 => ?_) (fun e => ?_)
    · rw [if_neg (fun z => e0 (by rw [z]; rfl))] at hQ
      refine bkX11_stored_173 (fun e1 => ?_) (fun e => ?_)
      · rw [if_neg (fun z => e1 (by rw [z]; rfl))] at hQ
        refine bkX11_stored_182 (fun e2 => ?_) (fun e => ?_)
        · rw [if_neg (fun z => e2 (by rw [z]; rfl))] at hQ
          exact bkX11_stored_192 (bkX11_stored_194 hQ)
        · rw [if_pos (lt (a := 2) e (by omega))] at hQ
          exact bkX11_stored_187 (bkX11_stored_194 hQ)
      · rw [if_pos (lt (a := 1) e (by omega))] at hQ
        exact bkX11_stored_178 (bkX11_stored_194 hQ)
    · rw [if_pos (lt (a := 0) e (by omega))] at hQ
      exact bkX11_stored_169 (bkX11_stored_194 hQ)
  | succ m ih =>
    intro i k f l z hi hk hf hQ
    refine bkX11_stored_90 (P := fun v S' => v = nI stop ∧ S' = S) (by rw [h1, hp 232 (by omega), ← hx6]; exact kM_less) ?_
    rintro _ S ⟨rfl, rfl⟩
    refine bkX11_stored_110 (fun h => absurd h (nl_ (by omega) (by omega))) (fun _ => ?_)
    refine bkX11_stored_113 (kM_isKept hT (by omega) hp hW) ?_
    rintro _ S ⟨rfl, rfl⟩
    change Ev (d + 4) mX11_stored 119 _ [vI (bi_ (kpt t p i))] _ Q
    unfold s_sto at hQ
    cases hkp : kpt t p i
    · rw [hkp] at hQ
      refine bkX11_stored_119 (fun _ => bkX11_stored_159 ?_) (fun h => absurd rfl h)
      rw [nI_1]
      exact ih (i + 1) k f l z (by omega) (by omega) hf hQ
    · rw [hkp] at hQ
      refine bkX11_stored_119 (fun h => absurd h (by decide)) (fun _ => ?_)
      simp only [if_true] at hQ
      have hne : ∀ a : Nat, a < 2 ^ 31 → ¬ nI a = -4 := by
        intro a ha e
        rw [fa_eq, nI_toInt ha] at e
        have : (-4 : Int32).toInt = -4 := by decide
        omega
      have key : ∀ f' : Int32, f' = (if k = 0 then nI i else f) → Ev (d + 4) mX11_stored 134 [some (vR 11 0), some (vI (nI X)), some (vI (nI k)), some (vI f), some (vI l), some (vI z), some (vI x6), some (vI (nI i))] [vI f'] S Q := by
        intro f' hf'
        have hf2 : f' = -4 ↔ k + 1 = 0 := by
          rw [hf']
          constructor
          · intro e
            by_cases h0 : k = 0
            · rw [if_pos h0] at e; exact absurd e (hne i (by omega))
            · rw [if_neg h0] at e; exact absurd (hf.mp e) h0
          · intro e; omega
        rw [← hf'] at hQ
        refine bkX11_stored_134 (fun h => ?_) (fun h => ?_) <;> rw [x10 hX (by omega)] at h
        · rw [if_neg h] at hQ
          refine bkX11_stored_152 (bkX11_stored_154 (bkX11_stored_159 ?_))
          rw [nI_1, nI_1]
          exact ih (i + 1) (k + 1) _ _ _ (by omega) (by omega) hf2 hQ
        · rw [if_pos h] at hQ
          refine bkX11_stored_147 (bkX11_stored_154 (bkX11_stored_159 ?_))
          rw [nI_1, nI_1]
          exact ih (i + 1) (k + 1) _ _ _ (by omega) (by omega) hf2 hQ
      refine bkX11_stored_122 (fun h => ?_) (fun h => ?_)
      · exact bkX11_stored_133 (key _ (by rw [if_neg (fun e => h (hf.mpr e))]))
      · exact bkX11_stored_128 (key _ (by rw [if_pos (hf.mp h)]))
theorem kM_stored (hT : TrM S n t) (hW : WFp p) (hp : PrM S p) : Ci (d + 5) mX11_stored [vR 11 0, vI x] S (fun v S' => v = sp_stored n t p x ∧ Kp S S') := by
  have h1 := hT.1
  have h2 := hT.2.1
  have h8 := hW.1
  have hdp := hW.2.2.2.2
  refine cxX11_stored ?_
  have body : (inR x 0 2 || inR x 10 409) = true → Ev (d + 5) mX11_stored 28 [some (vR 11 0), some (vI x), none, none, none, none, none, none] [] S (fun r S' => ∃ v, r = some (vI v) ∧ v = sp_stored n t p x ∧ Kp S S') := by
    intro hb
    obtain ⟨X, hX, rfl⟩ := b_in hb
    refine bkX11_stored_28 (kM_runs0 (N := n) hT (Nat.le_refl _) (by rw [h1]; exact pk_sub_toInt (b := 1) (by omega) (by omega)) hW hp) ?_
    rintro _ ⟨g, h, rfl, hk, g1, g2, g3, g4⟩
    have hK : Kp S (mx_ S g h) := Kp_mx hk
    rcases s_go_hit (t := t) (p := p) n with hg | ⟨H, hg, hH⟩
    · refine bkX11_stored_38 (fun z => absurd (by rw [mx_g, g1, hg]) z) (fun _ => ?_)
      exact bkX11_stored_47 ⟨_, rfl, by rw [sp_stored, if_pos hb, if_pos hg], hK⟩
    · have hne : ¬ (s_go t p n).1 = -4 := by
        rw [hg, fa_eq, nI_toInt (by omega)]; have : (-4 : Int32).toInt = -4 := by decide
        omega
      have es : sp_stored n t p (nI X) = s_sd n t p X H := by rw [sp_stored, if_pos hb, if_neg hne, hg, nI_tn (by omega), nI_tn (by omega)]
      refine bkX11_stored_38 (fun _ => ?_) (fun z => absurd z (by rw [mx_g, g1]; exact hne))
      have hT' : TrM (mx_ S g h) n t := TrM_w hT (hk 3 (by omega))
      have hp' : PrM (mx_ S g h) p := PrM_w hp
      have a1 : nI H - nI (p 233) + nI (p 232) = nI (H + p 232 - p 233) := by
        rw [fa_eq, nI_toInt (by omega), fb_addI] <;> rw [pk_sub_toInt (by omega) (by omega), nI_toInt (by omega)] <;> omega
      have a2 : (if nI n < nI H - nI (p 233) + nI (p 232) then nI n else nI H - nI (p 233) + nI (p 232)) = nI (min n (H + p 232 - p 233)) := by
        rw [a1]
        split
        · rename_i z; rw [nI_ltI (by omega) (by omega)] at z; rw [Nat.min_eq_left (by omega)]
        · rename_i z; rw [nI_ltI (by omega) (by omega)] at z; rw [Nat.min_eq_right (by omega)]
      have fin : Ev (d + 5) mX11_stored 90 [some (vR 11 0), some (vI (nI X)), some (vI 0), some (vI (-4)), some (vI (-4)), some (vI (-1)), some (vI (nI H - nI (p 233))), some (vI (nI (H - p 233)))] [] (mx_ S g h) (fun r S' => ∃ v, r = some (vI v) ∧ v = sp_stored n t p (nI X) ∧ Kp S S') :=
        lM_stored (X := X) (H := H) hT' hW hp' hX (by omega) a2 (min n (H + p 232 - p 233) - (H - p 233)) (H - p 233) 0 _ _ _ (by omega) (by omega) (by decide) ⟨_, rfl, es.symm, hK⟩
      refine bkX11_stored_50 ?_ ?_ <;> rw [hp' 233 (by omega), mx_g, g1, hg] <;> intro z
      · refine bkX11_stored_86 (bkX11_stored_88 ?_)
        rw [fa_le, pk_sub_toInt (by omega) (by omega)] at z
        have : (0 : Int32).toInt = 0 := rfl
        rw [← pk_sub (show p 233 ≤ H by omega)] at fin
        exact fin
      · refine bkX11_stored_82 (bkX11_stored_88 ?_)
        rw [fa_le, pk_sub_toInt (by omega) (by omega)] at z
        have : (0 : Int32).toInt = 0 := rfl
        rw [show H - p 233 = 0 by omega] at fin
        exact fin
  refine bkX11_stored_0 (kM_inI (lo := 0) (hi := 2) rfl rfl) ?_
  rintro _ S ⟨rfl, rfl⟩
  cases ha : inR x 0 2
  · refine bkX11_stored_9 (fun h => absurd rfl h) (fun _ => ?_)
    refine bkX11_stored_12 (kM_inI (lo := 10) (hi := 409) rfl rfl) ?_
    rintro _ S ⟨rfl, rfl⟩
    cases hb : inR x 10 409
    · exact bkX11_stored_23 (fun h => absurd rfl h) (fun _ => bkX11_stored_26 ⟨_, rfl, by simp [sp_stored, ha, hb], Kp_rf _⟩)
    · exact bkX11_stored_23 (fun _ => body (by rw [ha, hb]; rfl)) (fun h => absurd h (by decide))
  · exact bkX11_stored_9 (fun _ => body (by rw [ha]; rfl)) (fun h => absurd h (by decide))
end AK
