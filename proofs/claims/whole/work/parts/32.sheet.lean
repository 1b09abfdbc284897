/-! ===== sheet, lay, count ===== -/
abbrev st_T : Type := Option (Nat × Nat × (Nat → Int32))
def ShX (S : hs_T) (k : Nat) : st_T → Prop
  | none => S.1 6 k 2 = -1
  | some q => S.1 6 k 1 = nI q.1 ∧ S.1 6 k 2 = nI q.2.1 ∧ q.1 ≤ 2 ∧ q.2.1 ≤ 40 ∧ ∀ i, i < q.2.1 → S.1 700 k i = q.2.2 i
def ShM (S : hs_T) (k : Nat) : st_T → Prop
  | none => S.1 1230 0 k = -4
  | some q => S.1 1230 0 k = nI q.1 ∧ S.1 1231 0 k = nI q.2.1 ∧ q.1 ≤ 2 ∧ q.2.1 ≤ 40 ∧ ∀ i, i < q.2.1 → S.1 1232 0 (40 * k + i) = q.2.2 i
theorem ne_m1 {a : Nat} (ha : a < 2 ^ 31) : ¬ nI a = -1 := by
  intro e
  rw [fa_eq, nI_toInt ha] at e
  have : (-1 : Int32).toInt = -1 := by decide
  omega
def ok_sheet (x y z : Int32) : Bool := inR x 0 3 && inR y 0 2 && inR z 0 40
def sp_sheet (x y z : Int32) : Int32 := if inR x 0 3 && inR y 0 2 && decide (z ≤ 40) then (if 0 ≤ z then 1 else -14) else -1
def clv (l : Nat) (z : Int32) : Int32 := if l = 0 then z.toInt8.toInt32 else if l = 1 then z.toInt16.toInt32 else z
section ST
variable {d : Nat} {S : hs_T} {n w i k : Nat} {t : Nat → Nat} {x y z : Int32} {q : Nat × Nat × (Nat → Int32)}
theorem kX10_sheetOf : Cr (d + 1) mX10_sheetOf [vR 10 0, vI x] S (fun v S' => v = (if inR x 0 3 then some (6, x.toInt.toNat) else none) ∧ S' = S) := by
  refine cxX10_sheetOf ?_
  refine bkX10_sheetOf_0 (kX10_w (lo := 0) (hi := 3) rfl rfl) ?_
  rintro _ S ⟨rfl, rfl⟩
  cases hx : inR x 0 3
  · exact bkX10_sheetOf_12 (fun _ => bkX10_sheetOf_24 (bkX10_sheetOf_25_n ⟨_, rfl, rfl, rfl⟩)) (fun h => absurd rfl h)
  · refine bkX10_sheetOf_12 (fun h => absurd h (by decide)) (fun _ => ?_)
    obtain ⟨k, hk, rfl⟩ := inR_get hx
    refine bkX10_sheetOf_15 (vp_lt (by omega) (by omega)) ?_
    rw [nI_clamp (by omega), Nat.zero_add]
    exact bkX10_sheetOf_25_r ⟨_, rfl, by rw [nI_tn (by omega)]; rfl, rfl⟩
theorem kX6_isNothing {o : st_T} (hk : k < 4) (h : ShX S k o) : Ci d mX6_isNothing [vR 6 k] S (fun v S' => v = bi_ o.isNone ∧ S' = S) := by
  refine cxX6_isNothing ?_
  cases o with
  | none =>
    have h : S.1 6 k 2 = -1 := h
    exact bkX6_isNothing_0 hk (fun z => absurd h z) (fun _ => bkX6_isNothing_8 (bkX6_isNothing_13 (by decide) ⟨_, rfl, rfl, rfl⟩))
  | some q =>
    obtain ⟨h1, h2, h3, h4, h5⟩ := h
    exact bkX6_isNothing_0 hk (fun _ => bkX6_isNothing_12 (bkX6_isNothing_13 (by decide) ⟨_, rfl, rfl, rfl⟩)) (fun z => absurd z (by rw [h2]; exact ne_m1 (by omega)))
theorem kX6_has (hk : k < 4) (h : ShX S k (some q)) : Ci d mX6_has [vR 6 k, vI x] S (fun v S' => v = bi_ (inR x 0 ((q.2.1 : Int) - 1)) ∧ S' = S) := by
  obtain ⟨h1, h2, h3, h4, h5⟩ := h
  have h0 : (0 : Int32).toInt = 0 := rfl
  refine cxX6_has ?_
  refine bkX6_has_0 (fun h => ?_) (fun h => ?_) <;> rw [fa_lt] at h
  · have e : inR x 0 ((q.2.1 : Int) - 1) = false := decide_eq_false (fun z => by omega)
    exact bkX6_has_16 (bkX6_has_17 (by decide) ⟨0, rfl, by rw [e]; rfl, rfl⟩)
  · refine bkX6_has_4 hk (fun h6 => ?_) (fun h6 => ?_) <;> rw [h2, fa_le, nI_toInt (by omega)] at h6
    · have e : inR x 0 ((q.2.1 : Int) - 1) = false := decide_eq_false (fun z => by omega)
      exact bkX6_has_16 (bkX6_has_17 (by decide) ⟨0, rfl, by rw [e]; rfl, rfl⟩)
    · have e : inR x 0 ((q.2.1 : Int) - 1) = true := decide_eq_true ⟨by omega, by omega⟩
      exact bkX6_has_12 (bkX6_has_17 (by decide) ⟨1, rfl, by rw [e]; rfl, rfl⟩)
theorem kX6_cell (hk : k < 4) (h : ShX S k (some q)) (hi : i < q.2.1) : Ci (d + 1) mX6_cell [vR 6 k, vI (nI i)] S (fun v S' => v = q.2.2 i ∧ S' = S) := by
  have h' := h
  obtain ⟨h1, h2, h3, h4, h5⟩ := h
  refine cxX6_cell ?_
  refine bkX6_cell_0 hk (kX6_has hk h') ?_
  rintro _ S ⟨rfl, rfl⟩
  rw [inR_nI (by omega), decide_eq_true (by omega)]
  refine bkX6_cell_5 (fun h => absurd h (by decide)) (fun _ => ?_)
  refine bkX6_cell_8 hk (vp_lt (by omega) (by omega)) (bkX6_cell_18 ⟨_, rfl, ?_, rfl⟩)
  rw [nI_clamp (by omega)]; exact h5 i hi
theorem kX10_sheet : Ci (d + 2) mX10_sheet [vR 10 0, vI x, vI y, vI z] S (fun v S' => v = sp_sheet x y z ∧ ((ok_sheet x y z = false ∧ S' = S) ∨ (ok_sheet x y z = true ∧ Kz (fun k j _ => (k = 6 ∨ k = 700) ∧ j = x.toInt.toNat) S S' ∧ ShX S' x.toInt.toNat (some (y.toInt.toNat, z.toInt.toNat, fun _ => 0))))) := by
  have h0 : (0 : Int32).toInt = 0 := rfl
  have h40 : (40 : Int32).toInt = 40 := rfl
  refine cxX10_sheet ?_
  refine bkX10_sheet_0 kX10_sheetOf ?_
  rintro _ S ⟨rfl, rfl⟩
  cases hx : inR x 0 3
  · exact bkX10_sheet_5_n (bkX10_sheet_25_n ⟨_, rfl, by simp [sp_sheet, hx], Or.inl ⟨by simp [ok_sheet, hx], rfl⟩⟩)
  refine bkX10_sheet_5_r ?_
  refine bkX10_sheet_12 kX10_isLane ?_
  rintro _ S ⟨rfl, rfl⟩
  cases hy : inR y 0 2
  · exact bkX10_sheet_16 (fun _ => bkX10_sheet_25_r ⟨_, rfl, by simp [sp_sheet, hy], Or.inl ⟨by simp [ok_sheet, hy], rfl⟩⟩) (fun h => absurd rfl h)
  refine bkX10_sheet_16 (fun h => absurd h (by decide)) (fun _ => ?_)
  refine bkX10_sheet_19 (fun hz => ?_) (fun hz => ?_)
  · refine bkX10_sheet_27 (fun hz0 => ?_) (fun hz0 => ?_)
    · have hz' : inR z 0 40 = true := by rw [fa_le] at hz hz0; exact decide_eq_true ⟨by omega, by omega⟩
      obtain ⟨k, hk, rfl⟩ := inR_get hx
      obtain ⟨l, hl, rfl⟩ := inR_get hy
      obtain ⟨m, hm, rfl⟩ := inR_get hz'
      rw [nI_tn (by omega), nI_tn (by omega), nI_tn (by omega)]
      have em : (if 0 < (if (40 : Int32) < nI m then 40 else nI m) then (if (40 : Int32) < nI m then 40 else nI m) else 0) = nI m := by
        rw [if_neg (show ¬ (40 : Int32) < nI m from nI_nlt (a := 40) (by omega) (by omega))]
        split
        · rfl
        · rename_i h
          rw [fa_lt, nI_toInt (by omega)] at h
          rw [show m = 0 by omega]; rfl
      refine bkX10_sheet_34 (P := fun S' => ∃ h, S' = sk_ (sk_ S 6 k (upd (upd (S.1 6 k) 1 (nI l)) 2 (nI m))) 700 k h ∧ ∀ a, a < 40 → h a = 0) (by omega) ?_ ?_
      · refine cxX6_renew ?_
        refine bkX6_renew_0 (P := fun S' => ∃ h, S' = sk_ (sk_ S 6 k (upd (upd (S.1 6 k) 1 (nI l)) 2 (nI m))) 700 k h ∧ ∀ a, a < 40 → h a = 0) (by omega) ?_ (fun S' h => bkX6_renew_27 ⟨rfl, h⟩)
        rw [em, sk_at, sk_sk]
        refine kJ_fill (k := 700) (j := k) (n := 40) ?_ (by decide) (by decide) (by omega)
        rcases (show k = 0 ∨ k = 1 ∨ k = 2 ∨ k = 3 by omega) with rfl | rfl | rfl | rfl <;> decide
      · rintro _ ⟨h, rfl, hh⟩
        refine bkX10_sheet_41 ⟨_, rfl, ?_, Or.inr ⟨?_, ?_, ?_⟩⟩
        · rw [sp_sheet, hx, hy, decide_eq_true hz, if_pos hz0]; rfl
        · rw [ok_sheet, hx, hy, hz']; rfl
        · exact Kz_sk (Kz_sk (Kz_rf _ S) (fun f _ z => absurd ⟨Or.inl rfl, rfl⟩ z)) (fun f _ z => absurd ⟨Or.inr rfl, rfl⟩ z)
        · refine ⟨?_, ?_, by show l ≤ 2; omega, by show m ≤ 40; omega, fun i hi => ?_⟩
          · rw [sk_ne _ _ (by omega), sk_at, pk_un (by omega), pk_us]
          · rw [sk_ne _ _ (by omega), sk_at, pk_us]
          · have hi : i < m := hi
            rw [sk_at, hh i (by omega)]
    · have hz' : inR z 0 40 = false := by rw [fa_le] at hz0; exact decide_eq_false (fun w => by omega)
      exact bkX10_sheet_31 ⟨_, rfl, by rw [sp_sheet, hx, hy, decide_eq_true hz, if_neg hz0]; rfl, Or.inl ⟨by rw [ok_sheet, hz', Bool.and_false], rfl⟩⟩
  · have hz' : inR z 0 40 = false := by rw [fa_le] at hz; exact decide_eq_false (fun w => by omega)
    exact bkX10_sheet_25_r ⟨_, rfl, by rw [sp_sheet, decide_eq_false hz, Bool.and_false]; rfl, Or.inl ⟨by rw [ok_sheet, hz', Bool.and_false], rfl⟩⟩
theorem kM_isSheet : Ci (d + 1) mX11_isSheet [vI x, vI y] S (fun v S' => v = bi_ (inR x 0 3 && inR y 0 2) ∧ S' = S) := by
  refine cxX11_isSheet ?_
  refine bkX11_isSheet_0 (kM_inI (lo := 0) (hi := 3) rfl rfl) ?_
  rintro _ S ⟨rfl, rfl⟩
  cases hx : inR x 0 3
  · exact bkX11_isSheet_9 (fun _ => bkX11_isSheet_28 (bkX11_isSheet_29 (by decide) ⟨_, rfl, rfl, rfl⟩)) (fun h => absurd rfl h)
  refine bkX11_isSheet_9 (fun h => absurd h (by decide)) (fun _ => ?_)
  refine bkX11_isSheet_12 (kM_inI (lo := 0) (hi := 2) rfl rfl) ?_
  rintro _ S ⟨rfl, rfl⟩
  cases hy : inR y 0 2
  · exact bkX11_isSheet_21 (fun _ => bkX11_isSheet_28 (bkX11_isSheet_29 (by decide) ⟨_, rfl, rfl, rfl⟩)) (fun h => absurd rfl h)
  · exact bkX11_isSheet_21 (fun h => absurd h (by decide)) (fun _ => bkX11_isSheet_24 (bkX11_isSheet_29 (by decide) ⟨_, rfl, rfl, rfl⟩))
theorem a40 (k i : Nat) : 40 * nI k + nI i = nI (40 * k + i) := by rw [show (40 : Int32) = nI 40 from rfl, pk_mul, nI_add]
theorem lM_sheet {x2 x3 : Int32} (hk : k < 4) :
    ∀ (m i : Nat) (g : Nat → Int32), i + m = 40 → (∀ a, a < i → g (40 * k + a) = 0) → (∀ a, (a < 40 * k ∨ 40 * k + 40 ≤ a) → g a = S.1 1232 0 a) → Ev d mX11_sheet 40 [some (vR 11 0), some (vI (nI k)), some (vI x2), some (vI x3), some (vI (nI i))] [] (sk_ S 1232 0 g) (fun r S' => ∃ v, r = some (vI v) ∧ v = 1 ∧ ∃ g, S' = sk_ S 1232 0 g ∧ (∀ a, a < 40 → g (40 * k + a) = 0) ∧ ∀ a, (a < 40 * k ∨ 40 * k + 40 ≤ a) → g a = S.1 1232 0 a) := by
  intro m
  induction m with
  | zero =>
    intro i g hi hg ho
    have e : i = 40 := by omega
    subst e
    exact bkX11_sheet_40 (fun _ => bkX11_sheet_66 ⟨_, rfl, rfl, g, rfl, hg, ho⟩) (fun h => absurd (by decide) h)
  | succ m ih =>
    intro i g hi hg ho
    refine bkX11_sheet_40 (fun h => absurd h (nl_ (b := 40) (by omega) (by omega))) (fun _ => ?_)
    refine bkX11_sheet_47 (by rw [a40]; exact vp_lt (by omega) (by omega)) ?_
    rw [a40, nI_clamp (by omega), nI_1, sk_at, sk_sk]
    refine ih (i + 1) _ (by omega) (fun a ha => ?_) (fun a ha => ?_)
    · by_cases e : a = i
      · subst e; exact pk_us
      · rw [pk_un (by omega)]; exact hg a (by omega)
    · rw [pk_un (by omega)]; exact ho a ha
theorem kM_sheet : Ci (d + 2) mX11_sheet [vR 11 0, vI x, vI y, vI z] S (fun v S' => v = sp_sheet x y z ∧ ((ok_sheet x y z = false ∧ S' = S) ∨ (ok_sheet x y z = true ∧ Kz (fun k _ f => ((k = 1230 ∨ k = 1231) ∧ f = x.toInt.toNat) ∨ (k = 1232 ∧ ¬ (f < 40 * x.toInt.toNat ∨ 40 * x.toInt.toNat + 40 ≤ f))) S S' ∧ ShM S' x.toInt.toNat (some (y.toInt.toNat, z.toInt.toNat, fun _ => 0))))) := by
  have h0 : (0 : Int32).toInt = 0 := rfl
  have h40 : (40 : Int32).toInt = 40 := rfl
  refine cxX11_sheet ?_
  refine bkX11_sheet_0 kM_isSheet ?_
  rintro _ S ⟨rfl, rfl⟩
  cases hxy : inR x 0 3 && inR y 0 2
  · exact bkX11_sheet_5 (fun _ => bkX11_sheet_14 ⟨_, rfl, by rw [sp_sheet, hxy]; rfl, Or.inl ⟨by rw [ok_sheet, hxy]; rfl, rfl⟩⟩) (fun h => absurd rfl h)
  refine bkX11_sheet_5 (fun h => absurd h (by decide)) (fun _ => ?_)
  have hx := (Bool.and_eq_true _ _ ▸ hxy).1
  have hy := (Bool.and_eq_true _ _ ▸ hxy).2
  refine bkX11_sheet_8 (fun hz => ?_) (fun hz => ?_)
  · refine bkX11_sheet_16 (fun hz0 => ?_) (fun hz0 => ?_)
    · have hz' : inR z 0 40 = true := by rw [fa_le] at hz hz0; exact decide_eq_true ⟨by omega, by omega⟩
      have e1 : sp_sheet x y z = 1 := by rw [sp_sheet, hxy, decide_eq_true hz, if_pos hz0]; rfl
      have e2 : ok_sheet x y z = true := by rw [ok_sheet, hxy, hz']; rfl
      rw [e1, e2]
      obtain ⟨k, hk, rfl⟩ := inR_get hx
      obtain ⟨l, hl, rfl⟩ := inR_get hy
      obtain ⟨m, hm, rfl⟩ := inR_get hz'
      rw [nI_tn (by omega), nI_tn (by omega), nI_tn (by omega)]
      refine bkX11_sheet_23 (vp_lt (by omega) (by omega)) ?_
      rw [nI_clamp (by omega), sk_ne _ _ (by omega)]
      have start := lM_sheet (d := d + 2) (S := sk_ (sk_ S 1230 0 (upd (S.1 1230 0) k (nI l))) 1231 0 (upd (S.1 1231 0) k (nI m))) (k := k) (x2 := nI l) (x3 := nI m) (by omega) 40 0 ((sk_ (sk_ S 1230 0 (upd (S.1 1230 0) k (nI l))) 1231 0 (upd (S.1 1231 0) k (nI m))).1 1232 0) (by omega) (fun a ha => by omega) (fun a _ => rfl)
      rw [sk_id] at start
      refine Ev.imp start ?_
      rintro r S' ⟨v, rfl, rfl, g, rfl, hg, ho⟩
      refine ⟨_, rfl, rfl, Or.inr ⟨rfl, ?_, ?_⟩⟩
      · refine Kz_sk (Kz_sk (Kz_sk (Kz_rf _ S) (fun f _ z => ?_)) (fun f _ z => ?_)) (fun f _ z => ?_)
        · rw [pk_un (fun e => z (Or.inl ⟨Or.inl rfl, e⟩))]
        · rw [pk_un (fun e => z (Or.inl ⟨Or.inr rfl, e⟩)), sk_ne _ _ (by omega)]
        · exact ho f (Decidable.byContradiction fun w => z (Or.inr ⟨rfl, w⟩))
      · refine ⟨?_, ?_, by show l ≤ 2; omega, by show m ≤ 40; omega, fun i hi => ?_⟩
        · rw [sk_ne _ _ (by omega), sk_ne _ _ (by omega), sk_at, pk_us]
        · rw [sk_ne _ _ (by omega), sk_at, pk_us]
        · have hi : i < m := hi
          rw [sk_at, hg i (by omega)]
    · have hz' : inR z 0 40 = false := by rw [fa_le] at hz0; exact decide_eq_false (fun w => by omega)
      exact bkX11_sheet_20 ⟨_, rfl, by rw [sp_sheet, hxy, decide_eq_true hz, if_neg hz0]; rfl, Or.inl ⟨by rw [ok_sheet, hz', Bool.and_false], rfl⟩⟩
  · have hz' : inR z 0 40 = false := by rw [fa_le] at hz; exact decide_eq_false (fun w => by omega)
    exact bkX11_sheet_14 ⟨_, rfl, by rw [sp_sheet, decide_eq_false hz, Bool.and_false]; rfl, Or.inl ⟨by rw [ok_sheet, hz', Bool.and_false], rfl⟩⟩
/-! lay -/
def sp_lay (sh : Nat → st_T) (x y : Int32) : Int32 := if inR x 0 3 then (match sh x.toInt.toNat with | none => -11 | some q => if inR y 0 ((q.2.1 : Int) - 1) then 1 else -12) else -1
def po_lay (P : Nat → Nat × Nat × (Nat → Int32) → hs_T → Prop) (sh : Nat → st_T) (x y z : Int32) (S S' : hs_T) : Prop := (inR x 0 3 = false ∧ S' = S) ∨ (inR x 0 3 = true ∧ match sh x.toInt.toNat with | none => S' = S | some q => if inR y 0 ((q.2.1 : Int) - 1) = true then P x.toInt.toNat (q.1, q.2.1, upd q.2.2 y.toInt.toNat (clv q.1 z)) S' else S' = S)
theorem kX10_lay {sh : Nat → st_T} (hI : ∀ k, k < 4 → ShX S k (sh k)) : Ci (d + 2) mX10_lay [vR 10 0, vI x, vI y, vI z] S (fun v S' => v = sp_lay sh x y ∧ po_lay (fun k q S' => Kz (fun a j _ => a = 700 ∧ j = k) S S' ∧ ShX S' k (some q)) sh x y z S S') := by
  refine cxX10_lay ?_
  refine bkX10_lay_0 kX10_sheetOf ?_
  rintro _ S ⟨rfl, rfl⟩
  cases hx : inR x 0 3
  · exact bkX10_lay_5_n (bkX10_lay_12 ⟨_, rfl, by simp [sp_lay, hx], Or.inl ⟨hx, rfl⟩⟩)
  obtain ⟨k, hk, rfl⟩ := inR_get hx
  unfold po_lay
  rw [sp_lay, hx, nI_tn (by omega), if_pos rfl]
  refine bkX10_lay_5_r ?_
  have hIk := hI k (by omega)
  refine bkX10_lay_14 (by omega) (kX6_isNothing (by omega) hIk) ?_
  rintro _ S ⟨rfl, rfl⟩
  cases ho : sh k with
  | none => exact bkX10_lay_19 (fun h => absurd h (by decide)) (fun _ => bkX10_lay_22 ⟨_, rfl, rfl, Or.inr ⟨rfl, rfl⟩⟩)
  | some q =>
    rw [ho] at hIk
    refine bkX10_lay_19 (fun _ => ?_) (fun h => absurd rfl h)
    refine bkX10_lay_25 (by omega) (kX6_has (by omega) hIk) ?_
    rintro _ S ⟨rfl, rfl⟩
    have hI2 := hIk
    obtain ⟨e1, e2, e3, e4, e5⟩ := hIk
    cases hy : inR y 0 ((q.2.1 : Int) - 1)
    · exact bkX10_lay_31 (fun h => absurd rfl h) (fun _ => bkX10_lay_34 ⟨_, rfl, by simp [hy], Or.inr ⟨rfl, by simp [hy]⟩⟩)
    · refine bkX10_lay_31 (fun _ => ?_) (fun h => absurd h (by decide))
      have hy' := hy
      obtain ⟨i, hi, rfl⟩ := inR_get hy
      refine bkX10_lay_37 (P := fun S' => S' = sk_ S 700 k (upd (S.1 700 k) i (clv q.1 z))) (by omega) ?_ ?_
      · refine cxX6_write ?_
        refine bkX6_write_0 (by omega) (kX6_has (by omega) hI2) ?_
        rintro _ S ⟨rfl, rfl⟩
        rw [hy']
        refine bkX6_write_5 (fun _ => ?_) (fun h => absurd h (by decide))
        have vin : vp_in (nI i) 40 := vp_lt (by omega) (by omega)
        refine bkX6_write_9 (by omega) (fun h => ?_) (fun h => ?_) (fun h h1 => ?_)
        · rw [e1] at h
          have : q.1 = 0 := (nI_eq (b := 0) (by omega) (by omega)).mp h
          refine bkX6_write_40 (by omega) vin (bkX6_write_69 ⟨rfl, ?_⟩)
          rw [nI_clamp (by omega), clv, if_pos this]
        · rw [e1] at h
          have : q.1 = 1 := (nI_eq (b := 1) (by omega) (by omega)).mp h
          refine bkX6_write_51 (by omega) vin (bkX6_write_69 ⟨rfl, ?_⟩)
          rw [nI_clamp (by omega), clv, if_neg (by omega), if_pos this]
        · rw [e1] at h h1
          have n0 : ¬ q.1 = 0 := fun w => h (by rw [w]; rfl)
          have n1 : ¬ q.1 = 1 := fun w => h1 (by rw [w]; rfl)
          refine bkX6_write_62 (by omega) vin (bkX6_write_69 ⟨rfl, ?_⟩)
          rw [nI_clamp (by omega), clv, if_neg n0, if_neg n1]
      · rintro _ rfl
        refine bkX10_lay_44 ⟨_, rfl, by simp [hy'], Or.inr ⟨rfl, ?_⟩⟩
        show if _ then _ else _
        rw [if_pos hy', nI_tn (by omega)]
        refine ⟨Kz_sk (Kz_rf _ S) (fun f _ z => absurd ⟨rfl, rfl⟩ z), ?_, ?_, e3, e4, fun a ha => ?_⟩
        · rw [sk_ne _ _ (by omega)]; exact e1
        · rw [sk_ne _ _ (by omega)]; exact e2
        · rw [sk_at]
          show _ = upd q.2.2 i (clv q.1 z) a
          by_cases e : a = i
          · subst e; rw [pk_us, pk_us]
          · rw [pk_un e, pk_un e]; exact e5 a ha
theorem kM_lay {sh : Nat → st_T} (hI : ∀ k, k < 4 → ShM S k (sh k)) : Ci (d + 2) mX11_lay [vR 11 0, vI x, vI y, vI z] S (fun v S' => v = sp_lay sh x y ∧ po_lay (fun k q S' => Kz (fun a _ f => a = 1232 ∧ ¬ (f < 40 * k ∨ 40 * k + 40 ≤ f)) S S' ∧ ShM S' k (some q)) sh x y z S S') := by
  refine cxX11_lay ?_
  refine bkX11_lay_0 kM_isSheet ?_
  rintro _ S ⟨rfl, rfl⟩
  rw [show inR (0 : Int32) 0 2 = true from by decide, Bool.and_true]
  cases hx : inR x 0 3
  · exact bkX11_lay_5 (fun h => absurd rfl h) (fun _ => bkX11_lay_8 ⟨_, rfl, by simp [sp_lay, hx], Or.inl ⟨hx, rfl⟩⟩)
  refine bkX11_lay_5 (fun _ => ?_) (fun h => absurd h (by decide))
  obtain ⟨k, hk, rfl⟩ := inR_get hx
  unfold po_lay
  rw [sp_lay, hx, nI_tn (by omega), if_pos rfl]
  have kin : vp_in (nI k) 4 := vp_lt (by omega) (by omega)
  have hIk := hI k (by omega)
  cases ho : sh k with
  | none =>
    rw [ho] at hIk
    have hIk : S.1 1230 0 k = -4 := hIk
    exact bkX11_lay_10 kin (fun h => absurd (by rw [nI_clamp (by omega)]; exact hIk) h) (fun _ => bkX11_lay_21 ⟨_, rfl, rfl, Or.inr ⟨rfl, rfl⟩⟩)
  | some q =>
    rw [ho] at hIk
    obtain ⟨e1, e2, e3, e4, e5⟩ := hIk
    refine bkX11_lay_10 kin (fun _ => ?_) (fun h => absurd h (by rw [nI_clamp (by omega), e1]; exact ne4 (by omega)))
    refine bkX11_lay_24 kin (kM_inI (lo := 0) (hi := (q.2.1 : Int) - 1) rfl (by rw [nI_clamp (by omega), e2, Int32.toInt_toInt64]; exact pk_sub_toInt (b := 1) (by omega) (by omega))) ?_
    rintro _ S ⟨rfl, rfl⟩
    cases hy : inR y 0 ((q.2.1 : Int) - 1)
    · exact bkX11_lay_39 (fun h => absurd rfl h) (fun _ => bkX11_lay_42 ⟨_, rfl, by simp [hy], Or.inr ⟨rfl, by simp [hy]⟩⟩)
    · refine bkX11_lay_39 (fun _ => ?_) (fun h => absurd h (by decide))
      have hy' := hy
      obtain ⟨i, hi, rfl⟩ := inR_get hy
      have fin : ∀ v, v = clv q.1 z → Ev (d + 2) mX11_lay 85 [some (vR 11 0), some (vI (nI k)), some (vI (nI i)), some (vI z)] [vI v, vI (40 * nI k + nI i), vR 1232 0] S (fun r S' => ∃ v, r = some (vI v) ∧ v = (match some q with | none => -11 | some q => if inR (nI i) 0 ((q.2.1 : Int) - 1) = true then 1 else -12) ∧ ((true = false ∧ S' = S) ∨ (true = true ∧ match some q with | none => S' = S | some q => if inR (nI i) 0 ((q.2.1 : Int) - 1) = true then Kz (fun a _ f => a = 1232 ∧ ¬ (f < 40 * k ∨ 40 * k + 40 ≤ f)) S S' ∧ ShM S' k (some (q.1, q.2.1, upd q.2.2 (nI i).toInt.toNat (clv q.1 z))) else S' = S))) := by
        rintro v rfl
        rw [a40]
        refine bkX11_lay_85 (vp_lt (by omega) (by omega)) ⟨_, rfl, by simp [hy'], Or.inr ⟨rfl, ?_⟩⟩
        show if _ then _ else _
        rw [if_pos hy', nI_tn (by omega), nI_clamp (by omega)]
        refine ⟨Kz_sk (Kz_rf _ S) (fun f _ w => ?_), ?_, ?_, e3, e4, fun a ha => ?_⟩
        · rw [pk_un]
          intro e
          exact w ⟨rfl, by omega⟩
        · rw [sk_ne _ _ (by omega)]; exact e1
        · rw [sk_ne _ _ (by omega)]; exact e2
        · rw [sk_at]
          show _ = upd q.2.2 i (clv q.1 z) a
          by_cases e : a = i
          · subst e; rw [pk_us, pk_us]
          · rw [pk_un (by omega), pk_un e]; exact e5 a ha
      refine bkX11_lay_45 kin (fun h => ?_) (fun h => ?_) <;> rw [nI_clamp (by omega), e1] at h
      · have n0 : ¬ q.1 = 0 := fun w => h (by rw [w]; rfl)
        refine bkX11_lay_69 kin (fun h1 => ?_) (fun h1 => ?_) <;> rw [nI_clamp (by omega), e1] at h1
        · have n1 : ¬ q.1 = 1 := fun w => h1 (by rw [w]; rfl)
          exact bkX11_lay_84 (fin _ (by rw [clv, if_neg n0, if_neg n1]))
        · have : q.1 = 1 := (nI_eq (b := 1) (by omega) (by omega)).mp h1
          exact bkX11_lay_79 (fin _ (by rw [clv, if_neg n0, if_pos this]))
      · have : q.1 = 0 := (nI_eq (b := 0) (by omega) (by omega)).mp h
        exact bkX11_lay_64 (fin _ (by rw [clv, if_pos this]))
end ST
