/-! ===== images ===== -/
/-- all cells that matter but those of E -/
def Kz (E : Nat → Nat → Nat → Prop) (S S' : hs_T) : Prop := S'.2.2 = S.2.2 ∧ ∀ k j f, ess k j f = true → ¬ E k j f → S'.1 k j f = S.1 k j f
theorem Kz_rf (E : Nat → Nat → Nat → Prop) (S : hs_T) : Kz E S S := ⟨rfl, fun _ _ _ _ _ => rfl⟩
theorem Kz_sk {E : Nat → Nat → Nat → Prop} {S S' : hs_T} {k j : Nat} {g : Nat → Int32} (h : Kz E S S') (hg : ∀ f, ess k j f = true → ¬ E k j f → g f = S'.1 k j f) : Kz E S (sk_ S' k j g) := by
  refine ⟨h.1, fun k' j' f e z => ?_⟩
  by_cases hk : k' = k ∧ j' = j
  · obtain ⟨rfl, rfl⟩ := hk
    rw [sk_at, hg f e z]; exact h.2 _ _ f e z
  · rw [sk_ne _ _ hk]; exact h.2 _ _ f e z
abbrev im_T : Type := Option (Nat × (Nat → Nat))
def ImX (S : hs_T) (k : Nat) : im_T → Prop
  | none => S.1 8 (2 + k) 2 = 0
  | some q => S.1 8 (2 + k) 2 = 1 ∧ TrX S (2 + k) q.1 q.2
def ImM (S : hs_T) (k : Nat) : im_T → Prop
  | none => S.1 1205 0 k = -4
  | some q => S.1 1205 0 k = nI q.1 ∧ q.1 ≤ 400 ∧ ∀ i, i < q.1 → S.1 1204 0 (400 * k + i) = nI (q.2 i) ∧ q.2 i < 256
def im_n : im_T → Int32
  | none => -4
  | some q => nI q.1
section IM
variable {d : Nat} {S : hs_T} {n w i k : Nat} {t : Nat → Nat} {o : im_T} {x y z : Int32}
theorem kX10_imageOf : Cr (d + 1) mX10_imageOf [vR 10 0, vI x] S (fun v S' => v = (if inR x 0 1 then some (8, 2 + x.toInt.toNat) else none) ∧ S' = S) := by
  refine cxX10_imageOf ?_
  refine bkX10_imageOf_0 (kX10_w (lo := 0) (hi := 1) rfl rfl) ?_
  rintro _ S ⟨rfl, rfl⟩
  cases hx : inR x 0 1
  · exact bkX10_imageOf_12 (fun _ => bkX10_imageOf_24 (bkX10_imageOf_25_n ⟨_, rfl, rfl, rfl⟩)) (fun h => absurd rfl h)
  · refine bkX10_imageOf_12 (fun h => absurd h (by decide)) (fun _ => ?_)
    obtain ⟨k, hk, rfl⟩ := inR_get hx
    refine bkX10_imageOf_15 (vp_lt (by omega) (by omega)) ?_
    rw [nI_clamp (by omega)]
    exact bkX10_imageOf_25_r ⟨_, rfl, by rw [nI_tn (by omega)]; rfl, rfl⟩
def sp_keep (im : Nat → im_T) (x : Int32) : Int32 := if inR x 0 1 then im_n (im x.toInt.toNat) else -1
theorem kX10_keep {im : Nat → im_T} (hT : TrX S 0 n t) (hI : ∀ k, k < 2 → ImX S k (im k)) : Ci (d + 2) mX10_keep [vR 10 0, vI x] S (fun v S' => v = sp_keep im x ∧ ((inR x 0 1 = false ∧ S' = S) ∨ (inR x 0 1 = true ∧ Kz (fun k j _ => (k = 8 ∨ k = 900) ∧ j = 2 + x.toInt.toNat) S S' ∧ ImX S' x.toInt.toNat (some (n, t))))) := by
  have h1 := hT.1
  have h2 := hT.2.1
  refine cxX10_keep ?_
  refine bkX10_keep_0 kX10_imageOf ?_
  rintro _ S ⟨rfl, rfl⟩
  cases hx : inR x 0 1
  · exact bkX10_keep_5_n (bkX10_keep_10 ⟨_, rfl, by simp [sp_keep, hx], Or.inl ⟨rfl, rfl⟩⟩)
  rw [sp_keep, hx]
  obtain ⟨k, hk, rfl⟩ := inR_get hx
  rw [nI_tn (by omega)]
  rw [if_pos rfl]
  refine bkX10_keep_5_r ?_
  have body : ∀ v, v = im_n (im k) → Ev (d + 2) mX10_keep 28 [some (vR 10 0), some (vI (nI k)), some (vR 8 (2 + k)), none] [vI v] S (fun r S' => ∃ v, r = some (vI v) ∧ v = im_n (im k) ∧ ((true = false ∧ S' = S) ∨ (true = true ∧ Kz (fun a j _ => (a = 8 ∨ a = 900) ∧ j = 2 + k) S S' ∧ ImX S' k (some (n, t))))) := by
    rintro v rfl
    refine bkX10_keep_28 (by omega) (kX8_copy (j := 2 + k) (j1 := 0) h1 h2 (by omega) (by omega) (by omega)) ?_
    rintro _ ⟨g, rfl, hg⟩
    refine bkX10_keep_37 (by omega) ⟨_, rfl, rfl, Or.inr ⟨rfl, ?_, ?_⟩⟩
    · exact Kz_sk (Kz_sk (Kz_sk (Kz_rf _ S) (fun f _ z => absurd ⟨Or.inl rfl, rfl⟩ z)) (fun f _ z => absurd ⟨Or.inr rfl, rfl⟩ z)) (fun f _ z => absurd ⟨Or.inl rfl, rfl⟩ z)
    · refine ⟨by rw [sk_at, pk_us], ?_, h2, fun i hi => ?_⟩
      · rw [sk_at, pk_un (by omega), sk_ne _ _ (by omega), sk_at, pk_us]
      · rw [sk_ne _ _ (by omega), sk_at, hg i hi]; exact hT.2.2 i hi
  have hIk := hI k (by omega)
  cases ho : im k with
  | none =>
    rw [ho] at hIk body
    have hIk : S.1 8 (2 + k) 2 = 0 := hIk
    exact bkX10_keep_12 (by omega) (fun _ => bkX10_keep_26 (body _ rfl)) (fun h => absurd hIk h)
  | some q =>
    rw [ho] at hIk body
    obtain ⟨e1, e2⟩ := hIk
    exact bkX10_keep_12 (by omega) (fun h => absurd h (by rw [e1]; decide)) (fun _ => bkX10_keep_19 (by omega) (body _ e2.1))
theorem a400 (k i : Nat) : 400 * nI k + nI i = nI (400 * k + i) := by rw [show (400 : Int32) = nI 400 from rfl, pk_mul, nI_add]
theorem lM_keep {k : Nat} {x2 : Int32} (hT : TrM S n t) (hk : k < 2) :
    ∀ (m i : Nat) (g : Nat → Int32), i + m = n → (∀ a, a < i → g (400 * k + a) = nI (t a)) → (∀ a, (a < 400 * k ∨ 400 * k + 400 ≤ a) → g a = S.1 1204 0 a) → Ev d mX11_keep 31 [some (vR 11 0), some (vI (nI k)), some (vI x2), some (vI (nI i))] [] (sk_ S 1204 0 g) (fun r S' => ∃ v, r = some (vI v) ∧ v = x2 ∧ ∃ g, S' = sk_ S 1204 0 g ∧ (∀ a, a < n → g (400 * k + a) = nI (t a)) ∧ ∀ a, (a < 400 * k ∨ 400 * k + 400 ≤ a) → g a = S.1 1204 0 a) := by
  have h1 := hT.1
  have h2 := hT.2.1
  intro m
  induction m with
  | zero =>
    intro i g hi hg ho
    have e : i = n := by omega
    subst e
    refine bkX11_keep_31 (fun _ => bkX11_keep_63 ⟨_, rfl, rfl, g, rfl, hg, ho⟩) (fun h => absurd ?_ h)
    rw [sk_ne _ _ (by omega), h1]; exact nI_le (by omega) (by omega)
  | succ m ih =>
    intro i g hi hg ho
    refine bkX11_keep_31 (fun h => absurd h ?_) (fun _ => ?_)
    · rw [sk_ne _ _ (by omega), h1]; exact nl_ (by omega) (by omega)
    refine bkX11_keep_39 (vp_lt (by omega) (by omega)) (by rw [a400]; exact vp_lt (by omega) (by omega)) ?_
    rw [a400, nI_clamp (by omega), nI_clamp (by omega), nI_1, sk_at, sk_sk, sk_ne _ _ (by omega), (hT.2.2 i (by omega)).1]
    refine ih (i + 1) _ (by omega) (fun a ha => ?_) (fun a ha => ?_)
    · by_cases e : a = i
      · subst e; exact pk_us
      · rw [pk_un (by omega)]; exact hg a (by omega)
    · rw [pk_un (by omega)]; exact ho a ha
theorem kM_keep {im : Nat → im_T} (hT : TrM S n t) (hI : ∀ k, k < 2 → ImM S k (im k)) : Ci (d + 1) mX11_keep [vR 11 0, vI x] S (fun v S' => v = sp_keep im x ∧ ((inR x 0 1 = false ∧ S' = S) ∨ (inR x 0 1 = true ∧ Kz (fun k _ f => (k = 1204 ∧ ¬ (f < 400 * x.toInt.toNat ∨ 400 * x.toInt.toNat + 400 ≤ f)) ∨ (k = 1205 ∧ f = x.toInt.toNat)) S S' ∧ ImM S' x.toInt.toNat (some (n, t))))) := by
  have h1 := hT.1
  have h2 := hT.2.1
  refine cxX11_keep ?_
  refine bkX11_keep_0 (kM_inI (lo := 0) (hi := 1) rfl rfl) ?_
  rintro _ S ⟨rfl, rfl⟩
  cases hx : inR x 0 1
  · exact bkX11_keep_7 (fun h => absurd rfl h) (fun _ => bkX11_keep_10 ⟨_, rfl, by simp [sp_keep, hx], Or.inl ⟨rfl, rfl⟩⟩)
  refine bkX11_keep_7 (fun _ => ?_) (fun h => absurd h (by decide))
  rw [sp_keep, hx]
  obtain ⟨k, hk, rfl⟩ := inR_get hx
  rw [nI_tn (by omega)]
  rw [if_pos rfl]
  refine bkX11_keep_12 (vp_lt (by omega) (by omega)) ?_
  rw [nI_clamp (by omega), h1]
  have hT' : TrM (sk_ S 1205 0 (upd (S.1 1205 0) k (nI n))) n t := ⟨by rw [sk_ne _ _ (by omega)]; exact h1, h2, fun i hi => by rw [sk_ne _ _ (by omega)]; exact hT.2.2 i hi⟩
  have start := lM_keep (d := d + 1) (k := k) (x2 := S.1 1205 0 k) hT' (by omega) n 0 ((sk_ S 1205 0 (upd (S.1 1205 0) k (nI n))).1 1204 0) (by omega) (fun a ha => by omega) (fun a _ => rfl)
  rw [sk_id] at start
  refine Ev.imp start ?_
  rintro r S' ⟨v, rfl, rfl, g, rfl, hg, ho⟩
  refine ⟨_, rfl, ?_, Or.inr ⟨rfl, ?_, ?_⟩⟩
  · have hIk := hI k (by omega)
    cases hio : im k with
    | none => rw [hio] at hIk; exact hIk
    | some q => rw [hio] at hIk; exact hIk.1
  · refine Kz_sk (Kz_sk (Kz_rf _ S) (fun f _ z => ?_)) (fun f _ z => ?_)
    · rw [pk_un (fun e => z (Or.inr ⟨rfl, e⟩))]
    · exact ho f (Decidable.byContradiction fun w => z (Or.inl ⟨rfl, w⟩))
  · refine ⟨by rw [sk_ne _ _ (by omega), sk_at, pk_us], h2, fun i hi => ?_⟩
    rw [sk_at]; exact ⟨hg i hi, (hT.2.2 i hi).2⟩
/-! back -/
def sp_back (im : Nat → im_T) (x : Int32) : Int32 := if inR x 0 1 then (match im x.toInt.toNat with | none => -2 | some q => nI q.1) else -1
def po_back (P : Nat × (Nat → Nat) → hs_T → Prop) (im : Nat → im_T) (x : Int32) (S S' : hs_T) : Prop := (inR x 0 1 = false ∧ S' = S) ∨ (inR x 0 1 = true ∧ match im x.toInt.toNat with | none => S' = S | some q => P q S')
theorem kX10_back {im : Nat → im_T} (hI : ∀ k, k < 2 → ImX S k (im k)) : Ci (d + 2) mX10_back [vR 10 0, vI x] S (fun v S' => v = sp_back im x ∧ po_back (fun q S' => Kz (fun k j _ => (k = 8 ∨ k = 900) ∧ j = 0) S S' ∧ TrX S' 0 q.1 q.2) im x S S') := by
  refine cxX10_back ?_
  refine bkX10_back_0 kX10_imageOf ?_
  rintro _ S ⟨rfl, rfl⟩
  cases hx : inR x 0 1
  · exact bkX10_back_5_n (bkX10_back_10 ⟨_, rfl, by simp [sp_back, hx], Or.inl ⟨hx, rfl⟩⟩)
  have hx' := hx
  obtain ⟨k, hk, rfl⟩ := inR_get hx
  unfold po_back
  rw [sp_back, hx, nI_tn (by omega)]
  rw [if_pos rfl]
  refine bkX10_back_5_r ?_
  have hIk := hI k (by omega)
  cases ho : im k with
  | none =>
    rw [ho] at hIk
    have hIk : S.1 8 (2 + k) 2 = 0 := hIk
    exact bkX10_back_12 (by omega) (fun h => absurd hIk h) (fun _ => bkX10_back_19 ⟨_, rfl, rfl, Or.inr ⟨rfl, rfl⟩⟩)
  | some q =>
    rw [ho] at hIk
    obtain ⟨e1, e2⟩ := hIk
    refine bkX10_back_12 (by omega) (fun _ => ?_) (fun h => absurd h (by rw [e1]; decide))
    refine bkX10_back_22 (kX8_copy (j := 0) (j1 := 2 + k) e2.1 e2.2.1 (by omega) (by omega) (by omega)) ?_
    rintro _ ⟨g, rfl, hg⟩
    have es : (sk_ (sk_ S 8 0 (upd (S.1 8 0) 1 (nI q.1))) 900 0 g).1 8 0 1 = nI q.1 := by rw [sk_ne _ _ (by omega), sk_at, pk_us]
    refine bkX10_back_30 ⟨_, rfl, es, Or.inr ⟨rfl, ?_, es, e2.2.1, fun i hi => ?_⟩⟩
    · exact Kz_sk (Kz_sk (Kz_rf _ S) (fun f _ z => absurd ⟨Or.inl rfl, rfl⟩ z)) (fun f _ z => absurd ⟨Or.inr rfl, rfl⟩ z)
    · rw [sk_at, hg i hi]; exact e2.2.2 i hi
theorem lM_back {k m : Nat} {u : Nat → Nat} (hk : k < 2) (hm : m ≤ 400) (h1 : S.1 11 0 3 = nI m) (hu : ∀ i, i < m → S.1 1204 0 (400 * k + i) = nI (u i) ∧ u i < 256) :
    ∀ (r i : Nat) (g : Nat → Int32), i + r = m → (∀ a, a < i → g a = nI (u a)) → Ev d mX11_back 38 [some (vR 11 0), some (vI (nI k)), some (vI (nI i))] [] (sk_ S 1202 0 g) (fun r S' => ∃ v, r = some (vI v) ∧ v = nI m ∧ ∃ g, S' = sk_ S 1202 0 g ∧ ∀ a, a < m → g a = nI (u a)) := by
  intro r
  induction r with
  | zero =>
    intro i g hi hg
    have e : i = m := by omega
    subst e
    refine bkX11_back_38 (fun _ => bkX11_back_70 ⟨_, rfl, ?_, g, rfl, hg⟩) (fun h => absurd ?_ h)
    · rw [sk_ne _ _ (by omega)]; exact h1
    · rw [sk_ne _ _ (by omega), h1]; exact nI_le (by omega) (by omega)
  | succ r ih =>
    intro i g hi hg
    refine bkX11_back_38 (fun h => absurd h ?_) (fun _ => ?_)
    · rw [sk_ne _ _ (by omega), h1]; exact nl_ (by omega) (by omega)
    refine bkX11_back_46 (by rw [a400]; exact vp_lt (by omega) (by omega)) (vp_lt (by omega) (by omega)) ?_
    rw [a400, nI_clamp (by omega), nI_clamp (by omega), nI_1, sk_at, sk_sk, sk_ne _ _ (by omega), (hu i (by omega)).1]
    refine ih (i + 1) _ (by omega) (fun a ha => ?_)
    by_cases e : a = i
    · subst e; exact pk_us
    · rw [pk_un e]; exact hg a (by omega)
theorem kM_back {im : Nat → im_T} (hI : ∀ k, k < 2 → ImM S k (im k)) : Ci (d + 1) mX11_back [vR 11 0, vI x] S (fun v S' => v = sp_back im x ∧ po_back (fun q S' => Kz (fun k _ f => k = 1202 ∨ (k = 11 ∧ f = 3)) S S' ∧ TrM S' q.1 q.2) im x S S') := by
  refine cxX11_back ?_
  refine bkX11_back_0 (kM_inI (lo := 0) (hi := 1) rfl rfl) ?_
  rintro _ S ⟨rfl, rfl⟩
  cases hx : inR x 0 1
  · exact bkX11_back_7 (fun h => absurd rfl h) (fun _ => bkX11_back_10 ⟨_, rfl, by simp [sp_back, hx], Or.inl ⟨hx, rfl⟩⟩)
  refine bkX11_back_7 (fun _ => ?_) (fun h => absurd h (by decide))
  obtain ⟨k, hk, rfl⟩ := inR_get hx
  unfold po_back
  rw [sp_back, hx, nI_tn (by omega)]
  rw [if_pos rfl]
  have hIk := hI k (by omega)
  cases ho : im k with
  | none =>
    rw [ho] at hIk
    have hIk : S.1 1205 0 k = -4 := hIk
    exact bkX11_back_12 (vp_lt (by omega) (by omega)) (fun h => absurd (by rw [nI_clamp (by omega)]; exact hIk) h) (fun _ => bkX11_back_23 ⟨_, rfl, rfl, Or.inr ⟨rfl, rfl⟩⟩)
  | some q =>
    rw [ho] at hIk
    obtain ⟨e1, e2, e3⟩ := hIk
    refine bkX11_back_12 (vp_lt (by omega) (by omega)) (fun _ => ?_) (fun h => absurd h (by rw [nI_clamp (by omega), e1]; exact ne4 (by omega)))
    refine bkX11_back_26 (vp_lt (by omega) (by omega)) ?_
    rw [nI_clamp (by omega), e1]
    have start := lM_back (d := d + 1) (S := sk_ S 11 0 (upd (S.1 11 0) 3 (nI q.1))) (k := k) (m := q.1) (u := q.2) (by omega) e2 (by rw [sk_at, pk_us]) (fun i hi => by rw [sk_ne _ _ (by omega)]; exact e3 i hi) q.1 0 ((sk_ S 11 0 (upd (S.1 11 0) 3 (nI q.1))).1 1202 0) (by omega) (fun a ha => by omega)
    rw [sk_id] at start
    refine Ev.imp start ?_
    rintro r S' ⟨v, rfl, rfl, g, rfl, hg⟩
    refine ⟨_, rfl, rfl, Or.inr ⟨rfl, ?_, ?_, e2, fun i hi => ?_⟩⟩
    · exact Kz_sk (Kz_sk (Kz_rf _ S) (fun f _ z => by rw [pk_un (fun e => z (Or.inr ⟨rfl, e⟩))])) (fun f _ z => absurd (Or.inl rfl) z)
    · rw [sk_ne _ _ (by omega), sk_at, pk_us]
    · rw [sk_at]; exact ⟨hg i hi, (e3 i hi).2⟩
/-! unlike, shift -/
def ul_h (m : Nat) (s : Int32) (i : Nat) : Bool := inR (nI i + s) 0 ((m : Int) - 1)
def ul_u (t u : Nat → Nat) (m : Nat) (s : Int32) (i : Nat) : Bool := ul_h m s i && !decide (t i = u (nI i + s).toInt.toNat)
def s_ul (n : Nat) (t : Nat → Nat) (q : Nat × (Nat → Nat)) (s : Int32) : Int32 := nI (fb_ct (ul_u t q.2 q.1 s) n) + (nI n - nI (fb_ct (ul_h q.1 s) n)) + (nI q.1 - nI (fb_ct (ul_h q.1 s) n))
theorem ul_get {m : Nat} {s : Int32} {i : Nat} (h : ul_h m s i = true) : ∃ j, j < m ∧ nI i + s = nI j := by
  obtain ⟨j, h1, h2⟩ := inR_get h
  exact ⟨j, by omega, h2⟩
theorem lX8_ul {j : Nat} {u : Nat → Nat} {m : Nat} {s : Int32} (hT : TrX S 0 n t) (hU : TrX S j m u) (hj : j < 4) :
    ∀ (r i : Nat), i + r = n → Ev (d + 2) mX8_unlikeLaid 8 [some (vR 8 0), some (vR 8 j), some (vI s), some (vI (nI (fb_ct (ul_h m s) i))), some (vI (nI (fb_ct (ul_u t u m s) i))), some (vI (nI i))] [] S (fun r S' => ∃ v, r = some (vI v) ∧ v = s_ul n t (m, u) s ∧ S' = S) := by
  have h1 := hT.1
  have h2 := hT.2.1
  have g2 := hU.2.1
  intro r
  induction r with
  | zero =>
    intro i hi
    have e : i = n := by omega
    subst e
    refine bkX8_unlikeLaid_8 (by omega) (fun _ => bkX8_unlikeLaid_67 (by omega) hj ⟨_, rfl, ?_, rfl⟩) (fun h => absurd (by rw [h1]; exact nI_le (by omega) (by omega)) h)
    rw [h1, hU.1]; rfl
  | succ r ih =>
    intro i hi
    have ih := ih (i + 1) (by omega)
    rw [fb_ct_succ, fb_ct_succ] at ih
    refine bkX8_unlikeLaid_8 (by omega) (fun h => absurd h (by rw [h1]; exact nl_ (by omega) (by omega))) (fun _ => ?_)
    refine bkX8_unlikeLaid_17 hj (kX8_has hU.1 g2 hj) ?_
    rintro _ S ⟨rfl, rfl⟩
    change Ev (d + 2) mX8_unlikeLaid 25 _ [vI (bi_ (ul_h m s i))] _ _
    cases hh : ul_h m s i
    · have hu : ul_u t u m s i = false := by unfold ul_u; rw [hh]; rfl
      rw [hh, hu] at ih
      refine bkX8_unlikeLaid_25 (fun h => absurd rfl h) (fun _ => bkX8_unlikeLaid_28 (bkX8_unlikeLaid_61 ?_))
      rw [nI_1]; exact ih
    · refine bkX8_unlikeLaid_25 (fun _ => ?_) (fun h => absurd h (by decide))
      obtain ⟨b, hb, eb⟩ := ul_get hh
      have hu : ul_u t u m s i = !decide (t i = u b) := by unfold ul_u; rw [hh, eb, nI_tn (by omega)]; rfl
      rw [hh, hu] at ih
      refine bkX8_unlikeLaid_31 (by omega) (kX8_sample hT (by omega) (by omega)) ?_
      rintro _ S ⟨rfl, rfl⟩
      refine bkX8_unlikeLaid_42 hj (by rw [eb]; exact kX8_sample hU hj hb) ?_
      rintro _ S ⟨rfl, rfl⟩
      have ta := (hT.2.2 i (by omega)).2
      have tb := (hU.2.2 b hb).2
      refine bkX8_unlikeLaid_50 (fun h => bkX8_unlikeLaid_57 (bkX8_unlikeLaid_58 (bkX8_unlikeLaid_61 ?_))) (fun h => bkX8_unlikeLaid_53 (bkX8_unlikeLaid_58 (bkX8_unlikeLaid_61 ?_))) <;> rw [nI_eq (by omega) (by omega)] at h
      · rw [decide_eq_true h] at ih
        rw [nI_1, nI_1, Int32.add_zero]; exact ih
      · rw [decide_eq_false h] at ih
        rw [nI_1, nI_1, nI_1]; exact ih
theorem kX8_ul {j : Nat} {u : Nat → Nat} {m : Nat} {s : Int32} (hT : TrX S 0 n t) (hU : TrX S j m u) (hj : j < 4) : Ci (d + 2) mX8_unlikeLaid [vR 8 0, vR 8 j, vI s] S (fun v S' => v = s_ul n t (m, u) s ∧ S' = S) := by
  refine cxX8_unlikeLaid ?_
  exact bkX8_unlikeLaid_0 (lX8_ul hT hU hj n 0 (by omega))
theorem lM_ul {k : Nat} {u : Nat → Nat} {m : Nat} {s : Int32} (hT : TrM S n t) (hk : k < 2) (hU : ImM S k (some (m, u))) :
    ∀ (r i : Nat) (o6 o7 : Option av_T), i + r = n → Ev (d + 1) mX11_unlikeBy 8 [some (vR 11 0), some (vI (nI k)), some (vI s), some (vI (nI (fb_ct (ul_u t u m s) i))), some (vI (nI (fb_ct (ul_h m s) i))), some (vI (nI i)), o6, o7] [] S (fun r S' => ∃ v, r = some (vI v) ∧ v = s_ul n t (m, u) s ∧ S' = S) := by
  have h1 := hT.1
  have h2 := hT.2.1
  obtain ⟨g1, g2, g3⟩ := hU
  have g1 : S.1 1205 0 k = nI m := g1
  have g2 : m ≤ 400 := g2
  have kin : vp_in (nI k) 2 := vp_lt (by omega) (by omega)
  intro r
  induction r with
  | zero =>
    intro i o6 o7 hi
    have e : i = n := by omega
    subst e
    refine bkX11_unlikeBy_8 (fun _ => bkX11_unlikeBy_105 kin ⟨_, rfl, ?_, rfl⟩) (fun h => absurd (by rw [h1]; exact nI_le (by omega) (by omega)) h)
    rw [nI_clamp (by omega), h1, g1]
    unfold s_ul
    simp only [Int32.sub_eq_add_neg]
    ac_rfl
  | succ r ih =>
    intro i o6 o7 hi
    have ih := fun o6 o7 => ih (i + 1) o6 o7 (by omega)
    rw [fb_ct_succ, fb_ct_succ] at ih
    refine bkX11_unlikeBy_8 (fun h => absurd h (by rw [h1]; exact nl_ (by omega) (by omega))) (fun _ => ?_)
    refine bkX11_unlikeBy_17 kin (kM_inI (lo := 0) (hi := (m : Int) - 1) rfl (by rw [nI_clamp (by omega), g1, Int32.toInt_toInt64]; exact pk_sub_toInt (b := 1) (by omega) (by omega))) ?_
    rintro _ S ⟨rfl, rfl⟩
    change Ev (d + 1) mX11_unlikeBy 39 _ [vI (bi_ (ul_h m s i))] _ _
    refine bkX11_unlikeBy_39 kM_flag ?_
    rintro _ S ⟨rfl, rfl⟩
    have eh : nI (fb_ct (ul_h m s) i) + bi_ (ul_h m s i) = nI (fb_ct (ul_h m s) i + if ul_h m s i = true then 1 else 0) := by rw [bi_nI, nI_add]
    have fin : ∀ b : Bool, b = ul_u t u m s i → Ev (d + 1) mX11_unlikeBy 94 [some (vR 11 0), some (vI (nI k)), some (vI s), some (vI (nI (fb_ct (ul_u t u m s) i))), some (vI (nI (fb_ct (ul_h m s) i + if ul_h m s i = true then 1 else 0))), some (vI (nI i)), some (vI (nI i + s)), some (vI (bi_ (ul_h m s i)))] [vI (bi_ b), vI (nI (fb_ct (ul_u t u m s) i))] S (fun r S' => ∃ v, r = some (vI v) ∧ v = s_ul n t (m, u) s ∧ S' = S) := by
      rintro b rfl
      refine bkX11_unlikeBy_94 kM_flag ?_
      rintro _ S ⟨rfl, rfl⟩
      refine bkX11_unlikeBy_97 ?_
      have eu : nI (fb_ct (ul_u t u m s) i) + bi_ (ul_u t u m s i) = nI (fb_ct (ul_u t u m s) i + if ul_u t u m s i = true then 1 else 0) := by rw [bi_nI, nI_add]
      rw [eu, nI_1]
      exact ih _ _
    refine bkX11_unlikeBy_48 ?_ ?_ <;> rw [eh] <;> intro h
    · rw [bi_0] at h
      exact bkX11_unlikeBy_93 (fin false (by unfold ul_u; rw [h]; rfl))
    · rw [bi_ne0] at h
      obtain ⟨b, hb, eb⟩ := ul_get h
      have hu : ul_u t u m s i = !decide (t i = u b) := by unfold ul_u; rw [h, eb, nI_tn (by omega)]; rfl
      have ta := (hT.2.2 i (by omega))
      have tb := (g3 b hb)
      have tb1 : S.1 1204 0 (400 * k + b) = nI (u b) := tb.1
      have tb2 : u b < 256 := tb.2
      refine bkX11_unlikeBy_57 (vp_lt (by omega) (by omega)) (fun h3 => absurd h3 (by rw [h]; decide)) (fun _ => bkX11_unlikeBy_78 ?_)
      have e4 : 400 * nI k + (nI i + s) = nI (400 * k + b) := by rw [eb, a400]
      refine bkX11_unlikeBy_84 (by rw [e4]; exact vp_lt (by omega) (by omega)) ?_ ?_ <;> rw [e4, nI_clamp (by omega), nI_clamp (by omega), tb1, ta.1, nI_eq (by omega) (by omega)] <;> intro h5
      · exact bkX11_unlikeBy_93 (fin false (by rw [hu, decide_eq_true h5]; rfl))
      · exact bkX11_unlikeBy_89 (fin true (by rw [hu, decide_eq_false h5]; rfl))
theorem kM_ul {k : Nat} {u : Nat → Nat} {m : Nat} {s : Int32} (hT : TrM S n t) (hk : k < 2) (hU : ImM S k (some (m, u))) : Ci (d + 1) mX11_unlikeBy [vR 11 0, vI (nI k), vI s] S (fun v S' => v = s_ul n t (m, u) s ∧ S' = S) := by
  refine cxX11_unlikeBy ?_
  exact bkX11_unlikeBy_0 (lM_ul hT hk hU n 0 _ _ (by omega))
end IM
