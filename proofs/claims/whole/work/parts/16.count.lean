/-! ===== feed; edges, edge; runs, fills ===== -/
/-- the tape -/
def TpX (S : hs_T) (n : Nat) (b : Nat → Nat) : Prop := S.1 7 0 1 = nI n ∧ n ≤ 400 ∧ ∀ i, i < n → S.1 800 0 i = nI (b i) ∧ b i < 256
def TpM (S : hs_T) (n : Nat) (b : Nat → Nat) : Prop := S.1 11 0 8 = nI n ∧ n ≤ 400 ∧ ∀ i, i < n → S.1 1207 0 i = nI (b i) ∧ b i < 256
/-- byte m of a long, the lowest is 0 -/
def fbt (x : Int64) (m : Nat) : Nat := ((x >>> ((nI (8 * m)).toInt64 &&& 63)).toInt32).toBitVec.toNat % 2 ^ 8
theorem fbt_lt (x : Int64) (m : Nat) : fbt x m < 256 := Nat.mod_lt _ (by decide)
theorem fbt_x (x : Int64) (m : Nat) : (x >>> ((nI (8 * m)).toInt64 &&& 63)).toInt32 &&& 255 = nI (fbt x m) := pk_and _ 8 rfl
theorem fbt_m (x : Int64) (m : Nat) : ((x >>> ((nI (8 * m)).toInt64 &&& 63)) &&& 255).toInt32 = nI (fbt x m) := by
  rw [Int64.toInt32_and]; exact fbt_x x m
def b_app (b : Nat → Nat) (n : Nat) (x : Int64) : Nat → Nat := fun i => if i < n then b i else fbt x (7 - (i - n))
theorem sh_s (m : Nat) : nI (8 * (m + 1)) - 8 = nI (8 * m) := by
  rw [show (8 : Int32) = nI 8 from rfl, pk_sub (by omega)]; congr 1
theorem sh_n (m : Nat) : nI (8 * m) + (-8) = nI (8 * m) - 8 := by rw [Int32.sub_eq_add_neg]
theorem ct_bi (p : Nat → Bool) (i : Nat) : nI (fb_ct p i) + bi_ (p i) = nI (fb_ct p (i + 1)) := by
  rw [fb_ct_succ]
  cases p i
  · simp [bi_]
  · rw [bi_t, nI_1]; rfl
theorem ct_le400 {p : Nat → Bool} {n : Nat} (h : n ≤ 400) : fb_ct p n ≤ 400 := Nat.le_trans (fb_ct_le p n) h
section FE
variable {d : Nat} {S : hs_T} {n w i : Nat} {t b : Nat → Nat}
theorem lX7_append {x : Int64} {Q : Option av_T → hs_T → Prop} (hn : n + 8 ≤ 400)
    (hQ : ∀ g : Nat → Int32, (∀ a, a < n → g a = S.1 800 0 a) → (∀ a, a < 8 → g (n + a) = nI (fbt x (7 - a))) → Q none (sk_ (sk_ S 800 0 g) 7 0 (upd (S.1 7 0) 1 (nI (n + 8))))) :
    ∀ (m i : Nat) (g : Nat → Int32), i + m = 8 → (∀ a, a < n → g a = S.1 800 0 a) → (∀ a, a < i → g (n + a) = nI (fbt x (7 - a))) → Ev d mX7_append 3 [some (vR 7 0), some (vJ x), none, some (vI (nI (8 * m) - 8))] [] (sk_ (sk_ S 800 0 g) 7 0 (upd (S.1 7 0) 1 (nI (n + i)))) Q := by
  intro m
  induction m with
  | zero =>
    intro i g h1 h2 h3
    have e : i = 8 := by omega
    subst e
    exact bkX7_append_3 (fun _ => bkX7_append_52 (hQ g h2 h3)) (fun h => absurd (by decide) h)
  | succ m ih =>
    intro i g h1 h2 h3
    rw [sh_s]
    refine bkX7_append_3 (fun h => absurd h (nI_pos (by omega))) (fun _ => ?_)
    have e1 : (sk_ (sk_ S 800 0 g) 7 0 (upd (S.1 7 0) 1 (nI (n + i)))).1 7 0 = upd (S.1 7 0) 1 (nI (n + i)) := sk_at _ _ _ _
    have e2 : (sk_ (sk_ S 800 0 g) 7 0 (upd (S.1 7 0) 1 (nI (n + i)))).1 800 0 = g := by rw [sk_ne _ _ (by omega), sk_at]
    refine bkX7_append_7 (fun h => absurd h ?_) (fun _ => ?_)
    · rw [e1, pk_us]; exact nl_ (b := 400) (by omega) (by omega)
    refine bkX7_append_19 (by rw [e1, pk_us]; exact vp_lt (by omega) (by omega)) ?_
    rw [e1, e2, pk_us, nI_clamp (by omega), fbt_x, sh_n]
    have e3 : ∀ g', (sk_ (sk_ (sk_ S 800 0 g) 7 0 (upd (S.1 7 0) 1 (nI (n + i)))) 800 0 g').1 7 0 = upd (S.1 7 0) 1 (nI (n + i)) := fun g' => by rw [sk_ne _ _ (by omega)]; exact e1
    have e4 : ∀ g' h', sk_ (sk_ (sk_ (sk_ S 800 0 g) 7 0 (upd (S.1 7 0) 1 (nI (n + i)))) 800 0 g') 7 0 h' = sk_ (sk_ S 800 0 g') 7 0 h' := by
      intro g' h'
      rw [sk_cm (sk_ S 800 0 g) _ _ (by omega), sk_sk, sk_sk]
    rw [e3, pk_us, nI_1, fa_upd_twice, e4]
    refine ih (i + 1) _ (by omega) (fun a ha => ?_) (fun a ha => ?_)
    · rw [pk_un (by omega)]; exact h2 a ha
    · by_cases e : a = i
      · subst e; rw [pk_us, show 7 - a = m by omega]
      · rw [pk_un (by omega)]; exact h3 a (by omega)
theorem kX7_append {x : Int64} (h1 : S.1 7 0 1 = nI n) (hn : n + 8 ≤ 400) : Cv d mX7_append [vR 7 0, vJ x] S (fun S' => ∃ g, S' = sk_ (sk_ S 800 0 g) 7 0 (upd (S.1 7 0) 1 (nI (n + 8))) ∧ (∀ a, a < n → g a = S.1 800 0 a) ∧ ∀ a, a < 8 → g (n + a) = nI (fbt x (7 - a))) := by
  refine cxX7_append ?_
  refine bkX7_append_0 ?_
  have := lX7_append (d := d) (S := S) (n := n) (x := x) (Q := fun r S' => r = none ∧ ∃ g, S' = sk_ (sk_ S 800 0 g) 7 0 (upd (S.1 7 0) 1 (nI (n + 8))) ∧ (∀ a, a < n → g a = S.1 800 0 a) ∧ ∀ a, a < 8 → g (n + a) = nI (fbt x (7 - a))) hn (fun g h2 h3 => ⟨rfl, g, rfl, h2, h3⟩) 8 0 (S.1 800 0) (by omega) (fun _ _ => rfl) (fun a ha => by omega)
  rw [sk_id, st_id (show S.1 7 0 1 = nI (n + 0) from h1)] at this
  exact this
def sp_feed (n : Nat) : Int32 := if n + 8 ≤ 400 then nI (n + 8) else -3
theorem b_app_ok {g : Nat → Int32} {x : Int64} {f : Nat → Int32} (h3 : ∀ i, i < n → f i = nI (b i) ∧ b i < 256) (hg1 : ∀ a, a < n → g a = f a) (hg2 : ∀ a, a < 8 → g (n + a) = nI (fbt x (7 - a))) : ∀ i, i < n + 8 → g i = nI (b_app b n x i) ∧ b_app b n x i < 256 := by
  intro i hi
  unfold b_app
  by_cases h : i < n
  · rw [if_pos h, hg1 i h]; exact h3 i h
  · rw [if_neg h]
    have := hg2 (i - n) (by omega)
    rw [show n + (i - n) = i by omega] at this
    exact ⟨this, fbt_lt _ _⟩
theorem kX10_feed {x : Int64} (hT : TpX S n b) : Ci (d + 1) mX10_feed [vR 10 0, vJ x] S (fun r S' => r = sp_feed n ∧ ((¬ n + 8 ≤ 400 ∧ S' = S) ∨ (n + 8 ≤ 400 ∧ ∃ g, S' = sk_ (sk_ S 800 0 g) 7 0 (upd (S.1 7 0) 1 (nI (n + 8))) ∧ TpX S' (n + 8) (b_app b n x)))) := by
  obtain ⟨h1, h2, h3⟩ := hT
  refine cxX10_feed ?_
  refine bkX10_feed_0 (fun h => ?_) (fun h => ?_)
  · rw [h1, show (8 : Int32) = nI 8 from rfl, nI_add, show (400 : Int32) = nI 400 from rfl, nI_leI (by omega) (by omega)] at h
    refine bkX10_feed_24 (kX7_append h1 h) ?_
    rintro _ ⟨g, rfl, hg1, hg2⟩
    refine bkX10_feed_29 ⟨_, rfl, by rw [sk_at, pk_us, sp_feed, if_pos h], Or.inr ⟨h, g, rfl, by rw [sk_at]; exact pk_us, h, ?_⟩⟩
    rw [sk_ne _ _ (by omega), sk_at]
    exact b_app_ok h3 hg1 hg2
  · rw [h1, show (8 : Int32) = nI 8 from rfl, nI_add, show (400 : Int32) = nI 400 from rfl, nI_leI (by omega) (by omega)] at h
    exact bkX10_feed_21 ⟨_, rfl, by rw [sp_feed, if_neg h], Or.inl ⟨h, rfl⟩⟩
theorem lM_feed {x : Int64} {Q : Option av_T → hs_T → Prop} (hn : n + 8 ≤ 400)
    (hQ : ∀ g : Nat → Int32, (∀ a, a < n → g a = S.1 1207 0 a) → (∀ a, a < 8 → g (n + a) = nI (fbt x (7 - a))) → Q (some (vI (nI (n + 8)))) (sk_ (sk_ S 1207 0 g) 11 0 (upd (S.1 11 0) 8 (nI (n + 8))))) :
    ∀ (m i : Nat) (g : Nat → Int32), i + m = 8 → (∀ a, a < n → g a = S.1 1207 0 a) → (∀ a, a < i → g (n + a) = nI (fbt x (7 - a))) → Ev d mX11_feed 19 [some (vR 11 0), some (vJ x), none, some (vI (nI (8 * m) - 8))] [] (sk_ (sk_ S 1207 0 g) 11 0 (upd (S.1 11 0) 8 (nI (n + i)))) Q := by
  intro m
  induction m with
  | zero =>
    intro i g h1 h2 h3
    have e : i = 8 := by omega
    subst e
    refine bkX11_feed_19 (fun _ => bkX11_feed_56 ?_) (fun h => absurd (by decide) h)
    rw [sk_at, pk_us]
    exact hQ g h2 h3
  | succ m ih =>
    intro i g h1 h2 h3
    rw [sh_s]
    refine bkX11_feed_19 (fun h => absurd h (nI_pos (by omega))) (fun _ => ?_)
    have e1 : (sk_ (sk_ S 1207 0 g) 11 0 (upd (S.1 11 0) 8 (nI (n + i)))).1 11 0 = upd (S.1 11 0) 8 (nI (n + i)) := sk_at _ _ _ _
    have e2 : (sk_ (sk_ S 1207 0 g) 11 0 (upd (S.1 11 0) 8 (nI (n + i)))).1 1207 0 = g := by rw [sk_ne _ _ (by omega), sk_at]
    refine bkX11_feed_23 (by rw [e1, pk_us]; exact vp_lt (by omega) (by omega)) ?_
    rw [e1, e2, pk_us, nI_clamp (by omega), fbt_m, sh_n]
    have e3 : ∀ g', (sk_ (sk_ (sk_ S 1207 0 g) 11 0 (upd (S.1 11 0) 8 (nI (n + i)))) 1207 0 g').1 11 0 = upd (S.1 11 0) 8 (nI (n + i)) := fun g' => by rw [sk_ne _ _ (by omega)]; exact e1
    have e4 : ∀ g' h', sk_ (sk_ (sk_ (sk_ S 1207 0 g) 11 0 (upd (S.1 11 0) 8 (nI (n + i)))) 1207 0 g') 11 0 h' = sk_ (sk_ S 1207 0 g') 11 0 h' := by
      intro g' h'
      rw [sk_cm (sk_ S 1207 0 g) _ _ (by omega), sk_sk, sk_sk]
    rw [e3, pk_us, nI_1, fa_upd_twice, e4]
    refine ih (i + 1) _ (by omega) (fun a ha => ?_) (fun a ha => ?_)
    · rw [pk_un (by omega)]; exact h2 a ha
    · by_cases e : a = i
      · subst e; rw [pk_us, show 7 - a = m by omega]
      · rw [pk_un (by omega)]; exact h3 a (by omega)
theorem kM_feed {x : Int64} (hT : TpM S n b) : Ci d mX11_feed [vR 11 0, vJ x] S (fun r S' => r = sp_feed n ∧ ((¬ n + 8 ≤ 400 ∧ S' = S) ∨ (n + 8 ≤ 400 ∧ ∃ g, S' = sk_ (sk_ S 1207 0 g) 11 0 (upd (S.1 11 0) 8 (nI (n + 8))) ∧ TpM S' (n + 8) (b_app b n x)))) := by
  obtain ⟨h1, h2, h3⟩ := hT
  refine cxX11_feed ?_
  refine bkX11_feed_0 (fun h => ?_) (fun h => ?_)
  · rw [h1, show (8 : Int32) = nI 8 from rfl, nI_add, show (400 : Int32) = nI 400 from rfl, nI_leI (by omega) (by omega)] at h
    refine bkX11_feed_16 ?_
    have := lM_feed (d := d) (S := S) (n := n) (x := x) (Q := fun r S' => ∃ v, r = some (vI v) ∧ v = sp_feed n ∧ ((¬ n + 8 ≤ 400 ∧ S' = S) ∨ (n + 8 ≤ 400 ∧ ∃ g, S' = sk_ (sk_ S 1207 0 g) 11 0 (upd (S.1 11 0) 8 (nI (n + 8))) ∧ TpM S' (n + 8) (b_app b n x)))) h (fun g hg1 hg2 => ⟨_, rfl, by rw [sp_feed, if_pos h], Or.inr ⟨h, g, rfl, by rw [sk_at]; exact pk_us, h, by
      rw [sk_ne _ _ (by omega), sk_at]
      exact b_app_ok h3 hg1 hg2⟩⟩) 8 0 (S.1 1207 0) (by omega) (fun _ _ => rfl) (fun a ha => by omega)
    rw [sk_id, st_id (show S.1 11 0 8 = nI (n + 0) from h1)] at this
    exact this
  · rw [h1, show (8 : Int32) = nI 8 from rfl, nI_add, show (400 : Int32) = nI 400 from rfl, nI_leI (by omega) (by omega)] at h
    exact bkX11_feed_13 ⟨_, rfl, by rw [sp_feed, if_neg h], Or.inl ⟨h, rfl⟩⟩
/-! edges -/
theorem kX10_turns {c : Bool} (hT : TrX S 0 n t) (hw : w < 8) (hi : i < n) : Ci (d + 1) mX10_turns [vR 10 0, vI (nI w), vI (bi_ c), vI (nI i)] S (fun v S' => v = bi_ (t_ed t w c i) ∧ S' = S) := by
  refine cxX10_turns ?_
  refine bkX10_turns_0 (fun h => ?_) (fun h => ?_)
  · rw [bi_0] at h
    refine bkX10_turns_16 (kX8_rises hT (by omega) hw hi) ?_
    rintro _ S ⟨rfl, rfl⟩
    exact bkX10_turns_25 (bi_n _) ⟨_, rfl, by simp [t_ed, h], rfl⟩
  · rw [bi_ne0] at h
    refine bkX10_turns_4 (kX8_falls hT (by omega) hw hi) ?_
    rintro _ S ⟨rfl, rfl⟩
    exact bkX10_turns_13 (bkX10_turns_25 (bi_n _) ⟨_, rfl, by simp [t_ed, h], rfl⟩)
theorem t_ed0 (t : Nat → Nat) (w : Nat) (c : Bool) : t_ed t w c 0 = false := by cases c <;> rfl
def sp_edges (n : Nat) (t : Nat → Nat) (x : Int32) (c : Bool) : Int32 := if inR x 0 7 then nI (fb_ct (t_ed t x.toInt.toNat c) n) else -1
theorem lX10_edges {c : Bool} {Q : Option av_T → hs_T → Prop} (hT : TrX S 0 n t) (hw : w < 8) (hQ : Q (some (vI (nI (fb_ct (t_ed t w c) n)))) S) :
    ∀ (m i : Nat), i + m = n → Ev (d + 2) mX10_edges 14 [some (vR 10 0), some (vI (nI w)), some (vI (bi_ c)), some (vI (nI (fb_ct (t_ed t w c) i))), some (vI (nI i))] [] S Q := by
  have h1 := hT.1
  have h2 := hT.2.1
  intro m
  induction m with
  | zero =>
    intro i hi
    have e : i = n := by omega
    subst e
    exact bkX10_edges_14 (fun _ => bkX10_edges_51 hQ) (fun h => absurd (by rw [h1]; exact nI_le (Nat.le_refl _) (by omega)) h)
  | succ m ih =>
    intro i hi
    refine bkX10_edges_14 (fun h => absurd h (by rw [h1]; exact nl_ (by omega) (by omega))) (fun _ => ?_)
    refine bkX10_edges_26 (kX10_turns hT hw (by omega)) ?_
    rintro _ S ⟨rfl, rfl⟩
    have key : Ev (d + 1 + 1) mX10_edges 43 [some (vR 10 0), some (vI (nI w)), some (vI (bi_ c)), some (vI (nI (fb_ct (t_ed t w c) i))), some (vI (nI i))] [vI (bi_ (t_ed t w c i)), vI (nI (fb_ct (t_ed t w c) i))] S Q := by
      refine bkX10_edges_43 ?_
      rw [ct_bi, nI_1]
      exact ih (i + 1) (by omega)
    cases hp : t_ed t w c i
    · rw [hp] at key
      exact bkX10_edges_35 (fun _ => bkX10_edges_42 key) (fun h => absurd rfl h)
    · rw [hp] at key
      exact bkX10_edges_35 (fun h => absurd h (by decide)) (fun _ => bkX10_edges_38 key)
theorem kX10_edges {x : Int32} {c : Bool} (hT : TrX S 0 n t) : Ci (d + 2) mX10_edges [vR 10 0, vI x, vI (bi_ c)] S (fun v S' => v = sp_edges n t x c ∧ S' = S) := by
  refine cxX10_edges ?_
  refine bkX10_edges_0 kX10_isWire ?_
  rintro _ S ⟨rfl, rfl⟩
  cases h : inR x 0 7
  · exact bkX10_edges_4 (fun h => absurd rfl h) (fun _ => bkX10_edges_7 ⟨_, rfl, by simp [sp_edges, h], rfl⟩)
  · refine bkX10_edges_4 (fun _ => ?_) (fun h => absurd h (by decide))
    obtain ⟨w, hw, rfl⟩ := inR_get h
    refine bkX10_edges_9 ?_
    rcases Nat.eq_zero_or_pos n with hn | hn
    · subst hn
      have h1 := hT.1
      exact bkX10_edges_14 (fun _ => bkX10_edges_51 ⟨_, rfl, by simp [sp_edges, h, fb_ct, nI_0], rfl⟩) (fun h => absurd (by rw [h1]; decide) h)
    · have := lX10_edges (d := d) (c := c) (w := w) (Q := fun r S' => ∃ v, r = some (vI v) ∧ v = sp_edges n t (nI w) c ∧ S' = _) hT (by omega) ⟨_, rfl, by simp [sp_edges, h, nI_tn (show w < 2 ^ 31 by omega)], rfl⟩ (n - 1) 1 (by omega)
      rw [fb_ct_succ, t_ed0] at this
      exact this
theorem lM_edges {c : Bool} {Q : Option av_T → hs_T → Prop} (hT : TrM S n t) (hw : w < 8) (hQ : Q (some (vI (nI (fb_ct (t_ed t w c) n)))) S) :
    ∀ (m i : Nat), i + m = n → Ev (d + 3) mX11_edges 14 [some (vR 11 0), some (vI (nI w)), some (vI (bi_ c)), some (vI (nI (fb_ct (t_ed t w c) i))), some (vI (nI i))] [] S Q := by
  have h1 := hT.1
  have h2 := hT.2.1
  intro m
  induction m with
  | zero =>
    intro i hi
    have e : i = n := by omega
    subst e
    exact bkX11_edges_14 (fun _ => bkX11_edges_43 hQ) (fun h => absurd (by rw [h1]; exact nI_le (Nat.le_refl _) (by omega)) h)
  | succ m ih =>
    intro i hi
    refine bkX11_edges_14 (fun h => absurd h (by rw [h1]; exact nl_ (by omega) (by omega))) (fun _ => ?_)
    refine bkX11_edges_23 (kM_isEdge hT hw (by omega)) ?_
    rintro _ S ⟨rfl, rfl⟩
    refine bkX11_edges_32 kM_flag ?_
    rintro _ S ⟨rfl, rfl⟩
    refine bkX11_edges_35 ?_
    rw [ct_bi, nI_1]
    exact ih (i + 1) (by omega)
theorem kM_edges {x : Int32} {c : Bool} (hT : TrM S n t) : Ci (d + 3) mX11_edges [vR 11 0, vI x, vI (bi_ c)] S (fun v S' => v = sp_edges n t x c ∧ S' = S) := by
  refine cxX11_edges ?_
  refine bkX11_edges_0 kM_isWire ?_
  rintro _ S ⟨rfl, rfl⟩
  cases h : inR x 0 7
  · exact bkX11_edges_4 (fun h => absurd rfl h) (fun _ => bkX11_edges_7 ⟨_, rfl, by simp [sp_edges, h], rfl⟩)
  · refine bkX11_edges_4 (fun _ => ?_) (fun h => absurd h (by decide))
    obtain ⟨w, hw, rfl⟩ := inR_get h
    refine bkX11_edges_9 ?_
    exact lM_edges (d := d) (c := c) (w := w) hT (by omega) ⟨_, rfl, by simp [sp_edges, h, nI_tn (show w < 2 ^ 31 by omega)], rfl⟩ n 0 (by omega)
/-! edge: the y-th -/
def s_kth (p : Nat → Bool) (y : Int32) : Nat → Nat → Nat → Int32
  | 0, _, _ => -4
  | m + 1, i, k => if p i then (if nI k = y then nI i else s_kth p y m (i + 1) (k + 1)) else s_kth p y m (i + 1) k
def sp_edge (n : Nat) (t : Nat → Nat) (x : Int32) (c : Bool) (y : Int32) : Int32 := if inR x 0 7 && decide (0 ≤ y.toInt) then s_kth (t_ed t x.toInt.toNat c) y n 0 0 else -1
theorem lX10_edge {c : Bool} {y : Int32} {Q : Option av_T → hs_T → Prop} (hT : TrX S 0 n t) (hw : w < 8) :
    ∀ (m i k : Nat), i + m = n → Q (some (vI (s_kth (t_ed t w c) y m i k))) S → Ev (d + 2) mX10_edge 19 [some (vR 10 0), some (vI (nI w)), some (vI (bi_ c)), some (vI y), some (vI (nI k)), some (vI (nI i))] [] S Q := by
  have h1 := hT.1
  have h2 := hT.2.1
  intro m
  induction m with
  | zero =>
    intro i k hi hQ
    have e : i = n := by omega
    subst e
    exact bkX10_edge_19 (fun _ => bkX10_edge_63 hQ) (fun h => absurd (by rw [h1]; exact nI_le (Nat.le_refl _) (by omega)) h)
  | succ m ih =>
    intro i k hi hQ
    refine bkX10_edge_19 (fun h => absurd h (by rw [h1]; exact nl_ (by omega) (by omega))) (fun _ => ?_)
    refine bkX10_edge_31 (kX10_turns hT hw (by omega)) ?_
    rintro _ S ⟨rfl, rfl⟩
    unfold s_kth at hQ
    cases hp : t_ed t w c i
    · simp only [hp, Bool.false_eq_true, if_false] at hQ
      refine bkX10_edge_39 (fun h => absurd rfl h) (fun _ => bkX10_edge_42 (bkX10_edge_57 ?_))
      rw [nI_1]
      exact ih (i + 1) k (by omega) hQ
    · simp only [hp, if_true] at hQ
      refine bkX10_edge_39 (fun _ => ?_) (fun h => absurd h (by decide))
      refine bkX10_edge_45 (fun h => ?_) (fun h => ?_)
      · rw [if_neg h] at hQ
        refine bkX10_edge_54 (bkX10_edge_57 ?_)
        rw [nI_1, nI_1]
        exact ih (i + 1) (k + 1) (by omega) hQ
      · rw [if_pos h] at hQ
        exact bkX10_edge_51 hQ
theorem kX10_edge {x y : Int32} {c : Bool} (hT : TrX S 0 n t) : Ci (d + 2) mX10_edge [vR 10 0, vI x, vI (bi_ c), vI y] S (fun v S' => v = sp_edge n t x c y ∧ S' = S) := by
  refine cxX10_edge ?_
  refine bkX10_edge_0 kX10_isWire ?_
  rintro _ S ⟨rfl, rfl⟩
  cases h : inR x 0 7
  · exact bkX10_edge_4 (fun _ => bkX10_edge_11 ⟨_, rfl, by simp [sp_edge, h], rfl⟩) (fun h => absurd rfl h)
  · refine bkX10_edge_4 (fun h => absurd h (by decide)) (fun _ => ?_)
    obtain ⟨w, hw, rfl⟩ := inR_get h
    refine bkX10_edge_7 (fun hy => ?_) (fun hy => ?_)
    · rw [fa_le] at hy
      have hy : 0 ≤ y.toInt := hy
      have e : sp_edge n t (nI w) c y = s_kth (t_ed t w c) y n 0 0 := by simp [sp_edge, h, hy, nI_tn (show w < 2 ^ 31 by omega)]
      refine bkX10_edge_13 ?_
      rcases Nat.eq_zero_or_pos n with hn | hn
      · subst hn
        have h1 := hT.1
        exact bkX10_edge_19 (fun _ => bkX10_edge_63 ⟨_, rfl, by rw [e]; rfl, rfl⟩) (fun h => absurd (by rw [h1]; decide) h)
      · refine lX10_edge (d := d) (w := w) hT (by omega) (n - 1) 1 0 (by omega) ⟨_, rfl, ?_, rfl⟩
        rw [e, show n = n - 1 + 1 by omega]
        conv => rhs; unfold s_kth
        rw [t_ed0]
        simp
    · rw [fa_le] at hy
      exact bkX10_edge_11 ⟨_, rfl, by have hy : ¬ 0 ≤ y.toInt := hy; simp [sp_edge, hy], rfl⟩
theorem lM_edge {c : Bool} {y : Int32} {Q : Option av_T → hs_T → Prop} (hT : TrM S n t) (hw : w < 8) :
    ∀ (m i k : Nat), i + m = n → Q (some (vI (s_kth (t_ed t w c) y m i k))) S → Ev (d + 3) mX11_edge 19 [some (vR 11 0), some (vI (nI w)), some (vI (bi_ c)), some (vI y), some (vI (nI k)), some (vI (nI i))] [] S Q := by
  have h1 := hT.1
  have h2 := hT.2.1
  intro m
  induction m with
  | zero =>
    intro i k hi hQ
    have e : i = n := by omega
    subst e
    exact bkX11_edge_19 (fun _ => bkX11_edge_57 hQ) (fun h => absurd (by rw [h1]; exact nI_le (Nat.le_refl _) (by omega)) h)
  | succ m ih =>
    intro i k hi hQ
    refine bkX11_edge_19 (fun h => absurd h (by rw [h1]; exact nl_ (by omega) (by omega))) (fun _ => ?_)
    refine bkX11_edge_28 (kM_isEdge hT hw (by omega)) ?_
    rintro _ S ⟨rfl, rfl⟩
    unfold s_kth at hQ
    cases hp : t_ed t w c i
    · simp only [hp, Bool.false_eq_true, if_false] at hQ
      refine bkX11_edge_36 (fun _ => bkX11_edge_51 ?_) (fun h => absurd rfl h)
      rw [nI_1]
      exact ih (i + 1) k (by omega) hQ
    · simp only [hp, if_true] at hQ
      refine bkX11_edge_36 (fun h => absurd h (by decide)) (fun _ => ?_)
      refine bkX11_edge_39 (fun h => ?_) (fun h => ?_)
      · rw [if_neg h] at hQ
        refine bkX11_edge_48 (bkX11_edge_51 ?_)
        rw [nI_1, nI_1]
        exact ih (i + 1) (k + 1) (by omega) hQ
      · rw [if_pos h] at hQ
        exact bkX11_edge_45 hQ
theorem kM_edge {x y : Int32} {c : Bool} (hT : TrM S n t) : Ci (d + 3) mX11_edge [vR 11 0, vI x, vI (bi_ c), vI y] S (fun v S' => v = sp_edge n t x c y ∧ S' = S) := by
  refine cxX11_edge ?_
  refine bkX11_edge_0 kM_isWire ?_
  rintro _ S ⟨rfl, rfl⟩
  cases h : inR x 0 7
  · exact bkX11_edge_4 (fun _ => bkX11_edge_11 ⟨_, rfl, by simp [sp_edge, h], rfl⟩) (fun h => absurd rfl h)
  · refine bkX11_edge_4 (fun h => absurd h (by decide)) (fun _ => ?_)
    obtain ⟨w, hw, rfl⟩ := inR_get h
    refine bkX11_edge_7 (fun hy => ?_) (fun hy => ?_)
    · rw [fa_le] at hy
      have hy : 0 ≤ y.toInt := hy
      have e : sp_edge n t (nI w) c y = s_kth (t_ed t w c) y n 0 0 := by simp [sp_edge, h, hy, nI_tn (show w < 2 ^ 31 by omega)]
      exact bkX11_edge_13 (lM_edge (d := d) (w := w) hT (by omega) n 0 0 (by omega) ⟨_, rfl, e.symm, rfl⟩)
    · rw [fa_le] at hy
      exact bkX11_edge_11 ⟨_, rfl, by have hy : ¬ 0 ≤ y.toInt := hy; simp [sp_edge, hy], rfl⟩
/-! runs -/
def sp_runs (n : Nat) (t : Nat → Nat) : Int32 := nI (fb_ct (t_rb t) n)
theorem lX10_runs {Q : Option av_T → hs_T → Prop} (hT : TrX S 0 n t) (hQ : Q (some (vI (nI (fb_ct (t_rb t) n)))) S) :
    ∀ (m i : Nat), i + m = n → Ev (d + 3) mX10_runs 4 [some (vR 10 0), some (vI (nI (fb_ct (t_rb t) i))), some (vI (nI i))] [] S Q := by
  have h1 := hT.1
  have h2 := hT.2.1
  intro m
  induction m with
  | zero =>
    intro i hi
    have e : i = n := by omega
    subst e
    exact bkX10_runs_4 (fun _ => bkX10_runs_40 hQ) (fun h => absurd (by rw [h1]; exact nI_le (Nat.le_refl _) (by omega)) h)
  | succ m ih =>
    intro i hi
    refine bkX10_runs_4 (fun h => absurd h (by rw [h1]; exact nl_ (by omega) (by omega))) (fun _ => ?_)
    refine bkX10_runs_15 (kX8_beginsRun hT (by omega) (by omega)) ?_
    rintro _ S ⟨rfl, rfl⟩
    have key : Ev (d + 2 + 1) mX10_runs 32 [some (vR 10 0), some (vI (nI (fb_ct (t_rb t) i))), some (vI (nI i))] [vI (bi_ (t_rb t i)), vI (nI (fb_ct (t_rb t) i))] S Q := by
      refine bkX10_runs_32 ?_
      rw [ct_bi, nI_1]
      exact ih (i + 1) (by omega)
    cases hp : t_rb t i
    · rw [hp] at key
      exact bkX10_runs_24 (fun _ => bkX10_runs_31 key) (fun h => absurd rfl h)
    · rw [hp] at key
      exact bkX10_runs_24 (fun h => absurd h (by decide)) (fun _ => bkX10_runs_27 key)
theorem kX10_runs (hT : TrX S 0 n t) : Ci (d + 3) mX10_runs [vR 10 0] S (fun v S' => v = sp_runs n t ∧ S' = S) := by
  refine cxX10_runs ?_
  exact bkX10_runs_0 (lX10_runs hT ⟨_, rfl, rfl, rfl⟩ n 0 (by omega))
theorem lM_runs {Q : Option av_T → hs_T → Prop} (hT : TrM S n t) (hQ : Q (some (vI (nI (fb_ct (t_rb t) n)))) S) :
    ∀ (m i : Nat), i + m = n → Ev (d + 1) mX11_runs 4 [some (vR 11 0), some (vI (nI (fb_ct (t_rb t) i))), some (vI (nI i))] [] S Q := by
  have h1 := hT.1
  have h2 := hT.2.1
  intro m
  induction m with
  | zero =>
    intro i hi
    have e : i = n := by omega
    subst e
    exact bkX11_runs_4 (fun _ => bkX11_runs_29 hQ) (fun h => absurd (by rw [h1]; exact nI_le (Nat.le_refl _) (by omega)) h)
  | succ m ih =>
    intro i hi
    refine bkX11_runs_4 (fun h => absurd h (by rw [h1]; exact nl_ (by omega) (by omega))) (fun _ => ?_)
    refine bkX11_runs_12 (kM_begins hT (by omega)) ?_
    rintro _ S ⟨rfl, rfl⟩
    refine bkX11_runs_18 kM_flag ?_
    rintro _ S ⟨rfl, rfl⟩
    refine bkX11_runs_21 ?_
    rw [ct_bi, nI_1]
    exact ih (i + 1) (by omega)
theorem kM_runs (hT : TrM S n t) : Ci (d + 1) mX11_runs [vR 11 0] S (fun v S' => v = sp_runs n t ∧ S' = S) := by
  refine cxX11_runs ?_
  exact bkX11_runs_0 (lM_runs hT ⟨_, rfl, rfl, rfl⟩ n 0 (by omega))
/-! fills -/
def s_fl (t : Nat → Nat) (M : Nat) : Nat → Nat → Nat → Nat
  | 0, j, _ => j
  | r + 1, j, b => if M < (if t_rb t j then b + 1 else b) then j else s_fl t M r (j + 1) (if t_rb t j then b + 1 else b)
def sp_fills (n : Nat) (t : Nat → Nat) (x y : Int32) : Int32 := if inR x 1 400 && inR y 0 ((n : Int) - 1) then nI (s_fl t x.toInt.toNat (n - (y.toInt.toNat + 1)) (y.toInt.toNat + 1) 1 - y.toInt.toNat) else -1
theorem lX10_fills {M y0 : Nat} {Q : Option av_T → hs_T → Prop} (hT : TrX S 0 n t) (hM : M ≤ 400) (hy : y0 < n) :
    ∀ (m j b : Nat), j + m = n → y0 < j → b ≤ 400 → b ≤ M → Q (some (vI (nI (s_fl t M m j b - y0)))) S → Ev (d + 3) mX10_fills 31 [some (vR 10 0), some (vI (nI M)), some (vI (nI y0)), some (vI (nI b)), some (vI (nI j))] [] S Q := by
  have h1 := hT.1
  have h2 := hT.2.1
  intro m
  induction m with
  | zero =>
    intro j b hj hy0 hb hbM hQ
    have e : j = n := by omega
    subst e
    refine bkX10_fills_31 (fun _ => bkX10_fills_79 ?_) (fun h => absurd (by rw [h1]; exact nI_le (Nat.le_refl _) (by omega)) h)
    rw [h1, pk_sub (by omega)]
    exact hQ
  | succ m ih =>
    intro j b hj hy0 hb hbM hQ
    refine bkX10_fills_31 (fun h => absurd h (by rw [h1]; exact nl_ (by omega) (by omega))) (fun _ => ?_)
    refine bkX10_fills_43 (kX8_beginsRun hT (by omega) (by omega)) ?_
    rintro _ S ⟨rfl, rfl⟩
    unfold s_fl at hQ
    have key : Ev (d + 2 + 1) mX10_fills 61 [some (vR 10 0), some (vI (nI M)), some (vI (nI y0)), some (vI (nI b)), some (vI (nI j))] [vI (bi_ (t_rb t j)), vI (nI b)] S Q := by
      have e1 : nI b + bi_ (t_rb t j) = nI (if t_rb t j then b + 1 else b) := by
        cases t_rb t j
        · simp [bi_]
        · rw [bi_t, nI_1]; rfl
      have hb1 : (if t_rb t j then b + 1 else b) ≤ 401 := by split <;> omega
      refine bkX10_fills_61 (fun h => ?_) (fun h => ?_)
      · rw [e1, nI_leI (by omega) (by omega)] at h
        rw [if_neg (by omega)] at hQ
        refine bkX10_fills_73 ?_
        rw [e1, nI_1]
        exact ih (j + 1) _ (by omega) (by omega) (by omega) h hQ
      · rw [e1, nI_leI (by omega) (by omega)] at h
        rw [if_pos (by omega)] at hQ
        refine bkX10_fills_68 ?_
        rw [pk_sub (by omega)]
        exact hQ
    cases hp : t_rb t j
    · rw [hp] at key
      exact bkX10_fills_53 (fun _ => bkX10_fills_60 key) (fun h => absurd rfl h)
    · rw [hp] at key
      exact bkX10_fills_53 (fun h => absurd h (by decide)) (fun _ => bkX10_fills_56 key)
theorem kX10_fills {x y : Int32} (hT : TrX S 0 n t) : Ci (d + 3) mX10_fills [vR 10 0, vI x, vI y] S (fun v S' => v = sp_fills n t x y ∧ S' = S) := by
  have h1 := hT.1
  have h2 := hT.2.1
  refine cxX10_fills ?_
  refine bkX10_fills_0 (kX10_w (lo := 1) (hi := 400) rfl rfl) ?_
  rintro _ S ⟨rfl, rfl⟩
  cases h : inR x 1 400
  · exact bkX10_fills_8 (fun _ => bkX10_fills_22 ⟨_, rfl, by simp [sp_fills, h], rfl⟩) (fun h => absurd rfl h)
  · refine bkX10_fills_8 (fun h => absurd h (by decide)) (fun _ => ?_)
    refine bkX10_fills_11 (kX8_has h1 h2 (by omega)) ?_
    rintro _ S ⟨rfl, rfl⟩
    cases hy : inR y 0 ((n : Int) - 1)
    · exact bkX10_fills_19 (fun h => absurd rfl h) (fun _ => bkX10_fills_22 ⟨_, rfl, by simp [sp_fills, hy], rfl⟩)
    · refine bkX10_fills_19 (fun _ => ?_) (fun h => absurd h (by decide))
      obtain ⟨M, hM1, hM, rfl⟩ := inR_get1 (by omega) h
      obtain ⟨y0, hy0, rfl⟩ := inR_get hy
      refine bkX10_fills_24 ?_
      rw [nI_1]
      exact lX10_fills (d := d) hT (M := M) (y0 := y0) (by omega) (by omega) (n - (y0 + 1)) (y0 + 1) 1 (by omega) (by omega) (by omega) (by omega) ⟨_, rfl, by simp [sp_fills, h, hy, nI_tn (show M < 2 ^ 31 by omega), nI_tn (show y0 < 2 ^ 31 by omega)], rfl⟩
theorem lM_fills {M y0 : Nat} {x1 : Int32} {Q : Option av_T → hs_T → Prop} (hT : TrM S n t) (hM : M ≤ 400) (hy : y0 < n) :
    ∀ (m k b : Nat), k + 1 + m = n → y0 ≤ k → b ≤ M → Q (some (vI (nI (s_fl t M m (k + 1) b - y0)))) S → Ev (d + 1) mX11_fills 27 [some (vR 11 0), some (vI x1), some (vI (nI y0)), some (vI (nI (M + 1 - b))), some (vI (nI k))] [] S Q := by
  have h1 := hT.1
  have h2 := hT.2.1
  intro m
  induction m with
  | zero =>
    intro k b hk hy0 hb hQ
    refine bkX11_fills_27 (fun h => absurd h (by rw [h1]; exact nl_ (by omega) (by omega))) (fun _ => ?_)
    refine bkX11_fills_36 (fun h => absurd h (nI_nle (by omega) (by omega))) (fun _ => ?_)
    refine bkX11_fills_40 (fun _ => ?_) (fun h => absurd (by rw [h1, nI_1]; exact nI_le (by omega) (by omega)) h)
    refine bkX11_fills_66 (bkX11_fills_67 (kM_flag (b := false)) ?_)
    rintro _ S ⟨rfl, rfl⟩
    refine bkX11_fills_70 ?_
    rw [nI_1]
    refine bkX11_fills_27 (fun _ => bkX11_fills_75 ?_) (fun h => absurd (by rw [h1]; exact nI_le (by omega) (by omega)) h)
    rw [pk_sub (by omega)]
    exact hQ
  | succ m ih =>
    intro k b hk hy0 hb hQ
    refine bkX11_fills_27 (fun h => absurd h (by rw [h1]; exact nl_ (by omega) (by omega))) (fun _ => ?_)
    refine bkX11_fills_36 (fun h => absurd h (nI_nle (by omega) (by omega))) (fun _ => ?_)
    refine bkX11_fills_40 (fun h => absurd h (by rw [h1, nI_1]; exact nl_ (by omega) (by omega))) (fun _ => ?_)
    rw [nI_1]
    refine bkX11_fills_53 (kM_begins hT (by omega)) ?_
    rintro _ S ⟨rfl, rfl⟩
    unfold s_fl at hQ
    have key : Ev (d + 1) mX11_fills 67 [some (vR 11 0), some (vI x1), some (vI (nI y0)), some (vI (nI (M + 1 - b))), some (vI (nI (k + 1)))] [vI (bi_ (t_rb t (k + 1))), vI (nI (M + 1 - b))] S Q := by
      refine bkX11_fills_67 kM_flag ?_
      rintro _ S ⟨rfl, rfl⟩
      refine bkX11_fills_70 ?_
      cases hp : t_rb t (k + 1)
      · simp only [hp, Bool.false_eq_true, if_false] at hQ
        rw [if_neg (by omega)] at hQ
        rw [bi_F, Int32.sub_zero]
        exact ih (k + 1) b (by omega) (by omega) hb hQ
      · simp only [hp, if_true] at hQ
        rw [bi_t, nI_m1 (by omega), show M + 1 - b - 1 = M + 1 - (b + 1) by omega]
        by_cases hq : M < b + 1
        · rw [if_pos hq] at hQ
          refine bkX11_fills_27 (fun h => absurd h (by rw [h1]; exact nl_ (by omega) (by omega))) (fun _ => ?_)
          refine bkX11_fills_36 (fun _ => bkX11_fills_75 ?_) (fun h => absurd (by rw [show M + 1 - (b + 1) = 0 by omega]; decide) h)
          rw [pk_sub (by omega)]
          exact hQ
        · rw [if_neg hq] at hQ
          exact ih (k + 1) (b + 1) (by omega) (by omega) (by omega) hQ
    cases hp : t_rb t (k + 1)
    · rw [hp] at key
      exact bkX11_fills_59 (fun _ => bkX11_fills_66 key) (fun h => absurd rfl h)
    · rw [hp] at key
      exact bkX11_fills_59 (fun h => absurd h (by decide)) (fun _ => bkX11_fills_62 key)
theorem kM_fills {x y : Int32} (hT : TrM S n t) : Ci (d + 2) mX11_fills [vR 11 0, vI x, vI y] S (fun v S' => v = sp_fills n t x y ∧ S' = S) := by
  have h1 := hT.1
  have h2 := hT.2.1
  refine cxX11_fills ?_
  refine bkX11_fills_0 (kM_inI (lo := 1) (hi := 400) rfl rfl) ?_
  rintro _ S ⟨rfl, rfl⟩
  cases h : inR x 1 400
  · exact bkX11_fills_9 (fun _ => bkX11_fills_20 ⟨_, rfl, by simp [sp_fills, h], rfl⟩) (fun h => absurd rfl h)
  · refine bkX11_fills_9 (fun h => absurd h (by decide)) (fun _ => ?_)
    refine bkX11_fills_12 (kM_isSample h1 h2) ?_
    rintro _ S ⟨rfl, rfl⟩
    cases hy : inR y 0 ((n : Int) - 1)
    · exact bkX11_fills_17 (fun h => absurd rfl h) (fun _ => bkX11_fills_20 ⟨_, rfl, by simp [sp_fills, hy], rfl⟩)
    · refine bkX11_fills_17 (fun _ => ?_) (fun h => absurd h (by decide))
      obtain ⟨M, hM1, hM, rfl⟩ := inR_get1 (by omega) h
      obtain ⟨y0, hy0, rfl⟩ := inR_get hy
      refine bkX11_fills_22 ?_
      exact lM_fills (d := d + 1) hT (M := M) (y0 := y0) (by omega) (by omega) (n - (y0 + 1)) y0 1 (by omega) (by omega) (by omega) ⟨_, rfl, by simp [sp_fills, h, hy, nI_tn (show M < 2 ^ 31 by omega), nI_tn (show y0 < 2 ^ 31 by omega)], rfl⟩
end FE
