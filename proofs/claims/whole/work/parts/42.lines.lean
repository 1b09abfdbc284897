/-! ===== what a text tells, as a tree; the lines ===== -/
/-- states; terms of keep; depth; ahead; whether these two were told -/
abbrev ax_T : Type := List (List br_T) × List tm_T × Nat × Nat × Bool × Bool
def bg (l : List br_T) (i : Nat) : br_T := l.getD i ([], 0, 0)
def sg (l : List (List br_T)) (i : Nat) : List br_T := l.getD i []
def p_ln (T V : Nat → Nat) (x : ax_T) (a : Nat) : er_T ⊕ (Nat × ax_T) :=
  if T a = 4 then (if 8 ≤ x.1.length then .inl (5, a) else eb (eb (p_bs T V 3 a) (fun q => eb (p_tk T 59 q.1) (fun a2 => .inr (a2, q.2)))) (fun z => .inr (z.1, (x.1 ++ [z.2], x.2))))
  else if T a = 5 then (if 0 < x.2.1.length then .inl (4, a) else eb (p_nx T a) (fun a1 => eb (p_cd T V true 3 a1) (fun q => eb (p_tk T 59 q.1) (fun a2 => .inr (a2, (x.1, q.2, x.2.2))))))
  else if T a = 6 then (if x.2.2.2.2.1 then .inl (4, a) else eb (p_nx T a) (fun a1 => eb (p_nm T V 1 400 a1) (fun a2 => eb (p_tk T 59 a2) (fun a3 => .inr (a3, (x.1, x.2.1, V a1, x.2.2.2.1, true, x.2.2.2.2.2))))))
  else if T a = 7 then (if x.2.2.2.2.2 then .inl (4, a) else eb (p_nx T a) (fun a1 => eb (p_nm T V 0 399 a1) (fun a2 => eb (p_tk T 59 a2) (fun a3 => .inr (a3, (x.1, x.2.1, x.2.2.1, V a1, x.2.2.2.2.1, true))))))
  else .inl (2, a)
def p_all (T V : Nat → Nat) : Nat → Nat → Nat → ax_T → er_T ⊕ (Nat × Nat × ax_T)
  | 0, k, a, x => .inr (k, a, x)
  | m + 1, k, a, x => if T a = 0 then .inr (k, a, x) else eb (p_ln T V x a) (fun z => p_all T V m (k + 1) z.1 z.2)
theorem p_all_s (T V : Nat → Nat) (m k a : Nat) (x : ax_T) : p_all T V (m + 1) k a x = if T a = 0 then .inr (k, a, x) else eb (p_ln T V x a) (fun z => p_all T V m (k + 1) z.1 z.2) := rfl
def x0_ : ax_T := ([], [], 100, 0, false, false)
def p_top (T V : Nat → Nat) : er_T ⊕ (Nat × Nat × ax_T) := if T 0 = 1 then .inl (1, 0) else p_all T V 400 0 0 x0_
/-! what the trees hold -/
def okT (l : List tm_T) : Prop := 1 ≤ l.length ∧ l.length ≤ 3 ∧ ∀ i, i < l.length → okt (lg l i).1 (lg l i).2
def okB (x : br_T) : Prop := okT x.1 ∧ x.2.1 ≤ 99 ∧ x.2.2 ≤ 8
def okS (l : List br_T) : Prop := 1 ≤ l.length ∧ l.length ≤ 3 ∧ ∀ i, i < l.length → okB (bg l i)
def AX (x : ax_T) : Prop := x.1.length ≤ 8 ∧ (∀ s, s < x.1.length → okS (sg x.1 s)) ∧ (x.2.1.length = 0 ∨ okT x.2.1) ∧ x.2.2.1 ≤ 400 ∧ x.2.2.2.1 ≤ 400
/-- faults lie ahead; one that is no token is at it -/
def okE (T : Nat → Nat) (a : Nat) (e : er_T) : Prop := 1 ≤ e.1 ∧ e.1 ≤ 5 ∧ a ≤ e.2 ∧ (e.1 = 1 → a < e.2 ∧ T e.2 = 1)
theorem okE_le {T : Nat → Nat} {a a' : Nat} {e : er_T} (h : a ≤ a') (he : okE T a' e) : okE T a e := ⟨he.1, he.2.1, by have := he.2.2.1; omega, fun h1 => ⟨by have := (he.2.2.2 h1).1; omega, (he.2.2.2 h1).2⟩⟩
theorem okE_2 {T : Nat → Nat} {a c : Nat} (h : 2 ≤ c ∧ c ≤ 5) : okE T a (c, a) := ⟨by show 1 ≤ c; omega, h.2, Nat.le_refl _, fun h1 => by have h1 : c = 1 := h1; omega⟩
section PU
variable {T V : Nat → Nat}
theorem p_nx_ok (T : Nat → Nat) (a : Nat) : oc (p_nx T a) (okE T a) (fun a' => a' = a + 1) := by
  unfold p_nx
  split
  · rename_i h
    exact ⟨Nat.le_refl 1, by show 1 ≤ 5; omega, by simp, fun _ => ⟨by simp, h⟩⟩
  · exact rfl
theorem p_tk_ok (T : Nat → Nat) (w a : Nat) : oc (p_tk T w a) (okE T a) (fun a' => a' = a + 1) := by
  unfold p_tk
  split
  · exact p_nx_ok T a
  · exact okE_2 (by omega)
theorem p_nm_ok (T V : Nat → Nat) (lo hi a : Nat) : oc (p_nm T V lo hi a) (okE T a) (fun a' => a' = a + 1 ∧ lo ≤ V a ∧ V a ≤ hi) := by
  unfold p_nm
  split
  · split
    · rename_i h
      have := p_nx_ok T a
      cases hx : p_nx T a with
      | inl e => rw [hx] at this; exact this
      | inr a' => rw [hx] at this; exact ⟨this, h⟩
    · exact okE_2 (by omega)
  · exact okE_2 (by omega)
theorem oc_eb {α β : Type} {x : er_T ⊕ α} {f : α → er_T ⊕ β} {B : er_T → Prop} {G : α → Prop} {G' : β → Prop} (h : oc x B G) (hf : ∀ a, G a → oc (f a) B G') : oc (eb x f) B G' := by
  cases x with
  | inl e => exact h
  | inr a => exact hf a h
theorem oc_im {α : Type} {x : er_T ⊕ α} {B B' : er_T → Prop} {G G' : α → Prop} (h : oc x B G) (hb : ∀ e, B e → B' e) (hg : ∀ a, G a → G' a) : oc x B' G' := by
  cases x with
  | inl e => exact hb e h
  | inr a => exact hg a h
theorem okt_of {k v : Nat} (hk : k ≤ 6) (h1 : tlo k ≤ v) (h2 : v ≤ thi k) : okt k v := by
  unfold thi at h2
  refine ⟨hk, fun h => ?_, ?_⟩
  · rw [if_pos h] at h2; omega
  · repeat' split at h2
    all_goals omega
theorem lg_c (x : tm_T) (l : List tm_T) (i : Nat) : lg (x :: l) (i + 1) = lg l i := rfl
theorem bg_c (x : br_T) (l : List br_T) (i : Nat) : bg (x :: l) (i + 1) = bg l i := rfl
theorem okTc {x : tm_T} {l : List tm_T} (hx : okt x.1 x.2) (h : ∀ i, i < l.length → okt (lg l i).1 (lg l i).2) : ∀ i, i < (x :: l).length → okt (lg (x :: l) i).1 (lg (x :: l) i).2
  | 0, _ => hx
  | i + 1, hi => h i (by simp at hi; omega)
theorem okBc {x : br_T} {l : List br_T} (hx : okB x) (h : ∀ i, i < l.length → okB (bg l i)) : ∀ i, i < (x :: l).length → okB (bg (x :: l) i)
  | 0, _ => hx
  | i + 1, hi => h i (by simp at hi; omega)
theorem p_cd_ok (T V : Nat → Nat) : ∀ (m : Nat) (f : Bool) (a : Nat), oc (p_cd T V f m a) (okE T a) (fun z => a < z.1 ∧ 1 ≤ z.2.length ∧ z.2.length ≤ m ∧ ∀ i, i < z.2.length → okt (lg z.2 i).1 (lg z.2 i).2) := by
  intro m
  induction m with
  | zero => intro f a; rw [p_cd_0]; exact okE_2 (by omega)
  | succ m ih =>
    intro f a
    rw [p_cd_s]
    refine oc_eb (G := fun a1 => a ≤ a1) ?_ (fun a1 h1 => ?_)
    · cases f
      · exact oc_im (p_nx_ok T a) (fun _ h => h) (fun a' h => by omega)
      · exact Nat.le_refl a
    · split
      · rename_i h2
        refine oc_eb (G := fun a2 => a2 = a1 + 1) (oc_im (p_nx_ok T a1) (fun _ h => okE_le h1 h) (fun _ h => h)) (fun a2 h3 => ?_)
        refine oc_eb (G := fun a3 => a3 = a2 + 1 ∧ tlo (T a1 - 20) ≤ V a2 ∧ V a2 ≤ thi (T a1 - 20)) (oc_im (p_nm_ok T V _ _ a2) (fun _ h => okE_le (by omega) h) (fun _ h => h)) (fun a3 h4 => ?_)
        have ho : okt (T a1 - 20) (V a2) := okt_of (by omega) h4.2.1 h4.2.2
        split
        · refine oc_eb (oc_im (ih false a3) (fun _ h => okE_le (by omega) h) (fun _ h => h)) (fun z hz => ?_)
          refine ⟨by show a < z.1; omega, by simp, by simp; omega, okTc ho hz.2.2.2⟩
        · refine ⟨by show a < a3; omega, by simp, by simp, okTc ho (fun i hi => by simp at hi)⟩
      · exact okE_le h1 (okE_2 (by omega))
theorem p_br_ok (T V : Nat → Nat) (a : Nat) : oc (p_br T V a) (okE T a) (fun z => a < z.1 ∧ okB z.2) := by
  unfold p_br
  refine oc_eb (p_cd_ok T V 3 true a) (fun q hq => ?_)
  refine oc_eb (G := fun w => q.1 ≤ w.1 ∧ w.2 ≤ 99) ?_ (fun w hw => ?_)
  · unfold p_tt
    split
    · refine oc_eb (oc_im (p_nx_ok T q.1) (fun _ h => okE_le (by omega) h) (fun _ h => h)) (fun a2 h2 => ?_)
      refine oc_eb (oc_im (p_nm_ok T V 1 99 a2) (fun _ h => okE_le (by omega) h) (fun _ h => h)) (fun a3 h3 => ?_)
      exact ⟨by show q.1 ≤ a3; omega, h3.2.2⟩
    · exact ⟨Nat.le_refl _, by show 1 ≤ 99; omega⟩
  · refine oc_eb (oc_im (p_tk_ok T 9 w.1) (fun _ h => okE_le (by omega) h) (fun _ h => h)) (fun a5 h5 => ?_)
    refine oc_eb (G := fun z => a5 < z.1 ∧ z.2 ≤ 8) ?_ (fun z hz => ?_)
    · unfold p_to
      split
      · refine oc_eb (oc_im (p_nx_ok T a5) (fun _ h => okE_le (by omega) h) (fun _ h => h)) (fun a6 h6 => ?_)
        exact ⟨by show a5 < a6; omega, Nat.le_refl 8⟩
      · refine oc_eb (oc_im (p_nm_ok T V 0 7 a5) (fun _ h => okE_le (by omega) h) (fun _ h => h)) (fun a6 h6 => ?_)
        exact ⟨by show a5 < a6; omega, by show V a5 ≤ 8; omega⟩
    · exact ⟨by show a < z.1; omega, ⟨hq.2.1, hq.2.2.1, hq.2.2.2⟩, hw.2, hz.2⟩
theorem p_bs_ok (T V : Nat → Nat) : ∀ (m a : Nat), oc (p_bs T V m a) (okE T a) (fun z => a < z.1 ∧ 1 ≤ z.2.length ∧ z.2.length ≤ m ∧ ∀ i, i < z.2.length → okB (bg z.2 i)) := by
  intro m
  induction m with
  | zero => intro a; exact okE_2 (by omega)
  | succ m ih =>
    intro a
    rw [p_bs_s]
    refine oc_eb (p_nx_ok T a) (fun a1 h1 => ?_)
    refine oc_eb (oc_im (p_br_ok T V a1) (fun _ h => okE_le (by omega) h) (fun _ h => h)) (fun q hq => ?_)
    split
    · refine oc_eb (oc_im (ih q.1) (fun _ h => okE_le (by omega) h) (fun _ h => h)) (fun z hz => ?_)
      exact ⟨by show a < z.1; omega, by simp, by simp; omega, okBc hq.2 hz.2.2.2⟩
    · exact ⟨by show a < q.1; omega, by simp, by simp, okBc hq.2 (fun i hi => by simp at hi)⟩
theorem sg_a {l : List (List br_T)} {z : List br_T} {s : Nat} (h : s < (l ++ [z]).length) : (s < l.length ∧ sg (l ++ [z]) s = sg l s) ∨ (s = l.length ∧ sg (l ++ [z]) s = z) := by
  simp at h
  unfold sg
  by_cases e : s < l.length
  · left; refine ⟨e, ?_⟩
    rw [List.getD_eq_getElem?_getD, List.getD_eq_getElem?_getD, List.getElem?_append_left e]
  · right
    have e2 : s = l.length := by omega
    subst e2
    refine ⟨rfl, ?_⟩
    rw [List.getD_eq_getElem?_getD, List.getElem?_append_right (Nat.le_refl _)]
    simp
theorem p_ln_ok (T V : Nat → Nat) {x : ax_T} (a : Nat) (hx : AX x) : oc (p_ln T V x a) (okE T a) (fun z => a < z.1 ∧ AX z.2) := by
  obtain ⟨x1, x2, x3, x4, x5⟩ := hx
  have stop : ∀ c, 2 ≤ c ∧ c ≤ 5 → okE T a (c, a) := fun c hc => ⟨by show 1 ≤ c; omega, hc.2, Nat.le_refl _, fun h => by have h : c = 1 := h; omega⟩
  unfold p_ln
  split
  · split
    · exact stop 5 (by omega)
    · rename_i h8
      refine oc_eb (G := fun z => a < z.1 ∧ okS z.2) (oc_eb (p_bs_ok T V 3 a) (fun q hq => ?_)) (fun z hz => ?_)
      · refine oc_eb (oc_im (p_tk_ok T 59 q.1) (fun _ h => okE_le (by omega) h) (fun _ h => h)) (fun a2 h2 => ?_)
        exact ⟨by show a < a2; omega, hq.2⟩
      · refine ⟨hz.1, by simp; omega, fun s hs => ?_, x3, x4, x5⟩
        rcases sg_a hs with ⟨h1, h2⟩ | ⟨h1, h2⟩
        · show okS (sg (x.1 ++ [z.2]) s); rw [h2]; exact x2 s h1
        · show okS (sg (x.1 ++ [z.2]) s); rw [h2]; exact hz.2
  · split
    · split
      · exact stop 4 (by omega)
      · refine oc_eb (p_nx_ok T a) (fun a1 h1 => ?_)
        refine oc_eb (oc_im (p_cd_ok T V 3 true a1) (fun _ h => okE_le (by omega) h) (fun _ h => h)) (fun q hq => ?_)
        refine oc_eb (oc_im (p_tk_ok T 59 q.1) (fun _ h => okE_le (by omega) h) (fun _ h => h)) (fun a2 h2 => ?_)
        exact ⟨by show a < a2; omega, x1, x2, Or.inr hq.2, x4, x5⟩
    · split
      · split
        · exact stop 4 (by omega)
        · refine oc_eb (p_nx_ok T a) (fun a1 h1 => ?_)
          refine oc_eb (oc_im (p_nm_ok T V 1 400 a1) (fun _ h => okE_le (by omega) h) (fun _ h => h)) (fun a2 h2 => ?_)
          refine oc_eb (oc_im (p_tk_ok T 59 a2) (fun _ h => okE_le (by omega) h) (fun _ h => h)) (fun a3 h3 => ?_)
          exact ⟨by show a < a3; omega, x1, x2, x3, h2.2.2, x5⟩
      · split
        · split
          · exact stop 4 (by omega)
          · refine oc_eb (p_nx_ok T a) (fun a1 h1 => ?_)
            refine oc_eb (oc_im (p_nm_ok T V 0 399 a1) (fun _ h => okE_le (by omega) h) (fun _ h => h)) (fun a2 h2 => ?_)
            refine oc_eb (oc_im (p_tk_ok T 59 a2) (fun _ h => okE_le (by omega) h) (fun _ h => h)) (fun a3 h3 => ?_)
            exact ⟨by show a < a3; omega, x1, x2, x3, x4, by show V a1 ≤ 400; omega⟩
        · exact stop 2 (by omega)
end PU
/-! the tree in a row -/
def SR (u : Nat → Nat) (s : Nat) (l : List br_T) : Prop := u (222 + s) = l.length ∧ ∀ i, i < l.length → BR u (3 * s + i) (bg l i)
def RA (u : Nat → Nat) (x : ax_T) : Prop := u 230 = x.1.length ∧ (∀ s, s < x.1.length → SR u s (sg x.1 s)) ∧ CR u 24 x.2.1 ∧ u 232 = x.2.2.1 ∧ u 233 = x.2.2.2.1
def FZ (u : Nat → Nat) (x : ax_T) : Prop := ∀ s, x.1.length ≤ s → s < 8 → u (222 + s) = 0 ∧ ∀ q, q < 3 → u (3 * s + q) = 0
theorem CR_of {u u' : Nat → Nat} {c : Nat} {l : List tm_T} (h : CR u c l) (hl : l.length ≤ 3) (hk : ∀ k, inCd c k → u' k = u k) : CR u' c l := by
  refine ⟨by rw [hk _ (Or.inl rfl)]; exact h.1, fun i hi => ?_⟩
  rw [hk _ (Or.inr (Or.inl (by omega))), hk _ (Or.inr (Or.inr (by omega)))]
  exact h.2 i hi
theorem BR_of {u u' : Nat → Nat} {c : Nat} {x : br_T} (h : BR u c x) (hl : x.1.length ≤ 3) (hk : ∀ k, (inCd c k ∨ k = 24 + c ∨ k = 48 + c) → u' k = u k) : BR u' c x :=
  ⟨CR_of h.1 hl (fun k hc => hk k (Or.inl hc)), by rw [hk _ (Or.inr (Or.inl rfl))]; exact h.2.1, by rw [hk _ (Or.inr (Or.inr rfl))]; exact h.2.2⟩
theorem SR_of {u u' : Nat → Nat} {s : Nat} {l : List br_T} (h : SR u s l) (hl : okS l) (hk : ∀ k, (k = 222 + s ∨ ∃ i, i < 3 ∧ (inCd (3 * s + i) k ∨ k = 24 + (3 * s + i) ∨ k = 48 + (3 * s + i))) → u' k = u k) : SR u' s l := by
  refine ⟨by rw [hk _ (Or.inl rfl)]; exact h.1, fun i hi => ?_⟩
  have h3 := hl.2.1
  exact BR_of (h.2 i hi) (hl.2.2 i hi).1.2.1 (fun k hc => hk k (Or.inr ⟨i, by omega, hc⟩))
/-- a state's branches written from number q on -/
def SW (s q : Nat) (u : Nat → Nat) (l : List br_T) (u' : Nat → Nat) : Prop := (∀ i, i < l.length → BR u' (3 * s + (q + i)) (bg l i)) ∧ u' (222 + s) = q + l.length ∧ ∀ k, (∀ i, q ≤ i → i < 3 → ¬ inBr s i k) → u' k = u k
theorem cx_lt {c : Nat} (h : c < 24) : cx c = c := by unfold cx; rw [if_neg (by omega)]
section LX
variable {d r n a : Nat} {S0 S : hs_T} {b u : Nat → Nat} {e : er_T}
theorem lX4_readState {s : Nat} (hb : ∀ i, i < n → b i < 256) (hs : s < 8) : ∀ (m q a : Nat) (S : hs_T) (u : Nat → Nat), q + m = 3 → GX r b n S0 S a u → t_co b n a ≠ 0 → (∀ i, q ≤ i → i < 3 → u (3 * s + i) = 0) →
    Ev (d + 4) mX4_readState 32 [some (vR 4 0), some (vI (nI s)), some (vI (nI q))] [] S (fun r' S' => r' = none ∧ oR _ r b n S0 (eb (p_bs (t_co b n) (t_vl b n) m a) (fun q => eb (p_tk (t_co b n) 59 q.1) (fun a2 => .inr (a2, q.2)))) (SW s q u) S') := by
  intro m
  induction m with
  | zero =>
    intro q a S u hq h h0 hz
    have e3 : q = 3 := by omega
    subst e3
    refine bkX4_readState_32 (fun _ => ?_) (fun hh => absurd (by decide) hh)
    refine bkX4_readState_69 (kX4_refuse h (by omega) (w := 5) rfl) ?_
    intro S' h'
    exact bkX4_readState_74 ⟨rfl, h'⟩
  | succ m ih =>
    intro q a S u hq h h0 hz
    rw [p_bs_s]
    refine bkX4_readState_32 (fun hh => absurd hh (nl_ (b := 3) (by omega) (by omega))) (fun _ => ?_)
    have badT : ∀ {e : er_T} (S : hs_T), BX r b n S0 S e → Ev (d + 4) mX4_readState 47 [some (vR 4 0), some (vI (nI s)), some (vI (nI q))] [] S (fun r' S' => r' = none ∧ BX r b n S0 S' e) := by
      intro e S h
      refine bkX4_readState_47 (fun hh => absurd hh (by rw [h.2.1.1]; decide)) (fun _ => ?_)
      refine bkX4_readState_56 (kX4_takeB h (w := 59) (by omega) rfl) ?_
      intro S' h'
      exact bkX4_readState_62 ⟨rfl, h'⟩
    refine bkX4_readState_37 (kX4_advance h h0) ?_
    intro S1 h1
    cases hx1 : p_nx (t_co b n) a with
    | inl e =>
      rw [hx1] at h1
      rw [eb_l, eb_l]
      refine bkX4_readState_41 (kX4_readBranchB h1 hs (by omega)) ?_
      intro S2 h2
      exact badT S2 h2
    | inr a1 =>
      rw [hx1] at h1
      rw [eb_r]
      refine bkX4_readState_41 (kX4_readBranch hb h1 hs (by omega) (hz q (Nat.le_refl _) (by omega))) ?_
      intro S2 h2
      have hok := p_br_ok (t_co b n) (t_vl b n) a1
      cases hx2 : p_br (t_co b n) (t_vl b n) a1 with
      | inl e =>
        rw [hx2] at h2
        rw [eb_l, eb_l]
        exact badT S2 h2
      | inr z =>
        rw [hx2] at h2 hok
        obtain ⟨u1, g1, w1⟩ := h2
        obtain ⟨a2, x⟩ := z
        have g1 : GX r b n S0 S2 a2 u1 := g1
        have w1 : BW s q u x u1 := w1
        have hokx : okB x := hok.2
        rw [eb_r]
        refine bkX4_readState_47 (fun hh => ?_) (fun hh => ?_) <;> rw [show (124 : Int32) = nI 124 from rfl, tok_eq hb g1.2.1 (by omega)] at hh
        · rw [if_pos hh]
          refine bkX4_readState_63 ?_
          rw [nI_1]
          refine (ih (q + 1) a2 S2 u1 (by omega) g1 (by omega) (fun i hi1 hi2 => ?_)).imp ?_
          · rw [w1.2.2 _ (fun hh => ?_)]
            · exact hz i (by omega) hi2
            · unfold inBr inCd at hh
              rw [cx_lt (by omega)] at hh
              omega
          · rintro r' S3 ⟨rfl, h3⟩
            refine ⟨rfl, ?_⟩
            cases hx3 : p_bs (t_co b n) (t_vl b n) m a2 with
            | inl e => rw [hx3] at h3; exact h3
            | inr y =>
              rw [hx3] at h3
              rw [eb_r, eb_r]
              rw [eb_r] at h3
              cases hx4 : p_tk (t_co b n) 59 y.1 with
              | inl e => rw [hx4] at h3; exact h3
              | inr a3 =>
                rw [hx4] at h3
                obtain ⟨u', f1, f2, f3, f4⟩ := h3
                refine ⟨u', f1, fun i hi => ?_, by rw [f3]; simp; omega, fun k hk => ?_⟩
                · match i, hi with
                  | 0, _ =>
                    refine BR_of (u := u1) (x := x) w1.1 hokx.1.2.1 (fun k hk => f4 k (fun i i1 i2 hh => ?_))
                    unfold inBr inCd at hh
                    unfold inCd at hk
                    rw [cx_lt (by omega)] at hh hk
                    omega
                  | i + 1, hi =>
                    have := f2 i (by simp at hi; exact hi)
                    rw [show q + (i + 1) = q + 1 + i by omega]
                    exact this
                · rw [f4 k (fun i i1 i2 => hk i (by omega) i2)]
                  exact w1.2.2 k (hk q (Nat.le_refl _) (by omega))
        · rw [if_neg hh]
          refine bkX4_readState_56 (kX4_take hb g1 (w := 59) (by omega) rfl) ?_
          intro S3 h3
          refine bkX4_readState_62 ⟨rfl, ?_⟩
          rw [eb_r]
          show oR _ r b n S0 (eb (p_tk (t_co b n) 59 a2) _) _ S3
          cases hx4 : p_tk (t_co b n) 59 a2 with
          | inl e => rw [hx4] at h3; exact h3
          | inr a3 =>
            rw [hx4] at h3
            refine ⟨u1, h3, fun i hi => ?_, w1.2.1, fun k hk => w1.2.2 k (hk q (Nat.le_refl _) (by omega))⟩
            have e0 : i = 0 := by simp at hi; omega
            subst e0
            exact w1.1
theorem DrX_5 {f v : Nat} {k : Nat} (hD : DrX S r u) (hk : (f = 6 ∧ k = 230 ∧ v ≤ 8) ∨ (f = 7 ∧ k = 232 ∧ v ≤ 400) ∨ (f = 8 ∧ k = 233 ∧ v ≤ 400)) : DrX (sk_ S 5 r (upd (S.1 5 r) f (nI v))) r (un_ u k v) := by
  obtain ⟨⟨a1, a2, a3⟩, a4, a5, a6, a7, ⟨b1, b2, b3, b4, b5⟩⟩ := hD
  refine ⟨?_, fun s hs => ?_, fun c hc => ?_, fun c hc => ?_, fun i hi => ?_, ?_, fun s hs => ?_, fun c hc => ?_, ?_, ?_⟩
  · rw [sk_at]
    rcases hk with ⟨rfl, rfl, _⟩ | ⟨rfl, rfl, _⟩ | ⟨rfl, rfl, _⟩
    · exact ⟨pk_us, a2, a3⟩
    · exact ⟨a1, pk_us, a3⟩
    · exact ⟨a1, a2, pk_us⟩
  · rw [un_n (by omega)]; exact a4 s hs
  · rw [un_n (by omega), un_n (by omega)]; exact a5 c hc
  · have := cx_c hc
    rw [un_n (by omega)]; exact a6 c hc
  · rw [un_n (by omega), un_n (by omega)]; exact a7 i hi
  · by_cases e : k = 230
    · rw [e, un_s]; omega
    · rw [un_n (fun h => e h.symm)]; exact b1
  · rw [un_n (by omega)]; exact b2 s hs
  · have := cx_c hc
    rw [un_n (by omega)]; exact b3 c hc
  · by_cases e : k = 232
    · rw [e, un_s]; omega
    · rw [un_n (fun h => e h.symm)]; exact b4
  · by_cases e : k = 233
    · rw [e, un_s]; omega
    · rw [un_n (fun h => e h.symm)]; exact b5
/-- the reader between lines: x was told; a new base at each line -/
def LXs (r : Nat) (b : Nat → Nat) (n : Nat) (S : hs_T) (a : Nat) (x : ax_T) : Prop := ∃ u, GX r b n S S a u ∧ RA u x ∧ FZ u x ∧ AX x ∧ S.1 4 0 6 = bi_ x.2.2.2.2.1 ∧ S.1 4 0 7 = bi_ x.2.2.2.2.2
def fL (r : Nat) (S0 S : hs_T) : Prop := S.2.2 = S0.2.2 ∧ S.1 4 0 10 = S0.1 4 0 10 ∧ ∀ k j f, k ≠ 4 → ¬ (j = r ∧ (k = 5 ∨ (600 ≤ k ∧ k ≤ 605))) → S.1 k j f = S0.1 k j f
theorem fL_tr {r : Nat} {S S' S'' : hs_T} (h : fL r S S') (h2 : fL r S' S'') : fL r S S'' := ⟨h2.1.trans h.1, h2.2.1.trans h.2.1, fun k j f a c => (h2.2.2 k j f a c).trans (h.2.2 k j f a c)⟩
theorem fX_fL {r : Nat} {S S' : hs_T} (h : fX r S S') : fL r S S' := ⟨h.1, h.2 4 0 10 (fun hh => by unfold hot at hh; omega), fun k j f h1 h2 => h.2 k j f (fun hh => hh.elim (fun z => h1 z.1) (fun z => h2 z))⟩
theorem GX_base {S0 S0' S : hs_T} (h : GX r b n S0 S a u) (hf : fX r S0' S) : GX r b n S0' S a u := ⟨⟨hf, h.1.2⟩, h.2⟩
theorem BX_base {S0 S0' S : hs_T} (h : BX r b n S0 S e) (hf : fX r S0' S) : BX r b n S0' S e := ⟨⟨hf, h.1.2⟩, h.2⟩
/-- what a line ends in -/
def oL (r : Nat) (b : Nat → Nat) (n : Nat) (S0 : hs_T) (res : er_T ⊕ (Nat × ax_T)) (S : hs_T) : Prop := fL r S0 S ∧ oc res (BX r b n S S) (fun z => LXs r b n S z.1 z.2)
theorem oL_bad {S0 S' : hs_T} (h : BX r b n S0 S' e) (hf : fL r S S0) : oL r b n S (.inl e) S' := ⟨fL_tr hf (fX_fL h.1.1), BX_base h (fX_rf r S')⟩
theorem fL_rf (r : Nat) (S : hs_T) : fL r S S := ⟨rfl, rfl, fun _ _ _ _ _ => rfl⟩
theorem flag_of {S S' : hs_T} (h : fX r S S') : S'.1 4 0 6 = S.1 4 0 6 ∧ S'.1 4 0 7 = S.1 4 0 7 := ⟨h.2 4 0 6 (fun hh => by unfold hot at hh; omega), h.2 4 0 7 (fun hh => by unfold hot at hh; omega)⟩
theorem kX4_readState {x : ax_T} (hb : ∀ i, i < n → b i < 256) (h : LXs r b n S a x) (h4 : t_co b n a = 4) : Cv (d + 4) mX4_readState [vR 4 0] S (oL r b n S (p_ln (t_co b n) (t_vl b n) x a)) := by
  obtain ⟨u, hG, hR, hZ, hA, hf1, hf2⟩ := h
  have hok := p_ln_ok (t_co b n) (t_vl b n) a hA
  have hr : S.2.2 1 = r := hG.1.2.2.1
  have hs5 : S.1 5 r 6 = nI x.1.length := by rw [hG.2.2.1.1, hR.1]
  have h8 := hA.1
  unfold p_ln at hok ⊢
  rw [if_pos h4] at hok ⊢
  refine cxX4_readState ?_
  refine bkX4_readState_0 (by rw [hr]; exact hG.1.2.2.2) (fun hh => ?_) (fun hh => ?_) <;> rw [hr, hs5, show (8 : Int32) = nI 8 from rfl, nI_ltI (by omega) (by omega)] at hh
  · rw [if_neg (by omega)] at hok ⊢
    rw [hr, hs5]
    have hD1 : DrX (sk_ S 5 r (upd (S.1 5 r) 6 (nI (x.1.length + 1)))) r (un_ u 230 (x.1.length + 1)) := DrX_5 hG.2.2 (Or.inl ⟨rfl, rfl, by omega⟩)
    have hE1 : ExR r b n S (sk_ S 5 r (upd (S.1 5 r) 6 (nI (x.1.length + 1)))) := ExR_r hG.1 (Or.inl rfl)
    refine bkX4_readState_20 (by rw [hr]; exact hG.1.2.2.2) ?_
    rw [hr, nI_1]
    have hL := lX4_readState (d := d) (r := r) (S0 := S) hb (s := x.1.length) (by omega) 3 0 a _ (un_ u 230 (x.1.length + 1)) (by omega) ⟨hE1, RdX_of (S := S) rfl hG.2.1, hD1⟩ (by omega) (fun i _ hi2 => by
      rw [un_n (by omega)]; exact (hZ _ (Nat.le_refl _) (by omega)).2 i hi2)
    refine hL.imp ?_
    rintro r' S' ⟨rfl, h'⟩
    refine ⟨rfl, ?_⟩
    cases hx : eb (p_bs (t_co b n) (t_vl b n) 3 a) (fun q => eb (p_tk (t_co b n) 59 q.1) (fun a2 => .inr (a2, q.2))) with
    | inl e =>
      rw [hx] at h'
      exact oL_bad h' (fL_rf r S)
    | inr z =>
      rw [hx] at h' hok
      obtain ⟨a', l⟩ := z
      obtain ⟨u', g1, w1, w2, w3⟩ := h'
      have g1 : GX r b n S S' a' u' := g1
      rw [Nat.zero_add] at w2
      have hAx : AX (x.1 ++ [l], x.2) := hok.2
      refine ⟨fX_fL g1.1.1, u', GX_base g1 (fX_rf r S'), ⟨?_, fun s hs => ?_, ?_, ?_, ?_⟩, fun s hs1 hs2 => ?_, hAx, ?_, ?_⟩
      · rw [w3 230 (fun i _ hi hh => by unfold inBr inCd at hh; rw [cx_lt (by omega)] at hh; omega), un_s]
        simp
      · show SR u' s (sg (x.1 ++ [l]) s)
        have hokS := hAx.2.1 s hs
        rcases sg_a hs with ⟨k1, k2⟩ | ⟨k1, k2⟩
        · rw [k2]
          have hokS' := hA.2.1 s k1
          refine SR_of (u := u) (hR.2.1 s k1) hokS' (fun k hk => ?_)
          rw [w3 k (fun i _ hi hh => ?_)]
          · refine un_n (fun ek => ?_)
            rcases hk with hk | ⟨i, hi, hk⟩
            · omega
            · unfold inCd at hk; rw [cx_lt (by omega)] at hk; omega
          · unfold inBr inCd at hh
            rw [cx_lt (by omega)] at hh
            rcases hk with hk | ⟨i', hi', hk⟩
            · omega
            · unfold inCd at hk; rw [cx_lt (by omega)] at hk; omega
        · rw [k2, k1]
          refine ⟨w2, fun i hi => ?_⟩
          have := w1 i hi
          rw [Nat.zero_add] at this
          exact this
      · refine CR_of (u := u) hR.2.2.1 ?_ (fun k hk => ?_)
        · show x.2.1.length ≤ 3
          rcases hA.2.2.1 with hh | hh
          · omega
          · exact hh.2.1
        · unfold inCd at hk
          have ec : cx 24 = 231 := rfl
          rw [ec] at hk
          rw [w3 k (fun i _ hi hh => by unfold inBr inCd at hh; rw [cx_lt (by omega)] at hh; omega), un_n (by omega)]
      · rw [w3 232 (fun i _ hi hh => by unfold inBr inCd at hh; rw [cx_lt (by omega)] at hh; omega), un_n (by omega)]; exact hR.2.2.2.1
      · rw [w3 233 (fun i _ hi hh => by unfold inBr inCd at hh; rw [cx_lt (by omega)] at hh; omega), un_n (by omega)]; exact hR.2.2.2.2
      · have hs1 : x.1.length + 1 ≤ s := by simpa using hs1
        have hz := hZ s (by omega) hs2
        refine ⟨?_, fun q hq => ?_⟩
        · rw [w3 (222 + s) (fun i _ hi hh => by unfold inBr inCd at hh; rw [cx_lt (by omega)] at hh; omega), un_n (by omega)]; exact hz.1
        · rw [w3 (3 * s + q) (fun i _ hi hh => by unfold inBr inCd at hh; rw [cx_lt (by omega)] at hh; omega), un_n (by omega)]; exact hz.2 q hq
      · rw [(flag_of g1.1.1).1]; exact hf1
      · rw [(flag_of g1.1.1).2]; exact hf2
  · rw [if_pos (by omega)]
    refine bkX4_readState_14 (kX4_refuse hG (by omega) (w := 5) rfl) ?_
    intro S' h'
    exact bkX4_readState_19 ⟨rfl, oL_bad h' (fL_rf r S)⟩
end LX
