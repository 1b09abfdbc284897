/-! ===== the grammar over a row of tokens: T their codes, V their numbers; a fault is its code and its token's number ===== -/
abbrev er_T : Type := Nat × Nat
abbrev tm_T : Type := Nat × Nat
abbrev br_T : Type := List tm_T × Nat × Nat
def eb {α β : Type} (x : er_T ⊕ α) (f : α → er_T ⊕ β) : er_T ⊕ β := match x with
  | .inl e => .inl e
  | .inr a => f a
theorem eb_l {α β : Type} (e : er_T) (f : α → er_T ⊕ β) : eb (.inl e) f = .inl e := rfl
theorem eb_r {α β : Type} (a : α) (f : α → er_T ⊕ β) : eb (.inr a) f = f a := rfl
def oc {α : Type} (res : er_T ⊕ α) (B : er_T → Prop) (G : α → Prop) : Prop := match res with
  | .inl e => B e
  | .inr x => G x
def p_nx (T : Nat → Nat) (a : Nat) : er_T ⊕ Nat := if T (a + 1) = 1 then .inl (1, a + 1) else .inr (a + 1)
def p_tk (T : Nat → Nat) (w a : Nat) : er_T ⊕ Nat := if T a = w then p_nx T a else .inl (2, a)
def p_nm (T V : Nat → Nat) (lo hi a : Nat) : er_T ⊕ Nat := if T a = 2 then (if lo ≤ V a ∧ V a ≤ hi then p_nx T a else .inl (3, a)) else .inl (2, a)
def tlo (k : Nat) : Nat := if k = 6 then 1 else 0
def thi (k : Nat) : Nat := if k < 4 then 7 else if k = 6 then 999 else 255
def p_cd (T V : Nat → Nat) : Bool → Nat → Nat → er_T ⊕ (Nat × List tm_T)
  | _, 0, a => .inl (5, a)
  | f, m + 1, a => eb (if f then .inr a else p_nx T a) (fun a1 =>
      if 20 ≤ T a1 ∧ T a1 ≤ 26 then eb (p_nx T a1) (fun a2 => eb (p_nm T V (tlo (T a1 - 20)) (thi (T a1 - 20)) a2) (fun a3 =>
        if T a3 = 38 then eb (p_cd T V false m a3) (fun q => .inr (q.1, (T a1 - 20, V a2) :: q.2)) else .inr (a3, [(T a1 - 20, V a2)])))
      else .inl (2, a1))
theorem p_cd_0 (T V : Nat → Nat) (f : Bool) (a : Nat) : p_cd T V f 0 a = .inl (5, a) := by cases f <;> rfl
theorem p_cd_s (T V : Nat → Nat) (f : Bool) (m a : Nat) : p_cd T V f (m + 1) a = eb (if f then .inr a else p_nx T a) (fun a1 =>
      if 20 ≤ T a1 ∧ T a1 ≤ 26 then eb (p_nx T a1) (fun a2 => eb (p_nm T V (tlo (T a1 - 20)) (thi (T a1 - 20)) a2) (fun a3 =>
        if T a3 = 38 then eb (p_cd T V false m a3) (fun q => .inr (q.1, (T a1 - 20, V a2) :: q.2)) else .inr (a3, [(T a1 - 20, V a2)])))
      else .inl (2, a1)) := by cases f <;> rfl
def p_tt (T V : Nat → Nat) (a : Nat) : er_T ⊕ (Nat × Nat) := if T a = 8 then eb (p_nx T a) (fun a2 => eb (p_nm T V 1 99 a2) (fun a3 => .inr (a3, V a2))) else .inr (a, 1)
def p_to (T V : Nat → Nat) (a : Nat) : er_T ⊕ (Nat × Nat) := if T a = 10 then eb (p_nx T a) (fun a6 => .inr (a6, 8)) else eb (p_nm T V 0 7 a) (fun a6 => .inr (a6, V a))
def p_br (T V : Nat → Nat) (a : Nat) : er_T ⊕ (Nat × br_T) := eb (p_cd T V true 3 a) (fun q => eb (p_tt T V q.1) (fun w => eb (p_tk T 9 w.1) (fun a5 => eb (p_to T V a5) (fun z => .inr (z.1, (q.2, w.2, z.2))))))
def p_bs (T V : Nat → Nat) : Nat → Nat → er_T ⊕ (Nat × List br_T)
  | 0, a => .inl (5, a)
  | m + 1, a => eb (p_nx T a) (fun a1 => eb (p_br T V a1) (fun q => if T q.1 = 124 then eb (p_bs T V m q.1) (fun z => .inr (z.1, q.2 :: z.2)) else .inr (q.1, [q.2])))
theorem p_bs_s (T V : Nat → Nat) (m a : Nat) : p_bs T V (m + 1) a = eb (p_nx T a) (fun a1 => eb (p_br T V a1) (fun q => if T q.1 = 124 then eb (p_bs T V m q.1) (fun z => .inr (z.1, q.2 :: z.2)) else .inr (q.1, [q.2]))) := rfl
/-! ===== a row of numbers: what was told, laid as the reference's row ===== -/
def un_ (f : Nat → Nat) (k x : Nat) : Nat → Nat := fun i => if i = k then x else f i
theorem un_s (f : Nat → Nat) (k x : Nat) : un_ f k x k = x := if_pos rfl
theorem un_n {f : Nat → Nat} {k x i : Nat} (h : i ≠ k) : un_ f k x i = f i := if_neg h
def cx (c : Nat) : Nat := if c = 24 then 231 else c
theorem cx_c {c : Nat} (h : c ≤ 24) : (c < 24 ∧ cx c = c) ∨ (c = 24 ∧ cx c = 231) := by
  unfold cx
  split <;> omega
def lg (l : List tm_T) (i : Nat) : tm_T := l.getD i (0, 0)
/-- the terms l of condition c stand in the row -/
def CR (u : Nat → Nat) (c : Nat) (l : List tm_T) : Prop := u (cx c) = l.length ∧ ∀ i, i < l.length → u (72 + (3 * c + i)) = (lg l i).1 ∧ u (147 + (3 * c + i)) = (lg l i).2
/-- what a condition writes is inside these places -/
def inCd (c k : Nat) : Prop := k = cx c ∨ (72 + 3 * c ≤ k ∧ k < 72 + 3 * c + 3) ∨ (147 + 3 * c ≤ k ∧ k < 147 + 3 * c + 3)
/-! ===== the class's reader: its state ===== -/
def hot (r k j f : Nat) : Prop := (k = 4 ∧ f ≠ 6 ∧ f ≠ 7 ∧ f ≠ 10) ∨ (j = r ∧ (k = 5 ∨ (600 ≤ k ∧ k ≤ 605)))
def fX (r : Nat) (S0 S : hs_T) : Prop := S.2.2 = S0.2.2 ∧ ∀ k j f, ¬ hot r k j f → S.1 k j f = S0.1 k j f
theorem fX_rf (r : Nat) (S : hs_T) : fX r S S := ⟨rfl, fun _ _ _ _ => rfl⟩
theorem fX_tr {r : Nat} {S S' S'' : hs_T} (h : fX r S S') (h2 : fX r S' S'') : fX r S S'' := ⟨h2.1.trans h.1, fun k j f a => (h2.2 k j f a).trans (h.2 k j f a)⟩
theorem fX_sk {r : Nat} {S0 S : hs_T} {k j : Nat} {g : Nat → Int32} (h : fX r S0 S) (hg : ∀ f, ¬ hot r k j f → g f = S.1 k j f) : fX r S0 (sk_ S k j g) := by
  refine fX_tr h ⟨rfl, fun k' j' f e => ?_⟩
  by_cases hk : k' = k ∧ j' = j
  · obtain ⟨rfl, rfl⟩ := hk
    rw [sk_at]; exact hg f e
  · rw [sk_ne _ _ hk]
theorem fX_4 {r : Nat} {S0 S : hs_T} {f : Nat} {x : Int32} (h : fX r S0 S) (hf : f ≠ 6 ∧ f ≠ 7 ∧ f ≠ 10) : fX r S0 (sk_ S 4 0 (upd (S.1 4 0) f x)) := fX_sk h (fun f' hn => pk_un (fun e => hn (Or.inl ⟨rfl, by rw [e]; exact hf⟩)))
theorem fX_r {r : Nat} {S0 S : hs_T} {k : Nat} {g : Nat → Int32} (h : fX r S0 S) (hk : k = 5 ∨ (600 ≤ k ∧ k ≤ 605)) : fX r S0 (sk_ S k r g) := fX_sk h (fun f hn => absurd (Or.inr ⟨rfl, hk⟩) hn)
theorem TkZ_of {S S' : hs_T} {b : Nat → Nat} {n : Nat} (h : TkZ S b n) (h5 : S'.1 7 0 5 = S.1 7 0 5) (h2 : S'.1 802 0 = S.1 802 0) (h3 : S'.1 803 0 = S.1 803 0) (h4 : S'.1 804 0 = S.1 804 0) : TkZ S' b n := by
  obtain ⟨c, ⟨a1, a2, a3⟩, a4⟩ := h
  refine ⟨c, ⟨by rw [h5]; exact a1, a2, fun k hk => ?_⟩, a4⟩
  rw [h2, h3, h4]; exact a3 k hk
/-- what stays over the reading -/
def ExR (r : Nat) (b : Nat → Nat) (n : Nat) (S0 S : hs_T) : Prop := fX r S0 S ∧ TkZ S b n ∧ S.2.2 1 = r ∧ r < 2
def Bd (u : Nat → Nat) : Prop := u 230 ≤ 8 ∧ (∀ s, s < 8 → u (222 + s) ≤ 3) ∧ (∀ c, c ≤ 24 → u (cx c) ≤ 3) ∧ u 232 ≤ 400 ∧ u 233 ≤ 400
def DrX (S : hs_T) (r : Nat) (u : Nat → Nat) : Prop := (S.1 5 r 6 = nI (u 230) ∧ S.1 5 r 7 = nI (u 232) ∧ S.1 5 r 8 = nI (u 233)) ∧ (∀ s, s < 8 → S.1 600 r s = nI (u (222 + s))) ∧ (∀ c, c < 24 → S.1 601 r c = nI (u (24 + c)) ∧ S.1 602 r c = nI (u (48 + c))) ∧ (∀ c, c ≤ 24 → S.1 603 r c = nI (u (cx c))) ∧ (∀ i, i < 75 → S.1 604 r i = nI (u (72 + i)) ∧ S.1 605 r i = nI (u (147 + i))) ∧ Bd u
def RdX (S : hs_T) (b : Nat → Nat) (n a : Nat) : Prop := S.1 4 0 2 = nI a ∧ S.1 4 0 3 = nI (t_co b n a) ∧ S.1 4 0 4 = nI (t_po b n a) ∧ S.1 4 0 5 = nI (t_vl b n a) ∧ S.1 4 0 8 = 0 ∧ t_co b n a ≠ 1 ∧ ∀ q, q < a → t_co b n q ≠ 0 ∧ t_co b n q ≠ 1
def FX (S : hs_T) (b : Nat → Nat) (n : Nat) (e : er_T) : Prop := S.1 4 0 3 = 1 ∧ ((S.1 4 0 8 = nI e.1 ∧ 1 ≤ e.1 ∧ e.1 ≤ 6 ∧ S.1 4 0 9 = nI (t_po b n e.2)) ∨ (S.1 4 0 8 = 0 ∧ e.1 = 1 ∧ S.1 4 0 4 = nI (t_po b n e.2)))
def GX (r : Nat) (b : Nat → Nat) (n : Nat) (S0 S : hs_T) (a : Nat) (u : Nat → Nat) : Prop := ExR r b n S0 S ∧ RdX S b n a ∧ DrX S r u
def BX (r : Nat) (b : Nat → Nat) (n : Nat) (S0 S : hs_T) (e : er_T) : Prop := ExR r b n S0 S ∧ FX S b n e ∧ ∃ u, DrX S r u
theorem ExR_4 {r n : Nat} {b : Nat → Nat} {S0 S : hs_T} {f : Nat} {x : Int32} (h : ExR r b n S0 S) (hf : f ≠ 6 ∧ f ≠ 7 ∧ f ≠ 10) : ExR r b n S0 (sk_ S 4 0 (upd (S.1 4 0) f x)) := ⟨fX_4 h.1 hf, TkZ_of h.2.1 rfl rfl rfl rfl, h.2.2.1, h.2.2.2⟩
theorem TkZ_r {r n k : Nat} {b : Nat → Nat} {S : hs_T} {g : Nat → Int32} (h : TkZ S b n) (hk : k = 5 ∨ (600 ≤ k ∧ k ≤ 605)) : TkZ (sk_ S k r g) b n :=
  TkZ_of h (by rw [rd_, if_neg (by omega)]) (by rw [rd_, if_neg (by omega)]) (by rw [rd_, if_neg (by omega)]) (by rw [rd_, if_neg (by omega)])
theorem ExR_r {r n k : Nat} {b : Nat → Nat} {S0 S : hs_T} {g : Nat → Int32} (h : ExR r b n S0 S) (hk : k = 5 ∨ (600 ≤ k ∧ k ≤ 605)) : ExR r b n S0 (sk_ S k r g) := ⟨fX_r h.1 hk, TkZ_r h.2.1 hk, h.2.2.1, h.2.2.2⟩
section RE
variable {d r n a : Nat} {S0 S : hs_T} {b u : Nat → Nat} {e : er_T}
theorem kX4_advance (h : GX r b n S0 S a u) (h0 : t_co b n a ≠ 0) : Cv d mX4_advance [vR 4 0] S (fun S' => oc (p_nx (t_co b n) a) (BX r b n S0 S') (fun a' => GX r b n S0 S' a' u)) := by
  obtain ⟨hE, ⟨r1, r2, r3, r4, r5, r6, r7⟩, hD⟩ := h
  obtain ⟨c, ⟨k1, k2, k3⟩, k4⟩ := hE.2.1
  have hq : ∀ q, q < a + 1 → t_co b n q ≠ 0 ∧ t_co b n q ≠ 1 := fun q hq => by
    by_cases e : q = a
    · subst e; exact ⟨h0, r6⟩
    · exact r7 q (by omega)
  have hac : a + 1 < c := k4 (a + 1) hq
  refine cxX4_advance ?_
  refine bkX4_advance_0 (fun hh => absurd r5 hh) (fun _ => ?_)
  have e2 : (sk_ S 4 0 (upd (S.1 4 0) 2 ((S.1 4 0 2) + 1))).1 4 0 2 = nI (a + 1) := by
    rw [sk_at, pk_us, r1, nI_1]
  refine bkX4_advance_17 (fun hh => absurd hh ?_) (fun _ => ?_)
  · show ¬ S.1 7 0 5 ≤ _
    rw [e2, k1]; exact nl_ hac (by omega)
  · have hv : vp_in ((sk_ S 4 0 (upd (S.1 4 0) 2 ((S.1 4 0 2) + 1))).1 4 0 2) 401 := by rw [e2]; exact vp_lt (by omega) (by omega)
    refine bkX4_advance_31 hv hv hv (bkX4_advance_79 ⟨rfl, ?_⟩)
    have hc := k3 (a + 1) hac
    have f1 : (S.1 4 0 2 + 1).toNatClampNeg = a + 1 := by rw [r1, nI_1, nI_clamp (by omega)]
    generalize hS' : sk_ (sk_ (sk_ (sk_ S 4 0 _) 4 0 _) 4 0 _) 4 0 _ = S'
    have c2 : S'.1 4 0 2 = nI (a + 1) := by rw [← hS']; simp [rd_, up_]; rw [r1, nI_1]
    have c3 : S'.1 4 0 3 = nI (t_co b n (a + 1)) := by rw [← hS']; simp [rd_, up_]; rw [f1]; exact hc.1
    have c4 : S'.1 4 0 4 = nI (t_po b n (a + 1)) := by rw [← hS']; simp [rd_, up_]; rw [f1]; exact hc.2.1
    have c5 : S'.1 4 0 5 = nI (t_vl b n (a + 1)) := by rw [← hS']; simp [rd_, up_]; rw [f1]; exact hc.2.2
    have c8 : S'.1 4 0 8 = 0 := by rw [← hS']; simp [rd_, up_]; exact r5
    have hE' : ExR r b n S0 S' := by
      rw [← hS']
      exact ExR_4 (ExR_4 (ExR_4 (ExR_4 hE (by omega)) (by omega)) (by omega)) (by omega)
    have hD' : DrX S' r u := by rw [← hS']; exact hD
    unfold p_nx
    by_cases ht : t_co b n (a + 1) = 1
    · rw [if_pos ht]
      exact ⟨hE', ⟨by rw [c3, ht]; rfl, Or.inr ⟨c8, rfl, c4⟩⟩, u, hD'⟩
    · rw [if_neg ht]
      exact ⟨hE', ⟨c2, c3, c4, c5, c8, ht, hq⟩, hD'⟩
theorem kX4_refuse {w : Nat} (h : GX r b n S0 S a u) (hw : 1 ≤ w ∧ w ≤ 6) {x : Int32} (hx : x = nI w) : Cv d mX4_refuse [vR 4 0, vI x] S (fun S' => BX r b n S0 S' (w, a)) := by
  subst hx
  obtain ⟨hE, ⟨r1, r2, r3, r4, r5, r6, r7⟩, hD⟩ := h
  refine cxX4_refuse ?_
  refine bkX4_refuse_0 (fun hh => absurd r5 hh) (fun _ => ?_)
  have hlt : t_co b n a < 2 ^ 31 := by
    unfold t_co
    split
    · have := t_nm_le b (t_po b n a) (t_bt b n (t_po b n a))
      unfold t_tk
      repeat' split
      all_goals omega
    · omega
  refine bkX4_refuse_7 (fun _ => ?_) (fun hh => ?_)
  · refine bkX4_refuse_20 (bkX4_refuse_21 (bkX4_refuse_32 ⟨rfl, ?_⟩))
    refine ⟨ExR_4 (ExR_4 (ExR_4 hE (by omega)) (by omega)) (by omega), ⟨?_, Or.inl ⟨?_, hw.1, hw.2, ?_⟩⟩, u, hD⟩
    · simp [rd_, up_]
    · simp [rd_, up_]
    · simp [rd_, up_]; exact r3
  · rw [r2, show (1 : Int32) = nI 1 from rfl, nI_eq hlt (by omega)] at hh
    exact absurd hh r6
theorem kX4_refuseB {x : Int32} (h : BX r b n S0 S e) : Cv d mX4_refuse [vR 4 0, vI x] S (fun S' => BX r b n S0 S' e) := by
  obtain ⟨hE, ⟨f1, f2⟩, u, hD⟩ := h
  refine cxX4_refuse ?_
  rcases f2 with ⟨g1, g2, g3, g4⟩ | ⟨g1, g2, g3⟩
  · refine bkX4_refuse_0 (fun _ => ?_) (fun hh => absurd hh (by rw [g1]; exact nI_ne0 (by omega) (by omega)))
    refine bkX4_refuse_32 ⟨rfl, ExR_4 hE (by omega), ⟨?_, Or.inl ⟨?_, g2, g3, ?_⟩⟩, u, hD⟩
    · simp [rd_, up_]
    · simp [rd_, up_]; exact g1
    · simp [rd_, up_]; exact g4
  · refine bkX4_refuse_0 (fun hh => absurd g1 hh) (fun _ => ?_)
    refine bkX4_refuse_7 (fun hh => absurd f1 hh) (fun _ => ?_)
    refine bkX4_refuse_16 (bkX4_refuse_21 (bkX4_refuse_32 ⟨rfl, ?_⟩))
    refine ⟨ExR_4 (ExR_4 (ExR_4 hE (by omega)) (by omega)) (by omega), ⟨?_, Or.inl ⟨?_, by omega, by omega, ?_⟩⟩, u, hD⟩
    · simp [rd_, up_]
    · simp [rd_, up_]; rw [g2]; rfl
    · simp [rd_, up_]; exact g3
theorem t_co_le (b : Nat → Nat) (n a : Nat) (hb : ∀ i, i < n → b i < 256) : t_co b n a < 256 := by
  unfold t_co
  split
  · rename_i h
    exact (t_tk_le b (hb _ h)).2
  · omega
/-- a comparison of the token in hand -/
theorem tok_eq (hb : ∀ i, i < n → b i < 256) (h : RdX S b n a) {w : Nat} (hw : w < 2 ^ 31) : S.1 4 0 3 = nI w ↔ t_co b n a = w := by
  have := t_co_le b n a hb
  rw [h.2.1, nI_eq (by omega) hw]
theorem kX4_take {w : Nat} (hb : ∀ i, i < n → b i < 256) (h : GX r b n S0 S a u) (hw : 2 ≤ w ∧ w < 256) {x : Int32} (hx : x = nI w) : Cv (d + 1) mX4_take [vR 4 0, vI x] S (fun S' => oc (p_tk (t_co b n) w a) (BX r b n S0 S') (fun a' => GX r b n S0 S' a' u)) := by
  subst hx
  refine cxX4_take ?_
  unfold p_tk
  refine bkX4_take_0 (fun hh => ?_) (fun hh => ?_) <;> rw [tok_eq hb h.2.1 (by omega)] at hh
  · rw [if_neg hh]
    refine bkX4_take_15 (kX4_refuse h (by omega) (w := 2) rfl) ?_
    intro S' h'
    exact bkX4_take_20 ⟨rfl, h'⟩
  · rw [if_pos hh]
    refine bkX4_take_8 (kX4_advance h (by omega)) ?_
    intro S' h'
    exact bkX4_take_12 (bkX4_take_20 ⟨rfl, h'⟩)
theorem kX4_takeB {w : Nat} (h : BX r b n S0 S e) (hw : 2 ≤ w ∧ w < 256) {x : Int32} (hx : x = nI w) : Cv (d + 1) mX4_take [vR 4 0, vI x] S (fun S' => BX r b n S0 S' e) := by
  subst hx
  refine cxX4_take ?_
  refine bkX4_take_0 (fun _ => ?_) (fun hh => absurd hh ?_)
  · refine bkX4_take_15 (kX4_refuseB h) ?_
    intro S' h'
    exact bkX4_take_20 ⟨rfl, h'⟩
  · rw [h.2.1.1, show (1 : Int32) = nI 1 from rfl, nI_eq (by omega) (by omega)]; omega
theorem kX4_takeNumber {lo hi : Nat} (hb : ∀ i, i < n → b i < 256) (h : GX r b n S0 S a u) (hlo : lo < 2 ^ 31) (hhi : hi < 2 ^ 31) {x y : Int32} (hx : x = nI lo) (hy : y = nI hi) : Ci (d + 1) mX4_takeNumber [vR 4 0, vI x, vI y] S (fun v S' => (∃ q, v = nI q ∧ q ≤ max hi 1) ∧ oc (p_nm (t_co b n) (t_vl b n) lo hi a) (BX r b n S0 S') (fun a' => v = nI (t_vl b n a) ∧ GX r b n S0 S' a' u)) := by
  subst hx hy
  have hv := t_vl_le b n a
  refine cxX4_takeNumber ?_
  unfold p_nm
  have bad : ¬ (lo ≤ t_vl b n a ∧ t_vl b n a ≤ hi) → t_co b n a = 2 → ∀ o3, Ev (d + 1) mX4_takeNumber 31 [some (vR 4 0), some (vI (nI lo)), some (vI (nI hi)), o3] [] S (fun r' S' => ∃ v, r' = some (vI v) ∧ (∃ q, v = nI q ∧ q ≤ max hi 1) ∧ oc (if t_co b n a = 2 then (if lo ≤ t_vl b n a ∧ t_vl b n a ≤ hi then p_nx (t_co b n) a else .inl (3, a)) else .inl (2, a)) (BX r b n S0 S') (fun a' => v = nI (t_vl b n a) ∧ GX r b n S0 S' a' u)) := by
    intro h1 h2 o3
    rw [if_pos h2, if_neg h1]
    refine bkX4_takeNumber_31 (kX4_refuse h (by omega) (w := 3) rfl) ?_
    intro S' h'
    exact bkX4_takeNumber_36 ⟨_, rfl, ⟨0, rfl, by omega⟩, h'⟩
  refine bkX4_takeNumber_0 (fun hh => ?_) (fun hh => ?_) <;> rw [show (2 : Int32) = nI 2 from rfl, tok_eq hb h.2.1 (by omega)] at hh
  · refine bkX4_takeNumber_15 (fun h1 => ?_) (fun h1 => ?_) <;> rw [h.2.1.2.2.2.1, nI_ltI (by omega) hlo] at h1
    · exact bad (by omega) hh _
    · refine bkX4_takeNumber_23 (fun h2 => ?_) (fun h2 => ?_) <;> rw [h.2.1.2.2.2.1, nI_leI (by omega) hhi] at h2
      · rw [if_pos hh, if_pos ⟨by omega, h2⟩]
        refine bkX4_takeNumber_38 (kX4_advance h (by omega)) ?_
        intro S' h'
        refine bkX4_takeNumber_47 ⟨_, rfl, ⟨_, h.2.1.2.2.2.1, by omega⟩, ?_⟩
        cases hx : p_nx (t_co b n) a with
        | inl e => rw [hx] at h'; exact h'
        | inr a' => rw [hx] at h'; exact ⟨h.2.1.2.2.2.1, h'⟩
      · exact bad (by omega) hh _
  · rw [if_neg hh]
    refine bkX4_takeNumber_8 (kX4_refuse h (by omega) (w := 2) rfl) ?_
    intro S' h'
    exact bkX4_takeNumber_13 ⟨_, rfl, ⟨0, rfl, by omega⟩, h'⟩
theorem kX4_takeNumberB {x y : Int32} (h : BX r b n S0 S e) : Ci (d + 1) mX4_takeNumber [vR 4 0, vI x, vI y] S (fun v S' => v = 0 ∧ BX r b n S0 S' e) := by
  refine cxX4_takeNumber ?_
  refine bkX4_takeNumber_0 (fun hh => absurd hh ?_) (fun _ => ?_)
  · rw [h.2.1.1]; decide
  · refine bkX4_takeNumber_8 (kX4_refuseB h) ?_
    intro S' h'
    exact bkX4_takeNumber_13 ⟨_, rfl, rfl, h'⟩
theorem kX4_greatestOf {k : Nat} (hk : k ≤ 6) : Ci d mX4_greatestOf [vI (nI k)] S (fun v S' => v = nI (thi k) ∧ S' = S) := by
  refine cxX4_greatestOf ?_
  have ne : ∀ {a : Nat}, nI k = nI a → a < 2 ^ 31 → k = a := fun h ha => (nI_eq (by omega) ha).mp h
  refine bkX4_greatestOf_0 (fun h => ?_) (fun h => ?_) (fun h => ?_) (fun h1 h2 h3 => ?_)
  · have e : k = 4 := ne (a := 4) h (by omega)
    subst e; exact bkX4_greatestOf_28 ⟨_, rfl, rfl, rfl⟩
  · have e : k = 5 := ne (a := 5) h (by omega)
    subst e; exact bkX4_greatestOf_28 ⟨_, rfl, rfl, rfl⟩
  · have e : k = 6 := ne (a := 6) h (by omega)
    subst e; exact bkX4_greatestOf_32 ⟨_, rfl, rfl, rfl⟩
  · have n4 : k ≠ 4 := fun z => h1 (by rw [z]; rfl)
    have n5 : k ≠ 5 := fun z => h2 (by rw [z]; rfl)
    have n6 : k ≠ 6 := fun z => h3 (by rw [z]; rfl)
    exact bkX4_greatestOf_36 ⟨_, rfl, by rw [thi, if_pos (by omega)]; rfl, rfl⟩
/-- a term written at place i of condition c -/
def u_tm (u : Nat → Nat) (c i k v : Nat) : Nat → Nat := un_ (un_ (un_ u (72 + (3 * c + i)) k) (147 + (3 * c + i)) v) (cx c) (i + 1)
theorem Bd_tm {c i k v : Nat} (h : Bd u) (hc : c ≤ 24) (hi : i < 3) : Bd (u_tm u c i k v) := by
  obtain ⟨h1, h2, h3, h4, h5⟩ := h
  have hx := cx_c hc
  refine ⟨?_, fun s hs => ?_, fun c' hc' => ?_, ?_, ?_⟩ <;> unfold u_tm
  · rw [un_n (by omega), un_n (by omega), un_n (by omega)]; exact h1
  · rw [un_n (by omega), un_n (by omega), un_n (by omega)]; exact h2 s hs
  · have hx' := cx_c hc'
    by_cases e : cx c' = cx c
    · rw [e, un_s]; omega
    · rw [un_n e, un_n (by omega), un_n (by omega)]; exact h3 c' hc'
  · rw [un_n (by omega), un_n (by omega), un_n (by omega)]; exact h4
  · rw [un_n (by omega), un_n (by omega), un_n (by omega)]; exact h5
theorem kX5_addTerm {c k v : Nat} (hE : ExR r b n S0 S) (hD : DrX S r u) (hc : c ≤ 24) : Cv (d + 1) mX5_addTerm [vR 5 r, vI (nI c), vI (nI k), vI (nI v)] S (fun S' => S'.1 4 0 = S.1 4 0 ∧ ExR r b n S0 S' ∧ DrX S' r (if u (cx c) < 3 then u_tm u c (u (cx c)) k v else u)) := by
  have hr := hE.2.2.2
  obtain ⟨⟨a1, a2, a3⟩, a4, a5, a6, a7, aB⟩ := hD
  have h3 := aB.2.2.1 c hc
  have hx := cx_c hc
  refine cxX5_addTerm ?_
  refine bkX5_addTerm_0 hr (kX5_termCount hr hc) ?_
  rintro _ S ⟨rfl, rfl⟩
  refine bkX5_addTerm_5 (fun h => absurd h (nI_pos (by omega))) (fun _ => ?_)
  refine bkX5_addTerm_11 (fun h => absurd h (nI_nlt (a := 24) (b := c) (by omega) (by omega))) (fun _ => ?_)
  rw [a6 c hc]
  refine bkX5_addTerm_17 (fun h => ?_) (fun h => ?_) <;> rw [show (3 : Int32) = nI 3 from rfl, nI_leI (by omega) (by omega)] at h
  · rw [if_neg (by omega)]
    exact bkX5_addTerm_57 ⟨rfl, rfl, hE, ⟨a1, a2, a3⟩, a4, a5, a6, a7, aB⟩
  · rw [if_pos (by omega)]
    have em : (nI c * 3 + nI (u (cx c))).toNatClampNeg = 3 * c + u (cx c) := by rw [m3, nI_clamp (by omega)]
    have ec : (nI c).toNatClampNeg = c := nI_clamp (by omega)
    refine bkX5_addTerm_23 hr (by rw [m3]; exact vp_lt (by omega) (by omega)) (vp_lt (by omega) (by omega)) (bkX5_addTerm_57 ⟨rfl, rfl, ExR_r (ExR_r (ExR_r hE (by omega)) (by omega)) (by omega), ?_⟩)
    generalize hq : u (cx c) = q at *
    refine ⟨⟨?_, ?_, ?_⟩, fun s hs => ?_, fun c' hc' => ?_, fun c' hc' => ?_, fun i hi => ?_, Bd_tm aB hc (by omega)⟩ <;> unfold u_tm
    · rw [un_n (by omega), un_n (by omega), un_n (by omega)]; exact a1
    · rw [un_n (by omega), un_n (by omega), un_n (by omega)]; exact a2
    · rw [un_n (by omega), un_n (by omega), un_n (by omega)]; exact a3
    · rw [un_n (by omega), un_n (by omega), un_n (by omega)]; exact a4 s hs
    · rw [un_n (by omega), un_n (by omega), un_n (by omega), un_n (by omega), un_n (by omega), un_n (by omega)]; exact a5 c' hc'
    · have hx' := cx_c hc'
      simp only [rd_, and_self, if_true, ec, nI_1]
      by_cases e : c' = c
      · subst e; rw [pk_us, un_s]
      · rw [pk_un e, un_n (by omega), un_n (by omega), un_n (by omega)]
        simp only [Nat.reduceEqDiff, false_and, if_false]
        exact a6 c' hc'
    · simp only [rd_, and_self, if_true, em, Nat.reduceEqDiff, false_and, if_false]
      by_cases e : i = 3 * c + q
      · subst e
        rw [pk_us, pk_us, un_n (by omega), un_n (by omega), un_s, un_n (by omega), un_s]; exact ⟨rfl, rfl⟩
      · rw [pk_un e, pk_un e, un_n (by omega), un_n (by omega), un_n (by omega), un_n (by omega), un_n (by omega), un_n (by omega)]; exact a7 i hi
end RE
