/-! ===== the reference's reader: numbers, conditions, branches ===== -/
def fM (S0 S : hs_T) : Prop := S.2 = S0.2 ∧ ∀ k j f, ¬ (k = 11 ∧ 9 ≤ f ∧ f ≤ 14) → k ≠ 1201 → S.1 k j f = S0.1 k j f
theorem fM_rf (S : hs_T) : fM S S := ⟨rfl, fun _ _ _ _ _ => rfl⟩
theorem fM_tr {S S' S'' : hs_T} (h : fM S S') (h2 : fM S' S'') : fM S S'' := ⟨h2.1.trans h.1, fun k j f a c => (h2.2 k j f a c).trans (h.2 k j f a c)⟩
theorem fK_fM {S S' : hs_T} (h : fK S S') : fM S S' := ⟨h.1, fun k j f a _ => h.2 k j f a⟩
theorem fM_w {S0 S : hs_T} {g : Nat → Int32} (h : fM S0 S) : fM S0 (sk_ S 1201 0 g) := ⟨h.1, fun k j f a c => by rw [sk_ne _ _ (fun hh => c hh.1)]; exact h.2 k j f a c⟩
def DrM (S : hs_T) (p : Nat → Nat) : Prop := ∀ k, k < 234 → S.1 1201 0 k = nI (p k)
theorem DrM_fK {S S' : hs_T} {p : Nat → Nat} (h : fK S S') (hD : DrM S p) : DrM S' p := fun k hk => by rw [h.2 1201 0 k (by omega)]; exact hD k hk
theorem DrM_w {S : hs_T} {p : Nat → Nat} {k v : Nat} (hD : DrM S p) : DrM (sk_ S 1201 0 (upd (S.1 1201 0) k (nI v))) (un_ p k v) := fun i hi => by
  rw [sk_at]
  by_cases e : i = k
  · subst e; rw [pk_us, un_s]
  · rw [pk_un e, un_n e]; exact hD i hi
def GM (b : Nat → Nat) (n : Nat) (S0 S : hs_T) (a : Nat) (p : Nat → Nat) : Prop := fM S0 S ∧ TpM S n b ∧ RdM S b n a ∧ DrM S p
def BM (b : Nat → Nat) (n : Nat) (S0 S : hs_T) (e : er_T) : Prop := fM S0 S ∧ FM S b n e
theorem so_le (c : Nat) : so c ≤ 5 := by unfold so; repeat' split
                                         all_goals omega
theorem so_2 (c : Nat) : so c = 2 ↔ c = 2 := by unfold so; repeat' split
                                                all_goals omega
theorem so_3 (c : Nat) : so c = 3 ↔ c = 59 := by unfold so; repeat' split
                                                 all_goals omega
theorem so_4 (c : Nat) : so c = 4 ↔ c = 124 := by unfold so; repeat' split
                                                  all_goals omega
theorem so_5 (c : Nat) : so c = 5 ↔ c = 38 := by unfold so; repeat' split
                                                 all_goals omega
theorem so_0 (c : Nat) : so c = 0 ↔ c = 0 := by unfold so; repeat' split
                                                all_goals omega
theorem so_1 (c : Nat) : so c = 1 ↔ c ≠ 0 ∧ c ≠ 2 ∧ c ≠ 59 ∧ c ≠ 124 ∧ c ≠ 38 := by unfold so; repeat' split
                                                                                    all_goals omega
section MR
variable {d n a : Nat} {S S0 : hs_T} {b p : Nat → Nat} {e : er_T}
theorem srt {w : Nat} (h : RdM S b n a) (hw : w < 2 ^ 31) : S.1 11 0 11 = nI w ↔ so (t_co b n a) = w := by
  have := so_le (t_co b n a)
  rw [h.2.2.1, nI_eq (by omega) hw]
/-- a NAME -/
theorem nam_of (h : RdM S b n a) (h1 : so (t_co b n a) = 1) : t_po b n a < n ∧ t_co b n a = t_nm b (t_po b n a) (t_pz b n a) := by
  have hc := (so_1 _).mp h1
  have hlt := t_co_lt hc.1
  refine ⟨hlt, ?_⟩
  have h6 := h.2.2.2.2.2
  unfold t_pz
  rw [if_pos hlt]
  unfold t_co at hc h6 ⊢
  rw [if_pos hlt] at hc h6 ⊢
  unfold t_tk at hc h6 ⊢
  by_cases c1 : inC 97 122 (b (t_po b n a)) = true
  · rw [if_pos c1]
  · rw [if_neg c1] at hc h6
    by_cases c2 : inC 48 57 (b (t_po b n a)) = true
    · rw [if_pos c2] at hc h6
      by_cases c3 : t_bt b n (t_po b n a) - t_po b n a ≤ 3
      · rw [if_pos c3] at hc; exact absurd rfl hc.2.1
      · rw [if_neg c3] at h6; exact absurd rfl h6
    · rw [if_neg c2] at hc h6
      by_cases c3 : b (t_po b n a) = 59 ∨ b (t_po b n a) = 124 ∨ b (t_po b n a) = 38
      · rw [if_pos c3] at hc; omega
      · rw [if_neg c3] at h6; exact absurd rfl h6
theorem pz_ge (b : Nat → Nat) (n a : Nat) : t_po b n a ≤ t_pz b n a := by
  unfold t_pz
  split
  · rename_i h; exact Nat.le_of_lt (t_bt_le b h).1
  · exact t_po_le b n a
theorem kM_termG (h : GM b n S0 S a p) (h1 : so (t_co b n a) = 1) : Ci (d + 2) mX11_termNow [vR 11 0] S (fun v S' => v = (if 20 ≤ t_co b n a ∧ t_co b n a ≤ 26 then nI (t_co b n a - 20) else -4) ∧ S' = S) := by
  rw [(nam_of h.2.2.1 h1).2]
  exact kM_termNow h.2.1 ⟨h.2.2.1.1, h.2.2.1.2.1⟩ (pz_ge b n a) (t_pz_le b n a)
theorem kM_lineG (h : GM b n S0 S a p) (h1 : so (t_co b n a) = 1) : Ci (d + 2) mX11_lineNow [vR 11 0] S (fun v S' => v = (if 4 ≤ t_co b n a ∧ t_co b n a ≤ 7 then nI (t_co b n a + 16) else -4) ∧ S' = S) := by
  rw [(nam_of h.2.2.1 h1).2]
  exact kM_lineNow h.2.1 ⟨h.2.2.1.1, h.2.2.1.2.1⟩ (pz_ge b n a) (t_pz_le b n a)
theorem kM_wordG (h : GM b n S0 S a p) (h1 : so (t_co b n a) = 1) : Ci (d + 2) mX11_wordNow [vR 11 0] S (fun v S' => v = (if 8 ≤ t_co b n a ∧ t_co b n a ≤ 10 then nI (t_co b n a + 22) else -4) ∧ S' = S) := by
  rw [(nam_of h.2.2.1 h1).2]
  exact kM_wordNow h.2.1 ⟨h.2.2.1.1, h.2.2.1.2.1⟩ (pz_ge b n a) (t_pz_le b n a)
theorem kM_tokenG (h : GM b n S0 S a p) : Cv (d + 1) mX11_token [vR 11 0] S (fun S' => oc (p_nx (t_co b n) a) (BM b n S0 S') (fun a' => GM b n S0 S' a' p)) := by
  refine (kM_token h.2.1 h.2.2.1).imp ?_
  rintro S' ⟨hF, h'⟩
  cases hx : p_nx (t_co b n) a with
  | inl e => rw [hx] at h'; exact ⟨fM_tr h.1 (fK_fM hF), h'⟩
  | inr a' => rw [hx] at h'; exact ⟨fM_tr h.1 (fK_fM hF), TpM_fK hF h.2.1, h', DrM_fK hF h.2.2.2⟩
theorem kM_tokenW (h : BM b n S0 S e) : Cv d mX11_token [vR 11 0] S (fun S' => BM b n S0 S' e) := by
  refine (kM_tokenB h.2).imp ?_
  rintro S' rfl
  exact h
theorem kM_needsG {c : Nat} (h : GM b n S0 S a p) (hc : 1 ≤ c ∧ c ≤ 6) {x : Int32} (hx : x = nI c) : Cv d mX11_needs [vR 11 0, vI 0, vI x] S (fun S' => BM b n S0 S' (c, a)) := by
  refine (kM_needsF h.2.2.1 hc hx).imp ?_
  rintro S' ⟨h1, h2⟩
  exact ⟨fM_tr h.1 (fK_fM h2), h1⟩
theorem kM_needsW {x y : Int32} (h : BM b n S0 S e) : Cv d mX11_needs [vR 11 0, vI x, vI y] S (fun S' => BM b n S0 S' e) := by
  refine (kM_needsB h.2).imp ?_
  rintro S' rfl
  exact h
theorem f13 (h : BM b n S0 S e) : ¬ S.1 11 0 13 = 0 := by
  obtain ⟨_, h1, h2, h3, h4⟩ := h
  rw [h1]; exact nI_ne0 (by omega) (by omega)
theorem f13l (h : BM b n S0 S e) : ¬ S.1 11 0 13 ≤ 0 := by
  obtain ⟨_, h1, h2, h3, h4⟩ := h
  rw [h1]; exact nl_ (a := 0) (by omega) (by omega)
theorem g13 (h : GM b n S0 S a p) : S.1 11 0 13 = 0 := h.2.2.1.2.2.2.2.1
theorem BM_w {g : Nat → Int32} (h : BM b n S0 S e) : BM b n S0 (sk_ S 1201 0 g) e := ⟨fM_w h.1, h.2⟩
theorem GM_w {k v : Nat} (h : GM b n S0 S a p) : GM b n S0 (sk_ S 1201 0 (upd (S.1 1201 0) k (nI v))) a (un_ p k v) := ⟨fM_w h.1, h.2.1, h.2.2.1, DrM_w h.2.2.2⟩
theorem kM_readNumberW {x y : Int32} (h : BM b n S0 S e) : Ci (d + 1) mX11_readNumber [vR 11 0, vI x, vI y] S (fun _ S' => BM b n S0 S' e) := by
  refine cxX11_readNumber ?_
  refine bkX11_readNumber_0 (fun _ => ?_) (fun hh => absurd hh (f13 h))
  refine bkX11_readNumber_25 (fun _ => ?_) (fun hh => absurd hh (f13 h))
  refine bkX11_readNumber_49 (kM_tokenW h) ?_
  intro S' h'
  exact bkX11_readNumber_58 ⟨_, rfl, h'⟩
theorem kM_readNumber {lo hi : Nat} (h : GM b n S0 S a p) (hlo : lo < 2 ^ 31) (hhi : hi < 2 ^ 31) {x y : Int32} (hx : x = nI lo) (hy : y = nI hi) : Ci (d + 2) mX11_readNumber [vR 11 0, vI x, vI y] S (fun v S' => oc (p_nm (t_co b n) (t_vl b n) lo hi a) (BM b n S0 S') (fun a' => v = nI (t_vl b n a) ∧ GM b n S0 S' a' p)) := by
  subst hx hy
  have hv := t_vl_le b n a
  refine cxX11_readNumber ?_
  unfold p_nm
  have bad : ∀ {e : er_T} (S1 : hs_T), BM b n S0 S1 e → Ev (d + 2) mX11_readNumber 49 [some (vR 11 0), some (vI (nI lo)), some (vI (nI hi)), none] [] S1 (fun r S' => ∃ v, r = some (vI v) ∧ BM b n S0 S' e) := by
    intro e S1 h1
    refine bkX11_readNumber_49 (kM_tokenW h1) ?_
    intro S' h'
    exact bkX11_readNumber_58 ⟨_, rfl, h'⟩
  refine bkX11_readNumber_0 (fun hh => absurd (g13 h) hh) (fun _ => ?_)
  refine bkX11_readNumber_7 (fun hh => ?_) (fun hh => ?_) <;> rw [show (2 : Int32) = nI 2 from rfl, srt h.2.2.1 (by omega), so_2] at hh
  · rw [if_neg hh]
    refine bkX11_readNumber_20 (bkX11_readNumber_21 (kM_needsG h (by omega) (c := 2) rfl) ?_)
    intro S1 h1
    exact bkX11_readNumber_25 (fun _ => bad S1 h1) (fun hh => absurd hh (f13 h1))
  · rw [if_pos hh]
    refine bkX11_readNumber_16 (bkX11_readNumber_21 kM_needsT ?_)
    rintro S rfl
    refine bkX11_readNumber_25 (fun hh => absurd (g13 h) hh) (fun _ => ?_)
    refine bkX11_readNumber_32 (kM_inI (lo := (lo : Int)) (hi := (hi : Int)) (by rw [Int32.toInt_toInt64]; exact nI_toInt hlo) (by rw [Int32.toInt_toInt64]; exact nI_toInt hhi)) ?_
    rintro _ S ⟨rfl, rfl⟩
    have e12 : S.1 11 0 12 = nI (t_vl b n a) := h.2.2.1.2.2.2.1 hh
    rw [e12, inR_nI (by omega)]
    by_cases hr : lo ≤ t_vl b n a ∧ t_vl b n a ≤ hi
    · rw [if_pos hr, decide_eq_true ⟨by omega, by omega⟩]
      refine bkX11_readNumber_45 kM_needsT ?_
      rintro S rfl
      refine bkX11_readNumber_49 (kM_tokenG h) ?_
      intro S' h'
      refine bkX11_readNumber_58 ⟨_, rfl, ?_⟩
      cases hx : p_nx (t_co b n) a with
      | inl e => rw [hx] at h'; exact h'
      | inr a' => rw [hx] at h'; exact ⟨e12, h'⟩
    · rw [if_neg hr, decide_eq_false (by omega)]
      refine bkX11_readNumber_45 (kM_needsG h (by omega) (c := 3) rfl) ?_
      intro S1 h1
      exact bad S1 h1
/-! conditions -/
def PM (c q : Nat) (l : List tm_T) (p p' : Nat → Nat) : Prop := (∀ i, i < l.length → p' (72 + (3 * c + (q + i))) = (lg l i).1 ∧ p' (147 + (3 * c + (q + i))) = (lg l i).2) ∧ ∀ k, ¬ (72 + 3 * c + q ≤ k ∧ k < 72 + 3 * c + 3) → ¬ (147 + 3 * c + q ≤ k ∧ k < 147 + 3 * c + 3) → p' k = p k
def p_w (p : Nat → Nat) (c q k v : Nat) : Nat → Nat := un_ (un_ p (72 + (3 * c + q)) k) (147 + (3 * c + q)) v
theorem PM_1 {c q k v : Nat} (hc : c ≤ 24) (hq : q < 3) : PM c q [(k, v)] p (p_w p c q k v) := by
  refine ⟨fun i hi => ?_, fun z z2 z3 => ?_⟩
  · have e : i = 0 := by simp at hi; omega
    subst e
    show p_w p c q k v (72 + (3 * c + q)) = _ ∧ p_w p c q k v (147 + (3 * c + q)) = _
    unfold p_w
    rw [un_n (by omega), un_s, un_s]
    exact ⟨rfl, rfl⟩
  · unfold p_w
    rw [un_n (by omega), un_n (by omega)]
theorem PM_c {c q k v : Nat} {l : List tm_T} {p' : Nat → Nat} (hc : c ≤ 24) (hq : q < 3) (h : PM c (q + 1) l (p_w p c q k v) p') : PM c q ((k, v) :: l) p p' := by
  obtain ⟨h2, h3⟩ := h
  refine ⟨fun i hi => ?_, fun z z2 z3 => ?_⟩
  · match i, hi with
    | 0, _ =>
      rw [Nat.add_zero, h3 _ (by omega) (by omega), h3 _ (by omega) (by omega)]
      unfold p_w
      rw [un_n (by omega), un_s, un_s]
      exact ⟨rfl, rfl⟩
    | i + 1, hi =>
      have := h2 i (by simp at hi; omega)
      rw [show q + (i + 1) = q + 1 + i by omega]
      exact this
  · rw [h3 z (by omega) (by omega)]
    unfold p_w
    rw [un_n (by omega), un_n (by omega)]
theorem p_cd_f (T V : Nat → Nat) (m a : Nat) : p_cd T V false (m + 1) a = eb (p_nx T a) (fun a1 => p_cd T V true (m + 1) a1) := by
  rw [p_cd_s]
  simp only [Bool.false_eq_true, if_false]
  congr 1
section TC
variable {x1 x2 x3 x4 x5 : Int32} {o4 o5 : Option av_T} {Q : Option av_T → hs_T → Prop}
theorem tM_rc4 (h : BM b n S0 S e) (hQ : ∀ S', BM b n S0 S' e → Q (some (vI x2)) S') : Ev (d + 3) mX11_readCond 4 [some (vR 11 0), some (vI x1), some (vI x2), some (vI x3), o4, o5] [] S Q :=
  bkX11_readCond_4 (fun _ => bkX11_readCond_184 (hQ S h)) (fun hh => absurd hh (f13 h))
theorem tM_rc137 (h : BM b n S0 S e) (hQ : ∀ S', BM b n S0 S' e → Q (some (vI x2)) S') : Ev (d + 3) mX11_readCond 137 [some (vR 11 0), some (vI x1), some (vI x2), some (vI x3), some (vI x4), some (vI x5)] [] S Q :=
  bkX11_readCond_137 (fun _ => bkX11_readCond_156 (bkX11_readCond_157 (fun _ => bkX11_readCond_181 (tM_rc4 h hQ)) (fun hh => absurd rfl hh))) (fun hh => absurd hh (f13 h))
theorem tM_rc95 {y0 y1 : Int32} (h : BM b n S0 S e) (hQ : ∀ S', BM b n S0 S' e → Q (some (vI x2)) S') : Ev (d + 3) mX11_readCond 95 [some (vR 11 0), some (vI x1), some (vI x2), some (vI x3), some (vI x4), o5] [vI y0, vI y1, vR 11 0] S Q := by
  refine bkX11_readCond_95 (kM_readNumberW h) ?_
  intro v S' h'
  exact bkX11_readCond_98 (fun _ => tM_rc137 h' hQ) (fun hh => absurd hh (f13 h'))
theorem tM_rc55 (h : BM b n S0 S e) (hQ : ∀ S', BM b n S0 S' e → Q (some (vI x2)) S') : Ev (d + 3) mX11_readCond 55 [some (vR 11 0), some (vI x1), some (vI x2), some (vI x3), some (vI x4), o5] [] S Q := by
  have go : ∀ y : Int32, Ev (d + 3) mX11_readCond 68 [some (vR 11 0), some (vI x1), some (vI x2), some (vI x3), some (vI x4), o5] [vI y, vR 11 0] S Q := fun y =>
    bkX11_readCond_68 (fun _ => bkX11_readCond_79 (fun _ => bkX11_readCond_92 (tM_rc95 h hQ)) (fun _ => bkX11_readCond_86 (tM_rc95 h hQ))) (fun _ => bkX11_readCond_74 (tM_rc95 h hQ))
  exact bkX11_readCond_55 (fun _ => bkX11_readCond_67 (go _)) (fun _ => bkX11_readCond_63 (go _))
theorem tM_rc51 (h : BM b n S0 S e) (hQ : ∀ S', BM b n S0 S' e → Q (some (vI x2)) S') : Ev (d + 3) mX11_readCond 51 [some (vR 11 0), some (vI x1), some (vI x2), some (vI x3), some (vI x4), o5] [] S Q := by
  refine bkX11_readCond_51 (kM_tokenW h) ?_
  intro S' h'
  exact tM_rc55 h' hQ
end TC
/-- what a condition ends in -/
def oMc (b : Nat → Nat) (n : Nat) (S0 : hs_T) (c q : Nat) (p : Nat → Nat) (res : er_T ⊕ (Nat × List tm_T)) (v : Int32) (S : hs_T) : Prop := oc res (BM b n S0 S) (fun z => v = nI (q + z.2.length) ∧ ∃ p', GM b n S0 S z.1 p' ∧ PM c q z.2 p p')
theorem sM_readCond {c m q : Nat} {o4 o5 : Option av_T} (hc : c ≤ 24) (hq : q < 3) (h : GM b n S0 S a p)
    (hnx : ∀ (S1 : hs_T) (a3 : Nat) (p1 : Nat → Nat) (x4 x5 : Int32), GM b n S0 S1 a3 p1 → t_co b n a3 = 38 → Ev (d + 3) mX11_readCond 162 [some (vR 11 0), some (vI (nI (3 * c))), some (vI (nI (q + 1))), some (vI 1), some (vI x4), some (vI x5)] [] S1 (fun r S' => ∃ v, r = some (vI v) ∧ oMc b n S0 c (q + 1) p1 (p_cd (t_co b n) (t_vl b n) false m a3) v S')) :
    Ev (d + 3) mX11_readCond 4 [some (vR 11 0), some (vI (nI (3 * c))), some (vI (nI q)), some (vI 1), o4, o5] [] S (fun r S' => ∃ v, r = some (vI v) ∧ oMc b n S0 c q p (p_cd (t_co b n) (t_vl b n) true (m + 1) a) v S') := by
  rw [p_cd_s, if_pos rfl, eb_r]
  refine bkX11_readCond_4 (fun hh => absurd (g13 h) hh) (fun _ => ?_)
  refine bkX11_readCond_11 (fun hh => absurd hh (by decide)) (fun _ => ?_)
  have no : ¬ (20 ≤ t_co b n a ∧ t_co b n a ≤ 26) → Ev (d + 3) mX11_readCond 32 [some (vR 11 0), some (vI (nI (3 * c))), some (vI (nI q)), some (vI 1), o4, o5] [vI (-4)] S (fun r S' => ∃ v, r = some (vI v) ∧ oMc b n S0 c q p (if 20 ≤ t_co b n a ∧ t_co b n a ≤ 26 then eb (p_nx (t_co b n) a) (fun a2 => eb (p_nm (t_co b n) (t_vl b n) (tlo (t_co b n a - 20)) (thi (t_co b n a - 20)) a2) (fun a3 =>
        if t_co b n a3 = 38 then eb (p_cd (t_co b n) (t_vl b n) false m a3) (fun q => .inr (q.1, (t_co b n a - 20, t_vl b n a2) :: q.2)) else .inr (a3, [(t_co b n a - 20, t_vl b n a2)])))
      else .inl (2, a)) v S') := by
    intro hn
    rw [if_neg hn]
    refine bkX11_readCond_32 (fun _ => bkX11_readCond_46 (bkX11_readCond_47 (kM_needsG h (by omega) (c := 2) rfl) ?_)) (fun hh => absurd rfl hh)
    intro S1 h1
    exact tM_rc51 h1 (fun S' h' => ⟨_, rfl, h'⟩)
  refine bkX11_readCond_15 (fun hh => ?_) (fun hh => ?_) <;> rw [show (1 : Int32) = nI 1 from rfl, srt h.2.2.1 (by omega)] at hh
  · refine bkX11_readCond_30 (no (fun hr => hh ?_))
    rw [so_1]; omega
  · refine bkX11_readCond_23 (kM_termG h hh) ?_
    rintro _ S ⟨rfl, rfl⟩
    refine bkX11_readCond_27 ?_
    by_cases hr : 20 ≤ t_co b n a ∧ t_co b n a ≤ 26
    · rw [if_pos hr, if_pos hr]
      generalize hk : t_co b n a - 20 = k at *
      have hk6 : k ≤ 6 := by omega
      have hlo : tlo k < 2 ^ 31 := by unfold tlo; split <;> omega
      have hhi : thi k < 2 ^ 31 := by unfold thi; repeat' split
                                      all_goals omega
      refine bkX11_readCond_32 (fun h4 => ?_) (fun _ => bkX11_readCond_42 (bkX11_readCond_47 kM_needsT ?_))
      · exact absurd h4 (fun z => absurd (by rw [z]; decide : nI k < 0) (nI_pos (by omega)))
      rintro S rfl
      refine bkX11_readCond_51 (kM_tokenG h) ?_
      intro S1 h1
      cases hx : p_nx (t_co b n) a with
      | inl e =>
        rw [hx] at h1
        rw [eb_l]
        exact tM_rc55 h1 (fun S' h' => ⟨_, rfl, h'⟩)
      | inr a2 =>
        rw [hx] at h1
        have h1 : GM b n S0 S1 a2 p := h1
        rw [eb_r]
        have g95 : ∀ x y : Int32, x = nI (tlo k) → y = nI (thi k) → Ev (d + 3) mX11_readCond 95 [some (vR 11 0), some (vI (nI (3 * c))), some (vI (nI q)), some (vI 1), some (vI (nI k)), o5] [vI y, vI x, vR 11 0] S1 (fun r S' => ∃ v, r = some (vI v) ∧ oMc b n S0 c q p (eb (p_nm (t_co b n) (t_vl b n) (tlo k) (thi k) a2) (fun a3 =>
            if t_co b n a3 = 38 then eb (p_cd (t_co b n) (t_vl b n) false m a3) (fun q => .inr (q.1, (k, t_vl b n a2) :: q.2)) else .inr (a3, [(k, t_vl b n a2)]))) v S') := by
          intro x y hx hy
          refine bkX11_readCond_95 (kM_readNumber h1 hlo hhi hx hy) ?_
          intro v S2 h2
          cases hx2 : p_nm (t_co b n) (t_vl b n) (tlo k) (thi k) a2 with
          | inl e =>
            rw [hx2] at h2
            have h2 : BM b n S0 S2 e := h2
            rw [eb_l]
            exact bkX11_readCond_98 (fun _ => tM_rc137 h2 (fun S' h' => ⟨_, rfl, h'⟩)) (fun hh => absurd hh (f13 h2))
          | inr a3 =>
            rw [hx2] at h2
            obtain ⟨rfl, h2⟩ := h2
            have h2 : GM b n S0 S2 a3 p := h2
            rw [eb_r]
            have i1 : 72 + nI (3 * c) + nI q = nI (72 + (3 * c + q)) := by rw [show (72 : Int32) = nI 72 from rfl, nI_add, nI_add, Nat.add_assoc]
            have i2 : 147 + nI (3 * c) + nI q = nI (147 + (3 * c + q)) := by rw [show (147 : Int32) = nI 147 from rfl, nI_add, nI_add, Nat.add_assoc]
            refine bkX11_readCond_98 (fun hh => absurd (g13 h2) hh) (fun _ => ?_)
            refine bkX11_readCond_107 (by rw [i1]; exact vp_lt (by omega) (by omega)) (by rw [i2]; exact vp_lt (by omega) (by omega)) ?_
            rw [i1, i2, nI_clamp (by omega), nI_clamp (by omega), nI_1]
            have h3 := GM_w (k := 147 + (3 * c + q)) (v := t_vl b n a2) (GM_w (k := 72 + (3 * c + q)) (v := k) h2)
            generalize sk_ (sk_ S2 1201 0 _) 1201 0 _ = S3 at h3 ⊢
            have h3 : GM b n S0 S3 a3 (p_w p c q k (t_vl b n a2)) := h3
            refine bkX11_readCond_137 (fun hh => absurd (g13 h3) hh) (fun _ => ?_)
            refine bkX11_readCond_144 (fun hh => ?_) (fun hh => ?_) <;> rw [show (5 : Int32) = nI 5 from rfl, srt h3.2.2.1 (by omega), so_5] at hh
            · rw [if_neg hh]
              refine bkX11_readCond_156 (bkX11_readCond_157 (fun _ => bkX11_readCond_181 ?_) (fun hh => absurd rfl hh))
              refine bkX11_readCond_4 (fun hh => absurd (g13 h3) hh) (fun _ => ?_)
              exact bkX11_readCond_11 (fun _ => bkX11_readCond_184 ⟨_, rfl, rfl, _, h3, PM_1 hc hq⟩) (fun hh => absurd rfl hh)
            · rw [if_pos hh]
              refine bkX11_readCond_152 (bkX11_readCond_157 (fun h0 => absurd h0 (by decide)) (fun _ => ?_))
              refine (hnx S3 a3 _ _ _ h3 hh).imp ?_
              rintro r S' ⟨v, rfl, h'⟩
              refine ⟨v, rfl, ?_⟩
              cases hx3 : p_cd (t_co b n) (t_vl b n) false m a3 with
              | inl e => rw [hx3] at h'; exact h'
              | inr z =>
                rw [hx3] at h'
                obtain ⟨g1, p', g2, g3⟩ := h'
                exact ⟨by rw [g1]; simp; congr 1; omega, p', g2, PM_c hc hq g3⟩
        have g68 : ∀ x : Int32, x = nI (tlo k) → Ev (d + 3) mX11_readCond 68 [some (vR 11 0), some (vI (nI (3 * c))), some (vI (nI q)), some (vI 1), some (vI (nI k)), o5] [vI x, vR 11 0] S1 (fun r S' => ∃ v, r = some (vI v) ∧ oMc b n S0 c q p (eb (p_nm (t_co b n) (t_vl b n) (tlo k) (thi k) a2) (fun a3 =>
            if t_co b n a3 = 38 then eb (p_cd (t_co b n) (t_vl b n) false m a3) (fun q => .inr (q.1, (k, t_vl b n a2) :: q.2)) else .inr (a3, [(k, t_vl b n a2)]))) v S') := by
          intro x hx
          refine bkX11_readCond_68 (fun h4 => ?_) (fun h4 => ?_) <;> rw [show (4 : Int32) = nI 4 from rfl, nI_leI (by omega) (by omega)] at h4
          · refine bkX11_readCond_79 (fun h6 => bkX11_readCond_92 (g95 _ _ hx ?_)) (fun h6 => bkX11_readCond_86 (g95 _ _ hx ?_)) <;> rw [show (6 : Int32) = nI 6 from rfl, nI_eq (by omega) (by omega)] at h6
            · rw [thi, if_neg (by omega), if_neg h6]; rfl
            · rw [thi, if_neg (by omega), if_pos h6]; rfl
          · exact bkX11_readCond_74 (g95 _ _ hx (by rw [thi, if_pos (by omega)]; rfl))
        refine bkX11_readCond_55 (fun h6 => bkX11_readCond_67 (g68 _ ?_)) (fun h6 => bkX11_readCond_63 (g68 _ ?_)) <;> rw [show (6 : Int32) = nI 6 from rfl, nI_eq (by omega) (by omega)] at h6
        · rw [tlo, if_neg h6]; rfl
        · rw [tlo, if_pos h6]; rfl
    · rw [if_neg hr]
      exact no hr
theorem lM_readCond {c : Nat} (hc : c ≤ 24) : ∀ (m q a : Nat) (S : hs_T) (p : Nat → Nat) (o4 o5 : Option av_T), q + (m + 1) = 3 → GM b n S0 S a p →
    Ev (d + 3) mX11_readCond 4 [some (vR 11 0), some (vI (nI (3 * c))), some (vI (nI q)), some (vI 1), o4, o5] [] S (fun r S' => ∃ v, r = some (vI v) ∧ oMc b n S0 c q p (p_cd (t_co b n) (t_vl b n) true (m + 1) a) v S') := by
  intro m
  induction m with
  | zero =>
    intro q a S p o4 o5 hq h
    refine sM_readCond hc (by omega) h (fun S1 a3 p1 x4 x5 h1 _ => ?_)
    rw [p_cd_0]
    refine bkX11_readCond_162 (fun _ => bkX11_readCond_172 (bkX11_readCond_173 (kM_needsG h1 (by omega) (c := 5) rfl) ?_)) (fun hh => absurd (nI_le (a := 3) (b := q + 1) (by omega) (by omega)) hh)
    intro S2 h2
    refine bkX11_readCond_177 (kM_tokenW h2) ?_
    intro S3 h3
    exact bkX11_readCond_181 (tM_rc4 h3 (fun S' h' => ⟨_, rfl, h'⟩))
  | succ m ih =>
    intro q a S p o4 o5 hq h
    refine sM_readCond hc (by omega) h (fun S1 a3 p1 x4 x5 h1 _ => ?_)
    rw [p_cd_f]
    refine bkX11_readCond_162 (fun hh => absurd hh (nl_ (b := 3) (by omega) (by omega))) (fun _ => bkX11_readCond_168 (bkX11_readCond_173 kM_needsT ?_))
    rintro S1 rfl
    refine bkX11_readCond_177 (kM_tokenG h1) ?_
    intro S2 h2
    cases hx : p_nx (t_co b n) a3 with
    | inl e =>
      rw [hx] at h2
      rw [eb_l]
      exact bkX11_readCond_181 (tM_rc4 h2 (fun S' h' => ⟨_, rfl, h'⟩))
    | inr a4 =>
      rw [hx] at h2
      rw [eb_r]
      exact bkX11_readCond_181 (ih (q + 1) a4 S2 p1 _ _ (by omega) h2)
theorem kM_readCond {c : Nat} (hc : c ≤ 24) (h : GM b n S0 S a p) {x : Int32} (hx : x = nI (3 * c)) : Ci (d + 3) mX11_readCond [vR 11 0, vI x] S (fun v S' => oMc b n S0 c 0 p (p_cd (t_co b n) (t_vl b n) true 3 a) v S') := by
  subst hx
  refine cxX11_readCond ?_
  exact bkX11_readCond_0 (lM_readCond hc 2 0 a S p _ _ (by omega) h)
theorem kM_readCondW {x : Int32} (h : BM b n S0 S e) : Ci (d + 3) mX11_readCond [vR 11 0, vI x] S (fun _ S' => BM b n S0 S' e) := by
  refine cxX11_readCond ?_
  exact bkX11_readCond_0 (tM_rc4 h (fun S' h' => ⟨_, rfl, h'⟩))
end MR
