/-! ===== serial, rate ===== -/
def st_ (l : Nat) : Nat := 9 * l + l / 2
def s_vb (h : Nat → Bool) : Nat → Int32
  | 0 => 0
  | k + 1 => s_vb h k ||| (bi_ (h k) <<< (nI k &&& 31))
theorem s_vb_s (h : Nat → Bool) (k : Nat) : s_vb h (k + 1) = s_vb h k ||| (bi_ (h k) <<< (nI k &&& 31)) := rfl
abbrev fr_T : Type := Nat × Nat × (Nat → Int32)
def fr_h (t : Nat → Nat) (w l i : Nat) (k : Nat) : Bool := t_hi t w (i + (k + 1) * l + l / 2)
def fr_st (t : Nat → Nat) (w l i : Nat) (q : fr_T) : fr_T := if t_hi t w (i + st_ l) = true then (q.1 + 1, q.2.1, upd q.2.2 (q.1 + q.2.1) (s_vb (fr_h t w l i) 8)) else (q.1, q.2.1 + 1, upd q.2.2 (q.1 + q.2.1) (-5))
def fr_bg (t : Nat → Nat) (w i : Nat) : Bool := if i = 0 then !t_hi t w 0 else t_dn t w i
def s_fr (n : Nat) (t : Nat → Nat) (w l : Nat) : Nat → Nat → fr_T → fr_T
  | 0, _, q => q
  | m + 1, i, q => if n ≤ i + st_ l then q else if fr_bg t w i = true then s_fr n t w l m (i + st_ l + 1) (fr_st t w l i q) else s_fr n t w l m (i + 1) q
theorem s_fr_s (n : Nat) (t : Nat → Nat) (w l m i : Nat) (q : fr_T) : s_fr n t w l (m + 1) i q = if n ≤ i + st_ l then q else if fr_bg t w i = true then s_fr n t w l m (i + st_ l + 1) (fr_st t w l i q) else s_fr n t w l m (i + 1) q := rfl
theorem s_fr_stop {n : Nat} {t : Nat → Nat} {w l m i : Nat} {q : fr_T} (h : n ≤ i + st_ l) : s_fr n t w l m i q = q := by
  cases m with
  | zero => rfl
  | succ m => rw [s_fr_s, if_pos h]
theorem s_fr_ok {n : Nat} {t : Nat → Nat} {w l : Nat} (hn : n ≤ 400) (hl : 2 ≤ l) : ∀ (m i : Nat) (q : fr_T), 20 * (q.1 + q.2.1) ≤ i → q.1 + q.2.1 ≤ 20 → (s_fr n t w l m i q).1 + (s_fr n t w l m i q).2.1 ≤ 20 := by
  intro m
  induction m with
  | zero => intro i q h1 h2; exact h2
  | succ m ih =>
    intro i q h1 h2
    rw [s_fr_s]
    have e : 19 ≤ st_ l := by unfold st_; omega
    split
    · exact h2
    · split
      · have hs : (fr_st t w l i q).1 + (fr_st t w l i q).2.1 = q.1 + q.2.1 + 1 := by
          unfold fr_st; split <;> simp only <;> omega
        refine ih _ _ ?_ ?_
        · rw [hs]; omega
        · rw [hs]; omega
      · exact ih _ _ (by omega) h2
def q0 : fr_T := (0, 0, fun _ => 0)
def s_F (n : Nat) (t : Nat → Nat) (w l : Nat) : fr_T := s_fr n t w l n 0 q0
theorem s_F_ok {n : Nat} {t : Nat → Nat} {w l : Nat} (hn : n ≤ 400) (hl : 2 ≤ l) : (s_F n t w l).1 + (s_F n t w l).2.1 ≤ 20 := s_fr_ok hn hl n 0 q0 (by decide) (by decide)
section SE
variable {d : Nat} {S : hs_T} {n w i l : Nat} {t : Nat → Nat}
theorem e_h2 (hl : l ≤ 50) : nI l / 2 = nI (l / 2) := by rw [show (2 : Int32) = nI 2 from rfl, pk_div (by omega) (by omega) (by omega)]
theorem e_st (hl : l ≤ 50) : nI i + 9 * nI l + nI (l / 2) = nI (i + st_ l) := by
  rw [show (9 : Int32) = nI 9 from rfl, pk_mul, nI_add, nI_add, Nat.add_assoc]; rfl
theorem e_k (k : Nat) : nI i + (nI k + 1) * nI l + nI (l / 2) = nI (i + (k + 1) * l + l / 2) := by
  rw [nI_1, pk_mul, nI_add, nI_add]
theorem k_le {k : Nat} (hk : k < 8) : (k + 1) * l ≤ 8 * l := Nat.mul_le_mul_right l (by omega)
def fq (S : hs_T) (q : fr_T) : Prop := f0 S (q.1 + q.2.1) q.1 q.2.1 0 0 q.2.2
theorem lX0_takeFrame {Q : Option av_T → hs_T → Prop} (hT : TrX S 0 n t) (hw : w < 8) (hl : l ≤ 50) (hi : i + st_ l < n)
    (hQ : Ev (d + 1) mX0_takeFrame 92 [some (vR 0 0), some (vR 8 0), some (vI (nI w)), some (vI (nI l)), some (vI (nI i)), some (vI (nI (l / 2))), some (vI (s_vb (fr_h t w l i) 8)), some (vI 8)] [] S Q) :
    ∀ (m k : Nat), k + m = 8 → Ev (d + 1) mX0_takeFrame 46 [some (vR 0 0), some (vR 8 0), some (vI (nI w)), some (vI (nI l)), some (vI (nI i)), some (vI (nI (l / 2))), some (vI (s_vb (fr_h t w l i) k)), some (vI (nI k))] [] S Q := by
  have h2 := hT.2.1
  intro m
  induction m with
  | zero =>
    intro k hk
    have e : k = 8 := by omega
    subst e
    exact bkX0_takeFrame_46 (fun _ => hQ) (fun h => absurd (by decide) h)
  | succ m ih =>
    intro k hk
    refine bkX0_takeFrame_46 (fun h => absurd h (nl_ (b := 8) (by omega) (by omega))) (fun _ => ?_)
    have kl := k_le (l := l) (show k < 8 by omega)
    refine bkX0_takeFrame_53 (by omega) (by rw [e_k]; exact kX8_high hT (by omega) hw (by unfold st_ at hi; omega)) ?_
    rintro _ S ⟨rfl, rfl⟩
    have key : Ev (d + 1) mX0_takeFrame 83 [some (vR 0 0), some (vR 8 0), some (vI (nI w)), some (vI (nI l)), some (vI (nI i)), some (vI (nI (l / 2))), some (vI (s_vb (fr_h t w l i) k)), some (vI (nI k))] [vI (bi_ (fr_h t w l i k) <<< (nI k &&& 31)), vI (s_vb (fr_h t w l i) k)] S Q := by
      refine bkX0_takeFrame_83 ?_
      rw [← s_vb_s, nI_1]
      exact ih (k + 1) (by omega)
    change Ev (d + 1) mX0_takeFrame 72 _ [vI (bi_ (fr_h t w l i k)), _] _ Q
    cases hp : fr_h t w l i k
    · rw [hp] at key
      have e0 : bi_ false <<< (nI k &&& 31) = 0 := by
        rcases (show k = 0 ∨ k = 1 ∨ k = 2 ∨ k = 3 ∨ k = 4 ∨ k = 5 ∨ k = 6 ∨ k = 7 by omega) with rfl | rfl | rfl | rfl | rfl | rfl | rfl | rfl <;> decide
      rw [e0] at key
      exact bkX0_takeFrame_72 (fun _ => bkX0_takeFrame_82 key) (fun h => absurd rfl h)
    · rw [hp] at key
      exact bkX0_takeFrame_72 (fun h => absurd h (by decide)) (fun _ => bkX0_takeFrame_75 key)
theorem kX0_takeFrame {q : fr_T} (hT : TrX S 0 n t) (hw : w < 8) (hl : l ≤ 50) (hi : i + st_ l < n) (hf : fq S q) (hs : q.1 + q.2.1 < 25) : Cv (d + 1) mX0_takeFrame [vR 0 0, vR 8 0, vI (nI w), vI (nI l), vI (nI i)] S (fun S' => Kp S S' ∧ fq S' (fr_st t w l i q)) := by
  obtain ⟨F, B, r⟩ := q
  have hf : f0 S (F + B) F B 0 0 r := hf
  have hs : F + B < 25 := hs
  refine cxX0_takeFrame ?_
  refine bkX0_takeFrame_0 (by omega) (by rw [e_h2 hl, e_st hl]; exact kX8_high hT (by omega) hw hi) ?_
  rintro _ S ⟨rfl, rfl⟩
  rw [e_h2 hl]
  unfold fr_st
  cases hg : t_hi t w (i + st_ l)
  · refine bkX0_takeFrame_20 (fun h => absurd rfl h) (fun _ => ?_)
    have hf1 : f0 (sk_ S 0 0 (upd (S.1 0 0) 3 (S.1 0 0 3 + 1))) (F + B) F (B + 1) 0 0 r := f0_3 hf (by rw [hf.2.2.1]; exact nI_1 B)
    refine bkX0_takeFrame_23 (kX0_add hf1 hs) ?_
    rintro S2 ⟨hk2, hf2⟩
    exact bkX0_takeFrame_39 ⟨rfl, Kp_tr (Kp_n (Kp_rf S) (fun f => ess_0 0 f)) hk2, hf2⟩
  · refine bkX0_takeFrame_20 (fun _ => ?_) (fun h => absurd h (by decide))
    refine bkX0_takeFrame_40 ?_
    refine lX0_takeFrame hT hw hl hi ?_ 8 0 (by omega)
    have hf1 : f0 (sk_ S 0 0 (upd (S.1 0 0) 2 (S.1 0 0 2 + 1))) (F + B) (F + 1) B 0 0 r := f0_2 hf (by rw [hf.2.1]; exact nI_1 F)
    refine bkX0_takeFrame_92 (kX0_add hf1 hs) ?_
    rintro S2 ⟨hk2, hf2⟩
    refine bkX0_takeFrame_108 ⟨rfl, Kp_tr (Kp_n (Kp_rf S) (fun f => ess_0 0 f)) hk2, ?_⟩
    show f0 S2 (F + 1 + B) (F + 1) B 0 0 _
    rw [show F + 1 + B = F + B + 1 by omega]
    exact hf2
theorem lX0_listen {S0 : hs_T} {Q : Option av_T → hs_T → Prop} (hT : TrX S0 0 n t) (hw : w < 8) (hl2 : 2 ≤ l) (hl : l ≤ 50)
    (hQ : ∀ S', Kp S0 S' → fq S' (s_F n t w l) → Q none S') :
    ∀ (m i : Nat) (q : fr_T) (S : hs_T), n ≤ i + m → i ≤ 400 → 20 * (q.1 + q.2.1) ≤ i → s_fr n t w l m i q = s_F n t w l → Kp S0 S → fq S q → Ev (d + 2) mX0_listen 17 [some (vR 0 0), some (vR 8 0), some (vI (nI w)), some (vI (nI l)), some (vI (nI (st_ l))), some (vI (nI i))] [] S Q := by
  have h2 := hT.2.1
  have hst : 19 ≤ st_ l ∧ st_ l ≤ 500 := by unfold st_; omega
  intro m
  induction m with
  | zero =>
    intro i q S hm hi hsz he hk hf
    have h1 := (TrX_Kp hk (by omega) hT).1
    refine bkX0_listen_17 (by omega) (fun _ => bkX0_listen_81 (hQ S hk ?_)) (fun h => absurd (by rw [h1, nI_add]; exact nI_le (by omega) (by omega)) h)
    rw [← he]; exact hf
  | succ m ih =>
    intro i q S hm hi hsz he hk hf
    have hT' := TrX_Kp hk (by omega) hT
    have h1 := hT'.1
    rw [s_fr_s] at he
    refine bkX0_listen_17 (by omega) (fun h => ?_) (fun h => ?_) <;> rw [h1, nI_add, nI_leI (by omega) (by omega)] at h
    · rw [if_pos h] at he
      exact bkX0_listen_81 (hQ S hk (by rw [← he]; exact hf))
    · rw [if_neg h] at he
      have skip : fr_bg t w i = false → Ev (d + 2) mX0_listen 75 [some (vR 0 0), some (vR 8 0), some (vI (nI w)), some (vI (nI l)), some (vI (nI (st_ l))), some (vI (nI i))] [] S Q := by
        intro hb
        rw [hb] at he
        refine bkX0_listen_75 ?_
        rw [nI_1]
        exact ih (i + 1) q S (by omega) (by omega) (by omega) he hk hf
      have take : fr_bg t w i = true → Ev (d + 2) mX0_listen 59 [some (vR 0 0), some (vR 8 0), some (vI (nI w)), some (vI (nI l)), some (vI (nI (st_ l))), some (vI (nI i))] [] S Q := by
        intro hb
        rw [if_pos hb] at he
        refine bkX0_listen_59 (kX0_takeFrame hT' hw hl (by omega) hf (by omega)) ?_
        rintro S2 ⟨hk2, hf2⟩
        refine bkX0_listen_68 (bkX0_listen_75 ?_)
        rw [nI_add, nI_1]
        have hs : (fr_st t w l i q).1 + (fr_st t w l i q).2.1 = q.1 + q.2.1 + 1 := by
          unfold fr_st; split <;> simp only <;> omega
        exact ih (i + st_ l + 1) _ S2 (by omega) (by omega) (by rw [hs]; omega) he (Kp_tr hk hk2) hf2
      refine bkX0_listen_29 (fun h0 => ?_) (fun h0 => ?_)
      · have hi0 : ¬ i = 0 := fun z => h0 (by rw [z]; rfl)
        have eb : fr_bg t w i = t_dn t w i := by unfold fr_bg; rw [if_neg hi0]
        refine bkX0_listen_46 (by omega) (kX8_falls hT' (by omega) hw (by omega)) ?_
        rintro _ S ⟨rfl, rfl⟩
        cases hp : t_dn t w i
        · exact bkX0_listen_53 (fun h => absurd rfl h) (fun _ => bkX0_listen_56 (skip (by rw [eb, hp])))
        · exact bkX0_listen_53 (fun _ => take (by rw [eb, hp])) (fun h => absurd h (by decide))
      · have hi0 : i = 0 := (nI_eq (b := 0) (by omega) (by omega)).mp h0
        have eb : fr_bg t w i = !t_hi t w 0 := by unfold fr_bg; rw [if_pos hi0]
        refine bkX0_listen_34 (by omega) (kX8_high (i := 0) hT' (by omega) hw (by omega)) ?_
        rintro _ S ⟨rfl, rfl⟩
        cases hp : t_hi t w 0
        · exact bkX0_listen_40 (fun _ => take (by rw [eb, hp]; rfl)) (fun h => absurd rfl h)
        · exact bkX0_listen_40 (fun h => absurd h (by decide)) (fun _ => bkX0_listen_43 (skip (by rw [eb, hp]; rfl)))
theorem kX0_listen (hT : TrX S 0 n t) (hw : w < 8) (hl2 : 2 ≤ l) (hl : l ≤ 50) : Cv (d + 2) mX0_listen [vR 0 0, vR 8 0, vI (nI w), vI (nI l)] S (fun S' => Kp S S' ∧ fq S' (s_F n t w l)) := by
  refine cxX0_listen ?_
  refine bkX0_listen_0 (kX0_clear (row := fun _ => 0)) ?_
  rintro S1 ⟨hk, hf⟩
  refine bkX0_listen_4 ?_
  rw [e_h2 hl]
  have e : 9 * nI l + nI (l / 2) = nI (st_ l) := by rw [show (9 : Int32) = nI 9 from rfl, pk_mul, nI_add]; rfl
  rw [e]
  exact lX0_listen (S0 := S) hT hw hl2 hl (fun S' h1 h2 => ⟨rfl, h1, h2⟩) n 0 q0 S1 (by omega) (by omega) (by decide) rfl hk hf
def sp_sw (z : Int32) (q : fr_T) : Int32 := if z = 0 then nI q.1 else if z = 1 then nI q.2.1 else if 10 ≤ z then fv (z - 10) q.2.2 (q.1 + q.2.1) else -1
def sp_serial (n : Nat) (t : Nat → Nat) (x y z : Int32) : Int32 := if inR x 0 7 && inR y 2 50 then sp_sw z (s_F n t x.toInt.toNat y.toInt.toNat) else -1
theorem kX10_serial {x y z : Int32} (hT : TrX S 0 n t) : Ci (d + 3) mX10_serial [vR 10 0, vI x, vI y, vI z] S (fun v S' => v = sp_serial n t x y z ∧ Kp S S') := by
  have h2 := hT.2.1
  refine cxX10_serial ?_
  refine bkX10_serial_0 kX10_isWire ?_
  rintro _ S ⟨rfl, rfl⟩
  cases hx : inR x 0 7
  · exact bkX10_serial_4 (fun _ => bkX10_serial_17 ⟨_, rfl, by simp [sp_serial, hx], Kp_rf _⟩) (fun h => absurd rfl h)
  refine bkX10_serial_4 (fun h => absurd h (by decide)) (fun _ => ?_)
  refine bkX10_serial_7 (kX10_w (lo := 2) (hi := 50) rfl rfl) ?_
  rintro _ S ⟨rfl, rfl⟩
  cases hy : inR y 2 50
  · exact bkX10_serial_14 (fun h => absurd rfl h) (fun _ => bkX10_serial_17 ⟨_, rfl, by simp [sp_serial, hy], Kp_rf _⟩)
  refine bkX10_serial_14 (fun _ => ?_) (fun h => absurd h (by decide))
  rw [sp_serial, hx, hy]
  obtain ⟨w, hw, rfl⟩ := inR_get hx
  obtain ⟨l, hl1, hl2, rfl⟩ := inR_get1 (by omega) hy
  rw [nI_tn (by omega), nI_tn (by omega)]
  simp only [Bool.and_self, if_true]
  refine bkX10_serial_19 (kX0_listen hT (by omega) (by omega) (by omega)) ?_
  rintro S' ⟨hk, hf⟩
  have h20 := s_F_ok (n := n) (t := t) (w := w) (l := l) h2 (by omega)
  generalize s_F n t w l = q at *
  have hf : f0 S' (q.1 + q.2.1) q.1 q.2.1 0 0 q.2.2 := hf
  unfold sp_sw
  refine bkX10_serial_32 (fun a => ?_) (fun a => ?_) (fun a0 a1 => ?_)
  · exact bkX10_serial_60 ⟨_, rfl, by rw [hf.2.1, if_pos a], hk⟩
  · exact bkX10_serial_68 ⟨_, rfl, by rw [hf.2.2.1, if_neg (by rw [a]; decide), if_pos a], hk⟩
  · rw [if_neg a0, if_neg a1]
    refine bkX10_serial_76 (fun a3 => ?_) (fun a3 => bkX10_serial_82 (bkX10_serial_97 ⟨_, rfl, by rw [if_neg a3], hk⟩))
    refine bkX10_serial_86 (kX0_value hf (by omega)) ?_
    rintro _ S ⟨rfl, rfl⟩
    exact bkX10_serial_97 ⟨_, rfl, by rw [if_pos a3], hk⟩
/-! rate -/
abbrev rt_T : Type := Nat × Nat × Nat
def rt_st (l : Nat) (r : fr_T) (q : rt_T) : rt_T := if q.1 = 0 ∨ q.2.1 < r.1 ∨ (r.1 = q.2.1 ∧ r.2.1 < q.2.2) then (l, r.1, r.2.1) else q
def s_rt (n : Nat) (t : Nat → Nat) (w : Nat) : Nat → Nat → rt_T → rt_T
  | 0, _, q => q
  | m + 1, l, q => s_rt n t w m (l + 1) (rt_st l (s_F n t w l) q)
theorem s_rt_s (n : Nat) (t : Nat → Nat) (w m l : Nat) (q : rt_T) : s_rt n t w (m + 1) l q = s_rt n t w m (l + 1) (rt_st l (s_F n t w l) q) := rfl
theorem s_rt_pos : ∀ (m l : Nat) (q : rt_T), 0 < l → (q.1 ≠ 0 ∨ 0 < m) → (s_rt n t w m l q).1 ≠ 0 := by
  intro m
  induction m with
  | zero => intro l q hl h; rcases h with h | h; exact h; omega
  | succ m ih =>
    intro l q hl h
    rw [s_rt_s]
    refine ih _ _ (by omega) (Or.inl ?_)
    unfold rt_st
    split
    · show l ≠ 0; omega
    · rename_i z; exact fun e => z (Or.inl e)
def sp_rw (z : Int32) (q : rt_T) : Int32 := if z = 0 then nI q.1 else if z = 1 then nI q.2.1 else nI q.2.2
def sp_rate (n : Nat) (t : Nat → Nat) (x z : Int32) : Int32 := if inR x 0 7 && inR z 0 2 then sp_rw z (s_rt n t x.toInt.toNat 49 2 (0, 0, 0)) else -1
theorem rt_ok {q : rt_T} {r : fr_T} (hq : q.1 ≤ 50 ∧ q.2.1 ≤ 20 ∧ q.2.2 ≤ 20) (hr : r.1 + r.2.1 ≤ 20) (hl : l ≤ 50) : (rt_st l r q).1 ≤ 50 ∧ (rt_st l r q).2.1 ≤ 20 ∧ (rt_st l r q).2.2 ≤ 20 := by
  unfold rt_st; split
  · refine ⟨hl, ?_, ?_⟩
    · show r.1 ≤ 20; omega
    · show r.2.1 ≤ 20; omega
  · exact hq
theorem lX10_rate {z : Int32} {S0 : hs_T} {Q : Option av_T → hs_T → Prop} (hT : TrX S0 0 n t) (hw : w < 8) (hQ : ∀ S', Kp S0 S' → Q (some (vI (sp_rw z (s_rt n t w 49 2 (0, 0, 0))))) S') :
    ∀ (m l : Nat) (q : rt_T) (S : hs_T), l + m = 51 → 2 ≤ l → q.1 ≤ 50 ∧ q.2.1 ≤ 20 ∧ q.2.2 ≤ 20 → s_rt n t w m l q = s_rt n t w 49 2 (0, 0, 0) → Kp S0 S → Ev (d + 3) mX10_rate 29 [some (vR 10 0), some (vI (nI w)), some (vI z), some (vI (nI q.1)), some (vI (nI q.2.1)), some (vI (nI q.2.2)), some (vI (nI l))] [] S Q := by
  have h2 := hT.2.1
  intro m
  induction m with
  | zero =>
    intro l q S hl hl2 hq he hk
    have e : l = 51 := by omega
    subst e
    rw [← he] at hQ
    have hQ : ∀ S', Kp S0 S' → Q (some (vI (sp_rw z q))) S' := hQ
    unfold sp_rw at hQ
    refine bkX10_rate_29 (fun _ => ?_) (fun h => absurd (by decide) h)
    refine bkX10_rate_117 (fun a => ?_) (fun a => ?_) (fun a0 a1 => ?_)
    · rw [if_pos a] at hQ; exact bkX10_rate_144 (hQ S hk)
    · rw [if_neg (by rw [a]; decide), if_pos a] at hQ; exact bkX10_rate_146 (hQ S hk)
    · rw [if_neg a0, if_neg a1] at hQ; exact bkX10_rate_149 (hQ S hk)
  | succ m ih =>
    intro l q S hl hl2 hq he hk
    rw [s_rt_s] at he
    refine bkX10_rate_29 (fun h => absurd h (nI_nlt (a := 50) (by omega) (by omega))) (fun _ => ?_)
    refine bkX10_rate_36 (kX0_listen (TrX_Kp hk (by omega) hT) hw hl2 (by omega)) ?_
    rintro S1 ⟨hk1, hf1⟩
    have h20 := s_F_ok (n := n) (t := t) (w := w) (l := l) h2 hl2
    generalize s_F n t w l = r at *
    have hf1 : f0 S1 (r.1 + r.2.1) r.1 r.2.1 0 0 r.2.2 := hf1
    have hok := rt_ok (l := l) hq h20 (by omega)
    have ih := ih (l + 1) _ S1 (by omega) (by omega) hok he (Kp_tr hk hk1)
    have e2 := hf1.2.1
    have e3 := hf1.2.2.1
    have yes : (q.1 = 0 ∨ q.2.1 < r.1 ∨ (r.1 = q.2.1 ∧ r.2.1 < q.2.2)) → Ev (d + 3) mX10_rate 90 [some (vR 10 0), some (vI (nI w)), some (vI z), some (vI (nI q.1)), some (vI (nI q.2.1)), some (vI (nI q.2.2)), some (vI (nI l))] [] S1 Q := by
      intro h
      rw [show rt_st l r q = (l, r.1, r.2.1) from if_pos h] at ih
      refine bkX10_rate_90 (bkX10_rate_111 ?_)
      rw [e2, e3, nI_1]; exact ih
    have no : ¬ (q.1 = 0 ∨ q.2.1 < r.1 ∨ (r.1 = q.2.1 ∧ r.2.1 < q.2.2)) → Ev (d + 3) mX10_rate 111 [some (vR 10 0), some (vI (nI w)), some (vI z), some (vI (nI q.1)), some (vI (nI q.2.1)), some (vI (nI q.2.2)), some (vI (nI l))] [] S1 Q := by
      intro h
      rw [show rt_st l r q = q from if_neg h] at ih
      refine bkX10_rate_111 ?_
      rw [nI_1]; exact ih
    refine bkX10_rate_50 (fun h => yes (Or.inl ((nI_eq (b := 0) (by omega) (by omega)).mp h))) (fun h0 => ?_)
    have h0 : ¬ q.1 = 0 := fun z => h0 (by rw [z]; rfl)
    refine bkX10_rate_54 (fun h => ?_) (fun h3 => ?_)
    · rw [e2, nI_ltI (by omega) (by omega)] at h; exact yes (Or.inr (Or.inl h))
    rw [e2, nI_ltI (by omega) (by omega)] at h3
    refine bkX10_rate_66 (fun h => no ?_) (fun h4 => ?_)
    · rw [e2, nI_eq (by omega) (by omega)] at h; omega
    rw [e2, nI_eq (by omega) (by omega)] at h4
    refine bkX10_rate_78 (fun h => no ?_) (fun h => yes ?_) <;> rw [e3, nI_leI (by omega) (by omega)] at h <;> omega
theorem kX10_rate {x z : Int32} (hT : TrX S 0 n t) : Ci (d + 3) mX10_rate [vR 10 0, vI x, vI z] S (fun v S' => v = sp_rate n t x z ∧ Kp S S') := by
  refine cxX10_rate ?_
  refine bkX10_rate_0 kX10_isWire ?_
  rintro _ S ⟨rfl, rfl⟩
  cases hx : inR x 0 7
  · exact bkX10_rate_4 (fun _ => bkX10_rate_16 ⟨_, rfl, by simp [sp_rate, hx], Kp_rf _⟩) (fun h => absurd rfl h)
  refine bkX10_rate_4 (fun h => absurd h (by decide)) (fun _ => ?_)
  refine bkX10_rate_7 (kX10_w (lo := 0) (hi := 2) rfl rfl) ?_
  rintro _ S ⟨rfl, rfl⟩
  cases hz : inR z 0 2
  · exact bkX10_rate_13 (fun h => absurd rfl h) (fun _ => bkX10_rate_16 ⟨_, rfl, by simp [sp_rate, hz], Kp_rf _⟩)
  refine bkX10_rate_13 (fun _ => ?_) (fun h => absurd h (by decide))
  rw [sp_rate, hx, hz]
  obtain ⟨w, hw, rfl⟩ := inR_get hx
  rw [nI_tn (by omega)]
  exact bkX10_rate_18 (lX10_rate hT (by omega) (fun S' h => ⟨_, rfl, rfl, h⟩) 49 2 (0, 0, 0) S (by omega) (by omega) (by decide) rfl (Kp_rf S))
/-! the reference's -/
def g3 (S : hs_T) (y : Int32) (q : fr_T) : Prop := S.1 11 0 27 = nI q.1 ∧ S.1 11 0 28 = nI q.2.1 ∧ S.1 11 0 29 = fv y q.2.2 (q.1 + q.2.1)
theorem lM_bits8 {y x5 x6 : Int32} {Q : Option av_T → hs_T → Prop} (hT : TrM S n t) (hw : w < 8) (hl : l ≤ 50) (hi : i + st_ l < n)
    (hQ : Ev (d + 2) mX11_layFrames 139 [some (vR 11 0), some (vI (nI w)), some (vI (nI l)), some (vI y), some (vI (nI i)), some (vI x5), some (vI x6), some (vI (s_vb (fr_h t w l i) 8)), some (vI 8)] [] S Q) :
    ∀ (m k : Nat), k + m = 8 → Ev (d + 2) mX11_layFrames 97 [some (vR 11 0), some (vI (nI w)), some (vI (nI l)), some (vI y), some (vI (nI i)), some (vI x5), some (vI x6), some (vI (s_vb (fr_h t w l i) k)), some (vI (nI k))] [] S Q := by
  have h2 := hT.2.1
  intro m
  induction m with
  | zero =>
    intro k hk
    have e : k = 8 := by omega
    subst e
    exact bkX11_layFrames_97 (fun _ => hQ) (fun h => absurd (by decide) h)
  | succ m ih =>
    intro k hk
    refine bkX11_layFrames_97 (fun h => absurd h (nl_ (b := 8) (by omega) (by omega))) (fun _ => ?_)
    have kl := k_le (l := l) (show k < 8 by omega)
    refine bkX11_layFrames_104 (by rw [e_h2 hl, e_k]; exact kM_isHigh hT hw (by unfold st_ at hi; omega)) ?_
    rintro _ S ⟨rfl, rfl⟩
    refine bkX11_layFrames_124 kM_flag ?_
    rintro _ S ⟨rfl, rfl⟩
    refine bkX11_layFrames_127 ?_
    rw [nI_1]
    exact ih (k + 1) (by omega)
theorem lM_layFrames {y : Int32} {S0 : hs_T} {Q : Option av_T → hs_T → Prop} (hT : TrM S0 n t) (hw : w < 8) (hl2 : 2 ≤ l) (hl : l ≤ 50)
    (hQ : ∀ S', Kp S0 S' → g3 S' y (s_F n t w l) → Q none S') :
    ∀ (m i : Nat) (q : fr_T) (S : hs_T) (o5 o6 o7 o8 : Option av_T), n ≤ i + m → i ≤ 400 → 20 * (q.1 + q.2.1) ≤ i → s_fr n t w l m i q = s_F n t w l → Kp S0 S → g3 S y q → Ev (d + 2) mX11_layFrames 18 [some (vR 11 0), some (vI (nI w)), some (vI (nI l)), some (vI y), some (vI (nI i)), o5, o6, o7, o8] [] S Q := by
  have h2 := hT.2.1
  have hst : 19 ≤ st_ l ∧ st_ l ≤ 500 := by unfold st_; omega
  intro m
  induction m with
  | zero =>
    intro i q S o5 o6 o7 o8 hm hi hsz he hk hf
    have h1 := (TrM_Kp hk hT).1
    refine bkX11_layFrames_18 (fun _ => bkX11_layFrames_230 (hQ S hk ?_)) (fun h => absurd (by rw [h1]; exact nI_le (by omega) (by omega)) h)
    rw [← he]; exact hf
  | succ m ih =>
    intro i q S o5 o6 o7 o8 hm hi hsz he hk hf
    have hT' := TrM_Kp hk hT
    have h1 := hT'.1
    rw [s_fr_s] at he
    by_cases hin : i < n
    · refine bkX11_layFrames_18 (fun h => absurd h (by rw [h1]; exact nl_ (by omega) (by omega))) (fun _ => ?_)
      have p2 : ∀ b : Bool, b = fr_bg t w i → Ev (d + 2) mX11_layFrames 56 [some (vR 11 0), some (vI (nI w)), some (vI (nI l)), some (vI y), some (vI (nI i)), o5, o6, o7, o8] [vI (bi_ b)] S Q := by
        intro b hb
        have es : nI i + 9 * nI l + nI l / 2 = nI (i + st_ l) := by rw [e_h2 hl, e_st hl]
        cases b
        · refine bkX11_layFrames_56 ?_ ?_ <;> rw [es] <;> intro h
          · rw [← hb] at he
            refine bkX11_layFrames_86 (fun _ => bkX11_layFrames_224 ?_) (fun h => absurd rfl h)
            rw [nI_1]
            refine ih (i + 1) q S _ _ _ _ (by omega) (by omega) (by omega) ?_ hk hf
            by_cases hs : n ≤ i + st_ l
            · rw [if_pos hs] at he
              rw [s_fr_stop (by omega)]; exact he
            · rw [if_neg hs] at he; exact he
          · exact absurd rfl h
        · refine bkX11_layFrames_56 ?_ ?_ <;> rw [es] <;> intro h
          · exact absurd h (by decide)
          · rw [← hb] at he
            refine bkX11_layFrames_76 (fun h => ?_) (fun h => ?_) <;> rw [h1, nI_ltI (by omega) (by omega)] at h
            · rw [if_neg (by omega)] at he
              simp only [if_true] at he
              refine bkX11_layFrames_86 (fun h => absurd h (by decide)) (fun _ => bkX11_layFrames_91 ?_)
              refine lM_bits8 (i := i) hT' hw hl (by omega) ?_ 8 0 (by omega)
              refine bkX11_layFrames_139 (kM_isHigh hT' hw (by omega)) ?_
              rintro _ S ⟨rfl, rfl⟩
              obtain ⟨F, B, r⟩ := q
              obtain ⟨e27, e28, e29⟩ := hf
              have e27 : S.1 11 0 27 = nI F := e27
              have e28 : S.1 11 0 28 = nI B := e28
              have e29 : S.1 11 0 29 = fv y r (F + B) := e29
              have hsz : 20 * (F + B) ≤ i := hsz
              have last : ∀ a : Int32, a = fv y (fr_st t w l i (F, B, r)).2.2 (F + B + 1) → Ev (d + 2) mX11_layFrames 181 [some (vR 11 0), some (vI (nI w)), some (vI (nI l)), some (vI y), some (vI (nI i)), some (vI (bi_ true)), some (vI (nI (i + st_ l))), some (vI (s_vb (fr_h t w l i) 8)), some (vI (bi_ (t_hi t w (i + st_ l))))] [vI a, vR 11 0] S Q := by
                intro a ha
                refine bkX11_layFrames_181 kM_flag ?_
                rintro _ _ ⟨rfl, rfl⟩
                have k29 : Kp S0 (sk_ S 11 0 (upd (S.1 11 0) 29 a)) := Kp_11 hk (by decide)
                have a27 : (sk_ S 11 0 (upd (S.1 11 0) 29 a)).1 11 0 27 = nI F := by rw [sk_at, pk_un (by omega)]; exact e27
                have a28 : (sk_ S 11 0 (upd (S.1 11 0) 29 a)).1 11 0 28 = nI B := by rw [sk_at, pk_un (by omega)]; exact e28
                have a29 : (sk_ S 11 0 (upd (S.1 11 0) 29 a)).1 11 0 29 = a := by rw [sk_at, pk_us]
                generalize sk_ S 11 0 (upd (S.1 11 0) 29 a) = S2 at *
                rw [a27]
                have hsum : nI F + bi_ (t_hi t w (i + st_ l)) = nI (F + if t_hi t w (i + st_ l) = true then 1 else 0) := by rw [bi_nI, nI_add]
                have fin : ∀ b : Bool, b = !t_hi t w (i + st_ l) → Ev (d + 2) mX11_layFrames 213 [some (vR 11 0), some (vI (nI w)), some (vI (nI l)), some (vI y), some (vI (nI i)), some (vI (bi_ true)), some (vI (nI (i + st_ l))), some (vI (s_vb (fr_h t w l i) 8)), some (vI (bi_ (t_hi t w (i + st_ l))))] [vI (bi_ b), vI ((sk_ S2 11 0 (upd (S2.1 11 0) 27 (nI (F + if t_hi t w (i + st_ l) = true then 1 else 0)))).1 11 0 28), vR 11 0] (sk_ S2 11 0 (upd (S2.1 11 0) 27 (nI (F + if t_hi t w (i + st_ l) = true then 1 else 0)))) Q := by
                  intro b hb2
                  refine bkX11_layFrames_213 kM_flag ?_
                  rintro _ _ ⟨rfl, rfl⟩
                  refine bkX11_layFrames_216 (bkX11_layFrames_224 ?_)
                  have c28 : (sk_ S2 11 0 (upd (S2.1 11 0) 27 (nI (F + if t_hi t w (i + st_ l) = true then 1 else 0)))).1 11 0 28 = nI B := by rw [sk_at, pk_un (by omega)]; exact a28
                  have hs2 : nI B + bi_ b = nI (B + if b = true then 1 else 0) := by rw [bi_nI, nI_add]
                  rw [c28, hs2, nI_1]
                  have hs : (fr_st t w l i (F, B, r)).1 + (fr_st t w l i (F, B, r)).2.1 = F + B + 1 := by
                    unfold fr_st; split <;> simp only <;> omega
                  refine ih (i + st_ l + 1) _ _ _ _ _ _ (by omega) (by omega) (by rw [hs]; omega) he (Kp_11 (Kp_11 k29 (by decide)) (by decide)) ⟨?_, ?_, ?_⟩
                  · rw [sk_at, pk_un (by omega), sk_at, pk_us]
                    congr 1
                    unfold fr_st; split <;> rfl
                  · rw [sk_at, pk_us, hb2]
                    congr 1
                    unfold fr_st; cases t_hi t w (i + st_ l) <;> rfl
                  · rw [sk_at, pk_un (by omega), sk_at, pk_un (by omega), hs]
                    exact a29.trans ha
                refine bkX11_layFrames_194 ?_ ?_ <;> rw [hsum] <;> intro h
                · rw [bi_ne0] at h
                  exact bkX11_layFrames_212 (fin false (by rw [h]; rfl))
                · rw [bi_0] at h
                  exact bkX11_layFrames_208 (fin true (by rw [h]; rfl))
              have er : fv y (fr_st t w l i (F, B, r)).2.2 (F + B + 1) = if nI (F + B) = y then (if t_hi t w (i + st_ l) = true then s_vb (fr_h t w l i) 8 else -5) else fv y r (F + B) := by
                unfold fr_st
                cases t_hi t w (i + st_ l)
                · exact fv_s (by omega)
                · exact fv_s (by omega)
              rw [er] at last
              refine bkX11_layFrames_146 (fun h => ?_) (fun h => ?_) <;> rw [e27, e28, nI_add] at h
              · exact bkX11_layFrames_177 (last _ (by rw [e29, if_neg h]))
              · rw [if_pos h] at last
                refine bkX11_layFrames_162 (fun h => ?_) (fun h => ?_)
                · rw [bi_0] at h
                  exact bkX11_layFrames_172 (last _ (by rw [h]; rfl))
                · rw [bi_ne0] at h
                  exact bkX11_layFrames_167 (last _ (by rw [h]; rfl))
            · rw [if_pos (by omega)] at he
              exact bkX11_layFrames_85 (hQ S hk (by rw [← he]; exact hf))
      refine bkX11_layFrames_27 (fun h0 => ?_) (fun h0 => ?_)
      · have hi0 : ¬ i = 0 := fun z => h0 (by rw [z]; rfl)
        refine bkX11_layFrames_49 (kM_falls hT' hw hin) ?_
        rintro _ S ⟨rfl, rfl⟩
        exact p2 _ (by unfold fr_bg; rw [if_neg hi0])
      · have hi0 : i = 0 := (nI_eq (b := 0) (by omega) (by omega)).mp h0
        refine bkX11_layFrames_32 (kM_isHigh (i := 0) hT' hw (by omega)) ?_
        rintro _ S ⟨rfl, rfl⟩
        have eb : fr_bg t w i = !t_hi t w 0 := by unfold fr_bg; rw [if_pos hi0]
        refine bkX11_layFrames_38 (fun h => ?_) (fun h => ?_)
        · rw [bi_ne0] at h; exact bkX11_layFrames_45 (p2 false (by rw [eb, h]; rfl))
        · rw [bi_0] at h; exact bkX11_layFrames_41 (p2 true (by rw [eb, h]; rfl))
    · refine bkX11_layFrames_18 (fun _ => bkX11_layFrames_230 (hQ S hk ?_)) (fun h => absurd (by rw [h1]; exact nI_le (by omega) (by omega)) h)
      rw [if_pos (by omega)] at he
      rw [← he]; exact hf
theorem kM_layFrames {y : Int32} (hT : TrM S n t) (hw : w < 8) (hl2 : 2 ≤ l) (hl : l ≤ 50) : Cv (d + 2) mX11_layFrames [vR 11 0, vI (nI w), vI (nI l), vI y] S (fun S' => Kp S S' ∧ g3 S' y (s_F n t w l)) := by
  refine cxX11_layFrames ?_
  refine bkX11_layFrames_0 ?_
  have hk : Kp S (sk_ (sk_ (sk_ S 11 0 (upd (S.1 11 0) 27 0)) 11 0 (upd ((sk_ S 11 0 (upd (S.1 11 0) 27 0)).1 11 0) 28 0)) 11 0 (upd ((sk_ (sk_ S 11 0 (upd (S.1 11 0) 27 0)) 11 0 (upd ((sk_ S 11 0 (upd (S.1 11 0) 27 0)).1 11 0) 28 0)).1 11 0) 29 (-1))) := Kp_11 (Kp_11 (Kp_11 (Kp_rf S) (by decide)) (by decide)) (by decide)
  refine lM_layFrames (S0 := S) hT hw hl2 hl (fun S' h1 h2 => ⟨rfl, h1, h2⟩) n 0 q0 _ _ _ _ _ (by omega) (by omega) (by decide) rfl hk ?_
  simp only [sk_sk, sk_at]
  refine ⟨by rw [sk_at]; rfl, by rw [sk_at]; rfl, ?_⟩
  rw [sk_at, pk_us]
  unfold fv; rw [if_neg]; show ¬ (0 ≤ y.toInt ∧ y.toInt < ((0 : Nat) : Int)); omega
theorem kM_serial {x y z : Int32} (hT : TrM S n t) : Ci (d + 3) mX11_serial [vR 11 0, vI x, vI y, vI z] S (fun v S' => v = sp_serial n t x y z ∧ Kp S S') := by
  refine cxX11_serial ?_
  refine bkX11_serial_0 kM_isWire ?_
  rintro _ S ⟨rfl, rfl⟩
  cases hx : inR x 0 7
  · exact bkX11_serial_4 (fun _ => bkX11_serial_30 ⟨_, rfl, by simp [sp_serial, hx], Kp_rf _⟩) (fun h => absurd rfl h)
  refine bkX11_serial_4 (fun h => absurd h (by decide)) (fun _ => ?_)
  refine bkX11_serial_7 kM_isRate ?_
  rintro _ S ⟨rfl, rfl⟩
  cases hy : inR y 2 50
  · exact bkX11_serial_11 (fun _ => bkX11_serial_30 ⟨_, rfl, by simp [sp_serial, hy], Kp_rf _⟩) (fun h => absurd rfl h)
  refine bkX11_serial_11 (fun h => absurd h (by decide)) (fun _ => ?_)
  refine bkX11_serial_14 (kM_inI (lo := 0) (hi := 1) rfl rfl) ?_
  rintro _ S ⟨rfl, rfl⟩
  rw [sp_serial, hx, hy]
  obtain ⟨w, hw, rfl⟩ := inR_get hx
  obtain ⟨l, hl1, hl2, rfl⟩ := inR_get1 (by omega) hy
  rw [nI_tn (by omega), nI_tn (by omega)]
  simp only [Bool.and_self, if_true]
  have go : (z = 0 ∨ z = 1 ∨ 10 ≤ z) → Ev (d + 3) mX11_serial 32 [some (vR 11 0), some (vI (nI w)), some (vI (nI l)), some (vI z)] [] S (fun r S' => ∃ v, r = some (vI v) ∧ v = sp_sw z (s_F n t w l) ∧ Kp S S') := by
    intro hz
    refine bkX11_serial_32 (kM_layFrames hT (by omega) (by omega) (by omega)) ?_
    rintro S' ⟨hk, e27, e28, e29⟩
    unfold sp_sw
    refine bkX11_serial_42 (fun a0 => ?_) (fun a => bkX11_serial_46 (bkX11_serial_69 ⟨_, rfl, by rw [e27, if_pos a], hk⟩))
    refine bkX11_serial_53 (fun a1 => ?_) (fun a => bkX11_serial_58 (bkX11_serial_69 ⟨_, rfl, by rw [e28, if_neg a0, if_pos a], hk⟩))
    have a3 : 10 ≤ z := by
      rcases hz with h | h | h
      · exact absurd h a0
      · exact absurd h a1
      · exact h
    exact bkX11_serial_65 (bkX11_serial_69 ⟨_, rfl, by rw [e29, if_neg a0, if_neg a1, if_pos a3], hk⟩)
  cases hz : inR z 0 1
  · refine bkX11_serial_21 (fun h => absurd rfl h) (fun _ => ?_)
    refine bkX11_serial_24 (fun h => go (Or.inr (Or.inr h))) (fun h => bkX11_serial_30 ⟨_, rfl, ?_, Kp_rf _⟩)
    have nz : ∀ a : Nat, a ≤ 1 → ¬ z = nI a := by
      intro a ha e
      rw [e, inR_nI (by omega)] at hz
      exact absurd hz (by rw [decide_eq_true (by omega)]; decide)
    rw [sp_sw, if_neg (show ¬ z = 0 from nz 0 (by omega)), if_neg (show ¬ z = 1 from nz 1 (by omega)), if_neg h]
  · refine bkX11_serial_21 (fun _ => go ?_) (fun h => absurd h (by decide))
    obtain ⟨k, hk, rfl⟩ := inR_get hz
    rcases (show k = 0 ∨ k = 1 by omega) with rfl | rfl
    · exact Or.inl rfl
    · exact Or.inr (Or.inl rfl)
def m_b (k : Nat) : Int32 := if k = 0 then -4 else nI k
theorem lM_rate {z : Int32} {S0 : hs_T} {Q : Option av_T → hs_T → Prop} (hT : TrM S0 n t) (hw : w < 8) (hQ : ∀ S', Kp S0 S' → Q (some (vI (sp_rw z (s_rt n t w 49 2 (0, 0, 0))))) S') :
    ∀ (m l : Nat) (q : rt_T) (S : hs_T) (o7 : Option av_T), l + m = 51 → 2 ≤ l → q.1 ≤ 50 ∧ q.2.1 ≤ 20 ∧ q.2.2 ≤ 20 → s_rt n t w m l q = s_rt n t w 49 2 (0, 0, 0) → Kp S0 S → Ev (d + 3) mX11_rate 33 [some (vR 11 0), some (vI (nI w)), some (vI z), some (vI (m_b q.1)), some (vI (nI q.2.1)), some (vI (nI q.2.2)), some (vI (nI l)), o7] [] S Q := by
  have h2 := hT.2.1
  intro m
  induction m with
  | zero =>
    intro l q S o7 hl hl2 hq he hk
    have e : l = 51 := by omega
    subst e
    rw [← he] at hQ
    have hp : q.1 ≠ 0 := by
      have := s_rt_pos (n := n) (t := t) (w := w) 49 2 (0, 0, 0) (by omega) (Or.inr (by omega))
      rw [← he] at this; exact this
    have hQ : ∀ S', Kp S0 S' → Q (some (vI (sp_rw z q))) S' := hQ
    unfold sp_rw at hQ
    rw [show m_b q.1 = nI q.1 from if_neg hp]
    refine bkX11_rate_33 (fun _ => ?_) (fun h => absurd (by decide) h)
    refine bkX11_rate_139 (fun a0 => ?_) (fun a => ?_)
    · refine bkX11_rate_147 (fun a1 => ?_) (fun a => ?_)
      · rw [if_neg a0, if_neg a1] at hQ; exact bkX11_rate_157 (bkX11_rate_159 (hQ S hk))
      · rw [if_neg a0, if_pos a] at hQ; exact bkX11_rate_152 (bkX11_rate_159 (hQ S hk))
    · rw [if_pos a] at hQ; exact bkX11_rate_143 (bkX11_rate_159 (hQ S hk))
  | succ m ih =>
    intro l q S o7 hl hl2 hq he hk
    rw [s_rt_s] at he
    refine bkX11_rate_33 (fun h => absurd h (nI_nlt (a := 50) (by omega) (by omega))) (fun _ => ?_)
    refine bkX11_rate_40 (kM_layFrames (TrM_Kp hk hT) hw hl2 (by omega)) ?_
    rintro S1 ⟨hk1, e2, e3, _⟩
    have h20 := s_F_ok (n := n) (t := t) (w := w) (l := l) h2 hl2
    generalize s_F n t w l = r at *
    have hok := rt_ok (l := l) hq h20 (by omega)
    have ih := fun o7 => ih (l + 1) _ S1 o7 (by omega) (by omega) hok he (Kp_tr hk hk1)
    have yes : (q.1 = 0 ∨ q.2.1 < r.1 ∨ (r.1 = q.2.1 ∧ r.2.1 < q.2.2)) → Ev (d + 3) mX11_rate 82 [some (vR 11 0), some (vI (nI w)), some (vI z), some (vI (m_b q.1)), some (vI (nI q.2.1)), some (vI (nI q.2.2)), some (vI (nI l)), o7] [] S1 Q := by
      intro h
      rw [show rt_st l r q = (l, r.1, r.2.1) from if_pos h] at ih
      refine bkX11_rate_82 (bkX11_rate_87 (fun h => absurd h (by decide)) (fun _ => bkX11_rate_94 ?_))
      refine bkX11_rate_100 (fun h => absurd h (by decide)) (fun _ => bkX11_rate_106 ?_)
      refine bkX11_rate_115 (fun h => absurd h (by decide)) (fun _ => bkX11_rate_122 (bkX11_rate_131 ?_))
      rw [e2, e3, nI_1]
      have := ih (some (vI 1))
      rw [show m_b ((l, r.1, r.2.1) : rt_T).1 = nI l from if_neg (by show ¬ l = 0; omega)] at this
      exact this
    have no : ¬ (q.1 = 0 ∨ q.2.1 < r.1 ∨ (r.1 = q.2.1 ∧ r.2.1 < q.2.2)) → Ev (d + 3) mX11_rate 86 [some (vR 11 0), some (vI (nI w)), some (vI z), some (vI (m_b q.1)), some (vI (nI q.2.1)), some (vI (nI q.2.2)), some (vI (nI l)), o7] [] S1 Q := by
      intro h
      rw [show rt_st l r q = q from if_neg h] at ih
      refine bkX11_rate_86 (bkX11_rate_87 (fun _ => bkX11_rate_99 ?_) (fun h => absurd rfl h))
      refine bkX11_rate_100 (fun _ => bkX11_rate_113 ?_) (fun h => absurd rfl h)
      refine bkX11_rate_115 (fun _ => bkX11_rate_129 (bkX11_rate_131 ?_)) (fun h => absurd rfl h)
      rw [nI_1]
      exact ih _
    refine bkX11_rate_49 (fun h => yes (Or.inl ?_)) (fun h0 => ?_)
    · by_cases z : q.1 = 0
      · exact z
      · rw [show m_b q.1 = nI q.1 from if_neg z] at h; exact absurd h (ne4 (by omega))
    have h0 : ¬ q.1 = 0 := fun z => h0 (if_pos z)
    refine bkX11_rate_55 (fun h => ?_) (fun h3 => ?_)
    · rw [e2, nI_ltI (by omega) (by omega)] at h; exact yes (Or.inr (Or.inl h))
    rw [e2, nI_ltI (by omega) (by omega)] at h3
    refine bkX11_rate_64 (fun h => no ?_) (fun h4 => ?_)
    · rw [e2, nI_eq (by omega) (by omega)] at h; omega
    rw [e2, nI_eq (by omega) (by omega)] at h4
    refine bkX11_rate_73 (fun h => no ?_) (fun h => yes ?_) <;> rw [e3, nI_leI (by omega) (by omega)] at h <;> omega
theorem kM_rate {x z : Int32} (hT : TrM S n t) : Ci (d + 3) mX11_rate [vR 11 0, vI x, vI z] S (fun v S' => v = sp_rate n t x z ∧ Kp S S') := by
  refine cxX11_rate ?_
  refine bkX11_rate_0 kM_isWire ?_
  rintro _ S ⟨rfl, rfl⟩
  cases hx : inR x 0 7
  · exact bkX11_rate_4 (fun _ => bkX11_rate_19 ⟨_, rfl, by simp [sp_rate, hx], Kp_rf _⟩) (fun h => absurd rfl h)
  refine bkX11_rate_4 (fun h => absurd h (by decide)) (fun _ => ?_)
  refine bkX11_rate_7 (kM_inI (lo := 0) (hi := 2) rfl rfl) ?_
  rintro _ S ⟨rfl, rfl⟩
  cases hz : inR z 0 2
  · exact bkX11_rate_16 (fun h => absurd rfl h) (fun _ => bkX11_rate_19 ⟨_, rfl, by simp [sp_rate, hz], Kp_rf _⟩)
  refine bkX11_rate_16 (fun _ => ?_) (fun h => absurd h (by decide))
  rw [sp_rate, hx, hz]
  obtain ⟨w, hw, rfl⟩ := inR_get hx
  rw [nI_tn (by omega)]
  exact bkX11_rate_21 (lM_rate hT (by omega) (fun S' h => ⟨_, rfl, rfl, h⟩) 49 2 (0, 0, 0) S _ (by omega) (by omega) (by decide) rfl (Kp_rf S))
end SE
