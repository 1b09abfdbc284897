/-! ===== seen ===== -/
def bc1 (x : Int32) : Int32 := x - (((x.toUInt32 >>> ((1 : Int32).toUInt32 &&& Int32.toUInt32 31)).toInt32) &&& 1431655765)
def bc2 (x : Int32) : Int32 := (x &&& 858993459) + (((x.toUInt32 >>> ((2 : Int32).toUInt32 &&& Int32.toUInt32 31)).toInt32) &&& 858993459)
def bc3 (x : Int32) : Int32 := (x + ((x.toUInt32 >>> ((4 : Int32).toUInt32 &&& Int32.toUInt32 31)).toInt32)) &&& 252645135
def bc4 (x : Int32) : Int32 := x + ((x.toUInt32 >>> ((8 : Int32).toUInt32 &&& Int32.toUInt32 31)).toInt32)
def bc5 (x : Int32) : Int32 := x + ((x.toUInt32 >>> ((16 : Int32).toUInt32 &&& Int32.toUInt32 31)).toInt32)
def bcE (x : Int32) : Int32 := bc5 (bc4 (bc3 (bc2 (bc1 x)))) &&& 63
theorem bc_ok : ∀ v, v < 256 → bcE (nI v) = nI (fb_ct (fun w => v.testBit w) 8) := by decide +kernel
def t_un (t : Nat → Nat) (i j : Nat) : Nat := fb_ct (fun w => t_hi t w j ^^ t_hi t w i) 8
def s_ek (n k : Nat) (t : Nat → Nat) : Nat → Nat → Nat → Nat
  | 0, _, a => a
  | m + 1, i, a => if i + k < n then s_ek n k t m (i + k) (a + t_un t i (i + k)) else a
theorem s_ek_s (n k : Nat) (t : Nat → Nat) (m i a : Nat) : s_ek n k t (m + 1) i a = if i + k < n then s_ek n k t m (i + k) (a + t_un t i (i + k)) else a := rfl
def s_cn (n k : Nat) : Nat → Nat → Nat → Nat
  | 0, _, a => a
  | m + 1, i, a => if i < n then s_cn n k m (i + k) (a + 1) else a
theorem s_cn_s (n k m i a : Nat) : s_cn n k (m + 1) i a = if i < n then s_cn n k m (i + k) (a + 1) else a := rfl
theorem s_cn_v {n k : Nat} (hk : 0 < k) : ∀ (m i a : Nat), n ≤ i + m → s_cn n k m i a = a + (if i < n then (n - i + k - 1) / k else 0) := by
  intro m
  induction m with
  | zero => intro i a h; rw [if_neg (by omega)]; rfl
  | succ m ih =>
    intro i a h
    rw [s_cn_s]
    by_cases hi : i < n
    · rw [if_pos hi, if_pos hi, ih _ _ (by omega), show n - i + k - 1 = (n - i - 1) + k by omega, Nat.add_div_right _ hk]
      by_cases h2 : i + k < n
      · rw [if_pos h2, show n - (i + k) + k - 1 = n - i - 1 by omega]; omega
      · rw [if_neg h2, Nat.div_eq_of_lt (by omega)]
    · rw [if_neg hi, if_neg hi]; rfl
def s_E (n : Nat) (t : Nat → Nat) (k f : Nat) : Int32 := nI (s_ek n k t n f 0)
def sp_seen (n : Nat) (t : Nat → Nat) (x y z : Int32) : Int32 := if inR x 1 400 && inR y 0 (x.toInt - 1) && inR z 0 2 then (if z = 0 then (if y.toInt.toNat < n then nI ((n - y.toInt.toNat + x.toInt.toNat - 1) / x.toInt.toNat) else 0) else if z = 1 then s_E n t x.toInt.toNat y.toInt.toNat else s_E n t 1 0 - s_E n t x.toInt.toNat y.toInt.toNat) else -1
section SN
variable {d : Nat} {S : hs_T} {n w i k f : Nat} {t : Nat → Nat}
theorem kJ_bitCount {v : Nat} (hv : v < 256) : Ci d mJ6_bitCount_0f7a4 [vI (nI v)] S (fun r S' => r = nI (fb_ct (fun w => v.testBit w) 8) ∧ S' = S) := by
  refine cxJ6_bitCount_0f7a4 ?_
  exact bkJ6_bitCount_0f7a4_0 ⟨_, rfl, bc_ok v hv, rfl⟩
theorem lX8_edgesSeen {x2 : Int32} (hT : TrX S 0 n t) (hk : 0 < k) (hk4 : k ≤ 400) :
    ∀ (m i a : Nat), n ≤ i + m → i ≤ 400 → Ev (d + 2) mX8_edgesSeen 7 [some (vR 8 0), some (vI (nI k)), some (vI x2), some (vI (nI a)), some (vI (nI (i + k)))] [] S (fun r S' => ∃ v, r = some (vI v) ∧ v = nI (s_ek n k t m i a) ∧ S' = S) := by
  have h1 := hT.1
  have h2 := hT.2.1
  intro m
  induction m with
  | zero =>
    intro i a hm hi
    refine bkX8_edgesSeen_7 (fun _ => bkX8_edgesSeen_50 ⟨_, rfl, rfl, rfl⟩) (fun _ => ?_)
    exact bkX8_edgesSeen_11 (by omega) (fun _ => bkX8_edgesSeen_50 ⟨_, rfl, rfl, rfl⟩) (fun h => absurd (by rw [h1]; exact nI_le (by omega) (by omega)) h)
  | succ m ih =>
    intro i a hm hi
    rw [s_ek_s]
    refine bkX8_edgesSeen_7 (fun h => absurd h (nI_nle hk (by omega))) (fun _ => ?_)
    refine bkX8_edgesSeen_11 (by omega) (fun h => ?_) (fun h => ?_) <;> rw [h1, nI_leI (by omega) (by omega)] at h
    · rw [if_neg (by omega)]
      exact bkX8_edgesSeen_50 ⟨_, rfl, rfl, rfl⟩
    · rw [if_pos (by omega)]
      refine bkX8_edgesSeen_20 (by omega) (kX8_sample hT (by omega) (by omega)) ?_
      rintro _ S ⟨rfl, rfl⟩
      refine bkX8_edgesSeen_27 (by omega) (by rw [pk_sub (by omega), Nat.add_sub_cancel]; exact kX8_sample hT (by omega) (by omega)) ?_
      rintro _ S ⟨rfl, rfl⟩
      have ha := (hT.2.2 (i + k) (by omega)).2
      have hb := (hT.2.2 i (by omega)).2
      refine bkX8_edgesSeen_35 (by rw [fb_xorI]; exact kJ_bitCount (Nat.xor_lt_two_pow (n := 8) ha hb)) ?_
      rintro _ S ⟨rfl, rfl⟩
      refine bkX8_edgesSeen_39 ?_
      have e : fb_ct (fun w => (t (i + k) ^^^ t i).testBit w) 8 = t_un t i (i + k) := by
        unfold t_un; exact fb_ct_cong (fun w _ => by rw [Nat.testBit_xor]; rfl)
      rw [e, nI_add, nI_add]
      exact ih (i + k) _ (by omega) (by omega)
theorem kX8_edgesSeen (hT : TrX S 0 n t) (hk : 0 < k) (hk4 : k ≤ 400) (hf : f ≤ 400) : Ci (d + 2) mX8_edgesSeen [vR 8 0, vI (nI k), vI (nI f)] S (fun v S' => v = s_E n t k f ∧ S' = S) := by
  refine cxX8_edgesSeen ?_
  refine bkX8_edgesSeen_0 ?_
  rw [nI_add]
  exact lX8_edgesSeen hT hk hk4 n f 0 (by omega) hf
theorem kX10_seen {x y z : Int32} (hT : TrX S 0 n t) : Ci (d + 3) mX10_seen [vR 10 0, vI x, vI y, vI z] S (fun v S' => v = sp_seen n t x y z ∧ S' = S) := by
  have h1 := hT.1
  have h2 := hT.2.1
  refine cxX10_seen ?_
  refine bkX10_seen_0 (kX10_w (lo := 1) (hi := 400) rfl rfl) ?_
  rintro _ S ⟨rfl, rfl⟩
  cases hx : inR x 1 400
  · exact bkX10_seen_8 (fun _ => bkX10_seen_31 ⟨_, rfl, by simp [sp_seen, hx], rfl⟩) (fun h => absurd rfl h)
  refine bkX10_seen_8 (fun h => absurd h (by decide)) (fun _ => ?_)
  obtain ⟨k, hk1, hk2, rfl⟩ := inR_get1 (by omega) hx
  refine bkX10_seen_11 (kX10_w (lo := 0) (hi := (nI k).toInt - 1) rfl (by rw [nI_toInt (by omega)]; exact pk_sub_toInt (b := 1) (by omega) (by omega))) ?_
  rintro _ S ⟨rfl, rfl⟩
  cases hy : inR y 0 ((nI k).toInt - 1)
  · exact bkX10_seen_19 (fun _ => bkX10_seen_31 ⟨_, rfl, by simp [sp_seen, hy], rfl⟩) (fun h => absurd rfl h)
  refine bkX10_seen_19 (fun h => absurd h (by decide)) (fun _ => ?_)
  refine bkX10_seen_22 (kX10_w (lo := 0) (hi := 2) rfl rfl) ?_
  rintro _ S ⟨rfl, rfl⟩
  cases hz : inR z 0 2
  · exact bkX10_seen_28 (fun h => absurd rfl h) (fun _ => bkX10_seen_31 ⟨_, rfl, by simp [sp_seen, hz], rfl⟩)
  refine bkX10_seen_28 (fun _ => ?_) (fun h => absurd h (by decide))
  rw [sp_seen, hx, hy, hz]
  obtain ⟨f, hf, rfl⟩ := inR_get hy
  rw [nI_toInt (by omega)] at hf
  rw [nI_tn (by omega), nI_tn (by omega)]
  simp only [Bool.and_self, if_true]
  refine bkX10_seen_33 (fun a => ?_) (fun a => ?_) (fun a0 a1 => ?_)
  · rw [if_pos a]
    refine bkX10_seen_60 (fun h => ?_) (fun h => ?_) <;> rw [h1, nI_leI (by omega) (by omega)] at h
    · exact bkX10_seen_89 (bkX10_seen_90 ⟨_, rfl, by rw [if_neg (by omega)], rfl⟩)
    · refine bkX10_seen_71 (nI_ne0 (by omega) (by omega)) (bkX10_seen_90 ⟨_, rfl, ?_, rfl⟩)
      rw [if_pos (by omega), h1, pk_sub (by omega), nI_add, show (1 : Int32) = nI 1 from rfl, pk_sub (by omega), pk_div (by omega) (by omega) (by omega)]
  · rw [if_neg (by rw [a]; decide), if_pos a]
    refine bkX10_seen_91 (kX8_edgesSeen hT (by omega) (by omega) (by omega)) ?_
    rintro _ S ⟨rfl, rfl⟩
    exact bkX10_seen_100 ⟨_, rfl, rfl, rfl⟩
  · rw [if_neg a0, if_neg a1]
    refine bkX10_seen_101 (kX8_edgesSeen (k := 1) (f := 0) hT (by omega) (by omega) (by omega)) ?_
    rintro _ S ⟨rfl, rfl⟩
    refine bkX10_seen_110 (kX8_edgesSeen hT (by omega) (by omega) (by omega)) ?_
    rintro _ S ⟨rfl, rfl⟩
    exact bkX10_seen_119 ⟨_, rfl, rfl, rfl⟩
theorem lM_unlikeBits {i j : Nat} (hT : TrM S n t) (hi : i < n) (hj : j < n) :
    ∀ (m k : Nat), k + m = 8 → Ev (d + 1) mX11_unlikeBits 5 [some (vR 11 0), some (vI (nI i)), some (vI (nI j)), some (vI (nI (fb_ct (fun w => t_hi t w j ^^ t_hi t w i) k))), some (vI (nI k))] [] S (fun r S' => ∃ v, r = some (vI v) ∧ v = nI (t_un t i j) ∧ S' = S) := by
  intro m
  induction m with
  | zero =>
    intro k hk
    have e : k = 8 := by omega
    subst e
    exact bkX11_unlikeBits_5 (fun _ => bkX11_unlikeBits_46 ⟨_, rfl, rfl, rfl⟩) (fun h => absurd (by decide) h)
  | succ m ih =>
    intro k hk
    refine bkX11_unlikeBits_5 (fun h => absurd h (nl_ (b := 8) (by omega) (by omega))) (fun _ => ?_)
    refine bkX11_unlikeBits_12 (kM_isHigh hT (by omega) hi) ?_
    rintro _ S ⟨rfl, rfl⟩
    refine bkX11_unlikeBits_20 (kM_isHigh hT (by omega) hj) ?_
    rintro _ S ⟨rfl, rfl⟩
    have key : ∀ b : Bool, b = (t_hi t k j ^^ t_hi t k i) → Ev (d + 1) mX11_unlikeBits 35 [some (vR 11 0), some (vI (nI i)), some (vI (nI j)), some (vI (nI (fb_ct (fun w => t_hi t w j ^^ t_hi t w i) k))), some (vI (nI k))] [vI (bi_ b), vI (nI (fb_ct (fun w => t_hi t w j ^^ t_hi t w i) k))] S (fun r S' => ∃ v, r = some (vI v) ∧ v = nI (t_un t i j) ∧ S' = S) := by
      intro b hb
      refine bkX11_unlikeBits_35 kM_flag ?_
      rintro _ S ⟨rfl, rfl⟩
      refine bkX11_unlikeBits_38 ?_
      rw [hb, ct_bi (fun w => t_hi t w j ^^ t_hi t w i) k, nI_1]
      exact ih (k + 1) (by omega)
    refine bkX11_unlikeBits_27 (fun h => bkX11_unlikeBits_34 (key false ?_)) (fun h => bkX11_unlikeBits_30 (key true ?_)) <;> rw [bi_inj] at h
    · rw [h]; simp
    · revert h; cases t_hi t k i <;> cases t_hi t k j <;> simp
theorem kM_unlikeBits {i j : Nat} (hT : TrM S n t) (hi : i < n) (hj : j < n) : Ci (d + 1) mX11_unlikeBits [vR 11 0, vI (nI i), vI (nI j)] S (fun v S' => v = nI (t_un t i j) ∧ S' = S) := by
  refine cxX11_unlikeBits ?_
  exact bkX11_unlikeBits_0 (lM_unlikeBits hT hi hj 8 0 (by omega))
theorem lM_edgesBy {x2 : Int32} (hT : TrM S n t) (hk : 0 < k) (hk4 : k ≤ 400) :
    ∀ (m i a : Nat), n ≤ i + m → i ≤ 400 → Ev (d + 2) mX11_edgesBy 5 [some (vR 11 0), some (vI (nI k)), some (vI x2), some (vI (nI a)), some (vI (nI i))] [] S (fun r S' => ∃ v, r = some (vI v) ∧ v = nI (s_ek n k t m i a) ∧ S' = S) := by
  have h1 := hT.1
  have h2 := hT.2.1
  intro m
  induction m with
  | zero =>
    intro i a hm hi
    exact bkX11_edgesBy_5 (fun _ => bkX11_edgesBy_38 ⟨_, rfl, rfl, rfl⟩) (fun h => absurd (by rw [h1, nI_add]; exact nI_le (by omega) (by omega)) h)
  | succ m ih =>
    intro i a hm hi
    rw [s_ek_s]
    refine bkX11_edgesBy_5 (fun h => ?_) (fun h => ?_) <;> rw [h1, nI_add, nI_leI (by omega) (by omega)] at h
    · rw [if_neg (by omega)]
      exact bkX11_edgesBy_38 ⟨_, rfl, rfl, rfl⟩
    · rw [if_pos (by omega)]
      refine bkX11_edgesBy_16 (by rw [nI_add]; exact kM_unlikeBits hT (by omega) (by omega)) ?_
      rintro _ S ⟨rfl, rfl⟩
      refine bkX11_edgesBy_27 ?_
      rw [nI_add, nI_add]
      exact ih (i + k) _ (by omega) (by omega)
theorem kM_edgesBy (hT : TrM S n t) (hk : 0 < k) (hk4 : k ≤ 400) (hf : f ≤ 400) : Ci (d + 2) mX11_edgesBy [vR 11 0, vI (nI k), vI (nI f)] S (fun v S' => v = s_E n t k f ∧ S' = S) := by
  refine cxX11_edgesBy ?_
  exact bkX11_edgesBy_0 (lM_edgesBy hT hk hk4 n f 0 (by omega) hf)
theorem lM_seen {x2 z : Int32} {Q : Option av_T → hs_T → Prop} (hT : TrM S n t) (hk : 0 < k) (hk4 : k ≤ 400) :
    ∀ (m i a : Nat), n ≤ i + m → i ≤ 800 → (∀ x5, Ev (d + 3) mX11_seen 66 [some (vR 11 0), some (vI (nI k)), some (vI x2), some (vI z), some (vI (nI (s_cn n k m i a))), some (vI x5)] [] S Q) → Ev (d + 3) mX11_seen 45 [some (vR 11 0), some (vI (nI k)), some (vI x2), some (vI z), some (vI (nI a)), some (vI (nI i))] [] S Q := by
  have h1 := hT.1
  have h2 := hT.2.1
  intro m
  induction m with
  | zero =>
    intro i a hm hi hQ
    exact bkX11_seen_45 (fun _ => hQ _) (fun h => absurd (by rw [h1]; exact nI_le (by omega) (by omega)) h)
  | succ m ih =>
    intro i a hm hi hQ
    rw [s_cn_s] at hQ
    refine bkX11_seen_45 (fun h => ?_) (fun h => ?_) <;> rw [h1, nI_leI (by omega) (by omega)] at h
    · rw [if_neg (by omega)] at hQ
      exact hQ _
    · rw [if_pos (by omega)] at hQ
      refine bkX11_seen_54 ?_
      rw [nI_add, nI_1]
      exact ih (i + k) (a + 1) (by omega) (by omega) hQ
theorem kM_seen {x y z : Int32} (hT : TrM S n t) : Ci (d + 3) mX11_seen [vR 11 0, vI x, vI y, vI z] S (fun v S' => v = sp_seen n t x y z ∧ S' = S) := by
  have h1 := hT.1
  have h2 := hT.2.1
  refine cxX11_seen ?_
  refine bkX11_seen_0 (kM_inI (lo := 1) (hi := 400) rfl rfl) ?_
  rintro _ S ⟨rfl, rfl⟩
  cases hx : inR x 1 400
  · exact bkX11_seen_9 (fun _ => bkX11_seen_37 ⟨_, rfl, by simp [sp_seen, hx], rfl⟩) (fun h => absurd rfl h)
  refine bkX11_seen_9 (fun h => absurd h (by decide)) (fun _ => ?_)
  obtain ⟨k, hk1, hk2, rfl⟩ := inR_get1 (by omega) hx
  refine bkX11_seen_12 (kM_inI (lo := 0) (hi := (nI k).toInt - 1) rfl (by rw [Int32.toInt_toInt64, nI_toInt (by omega)]; exact pk_sub_toInt (b := 1) (by omega) (by omega))) ?_
  rintro _ S ⟨rfl, rfl⟩
  cases hy : inR y 0 ((nI k).toInt - 1)
  · exact bkX11_seen_22 (fun _ => bkX11_seen_37 ⟨_, rfl, by simp [sp_seen, hy], rfl⟩) (fun h => absurd rfl h)
  refine bkX11_seen_22 (fun h => absurd h (by decide)) (fun _ => ?_)
  refine bkX11_seen_25 (kM_inI (lo := 0) (hi := 2) rfl rfl) ?_
  rintro _ S ⟨rfl, rfl⟩
  cases hz : inR z 0 2
  · exact bkX11_seen_34 (fun h => absurd rfl h) (fun _ => bkX11_seen_37 ⟨_, rfl, by simp [sp_seen, hz], rfl⟩)
  refine bkX11_seen_34 (fun _ => ?_) (fun h => absurd h (by decide))
  rw [sp_seen, hx, hy, hz]
  obtain ⟨f, hf, rfl⟩ := inR_get hy
  rw [nI_toInt (by omega)] at hf
  rw [nI_tn (by omega), nI_tn (by omega)]
  simp only [Bool.and_self, if_true]
  refine bkX11_seen_39 ?_
  refine lM_seen (k := k) hT (by omega) (by omega) n f 0 (by omega) (by omega) (fun x5 => ?_)
  rw [s_cn_v (by omega) n f 0 (by omega), Nat.zero_add]
  refine bkX11_seen_66 (kM_edgesBy hT (by omega) (by omega) (by omega)) ?_
  rintro _ S ⟨rfl, rfl⟩
  refine bkX11_seen_72 (fun a0 => ?_) (fun a => bkX11_seen_78 (bkX11_seen_102 ⟨_, rfl, ?_, rfl⟩))
  · rw [if_neg a0]
    refine bkX11_seen_83 (fun a1 => ?_) (fun a => bkX11_seen_88 (bkX11_seen_102 ⟨_, rfl, by rw [if_pos a], rfl⟩))
    rw [if_neg a1]
    refine bkX11_seen_93 (kM_edgesBy (k := 1) (f := 0) hT (by omega) (by omega) (by omega)) ?_
    rintro _ S ⟨rfl, rfl⟩
    exact bkX11_seen_99 (bkX11_seen_102 ⟨_, rfl, rfl, rfl⟩)
  · rw [if_pos a]; split <;> rfl
end SN
