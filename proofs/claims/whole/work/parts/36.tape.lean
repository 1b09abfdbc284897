/-! ===== the class's tape: bytes and what lies behind them ===== -/
def inC (lo hi v : Nat) : Bool := decide (lo ≤ v ∧ v ≤ hi)
/-- the first byte from i on that is not between lo and hi; n if there is none -/
def t_ba (b : Nat → Nat) (n lo hi i : Nat) : Nat := s_nx (fun k => !inC lo hi (b k)) (n - i) i
def t_bt (b : Nat → Nat) (n i : Nat) : Nat := max (i + 1) (max (t_ba b n 97 122 i) (t_ba b n 48 57 i))
def t_dv (b : Nat → Nat) (a : Nat) : Nat → Nat
  | 0 => 0
  | k + 1 => t_dv b a k * 10 + (b (a + k) - 48)
theorem t_dv_s (b : Nat → Nat) (a k : Nat) : t_dv b a (k + 1) = t_dv b a k * 10 + (b (a + k) - 48) := rfl
section TA
variable {d : Nat} {S : hs_T} {n i lo hi : Nat} {b : Nat → Nat}
theorem kX7_byteAt (hT : TpX S n b) (hi : i ≤ 800) : Ci d mX7_byteAt [vR 7 0, vI (nI i)] S (fun v S' => v = nI (if i < n then b i else 0) ∧ S' = S) := by
  obtain ⟨h1, h2, h3⟩ := hT
  refine cxX7_byteAt ?_
  refine bkX7_byteAt_0 (fun h => absurd h (nI_pos (by omega))) (fun _ => ?_)
  refine bkX7_byteAt_4 (fun h => ?_) (fun h => ?_) <;> rw [h1, nI_leI (by omega) (by omega)] at h
  · exact bkX7_byteAt_21 (bkX7_byteAt_22 ⟨_, rfl, by rw [if_neg (by omega)]; rfl, rfl⟩)
  · refine bkX7_byteAt_12 (vp_lt (by omega) (by omega)) (bkX7_byteAt_22 ⟨_, rfl, ?_, rfl⟩)
    rw [if_pos (by omega), nI_clamp (by omega)]; exact (h3 i (by omega)).1
theorem lX7_behindAll {x3 : Int32} (hT : TpX S n b) (hlo : lo ≤ 255) (hhi : hi ≤ 255) :
    ∀ (m i : Nat), i + m = n → Ev (d + 1) mX7_behindAll 3 [some (vR 7 0), some (vI (nI lo)), some (vI (nI hi)), some (vI x3), some (vI (nI i))] [] S (fun r S' => ∃ v, r = some (vI v) ∧ v = nI (s_nx (fun k => !inC lo hi (b k)) m i) ∧ S' = S) := by
  have h1 := hT.1
  have h2 := hT.2.1
  intro m
  induction m with
  | zero =>
    intro i hi2
    refine bkX7_behindAll_3 (fun _ => bkX7_behindAll_41 ⟨_, rfl, ?_, rfl⟩) (fun h => absurd (by rw [h1]; exact nI_le (by omega) (by omega)) h)
    rw [h1]; show nI n = nI i; congr 1; omega
  | succ m ih =>
    intro i hi2
    have hb := (hT.2.2 i (by omega)).2
    rw [s_nx_s]
    refine bkX7_behindAll_3 (fun h => absurd h (by rw [h1]; exact nl_ (by omega) (by omega))) (fun _ => ?_)
    refine bkX7_behindAll_12 (kX7_byteAt hT (by omega)) ?_
    rintro _ S ⟨rfl, rfl⟩
    rw [if_pos (show i < n by omega)]
    refine bkX7_behindAll_18 (fun h => ?_) (fun h => ?_) <;> rw [nI_ltI (by omega) (by omega)] at h
    · have e : inC lo hi (b i) = false := decide_eq_false (by omega)
      exact bkX7_behindAll_32 ⟨_, rfl, by rw [e]; rfl, rfl⟩
    · refine bkX7_behindAll_22 (kX7_byteAt hT (by omega)) ?_
      rintro _ S ⟨rfl, rfl⟩
      rw [if_pos (show i < n by omega)]
      refine bkX7_behindAll_28 (fun h3 => ?_) (fun h3 => ?_) <;> rw [nI_leI (by omega) (by omega)] at h3
      · have e : inC lo hi (b i) = true := decide_eq_true ⟨by omega, by omega⟩
        refine bkX7_behindAll_35 ?_
        rw [nI_1, e]
        exact ih (i + 1) (by omega)
      · have e : inC lo hi (b i) = false := decide_eq_false (by omega)
        exact bkX7_behindAll_32 ⟨_, rfl, by rw [e]; rfl, rfl⟩
theorem kX7_behindAll (hT : TpX S n b) (hlo : lo ≤ 255) (hhi : hi ≤ 255) (hin : i ≤ n) : Ci (d + 1) mX7_behindAll [vR 7 0, vI (nI lo), vI (nI hi), vI (nI i)] S (fun v S' => v = nI (t_ba b n lo hi i) ∧ S' = S) := by
  refine cxX7_behindAll ?_
  exact bkX7_behindAll_0 (lX7_behindAll hT hlo hhi (n - i) i (by omega))
theorem t_ba_le (b : Nat → Nat) (n lo hi : Nat) {i : Nat} (h : i ≤ n) : i ≤ t_ba b n lo hi i ∧ t_ba b n lo hi i ≤ n := by
  have := s_nx_le (fun k => !inC lo hi (b k)) (n - i) i
  unfold t_ba; omega
theorem mxn_ {a c : Nat} (ha : a < 2 ^ 31) (hc : c < 2 ^ 31) : (if nI a < nI c then nI c else nI a) = nI (max a c) := by
  split
  · rename_i h; rw [nI_ltI ha hc] at h; rw [Nat.max_eq_right (by omega)]
  · rename_i h; rw [nI_ltI ha hc] at h; rw [Nat.max_eq_left (by omega)]
theorem kX7_behindToken (hT : TpX S n b) (hin : i < n) : Ci (d + 2) mX7_behindToken [vR 7 0, vI (nI i)] S (fun v S' => v = nI (t_bt b n i) ∧ S' = S) := by
  have h2 := hT.2.1
  have l1 := t_ba_le b n 97 122 (i := i) (by omega)
  have l2 := t_ba_le b n 48 57 (i := i) (by omega)
  refine cxX7_behindToken ?_
  refine bkX7_behindToken_0 (kX7_behindAll (lo := 97) (hi := 122) hT (by omega) (by omega) (by omega)) ?_
  rintro _ S ⟨rfl, rfl⟩
  refine bkX7_behindToken_12 (kX7_behindAll (lo := 48) (hi := 57) hT (by omega) (by omega) (by omega)) ?_
  rintro _ S ⟨rfl, rfl⟩
  refine bkX7_behindToken_21 ⟨_, rfl, ?_, rfl⟩
  rw [mxn_ (by omega) (by omega), nI_1, mxn_ (by omega) (by omega)]
  rfl
theorem lX7_valueBetween {a z : Nat} (hT : TpX S n b) (hz : z ≤ n) (hd : ∀ k, a ≤ k → k < z → 48 ≤ b k) :
    ∀ (m k : Nat), a + k + m = z → Ev (d + 1) mX7_valueBetween 5 [some (vR 7 0), some (vI (nI a)), some (vI (nI z)), some (vI (nI (t_dv b a k))), some (vI (nI (a + k)))] [] S (fun r S' => ∃ v, r = some (vI v) ∧ v = nI (t_dv b a (z - a)) ∧ S' = S) := by
  have h2 := hT.2.1
  intro m
  induction m with
  | zero =>
    intro k hk
    refine bkX7_valueBetween_5 (fun _ => bkX7_valueBetween_32 ⟨_, rfl, ?_, rfl⟩) (fun h => absurd (nI_le (by omega) (by omega)) h)
    rw [show z - a = k by omega]
  | succ m ih =>
    intro k hk
    have h48 := hd (a + k) (by omega) (by omega)
    refine bkX7_valueBetween_5 (fun h => absurd h (nl_ (by omega) (by omega))) (fun _ => ?_)
    refine bkX7_valueBetween_11 (kX7_byteAt hT (by omega)) ?_
    rintro _ S ⟨rfl, rfl⟩
    rw [if_pos (show a + k < n by omega)]
    refine bkX7_valueBetween_21 ?_
    have e : nI (t_dv b a k) * 10 + nI (b (a + k)) - 48 = nI (t_dv b a (k + 1)) := by
      rw [show (10 : Int32) = nI 10 from rfl, pk_mul, nI_add, show (48 : Int32) = nI 48 from rfl, pk_sub (by omega), t_dv_s]
      congr 1; omega
    rw [e, nI_1]
    exact ih (k + 1) (by omega)
theorem kX7_valueBetween {a z : Nat} (hT : TpX S n b) (haz : a ≤ z) (hz : z ≤ n) (hd : ∀ k, a ≤ k → k < z → 48 ≤ b k) : Ci (d + 1) mX7_valueBetween [vR 7 0, vI (nI a), vI (nI z)] S (fun v S' => v = nI (t_dv b a (z - a)) ∧ S' = S) := by
  refine cxX7_valueBetween ?_
  exact bkX7_valueBetween_0 (lX7_valueBetween hT hz hd (z - a) 0 (by omega))
end TA
