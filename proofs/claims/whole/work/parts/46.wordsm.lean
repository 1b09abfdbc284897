/-! ===== the reference's look, its words, its token ===== -/
def lkI (b : Nat → Nat) (n p : Nat) : Int32 := if p < n then nI (b p) else -1
def cdw : List Nat := [4, 5, 6, 7, 8, 9, 10, 20, 21, 22, 23, 24, 25, 26]
theorem kw_uni : ∀ j, j < 14 → ∀ j', j' < 14 → (kw j).length = (kw j').length → (∀ k, k < 5 → k < (kw j).length → (kw j).getD k 0 = (kw j').getD k 0) → j = j' := by decide +kernel
theorem cdw_uni : ∀ j, j < 14 → ∀ j', j' < 14 → cdw.getD j 0 = cdw.getD j' 0 → j = j' := by decide +kernel
theorem cdw_ne : ∀ j, j < 14 → cdw.getD j 0 ≠ 3 := by decide +kernel
theorem t_sp_uni {b : Nat → Nat} {i z j j' : Nat} (hj : j < 14) (hj' : j' < 14) (h : t_sp b i z (kw j) = true) (h' : t_sp b i z (kw j') = true) : j = j' := by
  have h := of_decide_eq_true h
  have h' := of_decide_eq_true h'
  refine kw_uni j hj j' hj' (by omega) (fun k _ hk => ?_)
  rw [← h.2 k hk, ← h'.2 k (by omega)]
theorem t_nm_cases (b : Nat → Nat) (i z : Nat) : (∃ j, j < 14 ∧ t_sp b i z (kw j) = true ∧ t_nm b i z = cdw.getD j 0) ∨ ((∀ j, j < 14 → ¬ t_sp b i z (kw j) = true) ∧ t_nm b i z = 3) := by
  unfold t_nm
  by_cases h0 : t_sp b i z (kw 0) = true
  · exact Or.inl ⟨0, by omega, h0, by rw [if_pos h0]; rfl⟩
  rw [if_neg h0]
  by_cases h1 : t_sp b i z (kw 1) = true
  · exact Or.inl ⟨1, by omega, h1, by rw [if_pos h1]; rfl⟩
  rw [if_neg h1]
  by_cases h2 : t_sp b i z (kw 2) = true
  · exact Or.inl ⟨2, by omega, h2, by rw [if_pos h2]; rfl⟩
  rw [if_neg h2]
  by_cases h3 : t_sp b i z (kw 3) = true
  · exact Or.inl ⟨3, by omega, h3, by rw [if_pos h3]; rfl⟩
  rw [if_neg h3]
  by_cases h4 : t_sp b i z (kw 4) = true
  · exact Or.inl ⟨4, by omega, h4, by rw [if_pos h4]; rfl⟩
  rw [if_neg h4]
  by_cases h5 : t_sp b i z (kw 5) = true
  · exact Or.inl ⟨5, by omega, h5, by rw [if_pos h5]; rfl⟩
  rw [if_neg h5]
  by_cases h6 : t_sp b i z (kw 6) = true
  · exact Or.inl ⟨6, by omega, h6, by rw [if_pos h6]; rfl⟩
  rw [if_neg h6]
  unfold t_tr
  by_cases h7 : t_sp b i z (kw 7) = true
  · exact Or.inl ⟨7, by omega, h7, by rw [if_pos h7]; rfl⟩
  rw [if_neg h7]
  by_cases h8 : t_sp b i z (kw 8) = true
  · exact Or.inl ⟨8, by omega, h8, by rw [if_pos h8]; rfl⟩
  rw [if_neg h8]
  by_cases h9 : t_sp b i z (kw 9) = true
  · exact Or.inl ⟨9, by omega, h9, by rw [if_pos h9]; rfl⟩
  rw [if_neg h9]
  by_cases h10 : t_sp b i z (kw 10) = true
  · exact Or.inl ⟨10, by omega, h10, by rw [if_pos h10]; rfl⟩
  rw [if_neg h10]
  by_cases h11 : t_sp b i z (kw 11) = true
  · exact Or.inl ⟨11, by omega, h11, by rw [if_pos h11]; rfl⟩
  rw [if_neg h11]
  by_cases h12 : t_sp b i z (kw 12) = true
  · exact Or.inl ⟨12, by omega, h12, by rw [if_pos h12]; rfl⟩
  rw [if_neg h12]
  by_cases h13 : t_sp b i z (kw 13) = true
  · exact Or.inl ⟨13, by omega, h13, by rw [if_pos h13]; rfl⟩
  rw [if_neg h13]
  refine Or.inr ⟨fun j hj => ?_, rfl⟩
  match j, hj with
  | 0, _ => exact h0
  | 1, _ => exact h1
  | 2, _ => exact h2
  | 3, _ => exact h3
  | 4, _ => exact h4
  | 5, _ => exact h5
  | 6, _ => exact h6
  | 7, _ => exact h7
  | 8, _ => exact h8
  | 9, _ => exact h9
  | 10, _ => exact h10
  | 11, _ => exact h11
  | 12, _ => exact h12
  | 13, _ => exact h13
  | j + 14, hj => omega
theorem t_nm_iff {b : Nat → Nat} {i z j : Nat} (hj : j < 14) : t_sp b i z (kw j) = true ↔ t_nm b i z = cdw.getD j 0 := by
  rcases t_nm_cases b i z with ⟨j', h1, h2, h3⟩ | ⟨h1, h2⟩
  · constructor
    · intro h
      have e := t_sp_uni hj h1 h h2
      subst e; exact h3
    · intro h
      have e := cdw_uni j hj j' h1 (by omega)
      subst e; exact h2
  · constructor
    · intro h; exact absurd h (h1 j hj)
    · intro h; exact absurd (by omega) (cdw_ne j hj)
theorem all2 {P : Nat → Prop} : (∀ k, k < 2 → P k) ↔ P 0 ∧ P 1 := ⟨fun h => ⟨h 0 (by omega), h 1 (by omega)⟩, fun h k hk => match k, hk with
  | 0, _ => h.1
  | 1, _ => h.2⟩
theorem all3 {P : Nat → Prop} : (∀ k, k < 3 → P k) ↔ P 0 ∧ P 1 ∧ P 2 := ⟨fun h => ⟨h 0 (by omega), h 1 (by omega), h 2 (by omega)⟩, fun h k hk => match k, hk with
  | 0, _ => h.1
  | 1, _ => h.2.1
  | 2, _ => h.2.2⟩
theorem all4 {P : Nat → Prop} : (∀ k, k < 4 → P k) ↔ P 0 ∧ P 1 ∧ P 2 ∧ P 3 := ⟨fun h => ⟨h 0 (by omega), h 1 (by omega), h 2 (by omega), h 3 (by omega)⟩, fun h k hk => match k, hk with
  | 0, _ => h.1
  | 1, _ => h.2.1
  | 2, _ => h.2.2.1
  | 3, _ => h.2.2.2⟩
theorem all5 {P : Nat → Prop} : (∀ k, k < 5 → P k) ↔ P 0 ∧ P 1 ∧ P 2 ∧ P 3 ∧ P 4 := ⟨fun h => ⟨h 0 (by omega), h 1 (by omega), h 2 (by omega), h 3 (by omega), h 4 (by omega)⟩, fun h k hk => match k, hk with
  | 0, _ => h.1
  | 1, _ => h.2.1
  | 2, _ => h.2.2.1
  | 3, _ => h.2.2.2.1
  | 4, _ => h.2.2.2.2⟩
section MW
variable {d n i z p : Nat} {S : hs_T} {b : Nat → Nat}
theorem kM_look (hT : TpM S n b) (hp : p ≤ 800) {x : Int32} (hx : x = nI p) : Ci d mX11_look [vR 11 0, vI x] S (fun v S' => v = lkI b n p ∧ S' = S) := by
  subst hx
  obtain ⟨h1, h2, h3⟩ := hT
  refine cxX11_look ?_
  unfold lkI
  refine bkX11_look_0 (fun h => ?_) (fun h => ?_) <;> rw [h1, nI_leI (by omega) (by omega)] at h
  · exact bkX11_look_17 (bkX11_look_18 ⟨_, rfl, by rw [if_neg (by omega)], rfl⟩)
  · refine bkX11_look_8 (vp_lt (by omega) (by omega)) (bkX11_look_18 ⟨_, rfl, ?_, rfl⟩)
    rw [if_pos (by omega), nI_clamp (by omega)]; exact (h3 p (by omega)).1
/-- the token in hand lies from i to z -/
def FZm (S : hs_T) (i z : Nat) : Prop := S.1 11 0 9 = nI z ∧ S.1 11 0 10 = nI i
def isB (b : Nat → Nat) (i z m c0 c1 c2 c3 : Nat) : Bool := decide (z = i + m ∧ b i = c0 ∧ b (i + 1) = c1 ∧ (m < 3 ∨ b (i + 2) = c2) ∧ (m < 4 ∨ b (i + 3) = c3))
theorem kM_is {m c0 c1 c2 c3 : Nat} (hT : TpM S n b) (hF : FZm S i z) (hiz : i ≤ z) (hz : z ≤ n) (hm : 2 ≤ m) (hm5 : m ≤ 5) (h0 : c0 < 256) (h1 : c1 < 256) (h2 : c2 < 256) (h3 : c3 < 256) : Ci (d + 1) mX11_is [vR 11 0, vI (nI m), vI (nI c0), vI (nI c1), vI (nI c2), vI (nI c3)] S (fun v S' => v = bi_ (isB b i z m c0 c1 c2 c3) ∧ S' = S) := by
  have hn := hT.2.1
  obtain ⟨f1, f2⟩ := hF
  refine cxX11_is ?_
  unfold isB
  have no : ¬ (z = i + m ∧ b i = c0 ∧ b (i + 1) = c1 ∧ (m < 3 ∨ b (i + 2) = c2) ∧ (m < 4 ∨ b (i + 3) = c3)) → Ev (d + 1) mX11_is 83 [some (vR 11 0), some (vI (nI m)), some (vI (nI c0)), some (vI (nI c1)), some (vI (nI c2)), some (vI (nI c3))] [] S (fun r S' => ∃ v, r = some (vI v) ∧ v = bi_ (decide (z = i + m ∧ b i = c0 ∧ b (i + 1) = c1 ∧ (m < 3 ∨ b (i + 2) = c2) ∧ (m < 4 ∨ b (i + 3) = c3))) ∧ S' = S) := fun h =>
    bkX11_is_83 (bkX11_is_84 (by decide) ⟨_, rfl, by rw [decide_eq_false h]; rfl, rfl⟩)
  refine bkX11_is_0 (fun h => no ?_) (fun h => ?_) <;> rw [f1, f2, pk_sub hiz, nI_eq (by omega) (by omega)] at h
  · omega
  have lk : ∀ p, p < n → ∀ c, c < 256 → (lkI b n p = nI c ↔ b p = c) := fun p hp c hc => by
    have := (hT.2.2 p hp).2
    rw [lkI, if_pos hp, nI_eq (by omega) (by omega)]
  refine bkX11_is_13 (kM_look hT (p := i) (by omega) f2) ?_
  rintro _ S ⟨rfl, rfl⟩
  refine bkX11_is_21 (fun h => no ?_) (fun h => ?_) <;> rw [lk i (by omega) c0 h0] at h
  · omega
  refine bkX11_is_25 (kM_look hT (p := i + 1) (by omega) (by rw [f2, nI_1])) ?_
  rintro _ S ⟨rfl, rfl⟩
  refine bkX11_is_35 (fun h => no ?_) (fun h => ?_) <;> rw [lk (i + 1) (by omega) c1 h1] at h
  · omega
  have go59 : (m < 3 ∨ b (i + 2) = c2) → Ev (d + 1) mX11_is 59 [some (vR 11 0), some (vI (nI m)), some (vI (nI c0)), some (vI (nI c1)), some (vI (nI c2)), some (vI (nI c3))] [] S (fun r S' => ∃ v, r = some (vI v) ∧ v = bi_ (decide (z = i + m ∧ b i = c0 ∧ b (i + 1) = c1 ∧ (m < 3 ∨ b (i + 2) = c2) ∧ (m < 4 ∨ b (i + 3) = c3))) ∧ S' = S) := by
    intro h2'
    have yes : (m < 4 ∨ b (i + 3) = c3) → Ev (d + 1) mX11_is 79 [some (vR 11 0), some (vI (nI m)), some (vI (nI c0)), some (vI (nI c1)), some (vI (nI c2)), some (vI (nI c3))] [] S (fun r S' => ∃ v, r = some (vI v) ∧ v = bi_ (decide (z = i + m ∧ b i = c0 ∧ b (i + 1) = c1 ∧ (m < 3 ∨ b (i + 2) = c2) ∧ (m < 4 ∨ b (i + 3) = c3))) ∧ S' = S) := fun h3' =>
      bkX11_is_79 (bkX11_is_84 (by decide) ⟨_, rfl, by rw [decide_eq_true ⟨by omega, by omega, by omega, h2', h3'⟩]; rfl, rfl⟩)
    refine bkX11_is_59 (fun h4 => yes ?_) (fun h4 => ?_) <;> rw [show (4 : Int32) = nI 4 from rfl, nI_ltI (by omega) (by omega)] at h4
    · omega
    refine bkX11_is_64 (kM_look hT (p := i + 3) (by omega) (by rw [f2, show (3 : Int32) = nI 3 from rfl, nI_add])) ?_
    rintro _ S ⟨rfl, rfl⟩
    refine bkX11_is_74 (fun h5 => no ?_) (fun h5 => yes ?_) <;> rw [lk (i + 3) (by omega) c3 h3] at h5
    · omega
    · omega
  refine bkX11_is_39 (fun h4 => go59 ?_) (fun h4 => ?_) <;> rw [show (3 : Int32) = nI 3 from rfl, nI_ltI (by omega) (by omega)] at h4
  · omega
  refine bkX11_is_44 (kM_look hT (p := i + 2) (by omega) (by rw [f2, show (2 : Int32) = nI 2 from rfl, nI_add])) ?_
  rintro _ S ⟨rfl, rfl⟩
  refine bkX11_is_54 (fun h5 => no ?_) (fun h5 => go59 ?_) <;> rw [lk (i + 2) (by omega) c2 h2] at h5
  · omega
  · omega
theorem isB_2 (b : Nat → Nat) (i z c0 c1 : Nat) : isB b i z 2 c0 c1 0 0 = t_sp b i z [c0, c1] := decide_eq_decide.mpr (by
  show _ ↔ z = i + 2 ∧ ∀ k, k < 2 → b (i + k) = [c0, c1].getD k 0
  rw [all2]; simp)
theorem isB_3 (b : Nat → Nat) (i z c0 c1 c2 : Nat) : isB b i z 3 c0 c1 c2 0 = t_sp b i z [c0, c1, c2] := decide_eq_decide.mpr (by
  show _ ↔ z = i + 3 ∧ ∀ k, k < 3 → b (i + k) = [c0, c1, c2].getD k 0
  rw [all3]; simp)
theorem isB_4 (b : Nat → Nat) (i z c0 c1 c2 c3 : Nat) : isB b i z 4 c0 c1 c2 c3 = t_sp b i z [c0, c1, c2, c3] := decide_eq_decide.mpr (by
  show _ ↔ z = i + 4 ∧ ∀ k, k < 4 → b (i + k) = [c0, c1, c2, c3].getD k 0
  rw [all4]; simp)
theorem isB_5 (b : Nat → Nat) (i z c0 c1 c2 c3 c4 : Nat) : (isB b i z 5 c0 c1 c2 c3 && decide (b (i + 4) = c4)) = t_sp b i z [c0, c1, c2, c3, c4] := by
  unfold isB
  rw [← Bool.decide_and]
  refine decide_eq_decide.mpr ?_
  show _ ↔ z = i + 5 ∧ ∀ k, k < 5 → b (i + k) = [c0, c1, c2, c3, c4].getD k 0
  rw [all5]
  simp
  omega
theorem lk4 {c : Nat} (hT : TpM S n b) (hz : z ≤ n) (h : z = i + 5) (hc : c < 256) : lkI b n (i + 4) = nI c ↔ b (i + 4) = c := by
  have := (hT.2.2 (i + 4) (by omega)).2
  rw [lkI, if_pos (by omega), nI_eq (by omega) (by omega)]
theorem isB_len {m c0 c1 c2 c3 : Nat} (h : isB b i z m c0 c1 c2 c3 = true) : z = i + m := (of_decide_eq_true h).1
theorem kM_termNow (hT : TpM S n b) (hF : FZm S i z) (hiz : i ≤ z) (hz : z ≤ n) : Ci (d + 2) mX11_termNow [vR 11 0] S (fun v S' => v = (if 20 ≤ t_nm b i z ∧ t_nm b i z ≤ 26 then nI (t_nm b i z - 20) else -4) ∧ S' = S) := by
  have hn := hT.2.1
  have hiff : ∀ {j : Nat}, j < 14 → (t_sp b i z (kw j) = true ↔ t_nm b i z = cdw.getD j 0) := fun hj => t_nm_iff hj
  refine cxX11_termNow ?_
  refine bkX11_termNow_0 (kM_is (m := 4) (c0 := 104) (c1 := 105) (c2 := 103) (c3 := 104) hT hF hiz hz (by omega) (by omega) (by omega) (by omega) (by omega) (by omega)) ?_
  rintro _ S ⟨rfl, rfl⟩
  have i7 := hiff (j := 7) (by omega)
  rw [show kw 7 = [104, 105, 103, 104] from rfl, ← isB_4] at i7
  cases hB7 : isB b i z 4 104 105 103 104
  case true =>
    have e := i7.mp hB7
    have e : t_nm b i z = 20 := e
    refine bkX11_termNow_13 (fun h => absurd h (by decide)) (fun _ => bkX11_termNow_16 (⟨_, rfl, ?_, rfl⟩))
    rw [e]; rfl
  rw [hB7] at i7
  have n7 : ¬ t_nm b i z = 20 := fun h => absurd (i7.mpr h) (by decide)
  refine bkX11_termNow_13 (fun _ => ?_) (fun h => absurd rfl h)
  refine bkX11_termNow_18 (kM_is (m := 3) (c0 := 108) (c1 := 111) (c2 := 119) (c3 := 0) hT hF hiz hz (by omega) (by omega) (by omega) (by omega) (by omega) (by omega)) ?_
  rintro _ S ⟨rfl, rfl⟩
  have i8 := hiff (j := 8) (by omega)
  rw [show kw 8 = [108, 111, 119] from rfl, ← isB_3] at i8
  cases hB8 : isB b i z 3 108 111 119 0
  case true =>
    have e := i8.mp hB8
    have e : t_nm b i z = 21 := e
    refine bkX11_termNow_30 (fun h => absurd h (by decide)) (fun _ => bkX11_termNow_33 (⟨_, rfl, ?_, rfl⟩))
    rw [e]; rfl
  rw [hB8] at i8
  have n8 : ¬ t_nm b i z = 21 := fun h => absurd (i8.mpr h) (by decide)
  refine bkX11_termNow_30 (fun _ => ?_) (fun h => absurd rfl h)
  refine bkX11_termNow_35 (kM_is (m := 4) (c0 := 114) (c1 := 105) (c2 := 115) (c3 := 101) hT hF hiz hz (by omega) (by omega) (by omega) (by omega) (by omega) (by omega)) ?_
  rintro _ S ⟨rfl, rfl⟩
  have i9 := hiff (j := 9) (by omega)
  rw [show kw 9 = [114, 105, 115, 101] from rfl, ← isB_4] at i9
  cases hB9 : isB b i z 4 114 105 115 101
  case true =>
    have e := i9.mp hB9
    have e : t_nm b i z = 22 := e
    refine bkX11_termNow_48 (fun h => absurd h (by decide)) (fun _ => bkX11_termNow_51 (⟨_, rfl, ?_, rfl⟩))
    rw [e]; rfl
  rw [hB9] at i9
  have n9 : ¬ t_nm b i z = 22 := fun h => absurd (i9.mpr h) (by decide)
  refine bkX11_termNow_48 (fun _ => ?_) (fun h => absurd rfl h)
  refine bkX11_termNow_53 (kM_is (m := 4) (c0 := 102) (c1 := 97) (c2 := 108) (c3 := 108) hT hF hiz hz (by omega) (by omega) (by omega) (by omega) (by omega) (by omega)) ?_
  rintro _ S ⟨rfl, rfl⟩
  have i10 := hiff (j := 10) (by omega)
  rw [show kw 10 = [102, 97, 108, 108] from rfl, ← isB_4] at i10
  cases hB10 : isB b i z 4 102 97 108 108
  case true =>
    have e := i10.mp hB10
    have e : t_nm b i z = 23 := e
    refine bkX11_termNow_66 (fun h => absurd h (by decide)) (fun _ => bkX11_termNow_69 (⟨_, rfl, ?_, rfl⟩))
    rw [e]; rfl
  rw [hB10] at i10
  have n10 : ¬ t_nm b i z = 23 := fun h => absurd (i10.mpr h) (by decide)
  refine bkX11_termNow_66 (fun _ => ?_) (fun h => absurd rfl h)
  refine bkX11_termNow_71 (kM_is (m := 2) (c0 := 105) (c1 := 115) (c2 := 0) (c3 := 0) hT hF hiz hz (by omega) (by omega) (by omega) (by omega) (by omega) (by omega)) ?_
  rintro _ S ⟨rfl, rfl⟩
  have i11 := hiff (j := 11) (by omega)
  rw [show kw 11 = [105, 115] from rfl, ← isB_2] at i11
  cases hB11 : isB b i z 2 105 115 0 0
  case true =>
    have e := i11.mp hB11
    have e : t_nm b i z = 24 := e
    refine bkX11_termNow_82 (fun h => absurd h (by decide)) (fun _ => bkX11_termNow_85 (⟨_, rfl, ?_, rfl⟩))
    rw [e]; rfl
  rw [hB11] at i11
  have n11 : ¬ t_nm b i z = 24 := fun h => absurd (i11.mpr h) (by decide)
  refine bkX11_termNow_82 (fun _ => ?_) (fun h => absurd rfl h)
  refine bkX11_termNow_87 (kM_is (m := 3) (c0 := 110) (c1 := 111) (c2 := 116) (c3 := 0) hT hF hiz hz (by omega) (by omega) (by omega) (by omega) (by omega) (by omega)) ?_
  rintro _ S ⟨rfl, rfl⟩
  have i12 := hiff (j := 12) (by omega)
  rw [show kw 12 = [110, 111, 116] from rfl, ← isB_3] at i12
  cases hB12 : isB b i z 3 110 111 116 0
  case true =>
    have e := i12.mp hB12
    have e : t_nm b i z = 25 := e
    refine bkX11_termNow_99 (fun h => absurd h (by decide)) (fun _ => bkX11_termNow_102 (⟨_, rfl, ?_, rfl⟩))
    rw [e]; rfl
  rw [hB12] at i12
  have n12 : ¬ t_nm b i z = 25 := fun h => absurd (i12.mpr h) (by decide)
  refine bkX11_termNow_99 (fun _ => ?_) (fun h => absurd rfl h)
  refine bkX11_termNow_104 (kM_is (m := 5) (c0 := 97) (c1 := 102) (c2 := 116) (c3 := 101) hT hF hiz hz (by omega) (by omega) (by omega) (by omega) (by omega) (by omega)) ?_
  rintro _ S ⟨rfl, rfl⟩
  have i13 := hiff (j := 13) (by omega)
  rw [show kw 13 = [97, 102, 116, 101, 114] from rfl, ← isB_5] at i13
  have go13 : ¬ t_nm b i z = 26 → Ev (d + 2) mX11_termNow 140 [some (vR 11 0)] [] S (fun r S' => ∃ v, r = some (vI v) ∧ v = (if 20 ≤ t_nm b i z ∧ t_nm b i z ≤ 26 then nI (t_nm b i z - 20) else -4) ∧ S' = S) := by
    intro n13
    refine bkX11_termNow_140 (bkX11_termNow_142 (⟨_, rfl, ?_, rfl⟩))
    rw [if_neg (by omega)]
  cases hB13 : isB b i z 5 97 102 116 101
  case false =>
    rw [hB13, Bool.false_and] at i13
    exact bkX11_termNow_117 (fun _ => go13 (fun h => absurd (i13.mpr h) (by decide))) (fun h => absurd rfl h)
  rw [hB13, Bool.true_and, decide_eq_true_iff] at i13
  have hl13 := isB_len hB13
  refine bkX11_termNow_117 (fun h => absurd h (by decide)) (fun _ => ?_)
  refine bkX11_termNow_120 (kM_look hT (p := i + 4) (by omega) (by rw [hF.2, show (4 : Int32) = nI 4 from rfl, nI_add])) ?_
  rintro _ S ⟨rfl, rfl⟩
  refine bkX11_termNow_130 (fun h => ?_) (fun h => ?_) <;> rw [show (114 : Int32) = nI 114 from rfl, lk4 hT hz hl13 (by omega), i13] at h
  · exact go13 h
  · have h : t_nm b i z = 26 := h
    refine bkX11_termNow_135 (bkX11_termNow_142 (⟨_, rfl, ?_, rfl⟩))
    rw [h]; rfl
theorem kM_lineNow (hT : TpM S n b) (hF : FZm S i z) (hiz : i ≤ z) (hz : z ≤ n) : Ci (d + 2) mX11_lineNow [vR 11 0] S (fun v S' => v = (if 4 ≤ t_nm b i z ∧ t_nm b i z ≤ 7 then nI (t_nm b i z + 16) else -4) ∧ S' = S) := by
  have hn := hT.2.1
  have hiff : ∀ {j : Nat}, j < 14 → (t_sp b i z (kw j) = true ↔ t_nm b i z = cdw.getD j 0) := fun hj => t_nm_iff hj
  refine cxX11_lineNow ?_
  refine bkX11_lineNow_0 (kM_is (m := 5) (c0 := 115) (c1 := 116) (c2 := 97) (c3 := 116) hT hF hiz hz (by omega) (by omega) (by omega) (by omega) (by omega) (by omega)) ?_
  rintro _ S ⟨rfl, rfl⟩
  have i0 := hiff (j := 0) (by omega)
  rw [show kw 0 = [115, 116, 97, 116, 101] from rfl, ← isB_5] at i0
  have go0 : ¬ t_nm b i z = 4 → Ev (d + 2) mX11_lineNow 34 [some (vR 11 0)] [] S (fun r S' => ∃ v, r = some (vI v) ∧ v = (if 4 ≤ t_nm b i z ∧ t_nm b i z ≤ 7 then nI (t_nm b i z + 16) else -4) ∧ S' = S) := by
    intro n0
    refine bkX11_lineNow_34 (kM_is (m := 4) (c0 := 107) (c1 := 101) (c2 := 101) (c3 := 112) hT hF hiz hz (by omega) (by omega) (by omega) (by omega) (by omega) (by omega)) ?_
    rintro _ S ⟨rfl, rfl⟩
    have i1 := hiff (j := 1) (by omega)
    rw [show kw 1 = [107, 101, 101, 112] from rfl, ← isB_4] at i1
    cases hB1 : isB b i z 4 107 101 101 112
    case true =>
      have e := i1.mp hB1
      have e : t_nm b i z = 5 := e
      refine bkX11_lineNow_47 (fun h => absurd h (by decide)) (fun _ => bkX11_lineNow_50 (⟨_, rfl, ?_, rfl⟩))
      rw [e]; rfl
    rw [hB1] at i1
    have n1 : ¬ t_nm b i z = 5 := fun h => absurd (i1.mpr h) (by decide)
    refine bkX11_lineNow_47 (fun _ => ?_) (fun h => absurd rfl h)
    refine bkX11_lineNow_53 (kM_is (m := 5) (c0 := 100) (c1 := 101) (c2 := 112) (c3 := 116) hT hF hiz hz (by omega) (by omega) (by omega) (by omega) (by omega) (by omega)) ?_
    rintro _ S ⟨rfl, rfl⟩
    have i2 := hiff (j := 2) (by omega)
    rw [show kw 2 = [100, 101, 112, 116, 104] from rfl, ← isB_5] at i2
    have go2 : ¬ t_nm b i z = 6 → Ev (d + 2) mX11_lineNow 87 [some (vR 11 0)] [] S (fun r S' => ∃ v, r = some (vI v) ∧ v = (if 4 ≤ t_nm b i z ∧ t_nm b i z ≤ 7 then nI (t_nm b i z + 16) else -4) ∧ S' = S) := by
      intro n2
      refine bkX11_lineNow_87 (kM_is (m := 5) (c0 := 97) (c1 := 104) (c2 := 101) (c3 := 97) hT hF hiz hz (by omega) (by omega) (by omega) (by omega) (by omega) (by omega)) ?_
      rintro _ S ⟨rfl, rfl⟩
      have i3 := hiff (j := 3) (by omega)
      rw [show kw 3 = [97, 104, 101, 97, 100] from rfl, ← isB_5] at i3
      have go3 : ¬ t_nm b i z = 7 → Ev (d + 2) mX11_lineNow 123 [some (vR 11 0)] [] S (fun r S' => ∃ v, r = some (vI v) ∧ v = (if 4 ≤ t_nm b i z ∧ t_nm b i z ≤ 7 then nI (t_nm b i z + 16) else -4) ∧ S' = S) := by
        intro n3
        refine bkX11_lineNow_123 (bkX11_lineNow_125 (⟨_, rfl, ?_, rfl⟩))
        rw [if_neg (by omega)]
      cases hB3 : isB b i z 5 97 104 101 97
      case false =>
        rw [hB3, Bool.false_and] at i3
        exact bkX11_lineNow_100 (fun _ => go3 (fun h => absurd (i3.mpr h) (by decide))) (fun h => absurd rfl h)
      rw [hB3, Bool.true_and, decide_eq_true_iff] at i3
      have hl3 := isB_len hB3
      refine bkX11_lineNow_100 (fun h => absurd h (by decide)) (fun _ => ?_)
      refine bkX11_lineNow_103 (kM_look hT (p := i + 4) (by omega) (by rw [hF.2, show (4 : Int32) = nI 4 from rfl, nI_add])) ?_
      rintro _ S ⟨rfl, rfl⟩
      refine bkX11_lineNow_113 (fun h => ?_) (fun h => ?_) <;> rw [show (100 : Int32) = nI 100 from rfl, lk4 hT hz hl3 (by omega), i3] at h
      · exact go3 h
      · have h : t_nm b i z = 7 := h
        refine bkX11_lineNow_118 (bkX11_lineNow_125 (⟨_, rfl, ?_, rfl⟩))
        rw [h]; rfl
    cases hB2 : isB b i z 5 100 101 112 116
    case false =>
      rw [hB2, Bool.false_and] at i2
      exact bkX11_lineNow_66 (fun _ => go2 (fun h => absurd (i2.mpr h) (by decide))) (fun h => absurd rfl h)
    rw [hB2, Bool.true_and, decide_eq_true_iff] at i2
    have hl2 := isB_len hB2
    refine bkX11_lineNow_66 (fun h => absurd h (by decide)) (fun _ => ?_)
    refine bkX11_lineNow_69 (kM_look hT (p := i + 4) (by omega) (by rw [hF.2, show (4 : Int32) = nI 4 from rfl, nI_add])) ?_
    rintro _ S ⟨rfl, rfl⟩
    refine bkX11_lineNow_79 (fun h => ?_) (fun h => ?_) <;> rw [show (104 : Int32) = nI 104 from rfl, lk4 hT hz hl2 (by omega), i2] at h
    · exact go2 h
    · have h : t_nm b i z = 6 := h
      refine bkX11_lineNow_84 (⟨_, rfl, ?_, rfl⟩)
      rw [h]; rfl
  cases hB0 : isB b i z 5 115 116 97 116
  case false =>
    rw [hB0, Bool.false_and] at i0
    exact bkX11_lineNow_13 (fun _ => go0 (fun h => absurd (i0.mpr h) (by decide))) (fun h => absurd rfl h)
  rw [hB0, Bool.true_and, decide_eq_true_iff] at i0
  have hl0 := isB_len hB0
  refine bkX11_lineNow_13 (fun h => absurd h (by decide)) (fun _ => ?_)
  refine bkX11_lineNow_16 (kM_look hT (p := i + 4) (by omega) (by rw [hF.2, show (4 : Int32) = nI 4 from rfl, nI_add])) ?_
  rintro _ S ⟨rfl, rfl⟩
  refine bkX11_lineNow_26 (fun h => ?_) (fun h => ?_) <;> rw [show (101 : Int32) = nI 101 from rfl, lk4 hT hz hl0 (by omega), i0] at h
  · exact go0 h
  · have h : t_nm b i z = 4 := h
    refine bkX11_lineNow_31 (⟨_, rfl, ?_, rfl⟩)
    rw [h]; rfl
theorem kM_wordNow (hT : TpM S n b) (hF : FZm S i z) (hiz : i ≤ z) (hz : z ≤ n) : Ci (d + 2) mX11_wordNow [vR 11 0] S (fun v S' => v = (if 8 ≤ t_nm b i z ∧ t_nm b i z ≤ 10 then nI (t_nm b i z + 22) else -4) ∧ S' = S) := by
  have hn := hT.2.1
  have hiff : ∀ {j : Nat}, j < 14 → (t_sp b i z (kw j) = true ↔ t_nm b i z = cdw.getD j 0) := fun hj => t_nm_iff hj
  refine cxX11_wordNow ?_
  refine bkX11_wordNow_0 (kM_is (m := 5) (c0 := 116) (c1 := 105) (c2 := 109) (c3 := 101) hT hF hiz hz (by omega) (by omega) (by omega) (by omega) (by omega) (by omega)) ?_
  rintro _ S ⟨rfl, rfl⟩
  have i4 := hiff (j := 4) (by omega)
  rw [show kw 4 = [116, 105, 109, 101, 115] from rfl, ← isB_5] at i4
  have go4 : ¬ t_nm b i z = 8 → Ev (d + 2) mX11_wordNow 34 [some (vR 11 0)] [] S (fun r S' => ∃ v, r = some (vI v) ∧ v = (if 8 ≤ t_nm b i z ∧ t_nm b i z ≤ 10 then nI (t_nm b i z + 22) else -4) ∧ S' = S) := by
    intro n4
    refine bkX11_wordNow_34 (kM_is (m := 2) (c0 := 103) (c1 := 111) (c2 := 0) (c3 := 0) hT hF hiz hz (by omega) (by omega) (by omega) (by omega) (by omega) (by omega)) ?_
    rintro _ S ⟨rfl, rfl⟩
    have i5 := hiff (j := 5) (by omega)
    rw [show kw 5 = [103, 111] from rfl, ← isB_2] at i5
    cases hB5 : isB b i z 2 103 111 0 0
    case true =>
      have e := i5.mp hB5
      have e : t_nm b i z = 9 := e
      refine bkX11_wordNow_45 (fun h => absurd h (by decide)) (fun _ => bkX11_wordNow_48 (bkX11_wordNow_75 (⟨_, rfl, ?_, rfl⟩)))
      rw [e]; rfl
    rw [hB5] at i5
    have n5 : ¬ t_nm b i z = 9 := fun h => absurd (i5.mpr h) (by decide)
    refine bkX11_wordNow_45 (fun _ => ?_) (fun h => absurd rfl h)
    refine bkX11_wordNow_53 (kM_is (m := 3) (c0 := 104) (c1 := 105) (c2 := 116) (c3 := 0) hT hF hiz hz (by omega) (by omega) (by omega) (by omega) (by omega) (by omega)) ?_
    rintro _ S ⟨rfl, rfl⟩
    have i6 := hiff (j := 6) (by omega)
    rw [show kw 6 = [104, 105, 116] from rfl, ← isB_3] at i6
    cases hB6 : isB b i z 3 104 105 116 0
    case true =>
      have e := i6.mp hB6
      have e : t_nm b i z = 10 := e
      refine bkX11_wordNow_65 (fun h => absurd h (by decide)) (fun _ => bkX11_wordNow_68 (bkX11_wordNow_75 (⟨_, rfl, ?_, rfl⟩)))
      rw [e]; rfl
    rw [hB6] at i6
    have n6 : ¬ t_nm b i z = 10 := fun h => absurd (i6.mpr h) (by decide)
    refine bkX11_wordNow_65 (fun _ => bkX11_wordNow_73 (bkX11_wordNow_75 (⟨_, rfl, ?_, rfl⟩))) (fun h => absurd rfl h)
    rw [if_neg (by omega)]
  cases hB4 : isB b i z 5 116 105 109 101
  case false =>
    rw [hB4, Bool.false_and] at i4
    exact bkX11_wordNow_13 (fun _ => go4 (fun h => absurd (i4.mpr h) (by decide))) (fun h => absurd rfl h)
  rw [hB4, Bool.true_and, decide_eq_true_iff] at i4
  have hl4 := isB_len hB4
  refine bkX11_wordNow_13 (fun h => absurd h (by decide)) (fun _ => ?_)
  refine bkX11_wordNow_16 (kM_look hT (p := i + 4) (by omega) (by rw [hF.2, show (4 : Int32) = nI 4 from rfl, nI_add])) ?_
  rintro _ S ⟨rfl, rfl⟩
  refine bkX11_wordNow_26 (fun h => ?_) (fun h => ?_) <;> rw [show (115 : Int32) = nI 115 from rfl, lk4 hT hz hl4 (by omega), i4] at h
  · exact go4 h
  · have h : t_nm b i z = 8 := h
    refine bkX11_wordNow_31 (⟨_, rfl, ?_, rfl⟩)
    rw [h]; rfl
end MW
