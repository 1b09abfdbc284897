/-! ===== the tokens of a tape: the sequence, and the class's split ===== -/
theorem rd_ (S : hs_T) (k j : Nat) (g : Nat → Int32) (k' j' : Nat) : (sk_ S k j g).1 k' j' = if k' = k ∧ j' = j then g else S.1 k' j' := rfl
theorem up_ (f : Nat → Int32) (k : Nat) (x : Int32) (i : Nat) : upd f k x i = if i = k then x else f i := rfl
/-- where token number k begins; its code; its number -/
def t_po (b : Nat → Nat) (n : Nat) : Nat → Nat
  | 0 => t_ba b n 32 32 0
  | k + 1 => if t_po b n k < n then t_ba b n 32 32 (t_bt b n (t_po b n k)) else n
theorem t_po_s (b : Nat → Nat) (n k : Nat) : t_po b n (k + 1) = if t_po b n k < n then t_ba b n 32 32 (t_bt b n (t_po b n k)) else n := rfl
def t_co (b : Nat → Nat) (n k : Nat) : Nat := if t_po b n k < n then t_tk b n (t_po b n k) else 0
def t_vl (b : Nat → Nat) (n k : Nat) : Nat := if t_co b n k = 2 then t_dv b (t_po b n k) (t_bt b n (t_po b n k) - t_po b n k) else 0
theorem t_po_le (b : Nat → Nat) (n : Nat) : ∀ k, t_po b n k ≤ n
  | 0 => (t_ba_le b n 32 32 (Nat.zero_le n)).2
  | k + 1 => by
    rw [t_po_s]
    split
    · rename_i h
      exact (t_ba_le b n 32 32 (t_bt_le b h).2).2
    · exact Nat.le_refl _
theorem t_po_ge (b : Nat → Nat) (n : Nat) : ∀ k, t_po b n k < n → k ≤ t_po b n k
  | 0, _ => Nat.zero_le _
  | k + 1, h => by
    rw [t_po_s] at h ⊢
    split at h
    · rename_i h1
      rw [if_pos h1]
      have h2 := t_po_ge b n k h1
      have h3 := t_bt_le b h1
      have h4 := t_ba_le b n 32 32 h3.2
      omega
    · omega
theorem t_po_mono (b : Nat → Nat) (n : Nat) (k : Nat) : t_po b n k ≤ t_po b n (k + 1) := by
  rw [t_po_s]
  split
  · rename_i h
    have h3 := t_bt_le b h
    have h4 := t_ba_le b n 32 32 h3.2
    omega
  · exact t_po_le b n k
theorem t_co_end (b : Nat → Nat) {n k : Nat} (h : n ≤ k) : t_co b n k = 0 := by
  unfold t_co
  rw [if_neg]
  intro h2
  have := t_po_ge b n k h2
  omega
theorem t_co_lt {b : Nat → Nat} {n k : Nat} (h : t_co b n k ≠ 0) : t_po b n k < n := by
  unfold t_co at h
  by_cases h2 : t_po b n k < n
  · exact h2
  · rw [if_neg h2] at h; exact absurd rfl h
theorem t_tk_le (b : Nat → Nat) {n i : Nat} (hb : b i < 256) : 1 ≤ t_tk b n i ∧ t_tk b n i < 256 := by
  have := t_nm_le b i (t_bt b n i)
  unfold t_tk
  repeat' split
  all_goals omega
theorem t_ba_no (b : Nat → Nat) (n lo hi i k : Nat) (h1 : i ≤ k) (h2 : k < t_ba b n lo hi i) : lo ≤ b k ∧ b k ≤ hi := by
  have h := s_nx_no (fun k => !inC lo hi (b k)) (n - i) i k h1 h2
  have h3 : inC lo hi (b k) = true := by simpa using h
  exact of_decide_eq_true h3
theorem t_ba_at (b : Nat → Nat) {n i : Nat} (lo hi : Nat) (hi2 : i ≤ n) (h : t_ba b n lo hi i < n) : ¬ (lo ≤ b (t_ba b n lo hi i) ∧ b (t_ba b n lo hi i) ≤ hi) := by
  have h1 := s_nx_ch (fun k => !inC lo hi (b k)) (n - i) i (show s_nx _ (n - i) i < i + (n - i) from by unfold t_ba at h; omega)
  have h3 : inC lo hi (b (t_ba b n lo hi i)) = false := by unfold t_ba; simpa using h1
  exact of_decide_eq_false h3
theorem t_ba_self (b : Nat → Nat) {n lo hi i : Nat} (hi2 : i < n) (h : ¬ (lo ≤ b i ∧ b i ≤ hi)) : t_ba b n lo hi i = i := by
  have h1 := t_ba_le b n lo hi (i := i) (by omega)
  by_cases e : i < t_ba b n lo hi i
  · exact absurd (t_ba_no b n lo hi i i (Nat.le_refl _) e) h
  · omega
theorem t_ba_up (b : Nat → Nat) {n lo hi i : Nat} (hi2 : i < n) (h : lo ≤ b i ∧ b i ≤ hi) : i < t_ba b n lo hi i := by
  have h1 := t_ba_le b n lo hi (i := i) (by omega)
  by_cases e : i < t_ba b n lo hi i
  · exact e
  · have e2 : t_ba b n lo hi i = i := by omega
    have := t_ba_at b (n := n) lo hi (i := i) (by omega) (by omega)
    rw [e2] at this
    exact absurd h this
/-- behind a token of figures, of letters, of another kind -/
theorem t_bt_num (b : Nat → Nat) {n i : Nat} (hi : i < n) (h : 48 ≤ b i ∧ b i ≤ 57) : t_bt b n i = t_ba b n 48 57 i := by
  have h1 := t_ba_self b (lo := 97) (hi := 122) hi (by omega)
  have h2 := t_ba_up b hi h
  unfold t_bt; omega
theorem t_bt_nam (b : Nat → Nat) {n i : Nat} (hi : i < n) (h : 97 ≤ b i ∧ b i ≤ 122) : t_bt b n i = t_ba b n 97 122 i := by
  have h1 := t_ba_self b (lo := 48) (hi := 57) hi (by omega)
  have h2 := t_ba_up b hi h
  unfold t_bt; omega
theorem t_bt_sig (b : Nat → Nat) {n i : Nat} (hi : i < n) (h : ¬ (97 ≤ b i ∧ b i ≤ 122)) (h2 : ¬ (48 ≤ b i ∧ b i ≤ 57)) : t_bt b n i = i + 1 := by
  have h1 := t_ba_self b (lo := 48) (hi := 57) hi h2
  have h3 := t_ba_self b (lo := 97) (hi := 122) hi h
  unfold t_bt; omega
theorem t_tk_2 {b : Nat → Nat} {n i : Nat} (h : t_tk b n i = 2) : (48 ≤ b i ∧ b i ≤ 57) ∧ t_bt b n i - i ≤ 3 := by
  have hn := t_nm_le b i (t_bt b n i)
  unfold t_tk at h
  by_cases h1 : inC 97 122 (b i) = true
  · rw [if_pos h1] at h; omega
  · rw [if_neg h1] at h
    by_cases h2 : inC 48 57 (b i) = true
    · rw [if_pos h2] at h
      by_cases h3 : t_bt b n i - i ≤ 3
      · exact ⟨of_decide_eq_true h2, h3⟩
      · rw [if_neg h3] at h; omega
    · rw [if_neg h2] at h
      split at h <;> omega
theorem t_dv_lt {b : Nat → Nat} {a : Nat} : ∀ k, k ≤ 3 → (∀ q, q < k → b (a + q) ≤ 57) → t_dv b a k ≤ 999
  | 0, _, _ => by simp [t_dv]
  | 1, _, h => by have h0 := h 0 (by omega); simp [t_dv] at *; omega
  | 2, _, h => by have h0 := h 0 (by omega); have h1 := h 1 (by omega); simp [t_dv] at *; omega
  | 3, _, h => by have h0 := h 0 (by omega); have h1 := h 1 (by omega); have h2 := h 2 (by omega); simp [t_dv] at *; omega
theorem t_vl_le (b : Nat → Nat) (n k : Nat) : t_vl b n k ≤ 999 := by
  unfold t_vl
  split
  · rename_i h
    have hl := t_co_lt (b := b) (n := n) (k := k) (by omega)
    unfold t_co at h
    rw [if_pos hl] at h
    have h2 := t_tk_2 h
    refine t_dv_lt _ h2.2 (fun q hq => ?_)
    rw [t_bt_num b hl h2.1] at hq
    exact (t_ba_no b n 48 57 (t_po b n k) (t_po b n k + q) (by omega) (by omega)).2
  · omega
/-- the first c tokens stand in the class's rows -/
def TkX (S : hs_T) (b : Nat → Nat) (n c : Nat) : Prop := S.1 7 0 5 = nI c ∧ c ≤ 401 ∧ ∀ k, k < c → S.1 802 0 k = nI (t_co b n k) ∧ S.1 803 0 k = nI (t_po b n k) ∧ S.1 804 0 k = nI (t_vl b n k)
def fT (S0 S : hs_T) : Prop := S.2 = S0.2 ∧ ∀ k j f, k ≠ 802 → k ≠ 803 → k ≠ 804 → ¬ (k = 7 ∧ f = 5) → S.1 k j f = S0.1 k j f
theorem fT_rf (S : hs_T) : fT S S := ⟨rfl, fun _ _ _ _ _ _ _ => rfl⟩
theorem fT_tr {S S' S'' : hs_T} (h : fT S S') (h2 : fT S' S'') : fT S S'' := ⟨h2.1.trans h.1, fun k j f a b c e => (h2.2 k j f a b c e).trans (h.2 k j f a b c e)⟩
theorem TpX_fT {S S' : hs_T} {n : Nat} {b : Nat → Nat} (h : fT S S') (hT : TpX S n b) : TpX S' n b := by
  refine ⟨?_, hT.2.1, fun i hi => ?_⟩
  · rw [h.2 7 0 1 (by omega) (by omega) (by omega) (by omega)]; exact hT.1
  · rw [h.2 800 0 i (by omega) (by omega) (by omega) (by omega)]; exact hT.2.2 i hi
section SP
variable {d : Nat} {S : hs_T} {n c : Nat} {b : Nat → Nat}
theorem kX7_addToken {x1 x2 x3 : Int32} (hK : TkX S b n c) (hc : c < 401) (e1 : x1 = nI (t_co b n c)) (e2 : x2 = nI (t_po b n c)) (e3 : x3 = nI (t_vl b n c)) : Cv d mX7_addToken [vR 7 0, vI x1, vI x2, vI x3] S (fun S' => TkX S' b n (c + 1) ∧ fT S S') := by
  obtain ⟨h1, h2, h3⟩ := hK
  refine cxX7_addToken ?_
  refine bkX7_addToken_0 (fun h => absurd h (by rw [h1]; exact nl_ (b := 401) hc (by omega))) (fun _ => ?_)
  have ec : (nI c).toNatClampNeg = c := nI_clamp (by omega)
  have hv : vp_in (S.1 7 0 5) 401 := by rw [h1]; exact vp_lt hc (by omega)
  refine bkX7_addToken_12 hv hv hv (bkX7_addToken_52 ⟨rfl, ?_, rfl, ?_⟩)
  · simp only [rd_, Nat.reduceEqDiff, false_and, if_false, h1, ec, and_self, if_true, nI_1]
    refine ⟨by rw [rd_, if_pos ⟨rfl, rfl⟩]; exact pk_us, by omega, fun k hk => ?_⟩
    simp only [rd_, Nat.reduceEqDiff, false_and, if_false, and_self, if_true]
    by_cases e : k = c
    · subst e
      rw [pk_us, pk_us, pk_us]; exact ⟨e1, e2, e3⟩
    · rw [pk_un e, pk_un e, pk_un e]; exact h3 k (by omega)
  · intro k j f k1 k2 k3 k4
    rw [rd_]
    by_cases e : k = 7 ∧ j = 0
    · rw [if_pos e]
      obtain ⟨rfl, rfl⟩ := e
      exact pk_un (by omega)
    · rw [if_neg e, rd_, if_neg (by omega), rd_, if_neg (by omega), rd_, if_neg (by omega)]
/-- the tokens are split: all up to the first that is the end, or none -/
def TkZ (S : hs_T) (b : Nat → Nat) (n : Nat) : Prop := ∃ c, TkX S b n c ∧ ∀ k, (∀ q, q < k → t_co b n q ≠ 0 ∧ t_co b n q ≠ 1) → k < c
theorem lX7_split {S0 : hs_T} : ∀ (m k : Nat) (S : hs_T) (o3 o4 : Option av_T), k + m = 400 → TpX S n b → TkX S b n k → fT S0 S → (∀ q, q < k → t_co b n q ≠ 0 ∧ t_co b n q ≠ 1) →
    Ev (d + 8) mX7_split 17 [some (vR 7 0), some (vI (nI (t_po b n k))), some (vI (nI k)), o3, o4] [] S (fun r S' => r = none ∧ TkZ S' b n ∧ fT S0 S') := by
  intro m
  induction m with
  | zero =>
    intro k S o3 o4 hk hT hK hF hq
    have hn := hT.2.1
    have e0 : t_co b n k = 0 := t_co_end b (by omega)
    have ep : t_po b n k = n := by
      have h1 := t_po_le b n k
      by_cases h2 : t_po b n k < n
      · have := t_po_ge b n k h2; omega
      · omega
    refine bkX7_split_17 (fun _ => ?_) (fun h => absurd (nI_le (a := 400) (b := k) (by omega) (by omega)) h)
    refine bkX7_split_92 (kX7_addToken hK (by omega) (by rw [e0]; rfl) (by rw [hT.1, ep]) (by rw [t_vl, e0]; rfl)) ?_
    rintro S' ⟨h1, h2⟩
    refine bkX7_split_102 ⟨rfl, ⟨k + 1, h1, fun z hz => ?_⟩, fT_tr hF h2⟩
    by_cases hh : z < k + 1
    · exact hh
    · exact absurd e0 (hz k (by omega)).1
  | succ m ih =>
    intro k S o3 o4 hk hT hK hF hq
    have hn := hT.2.1
    refine bkX7_split_17 (fun h => absurd h (nl_ (b := 400) (by omega) (by omega))) (fun _ => ?_)
    have hpo := t_po_le b n k
    refine bkX7_split_24 (fun h => ?_) (fun h => ?_) <;> rw [hT.1, nI_leI (by omega) (by omega)] at h
    · have ep : t_po b n k = n := by omega
      have e0 : t_co b n k = 0 := by rw [t_co, if_neg (by omega)]
      refine bkX7_split_92 (kX7_addToken hK (by omega) (by rw [e0]; rfl) (by rw [hT.1, ep]) (by rw [t_vl, e0]; rfl)) ?_
      rintro S' ⟨h1, h2⟩
      refine bkX7_split_102 ⟨rfl, ⟨k + 1, h1, fun z hz => ?_⟩, fT_tr hF h2⟩
      by_cases hh : z < k + 1
      · exact hh
      · exact absurd e0 (hz k (by omega)).1
    · have hlt : t_po b n k < n := by omega
      have hbt := t_bt_le b hlt
      have eco : t_co b n k = t_tk b n (t_po b n k) := by rw [t_co, if_pos hlt]
      have htk := t_tk_le b (n := n) (hT.2.2 _ hlt).2
      have enx : t_po b n (k + 1) = t_ba b n 32 32 (t_bt b n (t_po b n k)) := by rw [t_po_s, if_pos hlt]
      refine bkX7_split_32 (kX7_behindToken hT hlt) ?_
      rintro _ S ⟨rfl, rfl⟩
      refine bkX7_split_37 (kX7_tokenBetween hT hlt) ?_
      rintro _ S ⟨rfl, rfl⟩
      have go : ∀ x : Int32, x = nI (t_vl b n k) → Ev (d + 8) mX7_split 66 [some (vR 7 0), some (vI (nI (t_po b n k))), some (vI (nI k)), some (vI (nI (t_bt b n (t_po b n k)))), some (vI (nI (t_tk b n (t_po b n k))))] [vI x, vI (nI (t_po b n k)), vI (nI (t_tk b n (t_po b n k))), vR 7 0] S (fun r S' => r = none ∧ TkZ S' b n ∧ fT S0 S') := by
        intro x hx
        refine bkX7_split_66 (kX7_addToken hK (by omega) (by rw [eco]) rfl hx) ?_
        rintro S' ⟨h1, h2⟩
        refine bkX7_split_69 (fun h3 => ?_) (fun h3 => ?_) <;> rw [show (1 : Int32) = nI 1 from rfl, nI_eq (by omega) (by omega)] at h3
        · refine bkX7_split_76 (kX7_behindAll (lo := 32) (hi := 32) (TpX_fT h2 hT) (by omega) (by omega) hbt.2) ?_
          rintro _ S' ⟨rfl, rfl⟩
          refine bkX7_split_85 ?_
          rw [nI_1, ← enx]
          refine ih (k + 1) _ _ _ (by omega) (TpX_fT h2 hT) h1 (fT_tr hF h2) (fun q hq2 => ?_)
          by_cases e : q = k
          · subst e; rw [eco]; exact ⟨by omega, h3⟩
          · exact hq q (by omega)
        · refine bkX7_split_75 ⟨rfl, ⟨k + 1, h1, fun z hz => ?_⟩, fT_tr hF h2⟩
          by_cases hh : z < k + 1
          · exact hh
          · exact absurd (by rw [eco, h3]) (hz k (by omega)).2
      refine bkX7_split_44 (fun h3 => ?_) (fun h3 => ?_) <;> rw [show (2 : Int32) = nI 2 from rfl, nI_eq (by omega) (by omega)] at h3
      · exact bkX7_split_65 (go 0 (by rw [t_vl, eco, if_neg h3]; rfl))
      · have h4 := t_tk_2 h3
        refine bkX7_split_56 (kX7_valueBetween hT (by omega) hbt.2 (fun q hq1 hq2 => ?_)) ?_
        · rw [t_bt_num b hlt h4.1] at hq2
          exact (t_ba_no b n 48 57 _ _ hq1 hq2).1
        · rintro _ S ⟨rfl, rfl⟩
          exact bkX7_split_62 (go _ (by rw [t_vl, eco, if_pos h3]))
theorem kX7_split (hT : TpX S n b) : Cv (d + 8) mX7_split [vR 7 0] S (fun S' => TkZ S' b n ∧ fT S S') := by
  refine cxX7_split ?_
  have hF : fT S (sk_ S 7 0 (upd (S.1 7 0) 5 0)) := by
    refine ⟨rfl, fun k j f k1 k2 k3 k4 => ?_⟩
    rw [rd_]
    by_cases e : k = 7 ∧ j = 0
    · rw [if_pos e]
      obtain ⟨rfl, rfl⟩ := e
      exact pk_un (by omega)
    · rw [if_neg e]
  refine bkX7_split_0 (kX7_behindAll (lo := 32) (hi := 32) (i := 0) (TpX_fT hF hT) (by omega) (by omega) (by omega)) ?_
  rintro _ S' ⟨rfl, rfl⟩
  refine bkX7_split_14 ?_
  exact lX7_split (S0 := S) 400 0 _ _ _ (by omega) (TpX_fT hF hT) ⟨by rw [rd_, if_pos ⟨rfl, rfl⟩]; exact pk_us, by omega, fun k hk => by omega⟩ hF (fun q hq => by omega)
end SP
