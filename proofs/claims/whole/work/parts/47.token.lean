/-! ===== the reference's token ===== -/
def so (c : Nat) : Nat := if c = 0 then 0 else if c = 2 then 2 else if c = 59 then 3 else if c = 124 then 4 else if c = 38 then 5 else 1
def fK (S0 S : hs_T) : Prop := S.2 = S0.2 ∧ ∀ k j f, ¬ (k = 11 ∧ 9 ≤ f ∧ f ≤ 14) → S.1 k j f = S0.1 k j f
theorem fK_rf (S : hs_T) : fK S S := ⟨rfl, fun _ _ _ _ => rfl⟩
theorem fK_tr {S S' S'' : hs_T} (h : fK S S') (h2 : fK S' S'') : fK S S'' := ⟨h2.1.trans h.1, fun k j f a => (h2.2 k j f a).trans (h.2 k j f a)⟩
theorem fK_11 {S0 S : hs_T} {f : Nat} {x : Int32} (h : fK S0 S) (hf : 9 ≤ f ∧ f ≤ 14) : fK S0 (sk_ S 11 0 (upd (S.1 11 0) f x)) := by
  refine fK_tr h ⟨rfl, fun k j f' hn => ?_⟩
  rw [rd_]
  by_cases e : k = 11 ∧ j = 0
  · rw [if_pos e]
    obtain ⟨rfl, rfl⟩ := e
    exact pk_un (by omega)
  · rw [if_neg e]
theorem TpM_fK {S S' : hs_T} {n : Nat} {b : Nat → Nat} (h : fK S S') (hT : TpM S n b) : TpM S' n b := by
  refine ⟨by rw [h.2 11 0 8 (by omega)]; exact hT.1, hT.2.1, fun i hi => ?_⟩
  rw [h.2 1207 0 i (by omega)]; exact hT.2.2 i hi
def t_pz (b : Nat → Nat) (n a : Nat) : Nat := if t_po b n a < n then t_bt b n (t_po b n a) else n
def RdM (S : hs_T) (b : Nat → Nat) (n a : Nat) : Prop := S.1 11 0 9 = nI (t_pz b n a) ∧ S.1 11 0 10 = nI (t_po b n a) ∧ S.1 11 0 11 = nI (so (t_co b n a)) ∧ (t_co b n a = 2 → S.1 11 0 12 = nI (t_vl b n a)) ∧ S.1 11 0 13 = 0 ∧ t_co b n a ≠ 1
def FM (S : hs_T) (b : Nat → Nat) (n : Nat) (e : er_T) : Prop := S.1 11 0 13 = nI e.1 ∧ 1 ≤ e.1 ∧ e.1 ≤ 6 ∧ S.1 11 0 14 = nI (t_po b n e.2)
section MT
variable {d n i q a : Nat} {S S0 : hs_T} {b : Nat → Nat} {e : er_T}
theorem kM_needsT {x : Int32} : Cv d mX11_needs [vR 11 0, vI 1, vI x] S (fun S' => S' = S) := by
  refine cxX11_needs ?_
  exact bkX11_needs_0 (fun _ => bkX11_needs_24 ⟨rfl, rfl⟩) (fun h => absurd h (by decide))
theorem kM_needsB {x y : Int32} (h : FM S b n e) : Cv d mX11_needs [vR 11 0, vI x, vI y] S (fun S' => S' = S) := by
  obtain ⟨h1, h2, h3, h4⟩ := h
  refine cxX11_needs ?_
  refine bkX11_needs_0 (fun _ => bkX11_needs_24 ⟨rfl, rfl⟩) (fun _ => ?_)
  refine bkX11_needs_4 (fun _ => bkX11_needs_24 ⟨rfl, rfl⟩) (fun hh => absurd hh ?_)
  rw [h1]; exact nI_ne0 (by omega) (by omega)
theorem kM_needsF0 {x : Int32} (h : S.1 11 0 13 = 0) : Cv d mX11_needs [vR 11 0, vI 0, vI x] S (fun S' => S'.1 11 0 13 = x ∧ S'.1 11 0 14 = S.1 11 0 10 ∧ fK S S' ∧ S'.1 11 0 9 = S.1 11 0 9) := by
  refine cxX11_needs ?_
  refine bkX11_needs_0 (fun hh => absurd rfl hh) (fun _ => ?_)
  refine bkX11_needs_4 (fun hh => absurd h hh) (fun _ => ?_)
  refine bkX11_needs_11 (bkX11_needs_24 ⟨rfl, ?_, ?_, fK_11 (fK_11 (fK_rf S) (by omega)) (by omega), ?_⟩) <;> simp [rd_, up_]
theorem kM_needsF {c : Nat} (h : RdM S b n a) (hc : 1 ≤ c ∧ c ≤ 6) {x : Int32} (hx : x = nI c) : Cv d mX11_needs [vR 11 0, vI 0, vI x] S (fun S' => FM S' b n (c, a) ∧ fK S S') := by
  refine (kM_needsF0 h.2.2.2.2.1).imp ?_
  rintro S' ⟨h1, h2, h3, _⟩
  exact ⟨⟨h1.trans hx, hc.1, hc.2, h2.trans h.2.1⟩, h3⟩
theorem kM_tokenB (h : FM S b n e) : Cv d mX11_token [vR 11 0] S (fun S' => S' = S) := by
  obtain ⟨h1, h2, h3, h4⟩ := h
  refine cxX11_token ?_
  refine bkX11_token_0 (fun hh => absurd hh ?_) (fun _ => bkX11_token_7 ⟨rfl, rfl⟩)
  rw [h1]; exact nl_ (a := 0) (by omega) (by omega)
theorem inR_lk (hn : n ≤ 400) (hb : ∀ i, i < n → b i < 256) (q lo hi : Nat) (h0 : 0 < lo) : inR (lkI b n q) (lo : Int) (hi : Int) = decide (q < n ∧ lo ≤ b q ∧ b q ≤ hi) := by
  unfold lkI
  by_cases h : q < n
  · have := hb q h
    rw [if_pos h, inR_nI (by omega)]
    apply decide_eq_decide.mpr
    omega
  · rw [if_neg h]
    unfold inR
    apply decide_eq_decide.mpr
    have : (-1 : Int32).toInt = -1 := rfl
    omega
/-- what the token that begins at i gives -/
def tokR (b : Nat → Nat) (n i : Nat) (S : hs_T) : Prop := (if i < n then t_tk b n i else 0) ≠ 1 ∧ S.1 11 0 9 = nI (if i < n then t_bt b n i else n) ∧ S.1 11 0 10 = nI i ∧ S.1 11 0 11 = nI (so (if i < n then t_tk b n i else 0)) ∧ ((if i < n then t_tk b n i else 0) = 2 → S.1 11 0 12 = nI (t_dv b i (t_bt b n i - i))) ∧ S.1 11 0 13 = 0
def tokW (b : Nat → Nat) (n i : Nat) (S : hs_T) : Prop := (if i < n then t_tk b n i else 0) = 1 ∧ S.1 11 0 13 = 1 ∧ S.1 11 0 14 = nI i
theorem t_nm_so (b : Nat → Nat) (i z : Nat) : so (t_nm b i z) = 1 ∧ t_nm b i z ≠ 1 ∧ t_nm b i z ≠ 2 := by
  have h := t_nm_le b i z
  refine ⟨?_, by omega, by omega⟩
  unfold so
  rw [if_neg (by omega), if_neg (by omega), if_neg (by omega), if_neg (by omega), if_neg (by omega)]
theorem kM_tokG (hT : TpM S n b) (hq : q ≤ n) (h9 : S.1 11 0 9 = nI q) (h13 : S.1 11 0 13 = 0) : Cv (d + 1) mX11_token [vR 11 0] S (fun S' => fK S S' ∧ (tokR b n (t_ba b n 32 32 q) S' ∨ tokW b n (t_ba b n 32 32 q) S')) := by
  have hn := hT.2.1
  have hb : ∀ i, i < n → b i < 256 := fun i hi => (hT.2.2 i hi).2
  generalize hi : t_ba b n 32 32 q = i
  have hil := t_ba_le b n 32 32 hq
  rw [hi] at hil
  refine cxX11_token ?_
  refine bkX11_token_0 (fun _ => ?_) (fun hh => absurd (by rw [h13]; decide) hh)
  -- letters
  have nameL : ∀ (m z : Nat) (S1 : hs_T) (x1 : Int32), z + m = t_ba b n 97 122 i → i ≤ z → i < n → (97 ≤ b i ∧ b i ≤ 122) → fK S S1 → S1.1 11 0 9 = nI z → S1.1 11 0 10 = nI i → S1.1 11 0 11 = 1 → S1.1 11 0 13 = 0 → Ev (d + 1) mX11_token 82 [some (vR 11 0), some (vI x1)] [] S1 (fun r S' => r = none ∧ fK S S' ∧ (tokR b n i S' ∨ tokW b n i S')) := by
    intro m
    induction m with
    | zero =>
      intro z S1 x1 hz hiz hin hl hF k9 k10 k11 k13
      have hze : z = t_ba b n 97 122 i := by omega
      have hzl := t_ba_le b n 97 122 (i := i) (by omega)
      refine bkX11_token_82 (kM_look (TpM_fK hF hT) (p := z) (by omega) k9) ?_
      rintro _ S1 ⟨rfl, rfl⟩
      refine bkX11_token_90 (kM_inI (lo := (97 : Nat)) (hi := (122 : Nat)) rfl rfl) ?_
      rintro _ S1 ⟨rfl, rfl⟩
      have e : inR (lkI b n z) ((97 : Nat) : Int) ((122 : Nat) : Int) = false := by
        rw [inR_lk hn hb z 97 122 (by omega)]
        refine decide_eq_false (fun h => ?_)
        have := t_ba_at b 97 122 (i := i) (by omega) (n := n) (by omega)
        rw [← hze] at this
        exact this h.2
      rw [e]
      refine bkX11_token_100 (fun _ => bkX11_token_306 ⟨rfl, hF, Or.inl ?_⟩) (fun h => absurd rfl h)
      have ek : t_tk b n i = t_nm b i (t_bt b n i) := by
        unfold t_tk
        rw [if_pos (show inC 97 122 (b i) = true from decide_eq_true hl)]
      have hso := t_nm_so b i (t_bt b n i)
      refine ⟨by rw [if_pos hin, ek]; exact hso.2.1, by rw [if_pos hin, t_bt_nam b hin hl, ← hze]; exact k9, k10, by rw [if_pos hin, ek, hso.1]; exact k11, fun h2 => ?_, k13⟩
      rw [if_pos hin, ek] at h2
      exact absurd h2 hso.2.2
    | succ m ih =>
      intro z S1 x1 hz hiz hin hl hF k9 k10 k11 k13
      have hzl := t_ba_le b n 97 122 (i := i) (by omega)
      refine bkX11_token_82 (kM_look (TpM_fK hF hT) (p := z) (by omega) k9) ?_
      rintro _ S1 ⟨rfl, rfl⟩
      refine bkX11_token_90 (kM_inI (lo := (97 : Nat)) (hi := (122 : Nat)) rfl rfl) ?_
      rintro _ S1 ⟨rfl, rfl⟩
      have e : inR (lkI b n z) ((97 : Nat) : Int) ((122 : Nat) : Int) = true := by
        rw [inR_lk hn hb z 97 122 (by omega)]
        exact decide_eq_true ⟨by omega, t_ba_no b n 97 122 i z hiz (by omega)⟩
      rw [e]
      refine bkX11_token_100 (fun h => absurd h (by decide)) (fun _ => bkX11_token_103 ?_)
      refine ih (z + 1) _ x1 (by omega) (by omega) hin hl (fK_11 hF (by omega)) ?_ ?_ ?_ ?_
      · simp [rd_, up_]; rw [k9, nI_1]
      · simp [rd_, up_]; exact k10
      · simp [rd_, up_]; exact k11
      · simp [rd_, up_]; exact k13
  -- figures
  have numL : ∀ (m z : Nat) (S1 : hs_T) (x1 : Int32), z + m = t_ba b n 48 57 i → i ≤ z → i < n → (48 ≤ b i ∧ b i ≤ 57) → fK S S1 → S1.1 11 0 9 = nI z → S1.1 11 0 10 = nI i → S1.1 11 0 11 = 2 → S1.1 11 0 13 = 0 → (z - i ≤ 3 → S1.1 11 0 12 = nI (t_dv b i (z - i))) → Ev (d + 1) mX11_token 140 [some (vR 11 0), some (vI x1)] [] S1 (fun r S' => r = none ∧ fK S S' ∧ (tokR b n i S' ∨ tokW b n i S')) := by
    intro m
    induction m with
    | zero =>
      intro z S1 x1 hz hiz hin hl hF k9 k10 k11 k13 k12
      have hze : z = t_ba b n 48 57 i := by omega
      have hzl := t_ba_le b n 48 57 (i := i) (by omega)
      have hbt := t_bt_num b hin hl
      have ek : t_tk b n i = if t_bt b n i - i ≤ 3 then 2 else 1 := by
        unfold t_tk
        rw [if_neg (by rw [inC, decide_eq_false (by omega)]; decide), if_pos (show inC 48 57 (b i) = true from decide_eq_true hl)]
      refine bkX11_token_140 (kM_look (TpM_fK hF hT) (p := z) (by omega) k9) ?_
      rintro _ S1 ⟨rfl, rfl⟩
      refine bkX11_token_148 (kM_inI (lo := (48 : Nat)) (hi := (57 : Nat)) rfl rfl) ?_
      rintro _ S1 ⟨rfl, rfl⟩
      have e : inR (lkI b n z) ((48 : Nat) : Int) ((57 : Nat) : Int) = false := by
        rw [inR_lk hn hb z 48 57 (by omega)]
        refine decide_eq_false (fun h => ?_)
        have := t_ba_at b 48 57 (i := i) (by omega) (n := n) (by omega)
        rw [← hze] at this
        exact this h.2
      rw [e]
      refine bkX11_token_158 (fun _ => ?_) (fun h => absurd rfl h)
      refine bkX11_token_217 (fun h => ?_) (fun h => ?_) <;> rw [k9, k10, pk_sub hiz, show (3 : Int32) = nI 3 from rfl, nI_ltI (by omega) (by omega)] at h
      · refine bkX11_token_235 (bkX11_token_236 (kM_needsF0 k13) ?_)
        rintro S2 ⟨g1, g2, g3, g4⟩
        refine bkX11_token_240 (bkX11_token_306 ⟨rfl, fK_tr hF g3, Or.inr ⟨?_, g1, g2.trans k10⟩⟩)
        rw [if_pos hin, ek, if_neg (by omega)]
      · refine bkX11_token_231 (bkX11_token_236 kM_needsT ?_)
        rintro S2 rfl
        refine bkX11_token_240 (bkX11_token_306 ⟨rfl, hF, Or.inl ?_⟩)
        have ek2 : t_tk b n i = 2 := by rw [ek, if_pos (by omega)]
        refine ⟨by rw [if_pos hin, ek2]; omega, by rw [if_pos hin, hbt, ← hze]; exact k9, k10, by rw [if_pos hin, ek2]; exact k11, fun _ => ?_, k13⟩
        rw [hbt, ← hze]; exact k12 (by omega)
    | succ m ih =>
      intro z S1 x1 hz hiz hin hl hF k9 k10 k11 k13 k12
      have hzl := t_ba_le b n 48 57 (i := i) (by omega)
      have hbz := t_ba_no b n 48 57 i z hiz (by omega)
      refine bkX11_token_140 (kM_look (TpM_fK hF hT) (p := z) (by omega) k9) ?_
      rintro _ S1 ⟨rfl, rfl⟩
      refine bkX11_token_148 (kM_inI (lo := (48 : Nat)) (hi := (57 : Nat)) rfl rfl) ?_
      rintro _ S1 ⟨rfl, rfl⟩
      have e : inR (lkI b n z) ((48 : Nat) : Int) ((57 : Nat) : Int) = true := by
        rw [inR_lk hn hb z 48 57 (by omega)]
        exact decide_eq_true ⟨by omega, hbz⟩
      rw [e]
      refine bkX11_token_158 (fun h => absurd h (by decide)) (fun _ => ?_)
      have step : ∀ y : Int32, (z + 1 - i ≤ 3 → y = nI (t_dv b i (z + 1 - i))) → Ev (d + 1) mX11_token 201 [some (vR 11 0), some (vI x1)] [vI y, vR 11 0] S1 (fun r S' => r = none ∧ fK S S' ∧ (tokR b n i S' ∨ tokW b n i S')) := by
        intro y hy
        refine bkX11_token_201 ?_
        refine ih (z + 1) _ x1 (by omega) (by omega) hin hl (fK_11 (fK_11 hF (by omega)) (by omega)) ?_ ?_ ?_ ?_ (fun h3 => ?_)
        · simp [rd_, up_]; rw [k9, nI_1]
        · simp [rd_, up_]; exact k10
        · simp [rd_, up_]; exact k11
        · simp [rd_, up_]; exact k13
        · simp [rd_, up_]; exact hy h3
      refine bkX11_token_161 (fun h => ?_) (fun h => ?_) <;> rw [k9, k10, pk_sub hiz, show (3 : Int32) = nI 3 from rfl, nI_leI (by omega) (by omega)] at h
      · exact bkX11_token_197 (step _ (fun h3 => by omega))
      · refine bkX11_token_175 (kM_look (TpM_fK hF hT) (p := z) (by omega) k9) ?_
        rintro _ S1 ⟨rfl, rfl⟩
        refine bkX11_token_190 (step _ (fun h3 => ?_))
        rw [k12 (by omega), lkI, if_pos (by omega), show z + 1 - i = (z - i) + 1 by omega, t_dv_s, show i + (z - i) = z by omega]
        rw [show (10 : Int32) = nI 10 from rfl, pk_mul, nI_add, show (48 : Int32) = nI 48 from rfl, pk_sub (by omega)]
        congr 1; omega
  -- blanks
  have skip : ∀ (m z : Nat) (S1 : hs_T), z + m = i → q ≤ z → fK S S1 → S1.1 11 0 9 = nI z → S1.1 11 0 13 = 0 → Ev (d + 1) mX11_token 8 [some (vR 11 0), none] [] S1 (fun r S' => r = none ∧ fK S S' ∧ (tokR b n i S' ∨ tokW b n i S')) := by
    intro m
    induction m with
    | succ m ih =>
      intro z S1 hz hqz hF k9 k13
      have hbz := t_ba_no b n 32 32 q z hqz (by omega)
      refine bkX11_token_8 (kM_look (TpM_fK hF hT) (p := z) (by omega) k9) ?_
      rintro _ S1 ⟨rfl, rfl⟩
      refine bkX11_token_16 (fun h => absurd ?_ h) (fun _ => bkX11_token_21 ?_)
      · rw [lkI, if_pos (by omega), show b z = 32 by omega]; rfl
      · refine ih (z + 1) _ (by omega) (by omega) (fK_11 hF (by omega)) ?_ ?_
        · simp [rd_, up_]; rw [k9, nI_1]
        · simp [rd_, up_]; exact k13
    | zero =>
      intro z S1 hz hqz hF k9 k13
      have hze : z = i := by omega
      subst hze
      refine bkX11_token_8 (kM_look (TpM_fK hF hT) (p := z) (by omega) k9) ?_
      rintro _ S1 ⟨rfl, rfl⟩
      have hne : ¬ lkI b n z = 32 := by
        unfold lkI
        by_cases hin : z < n
        · have h1 := hb z hin
          have h2 := t_ba_at b 32 32 hq (by rw [hi]; exact hin)
          rw [hi] at h2
          rw [if_pos hin, show (32 : Int32) = nI 32 from rfl, nI_eq (by omega) (by omega)]; omega
        · rw [if_neg hin]; decide
      refine bkX11_token_16 (fun _ => ?_) (fun h => absurd h hne)
      have hF2 : fK S (sk_ S1 11 0 (upd (S1.1 11 0) 10 (S1.1 11 0 9))) := fK_11 hF (by omega)
      have j9 : (sk_ S1 11 0 (upd (S1.1 11 0) 10 (S1.1 11 0 9))).1 11 0 9 = nI z := by simp [rd_, up_]; exact k9
      have j10 : (sk_ S1 11 0 (upd (S1.1 11 0) 10 (S1.1 11 0 9))).1 11 0 10 = nI z := by simp [rd_, up_]; exact k9
      have j13 : (sk_ S1 11 0 (upd (S1.1 11 0) 10 (S1.1 11 0 9))).1 11 0 13 = 0 := by simp [rd_, up_]; exact k13
      refine bkX11_token_34 (kM_look (TpM_fK hF2 hT) (p := z) (by omega) j9) ?_
      generalize sk_ S1 11 0 (upd (S1.1 11 0) 10 (S1.1 11 0 9)) = S2 at *
      rintro _ S2 ⟨rfl, rfl⟩
      by_cases hin : z < n
      · have hbz := hb z hin
        have elk : lkI b n z = nI (b z) := by rw [lkI, if_pos hin]
        refine bkX11_token_50 (fun _ => ?_) (fun h => absurd (by rw [elk]; exact nI_pos' (by omega)) h)
        refine bkX11_token_63 (kM_inI (lo := (97 : Nat)) (hi := (122 : Nat)) rfl rfl) ?_
        rintro _ S2 ⟨rfl, rfl⟩
        rw [inR_lk hn hb z 97 122 (by omega)]
        by_cases hl : 97 ≤ b z ∧ b z ≤ 122
        · rw [decide_eq_true ⟨hin, hl⟩]
          refine bkX11_token_74 (fun h => absurd h (by decide)) (fun _ => bkX11_token_77 ?_)
          have hzl := t_ba_le b n 97 122 (i := z) (by omega)
          refine nameL (t_ba b n 97 122 z - z) z _ _ (by omega) (Nat.le_refl _) hin hl (fK_11 hF2 (by omega)) ?_ ?_ ?_ ?_
          · simp [rd_, up_]; exact j9
          · simp [rd_, up_]; exact j10
          · simp [rd_, up_]
          · simp [rd_, up_]; exact j13
        · rw [decide_eq_false (fun h => hl h.2)]
          refine bkX11_token_74 (fun _ => ?_) (fun h => absurd rfl h)
          refine bkX11_token_116 (kM_inI (lo := (48 : Nat)) (hi := (57 : Nat)) rfl rfl) ?_
          rintro _ S2 ⟨rfl, rfl⟩
          rw [inR_lk hn hb z 48 57 (by omega)]
          by_cases hd : 48 ≤ b z ∧ b z ≤ 57
          · rw [decide_eq_true ⟨hin, hd⟩]
            refine bkX11_token_127 (fun h => absurd h (by decide)) (fun _ => bkX11_token_130 ?_)
            have hzl := t_ba_le b n 48 57 (i := z) (by omega)
            refine numL (t_ba b n 48 57 z - z) z _ _ (by omega) (Nat.le_refl _) hin hd (fK_11 (fK_11 hF2 (by omega)) (by omega)) ?_ ?_ ?_ ?_ (fun _ => ?_)
            · simp [rd_, up_]; exact j9
            · simp [rd_, up_]; exact j10
            · simp [rd_, up_]
            · simp [rd_, up_]; exact j13
            · simp [rd_, up_, t_dv]; rfl
          · rw [decide_eq_false (fun h => hd h.2)]
            refine bkX11_token_127 (fun _ => ?_) (fun h => absurd rfl h)
            rw [elk]
            have ek : t_tk b n z = if b z = 59 ∨ b z = 124 ∨ b z = 38 then b z else 1 := by
              unfold t_tk
              rw [if_neg (by rw [inC, decide_eq_false hl]; decide), if_neg (by rw [inC, decide_eq_false hd]; decide)]
            have ebt := t_bt_sig b hin hl hd
            have fin : ∀ (S3 : hs_T) (y : Nat), fK S S3 → S3.1 11 0 9 = nI z → S3.1 11 0 10 = nI z → S3.1 11 0 11 = nI y → S3.1 11 0 13 = 0 → (t_tk b n z ≠ 1 → y = so (t_tk b n z)) → ∀ v : Int32, (v = 1 ∧ t_tk b n z ≠ 1) ∨ (v = 0 ∧ t_tk b n z = 1) → Ev (d + 1) mX11_token 292 [some (vR 11 0), some (vI (nI (b z)))] [vI v, vR 11 0] S3 (fun r S' => r = none ∧ fK S S' ∧ (tokR b n z S' ∨ tokW b n z S')) := by
              intro S3 y hF3 m9 m10 m11 m13 hy v hv
              rcases hv with ⟨rfl, h1⟩ | ⟨rfl, h1⟩
              · refine bkX11_token_292 kM_needsT ?_
                rintro S3 rfl
                refine bkX11_token_296 (bkX11_token_306 ⟨rfl, fK_11 hF3 (by omega), Or.inl ⟨by rw [if_pos hin]; exact h1, ?_, ?_, ?_, fun h2 => ?_, ?_⟩⟩)
                · simp [rd_, up_]; rw [m9, nI_1, if_pos hin, ebt]
                · simp [rd_, up_]; exact m10
                · simp [rd_, up_]; rw [if_pos hin, m11, hy h1]
                · rw [if_pos hin] at h2
                  exact absurd (t_tk_2 h2).1 hd
                · simp [rd_, up_]; exact m13
              · refine bkX11_token_292 (kM_needsF0 m13) ?_
                rintro S4 ⟨g1, g2, g3, g4⟩
                refine bkX11_token_296 (bkX11_token_306 ⟨rfl, fK_11 (fK_tr hF3 g3) (by omega), Or.inr ⟨by rw [if_pos hin]; exact h1, ?_, ?_⟩⟩)
                · simp [rd_, up_]; exact g1
                · simp [rd_, up_]; rw [g2, m10]
            -- 265: the sort is stored
            have st : ∀ y : Nat, (t_tk b n z ≠ 1 → y = so (t_tk b n z)) → Ev (d + 1) mX11_token 265 [some (vR 11 0), some (vI (nI (b z)))] [vI (nI y), vR 11 0] S2 (fun r S' => r = none ∧ fK S S' ∧ (tokR b n z S' ∨ tokW b n z S')) := by
              intro y hy
              have hF3 : fK S (sk_ S2 11 0 (upd (S2.1 11 0) 11 (nI y))) := fK_11 hF2 (by omega)
              have m9 : (sk_ S2 11 0 (upd (S2.1 11 0) 11 (nI y))).1 11 0 9 = nI z := by simp [rd_, up_]; exact j9
              have m10 : (sk_ S2 11 0 (upd (S2.1 11 0) 11 (nI y))).1 11 0 10 = nI z := by simp [rd_, up_]; exact j10
              have m11 : (sk_ S2 11 0 (upd (S2.1 11 0) 11 (nI y))).1 11 0 11 = nI y := by simp [rd_, up_]
              have m13 : (sk_ S2 11 0 (upd (S2.1 11 0) 11 (nI y))).1 11 0 13 = 0 := by simp [rd_, up_]; exact j13
              refine bkX11_token_265 (fun h => ?_) (fun h => ?_) <;> rw [show (59 : Int32) = nI 59 from rfl, nI_eq (by omega) (by omega)] at h
              · exact bkX11_token_287 (fin _ y hF3 m9 m10 m11 m13 hy 1 (Or.inl ⟨rfl, by rw [ek, if_pos (by omega)]; omega⟩))
              · refine bkX11_token_275 (fun h' => ?_) (fun h' => ?_) <;> rw [show (124 : Int32) = nI 124 from rfl, nI_eq (by omega) (by omega)] at h'
                · exact bkX11_token_287 (fin _ y hF3 m9 m10 m11 m13 hy 1 (Or.inl ⟨rfl, by rw [ek, if_pos (by omega)]; omega⟩))
                · refine bkX11_token_281 (fun h'' => ?_) (fun h'' => ?_) <;> rw [show (38 : Int32) = nI 38 from rfl, nI_eq (by omega) (by omega)] at h''
                  · exact bkX11_token_291 (fin _ y hF3 m9 m10 m11 m13 hy 0 (Or.inr ⟨rfl, by rw [ek, if_neg (by omega)]⟩))
                  · exact bkX11_token_287 (fin _ y hF3 m9 m10 m11 m13 hy 1 (Or.inl ⟨rfl, by rw [ek, if_pos (by omega)]; omega⟩))
            refine bkX11_token_243 (fun h => ?_) (fun h => ?_) <;> rw [show (124 : Int32) = nI 124 from rfl, nI_eq (by omega) (by omega)] at h
            · refine bkX11_token_254 (fun h' => ?_) (fun h' => ?_) <;> rw [show (38 : Int32) = nI 38 from rfl, nI_eq (by omega) (by omega)] at h'
              · refine bkX11_token_264 (st 3 (fun h1 => ?_))
                have e59 : b z = 59 := by
                  rw [ek] at h1
                  by_cases c : b z = 59 ∨ b z = 124 ∨ b z = 38
                  · omega
                  · rw [if_neg c] at h1; exact absurd rfl h1
                rw [ek, if_pos (by omega), e59]; rfl
              · refine bkX11_token_260 (st 5 (fun h1 => ?_))
                rw [ek, if_pos (by omega), h']; rfl
            · refine bkX11_token_250 (st 4 (fun h1 => ?_))
              rw [ek, if_pos (by omega), h]; rfl
      · have elk : lkI b n z = -1 := by rw [lkI, if_neg hin]
        refine bkX11_token_50 (fun h => absurd h (by rw [elk]; decide)) (fun _ => bkX11_token_55 (bkX11_token_306 ⟨rfl, fK_11 hF2 (by omega), Or.inl ?_⟩))
        refine ⟨by rw [if_neg hin]; omega, ?_, ?_, ?_, fun h => ?_, ?_⟩
        · simp [rd_, up_]; rw [if_neg hin, j9]; congr 1; omega
        · simp [rd_, up_]; exact j10
        · simp [rd_, up_]; rw [if_neg hin]; rfl
        · rw [if_neg hin] at h; omega
        · simp [rd_, up_]; exact j13
  exact skip (i - q) q S (by omega) (Nat.le_refl _) (fK_rf S) h9 h13
theorem t_po_pz (b : Nat → Nat) (n a : Nat) : t_po b n (a + 1) = t_ba b n 32 32 (t_pz b n a) := by
  rw [t_po_s]
  unfold t_pz
  split
  · rfl
  · have := t_ba_le b n 32 32 (Nat.le_refl n); omega
theorem t_pz_le (b : Nat → Nat) (n a : Nat) : t_pz b n a ≤ n := by
  unfold t_pz
  split
  · rename_i h; exact (t_bt_le b h).2
  · exact Nat.le_refl _
theorem tok_RdM {S' : hs_T} (h : tokR b n (t_po b n a) S') : RdM S' b n a := by
  obtain ⟨h1, h2, h3, h4, h5, h6⟩ := h
  refine ⟨h2, h3, h4, fun hc => ?_, h6, h1⟩
  rw [h5 hc, t_vl, if_pos hc]
theorem kM_token (hT : TpM S n b) (h : RdM S b n a) : Cv (d + 1) mX11_token [vR 11 0] S (fun S' => fK S S' ∧ oc (p_nx (t_co b n) a) (FM S' b n) (RdM S' b n)) := by
  refine (kM_tokG hT (t_pz_le b n a) h.1 h.2.2.2.2.1).imp ?_
  rintro S' ⟨hF, h'⟩
  refine ⟨hF, ?_⟩
  rw [← t_po_pz] at h'
  unfold p_nx
  rcases h' with h' | h'
  · have hc : ¬ t_co b n (a + 1) = 1 := h'.1
    rw [if_neg hc]
    exact tok_RdM h'
  · have hc : t_co b n (a + 1) = 1 := h'.1
    rw [if_pos hc]
    exact ⟨h'.2.1, Nat.le_refl 1, by show 1 ≤ 6; omega, h'.2.2⟩
theorem kM_token0 (hT : TpM S n b) (h9 : S.1 11 0 9 = 0) (h13 : S.1 11 0 13 = 0) : Cv (d + 1) mX11_token [vR 11 0] S (fun S' => fK S S' ∧ oc (if t_co b n 0 = 1 then .inl (1, 0) else .inr 0) (FM S' b n) (RdM S' b n)) := by
  refine (kM_tokG hT (q := 0) (Nat.zero_le _) h9 h13).imp ?_
  rintro S' ⟨hF, h'⟩
  refine ⟨hF, ?_⟩
  rcases h' with h' | h'
  · have hc : ¬ t_co b n 0 = 1 := h'.1
    rw [if_neg hc]
    exact tok_RdM h'
  · have hc : t_co b n 0 = 1 := h'.1
    rw [if_pos hc]
    exact ⟨h'.2.1, Nat.le_refl 1, by show 1 ≤ 6; omega, h'.2.2⟩
end MT
