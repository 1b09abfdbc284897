/-! ===== a run, the reference's ===== -/
def mx_ (S : hs_T) (g h : Nat → Int32) : hs_T := sk_ (sk_ S 11 0 g) 1220 0 h
theorem mx_g (S : hs_T) (g h : Nat → Int32) : (mx_ S g h).1 11 0 = g := by unfold mx_; rw [sk_ne _ _ (by omega), sk_at]
theorem mx_h (S : hs_T) (g h : Nat → Int32) : (mx_ S g h).1 1220 0 = h := sk_at _ _ _ _
theorem mx_o (S : hs_T) (g h : Nat → Int32) {k j : Nat} (h1 : k ≠ 11) (h2 : k ≠ 1220) : (mx_ S g h).1 k j = S.1 k j := by unfold mx_; rw [sk_ne _ _ (by omega), sk_ne _ _ (by omega)]
theorem mx_sg (S : hs_T) (g h g' : Nat → Int32) : sk_ (mx_ S g h) 11 0 g' = mx_ S g' h := by unfold mx_; rw [sk_cm _ _ _ (by omega), sk_sk]
theorem mx_sh (S : hs_T) (g h h' : Nat → Int32) : sk_ (mx_ S g h) 1220 0 h' = mx_ S g h' := sk_sk _ _ _ _ _
theorem mx_id (S : hs_T) : mx_ S (S.1 11 0) (S.1 1220 0) = S := by unfold mx_; rw [sk_id, sk_id]
section RM
variable {d : Nat} {S : hs_T} {n w i : Nat} {t p : Nat → Nat} {g h : Nat → Int32}
theorem TrM_w (hT : TrM S n t) (hg : g 3 = S.1 11 0 3) : TrM (mx_ S g h) n t := by
  unfold TrM; rw [mx_g, mx_o _ _ _ (by omega) (by omega), hg]; exact hT
theorem PrM_w (hp : PrM S p) : PrM (mx_ S g h) p := by
  intro k hk; rw [mx_o _ _ _ (by omega) (by omega)]; exact hp k hk
theorem kM_enters {x y : Int32} : Cv d mX11_enters [vR 11 0, vI x, vI y] (mx_ S g h) (fun S' => ∃ h', S' = mx_ S (upd (upd g 15 x) 19 y) h' ∧ ∀ b, b < 3 → h' b = 0) := by
  refine cxX11_enters ?_
  refine bkX11_enters_0 ⟨rfl, upd (upd (upd h 0 0) 1 0) 2 0, ?_, fun b hb => ?_⟩
  · simp only [mx_g, mx_sg, mx_h, mx_sh]
  · rcases (show b = 0 ∨ b = 1 ∨ b = 2 by omega) with rfl | rfl | rfl <;> rfl
def po_sm (S : hs_T) (g : Nat → Int32) (i : Nat) (o : Option Nat × (Nat → Int32)) (S' : hs_T) : Prop := match o with
  | (none, cm) => ∃ h', S' = mx_ S g h' ∧ ∀ b, b < 3 → h' b = cm b
  | (some x, _) => if x = 8 then ∃ h', S' = mx_ S (upd (upd g 16 (nI i)) 15 8) h' else ∃ h', S' = mx_ S (upd (upd (upd g 15 (nI x)) 19 (nI (i + 1))) 17 (g 17 + 1)) h' ∧ ∀ b, b < 3 → h' b = 0
theorem a3 (c b : Nat) : 3 * nI c + nI b = nI (3 * c + b) := by rw [show (3 : Int32) = nI 3 from rfl, pk_mul, nI_add]
theorem lM_sample {st lk : Nat} (hT : TrM S n t) (hi : i < n) (hW : WFp p) (hp : PrM S p) (hst : st < p 230) (hlk : lk ≤ i) (hg3 : g 3 = S.1 11 0 3) (hg19 : g 19 = nI (i - lk)) :
    ∀ (m b : Nat) (h cm : Nat → Int32) (o5 : Option av_T), b + m = p (222 + st) → (∀ b, b < 3 → h b = cm b) → Ev (d + 3) mX11_sample 20 [some (vR 11 0), some (vI (nI i)), some (vI (nI st)), some (vI 1), some (vI (nI b)), o5] [] (mx_ S g h) (fun r S' => r = none ∧ po_sm S g i (s_br t p st i lk m b cm) S') := by
  obtain ⟨hb1, hb3, hbr⟩ := hW.2.1 st hst
  have h8 := hW.1
  have hn := hT.2.1
  have ep : ∀ (k : Nat), k < 234 → ∀ h', (mx_ S g h').1 1200 0 k = nI (p k) := fun k hk h' => PrM_w hp k hk
  have ep' : ∀ (k : Nat), k < 234 → ∀ g' h', (mx_ S g' h').1 1200 0 k = nI (p k) := fun k hk g' h' => PrM_w hp k hk
  have e222 : (222 : Int32) + nI st = nI (222 + st) := by rw [show (222 : Int32) = nI 222 from rfl, nI_add]
  intro m
  induction m with
  | zero =>
    intro b h cm o5 hb hcm
    have e : b = p (222 + st) := by omega
    subst e
    refine bkX11_sample_20 (by rw [e222]; exact vp_lt (by omega) (by omega)) (fun _ => bkX11_sample_169 ⟨rfl, h, rfl, hcm⟩) (fun z => absurd ?_ z)
    rw [e222, nI_clamp (by omega), ep _ (by omega)]
    exact nI_le (Nat.le_refl _) (by omega)
  | succ m ih =>
    intro b h cm o5 hb hcm
    obtain ⟨h99, htg, hm3, hoc⟩ := hbr b (by omega)
    refine bkX11_sample_20 (by rw [e222]; exact vp_lt (by omega) (by omega)) (fun z => absurd z ?_) (fun _ => ?_)
    · rw [e222, nI_clamp (by omega), ep _ (by omega)]; exact nl_ (by omega) (by omega)
    refine bkX11_sample_35 (fun z => absurd z (by decide)) (fun _ => ?_)
    have e0 : (0 : Int32) + (3 * nI st + nI b) = nI (3 * st + b) := by rw [a3, Int32.zero_add]
    have e33 : 3 * (3 * nI st + nI b) = nI (3 * (3 * st + b)) := by rw [a3, show (3 : Int32) = nI 3 from rfl, pk_mul]
    refine bkX11_sample_39 (by rw [e0]; exact vp_lt (by omega) (by omega)) (P := fun v S' => v = bi_ (c_so t p (3 * (3 * st + b)) (p (3 * st + b)) i lk) ∧ S' = mx_ S g h) ?_ ?_
    · rw [e0, e33, nI_clamp (by omega), ep _ (by omega), mx_g, hg19, pk_sub (by omega), show i - (i - lk) = lk by omega]
      exact kM_isSo (TrM_w hT hg3) hi (by omega) (PrM_w hp) (by omega) (fun q hq => hoc q hq)
    rintro _ _ ⟨rfl, rfl⟩
    rw [a3]
    unfold s_br
    refine bkX11_sample_71 (fun hb2 => ?_) (fun hb2 => ?_)
    · rw [bi_0] at hb2
      rw [if_neg (by rw [hb2]; decide)]
      refine bkX11_sample_163 ?_
      rw [nI_1]
      exact ih (b + 1) _ _ _ (by omega) hcm
    · rw [bi_ne0] at hb2
      rw [if_pos hb2]
      have e24 : (24 : Int32) + nI (3 * st + b) = nI (24 + (3 * st + b)) := by rw [show (24 : Int32) = nI 24 from rfl, nI_add]
      have e48 : (48 : Int32) + nI (3 * st + b) = nI (48 + (3 * st + b)) := by rw [show (48 : Int32) = nI 48 from rfl, nI_add]
      have e1 : sk_ (mx_ S g h) 1220 0 (upd ((mx_ S g h).1 1220 0) (nI b).toNatClampNeg ((mx_ S g h).1 1220 0 (nI b).toNatClampNeg + 1)) = mx_ S g (upd h b (h b + 1)) := by
        rw [mx_h, mx_sh, nI_clamp (by omega)]
      have hcm' : ∀ a, a < 3 → upd h b (h b + 1) a = upd cm b (h b + 1) a := by
        intro a ha
        by_cases e : a = b
        · subst e; rw [pk_us, pk_us]
        · rw [pk_un e, pk_un e]; exact hcm a ha
      refine bkX11_sample_74 (vp_lt (by omega) (by omega)) (by rw [e24]; exact vp_lt (by omega) (by omega)) ?_ ?_ <;> rw [e1, mx_h, e24, nI_clamp (show b < 2 ^ 31 by omega), nI_clamp (show 24 + (3 * st + b) < 2 ^ 31 by omega), ep _ (by omega), pk_us, ← hcm b (by omega)] <;> intro he
      · rw [if_neg he]
        refine bkX11_sample_163 ?_
        rw [nI_1]
        exact ih (b + 1) _ _ _ (by omega) hcm'
      · rw [if_pos he]
        have out : ∀ S', po_sm S g i (some (p (48 + (3 * st + b))), upd cm b (h b + 1)) S' → S'.1 1200 0 (222 + st) = nI (p (222 + st)) → Ev (d + 3) mX11_sample 163 [some (vR 11 0), some (vI (nI i)), some (vI (nI st)), some (vI 0), some (vI (nI b)), some (vI (nI (3 * st + b)))] [] S' (fun r S' => r = none ∧ po_sm S g i (some (p (48 + (3 * st + b))), upd cm b (h b + 1)) S') := by
          intro S' hS hpr
          refine bkX11_sample_163 (bkX11_sample_20 (by rw [e222]; exact vp_lt (by omega) (by omega)) (fun _ => bkX11_sample_169 ⟨rfl, hS⟩) (fun _ => ?_))
          exact bkX11_sample_35 (fun _ => bkX11_sample_169 ⟨rfl, hS⟩) (fun z => absurd rfl z)
        refine bkX11_sample_105 (by rw [e48]; exact vp_lt (by omega) (by omega)) ?_ ?_ <;> rw [e48, nI_clamp (by omega), ep _ (by omega)] <;> intro h8
        · have h8' : ¬ p (48 + (3 * st + b)) = 8 := fun z => h8 (by rw [z]; rfl)
          refine bkX11_sample_136 (by rw [e48]; exact vp_lt (by omega) (by omega)) (P := fun S' => ∃ h', S' = mx_ S (upd (upd g 15 (nI (p (48 + (3 * st + b))))) 19 (nI (i + 1))) h' ∧ ∀ b, b < 3 → h' b = 0) ?_ ?_
          · rw [e48, nI_clamp (by omega), ep _ (by omega), nI_1]
            exact kM_enters
          · rintro _ ⟨h', rfl, hh⟩
            refine bkX11_sample_153 (out _ ?_ ?_)
            · unfold po_sm
              show if _ then _ else _
              rw [if_neg h8']
              refine ⟨h', ?_, hh⟩
              rw [mx_g, mx_sg, pk_un (by omega), pk_un (by omega)]
            · rw [mx_sg]; exact ep' _ (by omega) _ _
        · have h8' : p (48 + (3 * st + b)) = 8 := (nI_eq (b := 8) (by omega) (by omega)).mp h8
          refine bkX11_sample_122 (out _ ?_ ?_)
          · unfold po_sm
            show if _ then _ else _
            rw [if_pos h8']
            refine ⟨upd h b (h b + 1), ?_⟩
            rw [sk_sk, sk_at, mx_g, mx_sg]
          · rw [sk_sk, mx_sg]; exact ep' _ (by omega) _ _
theorem kM_sample {st lk : Nat} {cm : Nat → Int32} (hT : TrM S n t) (hi : i < n) (hW : WFp p) (hp : PrM S p) (hst : st < p 230) (hlk : lk ≤ i) (hg3 : g 3 = S.1 11 0 3) (hg15 : g 15 = nI st) (hg19 : g 19 = nI (i - lk)) (hcm : ∀ b, b < 3 → h b = cm b) : Cv (d + 3) mX11_sample [vR 11 0, vI (nI i)] (mx_ S g h) (po_sm S (upd g 18 (g 18 + 1)) i (s_br t p st i lk (p (222 + st)) 0 cm)) := by
  refine cxX11_sample ?_
  refine bkX11_sample_0 ?_
  rw [mx_g, mx_sg, hg15]
  exact lM_sample hT hi hW hp hst hlk (by rw [pk_un (by omega)]; exact hg3) (by rw [pk_un (by omega)]; exact hg19) (p (222 + st)) 0 h cm _ (by omega) hcm
/-- the fields that a run may change -/
def kp_run (S : hs_T) (g : Nat → Int32) : Prop := ∀ f, f < 15 ∨ 19 < f → g f = S.1 11 0 f
theorem kp_u {S : hs_T} {g : Nat → Int32} (h : kp_run S g) (f : Nat) (x : Int32) (hf : 15 ≤ f ∧ f ≤ 19) : kp_run S (upd g f x) := fun a ha => by rw [pk_un (by omega)]; exact h a ha
def po_rm (S : hs_T) (o : Int32 × Int32 × Int32 × Int32) (S' : hs_T) : Prop := ∃ g h, S' = mx_ S g h ∧ kp_run S g ∧ g 16 = o.1 ∧ g 15 = o.2.1 ∧ g 17 = o.2.2.1 ∧ g 18 = o.2.2.2
theorem lM_runs0 {N : Nat} {x1 : Int32} {Q : Option av_T → hs_T → Prop} (hT : TrM S n t) (hN : N ≤ n) (hx : x1.toInt = (N : Int) - 1) (hW : WFp p) (hp : PrM S p) (hns : 0 < p 230) :
    ∀ (m i st lk : Nat) (cm g h : Nat → Int32) (en lo : Int32), i + m = N → st < p 230 → lk ≤ i → (∀ b, b < 3 → h b = cm b) → kp_run S g → g 16 = -4 → g 15 = nI st → g 17 = en → g 18 = lo → g 19 = nI (i - lk) → (∀ S', po_rm S (s_run t p m i st lk cm en lo) S' → Q none S') → Ev (d + 4) mX11_runs0 24 [some (vR 11 0), some (vI x1), some (vI (nI i))] [] (mx_ S g h) Q := by
  have hn := hT.2.1
  have h8 := hW.1
  have hlt : ∀ i, i ≤ 400 → (x1 < nI i ↔ N ≤ i) := by
    intro i hi
    rw [fa_lt, hx, nI_toInt (by omega)]
    omega
  intro m
  induction m with
  | zero =>
    intro i st lk cm g h en lo hi hst hlk hcm hk g1 g2 g3 g4 g5 hQ
    refine bkX11_runs0_24 (fun _ => bkX11_runs0_60 (hQ _ ⟨g, h, rfl, hk, g1, g2, g3, g4⟩)) (fun z => absurd ((hlt i (by omega)).mpr (by omega)) z)
  | succ m ih =>
    intro i st lk cm g h en lo hi hst hlk hcm hk g1 g2 g3 g4 g5 hQ
    refine bkX11_runs0_24 (fun z => absurd ((hlt i (by omega)).mp z) (by omega)) (fun _ => ?_)
    refine bkX11_runs0_29 (fun z => absurd (by rw [mx_g, g1]) z) (fun _ => ?_)
    refine bkX11_runs0_38 (fun z => absurd z (by rw [mx_o _ _ _ (by omega) (by omega), hp 230 (by omega)]; exact nI_nle hns (by omega))) (fun _ => ?_)
    refine bkX11_runs0_49 (kM_sample hT (by omega) hW hp hst hlk (hk 3 (by omega)) g2 g5 hcm) ?_
    intro S' hS
    refine bkX11_runs0_54 ?_
    unfold s_run at hQ
    cases hb : s_br t p st i lk (p (222 + st)) 0 cm with
    | mk o cm' =>
      rw [hb] at hQ hS
      cases o with
      | none =>
        obtain ⟨h', rfl, hh⟩ := hS
        rw [nI_1]
        refine ih (i + 1) st (lk + 1) cm' _ h' en (lo + 1) (by omega) hst (by omega) hh (kp_u hk _ _ (by omega)) ?_ ?_ ?_ ?_ ?_ hQ
        · rw [pk_un (by omega)]; exact g1
        · rw [pk_un (by omega)]; exact g2
        · rw [pk_un (by omega)]; exact g3
        · rw [pk_us, g4]
        · rw [pk_un (by omega), g5, show i + 1 - (lk + 1) = i - lk by omega]
      | some x =>
        have hx := s_br_tg (t := t) (i := i) (lk := lk) hW hst _ _ _ _ _ (by omega) hb
        unfold po_sm at hS
        replace hS : if x = 8 then _ else _ := hS
        replace hQ : ∀ S', po_rm S (if x = 8 then _ else _) S' → Q none S' := hQ
        by_cases e8 : x = 8
        · rw [if_pos e8] at hS
          obtain ⟨h', rfl⟩ := hS
          rw [nI_1]
          have fin : Q none (mx_ S (upd (upd (upd g 18 (g 18 + 1)) 16 (nI i)) 15 8) h') := by
            refine hQ _ ?_
            rw [if_pos e8]
            refine ⟨_, h', rfl, kp_u (kp_u (kp_u hk _ _ (by omega)) _ _ (by omega)) _ _ (by omega), ?_, ?_, ?_, ?_⟩
            · rw [pk_un (by omega), pk_us]
            · rw [pk_us]
            · rw [pk_un (by omega), pk_un (by omega), pk_un (by omega)]; exact g3
            · rw [pk_un (by omega), pk_un (by omega), pk_us, g4]
          refine bkX11_runs0_24 (fun _ => bkX11_runs0_60 fin) (fun _ => ?_)
          refine bkX11_runs0_29 (fun _ => bkX11_runs0_60 fin) (fun z => absurd z ?_)
          rw [mx_g, pk_un (by omega), pk_us, fa_eq, nI_toInt (by omega)]
          have : (-4 : Int32).toInt = -4 := by decide
          omega
        · rw [if_neg e8] at hS
          obtain ⟨h', rfl, hh⟩ := hS
          rw [nI_1]
          refine ih (i + 1) x 0 (fun _ => 0) _ h' (en + 1) (lo + 1) (by omega) (by omega) (by omega) hh (kp_u (kp_u (kp_u (kp_u hk _ _ (by omega)) _ _ (by omega)) _ _ (by omega)) _ _ (by omega)) ?_ ?_ ?_ ?_ ?_ (fun S' hS' => hQ S' (by rw [if_neg e8]; exact hS'))
          · rw [pk_un (by omega), pk_un (by omega), pk_un (by omega), pk_un (by omega)]; exact g1
          · rw [pk_un (by omega), pk_un (by omega), pk_us]
          · rw [pk_us, pk_un (by omega), g3]
          · rw [pk_un (by omega), pk_un (by omega), pk_un (by omega), pk_us, g4]
          · rw [pk_un (by omega), pk_us, Nat.sub_zero]
theorem kM_runs0 {N : Nat} {x1 : Int32} (hT : TrM S n t) (hN : N ≤ n) (hx : x1.toInt = (N : Int) - 1) (hW : WFp p) (hp : PrM S p) : Cv (d + 4) mX11_runs0 [vR 11 0, vI x1] S (po_rm S (s_go t p N)) := by
  have hn := hT.2.1
  have h8 := hW.1
  refine cxX11_runs0 ?_
  have e : (sk_ (sk_ (sk_ S 11 0 (upd (S.1 11 0) 16 (-4))) 11 0 (upd ((sk_ S 11 0 (upd (S.1 11 0) 16 (-4))).1 11 0) 17 0)) 11 0 (upd ((sk_ (sk_ S 11 0 (upd (S.1 11 0) 16 (-4))) 11 0 (upd ((sk_ S 11 0 (upd (S.1 11 0) 16 (-4))).1 11 0) 17 0)).1 11 0) 18 0)) = mx_ S (upd (upd (upd (S.1 11 0) 16 (-4)) 17 0) 18 0) (S.1 1220 0) := by
    rw [sk_sk, sk_at, sk_at, sk_sk]
    conv => lhs; rw [← mx_id S, mx_sg]
    simp only [mx_id]
  refine bkX11_runs0_0 (P := fun S' => ∃ h', S' = mx_ S (upd (upd (upd (upd (upd (S.1 11 0) 16 (-4)) 17 0) 18 0) 15 0) 19 0) h' ∧ ∀ b, b < 3 → h' b = 0) (by rw [e]; exact kM_enters) ?_
  rintro _ ⟨h', rfl, hh⟩
  have hk : kp_run S (upd (upd (upd (upd (upd (S.1 11 0) 16 (-4)) 17 0) 18 0) 15 0) 19 0) := kp_u (kp_u (kp_u (kp_u (kp_u (fun _ _ => rfl) _ _ (by omega)) _ _ (by omega)) _ _ (by omega)) _ _ (by omega)) _ _ (by omega)
  refine bkX11_runs0_22 ?_
  unfold s_go
  by_cases h0 : p 230 = 0
  · rw [if_pos h0]
    have fin : po_rm S (-4, 0, 0, 0) (mx_ S (upd (upd (upd (upd (upd (S.1 11 0) 16 (-4)) 17 0) 18 0) 15 0) 19 0) h') := ⟨_, h', rfl, hk, rfl, rfl, rfl, rfl⟩
    refine bkX11_runs0_24 (fun _ => bkX11_runs0_60 ⟨rfl, fin⟩) (fun _ => ?_)
    refine bkX11_runs0_29 (fun _ => bkX11_runs0_60 ⟨rfl, fin⟩) (fun _ => ?_)
    refine bkX11_runs0_38 (fun _ => bkX11_runs0_60 ⟨rfl, fin⟩) (fun z => absurd ?_ z)
    rw [mx_o _ _ _ (by omega) (by omega), hp 230 (by omega), h0]
    decide
  · rw [if_neg h0]
    exact lM_runs0 hT hN hx hW hp (by omega) N 0 0 0 (fun _ => 0) _ h' 0 0 (by omega) (by omega) (by omega) hh hk rfl rfl rfl rfl rfl (fun S' h => ⟨rfl, h⟩)
/-! run, state: both sides -/
def sp_run (n : Nat) (t p : Nat → Nat) (x : Int32) : Int32 := if inR x 0 3 then (if p 230 = 0 then -2 else if x = 0 then (s_go t p n).1 else if x = 1 then (s_go t p n).2.1 else if x = 2 then (s_go t p n).2.2.1 else (s_go t p n).2.2.2) else -1
/-- what a question of a run changes -/
def scX (S S' : hs_T) : Prop := ∃ g h, S' = wx_ S g h
def scM (S S' : hs_T) : Prop := ∃ g h, S' = mx_ S g h ∧ kp_run S g
theorem scX_rf (S : hs_T) : scX S S := ⟨_, _, (wx_id S).symm⟩
theorem scM_rf (S : hs_T) : scM S S := ⟨_, _, (mx_id S).symm, fun _ _ => rfl⟩
theorem kX10_run {x : Int32} {r : Nat} (hD : S.2.2 0 = r) (hr : r < 2) (hT : TrX S 0 n t) (hW : WFp p) (hp : PrX S r p) : Ci (d + 6) mX10_run [vR 10 0, vI x] S (fun v S' => v = sp_run n t p x ∧ scX S S') := by
  have h1 := hT.1
  have h8 := hW.1
  refine cxX10_run ?_
  refine bkX10_run_0 (kX10_w (lo := 0) (hi := 3) rfl rfl) ?_
  rintro _ S ⟨rfl, rfl⟩
  cases hx : inR x 0 3
  · exact bkX10_run_6 (fun h => absurd rfl h) (fun _ => bkX10_run_9 ⟨_, rfl, by simp [sp_run, hx], scX_rf _⟩)
  · refine bkX10_run_6 (fun _ => ?_) (fun h => absurd h (by decide))
    refine bkX10_run_11 (by rw [hD]; exact hr) (fun h0 => ?_) (fun h0 => ?_)
    · have hns : ¬ p 230 = 0 := fun z => h0 (by rw [hD, hp.1, z]; rfl)
      refine bkX10_run_24 (P := po_run S (s_go t p n)) (by rw [hD, h1]; exact kX9_follow hT (by omega) (Nat.le_refl _) hr hW hp) ?_
      rintro _ ⟨g, h, rfl, g1, g2, g3, g4⟩
      refine bkX10_run_46 (fun e => ?_) (fun e => ?_) (fun e => ?_) (fun e0 e1 e2 => ?_)
      · exact bkX10_run_72 ⟨_, rfl, by rw [wx_g, g1, sp_run, if_pos hx, if_neg hns, if_pos e], ⟨g, h, rfl⟩⟩
      · exact bkX10_run_80 ⟨_, rfl, by rw [wx_g, g2, sp_run, if_pos hx, if_neg hns, if_neg (by rw [e]; decide), if_pos e], ⟨g, h, rfl⟩⟩
      · exact bkX10_run_88 ⟨_, rfl, by rw [wx_g, g3, sp_run, if_pos hx, if_neg hns, if_neg (by rw [e]; decide), if_neg (by rw [e]; decide), if_pos e], ⟨g, h, rfl⟩⟩
      · exact bkX10_run_96 ⟨_, rfl, by rw [wx_g, g4, sp_run, if_pos hx, if_neg hns, if_neg e0, if_neg e1, if_neg e2], ⟨g, h, rfl⟩⟩
    · have hns : p 230 = 0 := by rw [hD, hp.1] at h0; exact (nI_eq (b := 0) (by omega) (by omega)).mp h0
      exact bkX10_run_21 ⟨_, rfl, by rw [sp_run, if_pos hx, if_pos hns], scX_rf _⟩
theorem kM_run {x : Int32} (hT : TrM S n t) (hW : WFp p) (hp : PrM S p) : Ci (d + 5) mX11_run [vR 11 0, vI x] S (fun v S' => v = sp_run n t p x ∧ scM S S') := by
  have h1 := hT.1
  have h2 := hT.2.1
  have h8 := hW.1
  refine cxX11_run ?_
  refine bkX11_run_0 (kM_inI (lo := 0) (hi := 3) rfl rfl) ?_
  rintro _ S ⟨rfl, rfl⟩
  cases hx : inR x 0 3
  · exact bkX11_run_9 (fun h => absurd rfl h) (fun _ => bkX11_run_12 ⟨_, rfl, by simp [sp_run, hx], scM_rf _⟩)
  · refine bkX11_run_9 (fun _ => ?_) (fun h => absurd h (by decide))
    refine bkX11_run_14 (fun h0 => ?_) (fun h0 => ?_)
    · have hns : ¬ p 230 = 0 := fun z => h0 (by rw [hp 230 (by omega), z]; rfl)
      refine bkX11_run_28 (kM_runs0 (N := n) hT (Nat.le_refl _) (by rw [h1]; exact pk_sub_toInt (b := 1) (by omega) (by omega)) hW hp) ?_
      rintro _ ⟨g, h, rfl, hk, g1, g2, g3, g4⟩
      refine bkX11_run_38 (fun e0 => ?_) (fun e => ?_)
      · refine bkX11_run_49 (fun e1 => ?_) (fun e => ?_)
        · refine bkX11_run_61 (fun e2 => ?_) (fun e => ?_)
          · exact bkX11_run_73 (bkX11_run_77 ⟨_, rfl, by rw [mx_g, g4, sp_run, if_pos hx, if_neg hns, if_neg e0, if_neg e1, if_neg e2], ⟨g, h, rfl, hk⟩⟩)
          · exact bkX11_run_66 (bkX11_run_77 ⟨_, rfl, by rw [mx_g, g3, sp_run, if_pos hx, if_neg hns, if_neg e0, if_neg e1, if_pos e], ⟨g, h, rfl, hk⟩⟩)
        · exact bkX11_run_54 (bkX11_run_77 ⟨_, rfl, by rw [mx_g, g2, sp_run, if_pos hx, if_neg hns, if_neg e0, if_pos e], ⟨g, h, rfl, hk⟩⟩)
      · exact bkX11_run_42 (bkX11_run_77 ⟨_, rfl, by rw [mx_g, g1, sp_run, if_pos hx, if_neg hns, if_pos e], ⟨g, h, rfl, hk⟩⟩)
    · have hns : p 230 = 0 := by rw [hp 230 (by omega)] at h0; exact (nI_eq (b := 0) (by omega) (by omega)).mp h0
      exact bkX11_run_25 ⟨_, rfl, by rw [sp_run, if_pos hx, if_pos hns], scM_rf _⟩
def sp_state (n : Nat) (t p : Nat → Nat) (x : Int32) : Int32 := if inR x 0 ((n : Int) - 1) then (if p 230 = 0 then -2 else (s_go t p (x.toInt.toNat + 1)).2.1) else -1
theorem kX10_state {x : Int32} {r : Nat} (hD : S.2.2 0 = r) (hr : r < 2) (hT : TrX S 0 n t) (hW : WFp p) (hp : PrX S r p) : Ci (d + 6) mX10_state [vR 10 0, vI x] S (fun v S' => v = sp_state n t p x ∧ scX S S') := by
  have h1 := hT.1
  have h2 := hT.2.1
  have h8 := hW.1
  refine cxX10_state ?_
  refine bkX10_state_0 (kX8_has h1 h2 (by omega)) ?_
  rintro _ S ⟨rfl, rfl⟩
  cases hx : inR x 0 ((n : Int) - 1)
  · exact bkX10_state_8 (fun h => absurd rfl h) (fun _ => bkX10_state_11 ⟨_, rfl, by simp [sp_state, hx], scX_rf _⟩)
  · refine bkX10_state_8 (fun _ => ?_) (fun h => absurd h (by decide))
    obtain ⟨k, hk, rfl⟩ := inR_get hx
    refine bkX10_state_13 (by rw [hD]; exact hr) (fun h0 => ?_) (fun h0 => ?_)
    · have hns : ¬ p 230 = 0 := fun z => h0 (by rw [hD, hp.1, z]; rfl)
      refine bkX10_state_26 (P := po_run S (s_go t p (k + 1))) (by rw [hD, nI_1]; exact kX9_follow hT (by omega) (by omega) hr hW hp) ?_
      rintro _ ⟨g, h, rfl, g1, g2, g3, g4⟩
      exact bkX10_state_44 ⟨_, rfl, by rw [wx_g, g2, sp_state, if_pos hx, if_neg hns, nI_tn (by omega)], ⟨g, h, rfl⟩⟩
    · have hns : p 230 = 0 := by rw [hD, hp.1] at h0; exact (nI_eq (b := 0) (by omega) (by omega)).mp h0
      exact bkX10_state_23 ⟨_, rfl, by rw [sp_state, if_pos hx, if_pos hns], scX_rf _⟩
theorem kM_state {x : Int32} (hT : TrM S n t) (hW : WFp p) (hp : PrM S p) : Ci (d + 5) mX11_state [vR 11 0, vI x] S (fun v S' => v = sp_state n t p x ∧ scM S S') := by
  have h1 := hT.1
  have h2 := hT.2.1
  have h8 := hW.1
  refine cxX11_state ?_
  refine bkX11_state_0 (kM_isSample h1 h2) ?_
  rintro _ S ⟨rfl, rfl⟩
  cases hx : inR x 0 ((n : Int) - 1)
  · exact bkX11_state_5 (fun h => absurd rfl h) (fun _ => bkX11_state_8 ⟨_, rfl, by simp [sp_state, hx], scM_rf _⟩)
  · refine bkX11_state_5 (fun _ => ?_) (fun h => absurd h (by decide))
    obtain ⟨k, hk, rfl⟩ := inR_get hx
    refine bkX11_state_10 (fun h0 => ?_) (fun h0 => ?_)
    · have hns : ¬ p 230 = 0 := fun z => h0 (by rw [hp 230 (by omega), z]; rfl)
      refine bkX11_state_24 (kM_runs0 (N := k + 1) hT (by omega) (by rw [nI_toInt (by omega)]; omega) hW hp) ?_
      rintro _ ⟨g, h, rfl, hk2, g1, g2, g3, g4⟩
      exact bkX11_state_29 ⟨_, rfl, by rw [mx_g, g2, sp_state, if_pos hx, if_neg hns, nI_tn (by omega)], ⟨g, h, rfl, hk2⟩⟩
    · have hns : p 230 = 0 := by rw [hp 230 (by omega)] at h0; exact (nI_eq (b := 0) (by omega) (by omega)).mp h0
      exact bkX11_state_21 ⟨_, rfl, by rw [sp_state, if_pos hx, if_pos hns], scM_rf _⟩
end RM
