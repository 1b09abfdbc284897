/-! ===== Arrays.fill; a run ===== -/
theorem lJ_fill {d : Nat} {S : hs_T} {k j n : Nat} {x : Int32} {Q : Option av_T → hs_T → Prop} (hp : (k, j) ∈ plc) (hk : ¬ k < 12) (ha : ak_ k = (0, n, 0, 0)) (hn : n < 2 ^ 31) (hQ : ∀ h : Nat → Int32, (∀ a, a < n → h a = x) → Q none (sk_ S k j h)) :
    ∀ (m i : Nat) (h : Nat → Int32), i + m = n → (∀ a, a < i → h a = x) → Ev d mJ7_fill_53178 5 [some (vR k j), some (vI x), some (vI (nI i)), some (vI (nI n))] [] (sk_ S k j h) Q := by
  intro m
  induction m with
  | zero =>
    intro i h h1 h2
    have e : i = n := by omega
    subst e
    refine Ev.iload_n dJ7_fill_53178_5 rfl rfl (Ev.iload_n dJ7_fill_53178_6 rfl rfl ?_)
    refine Ev.icmp_ge (tgt := 20) dJ7_fill_53178_7 (by decide) (fun _ => ?_) (fun z => absurd (nI_le (Nat.le_refl _) (by omega)) z)
    exact Ev.vret dJ7_fill_53178_20 rfl (hQ h h2)
  | succ m ih =>
    intro i h h1 h2
    refine Ev.iload_n dJ7_fill_53178_5 rfl rfl (Ev.iload_n dJ7_fill_53178_6 rfl rfl ?_)
    refine Ev.icmp_ge (tgt := 20) dJ7_fill_53178_7 (by decide) (fun z => absurd z (nl_ (by omega) (by omega))) (fun _ => ?_)
    refine Ev.aload_n dJ7_fill_53178_10 rfl rfl (Ev.iload_n dJ7_fill_53178_11 rfl rfl (Ev.iload_n dJ7_fill_53178_12 rfl rfl ?_))
    refine Ev.iastoreA (a := i) hp hk ha (vp_lt (by omega) hn) (nI_clamp (by omega)) (by rw [sk_at, sk_sk]) dJ7_fill_53178_13 ?_
    refine Ev.iinc (v := nI (i + 1)) (ls' := [some (vR k j), some (vI x), some (vI (nI (i + 1))), some (vI (nI n))]) dJ7_fill_53178_14 rfl (nI_1 i) (by decide) rfl ?_
    refine Ev.goto (tgt := 5) dJ7_fill_53178_17 (by decide) ?_
    refine ih (i + 1) _ (by omega) (fun a ha => ?_)
    by_cases e : a = i
    · subst e; exact pk_us
    · rw [pk_un e]; exact h2 a (by omega)
theorem kJ_fill {d : Nat} {S : hs_T} {k j n : Nat} {x : Int32} (hp : (k, j) ∈ plc) (hk : ¬ k < 12) (ha : ak_ k = (0, n, 0, 0)) (hn : n < 2 ^ 31) : Cv d mJ7_fill_53178 [vR k j, vI x] S (fun S' => ∃ h, S' = sk_ S k j h ∧ ∀ a, a < n → h a = x) := by
  refine Cx.of (by decide) (by simp [el_, ct_]) ?_
  show Ev d mJ7_fill_53178 0 [some (vR k j), some (vI x), none, none] [] S _
  refine Ev.iconst (v := 0) dJ7_fill_53178_0 (by decide) ?_
  refine Ev.istore_n (ls' := [some (vR k j), some (vI x), some (vI 0), none]) dJ7_fill_53178_1 rfl (by decide) rfl ?_
  refine Ev.aload_n dJ7_fill_53178_2 rfl rfl ?_
  refine Ev.alen (v := nI n) (n := n) hp hk (by rw [ha]) (Or.inl (by rw [ha])) rfl dJ7_fill_53178_3 ?_
  refine Ev.istore_n (ls' := [some (vR k j), some (vI x), some (vI 0), some (vI (nI n))]) dJ7_fill_53178_4 rfl (by decide) rfl ?_
  have := lJ_fill (d := d) (S := S) (x := x) (Q := fun r S' => r = none ∧ ∃ h, S' = sk_ S k j h ∧ ∀ a, a < n → h a = x) hp hk ha hn (fun h h2 => ⟨rfl, h, rfl, h2⟩) n 0 (S.1 k j) (by omega) (fun a ha => by omega)
  rw [sk_id] at this
  exact this
/-- one sample: branches by order from b on; what each has come to -/
def s_br (t p : Nat → Nat) (st i lk : Nat) : Nat → Nat → (Nat → Int32) → Option Nat × (Nat → Int32)
  | 0, _, cm => (none, cm)
  | m + 1, b, cm => if c_so t p (3 * (3 * st + b)) (p (3 * st + b)) i lk then (if cm b + 1 = nI (p (24 + (3 * st + b))) then (some (p (48 + (3 * st + b))), upd cm b (cm b + 1)) else s_br t p st i lk m (b + 1) (upd cm b (cm b + 1))) else s_br t p st i lk m (b + 1) cm
/-- a run from sample i on, m samples: hit, state, how often entered, how many looked at -/
def s_run (t p : Nat → Nat) : Nat → Nat → Nat → Nat → (Nat → Int32) → Int32 → Int32 → Int32 × Int32 × Int32 × Int32
  | 0, _, st, _, _, en, lo => (-4, nI st, en, lo)
  | m + 1, i, st, lk, cm, en, lo => match s_br t p st i lk (p (222 + st)) 0 cm with
    | (none, cm') => s_run t p m (i + 1) st (lk + 1) cm' en (lo + 1)
    | (some g, _) => if g = 8 then (nI i, 8, en, lo + 1) else s_run t p m (i + 1) g 0 (fun _ => 0) (en + 1) (lo + 1)
def s_go (t p : Nat → Nat) (m : Nat) : Int32 × Int32 × Int32 × Int32 := if p 230 = 0 then (-4, 0, 0, 0) else s_run t p m 0 0 0 (fun _ => 0) 0 0
/-- the watch's cells -/
def wx_ (S : hs_T) (g h : Nat → Int32) : hs_T := sk_ (sk_ S 9 0 g) 1000 0 h
theorem wx_g (S : hs_T) (g h : Nat → Int32) : (wx_ S g h).1 9 0 = g := by unfold wx_; rw [sk_ne _ _ (by omega), sk_at]
theorem wx_h (S : hs_T) (g h : Nat → Int32) : (wx_ S g h).1 1000 0 = h := sk_at _ _ _ _
theorem wx_o (S : hs_T) (g h : Nat → Int32) {k j : Nat} (h1 : k ≠ 9) (h2 : k ≠ 1000) : (wx_ S g h).1 k j = S.1 k j := by unfold wx_; rw [sk_ne _ _ (by omega), sk_ne _ _ (by omega)]
theorem wx_sg (S : hs_T) (g h g' : Nat → Int32) : sk_ (wx_ S g h) 9 0 g' = wx_ S g' h := by unfold wx_; rw [sk_cm _ _ _ (by omega), sk_sk]
theorem wx_sh (S : hs_T) (g h h' : Nat → Int32) : sk_ (wx_ S g h) 1000 0 h' = wx_ S g h' := sk_sk _ _ _ _ _
theorem wx_id (S : hs_T) : wx_ S (S.1 9 0) (S.1 1000 0) = S := by unfold wx_; rw [sk_id, sk_id]
theorem wx_2 (S : hs_T) (g h : Nat → Int32) : (wx_ S g h).2 = S.2 := rfl
section RN
variable {d : Nat} {S : hs_T} {r n w i j : Nat} {t p : Nat → Nat} {g h : Nat → Int32}
theorem TrX_w (hT : TrX S j n t) : TrX (wx_ S g h) j n t := by
  unfold TrX; rw [wx_o _ _ _ (by omega) (by omega), wx_o _ _ _ (by omega) (by omega)]; exact hT
theorem CdX_w {c m : Nat} (hC : CdX S r p c m) : CdX (wx_ S g h) r p c m := by
  unfold CdX; rw [wx_o _ _ _ (by omega) (by omega), wx_o _ _ _ (by omega) (by omega), wx_o _ _ _ (by omega) (by omega)]; exact hC
theorem PrX_w (hp : PrX S r p) : PrX (wx_ S g h) r p := by
  obtain ⟨h1, h2, h3, h4, h5⟩ := hp
  refine ⟨?_, ?_, ?_, fun s hs => ⟨?_, fun b hb => ⟨?_, ?_, CdX_w ((h4 s hs).2 b hb).2.2⟩⟩, CdX_w h5⟩ <;> rw [wx_o _ _ _ (by omega) (by omega)]
  · exact h1
  · exact h2
  · exact h3
  · exact (h4 s hs).1
  · exact ((h4 s hs).2 b hb).1
  · exact ((h4 s hs).2 b hb).2.1
theorem kX9_enter {x : Int32} : Cv (d + 1) mX9_enter [vR 9 0, vI x] (wx_ S g h) (fun S' => ∃ h', S' = wx_ S (upd (upd g 2 x) 5 0) h' ∧ ∀ b, b < 3 → h' b = 0) := by
  refine cxX9_enter ?_
  have e : (sk_ (sk_ (wx_ S g h) 9 0 (upd ((wx_ S g h).1 9 0) 2 x)) 9 0 (upd ((sk_ (wx_ S g h) 9 0 (upd ((wx_ S g h).1 9 0) 2 x)).1 9 0) 5 0)) = wx_ S (upd (upd g 2 x) 5 0) h := by
    rw [sk_sk, sk_at, wx_g, wx_sg]
  refine bkX9_enter_0 (P := fun S' => ∃ h', S' = wx_ S (upd (upd g 2 x) 5 0) h' ∧ ∀ b, b < 3 → h' b = 0) ?_ ?_
  · rw [e]
    refine (kJ_fill pz_1000_0 (by decide) ak_1000 (by decide)).imp ?_
    rintro S' ⟨h', rfl, h2⟩
    exact ⟨h', wx_sh _ _ _ _, h2⟩
  · intro S' hS
    exact bkX9_enter_18 ⟨rfl, hS⟩
theorem kX9_leave {x : Int32} : Cv (d + 2) mX9_leave [vR 9 0, vI x, vI (nI i)] (wx_ S g h) (fun S' => if x = 8 then S' = wx_ S (upd (upd g 1 (nI i)) 2 8) h else ∃ h', S' = wx_ S (upd (upd (upd g 3 (g 3 + 1)) 2 x) 5 0) h' ∧ ∀ b, b < 3 → h' b = 0) := by
  refine cxX9_leave ?_
  refine bkX9_leave_0 (fun hx => ?_) (fun hx => ?_)
  · refine bkX9_leave_20 (P := fun S' => ∃ h', S' = wx_ S (upd (upd (upd g 3 (g 3 + 1)) 2 x) 5 0) h' ∧ ∀ b, b < 3 → h' b = 0) ?_ ?_
    · rw [wx_g, wx_sg]
      exact kX9_enter
    · intro S' hS
      exact bkX9_leave_35 ⟨rfl, by show (if x = 8 then _ else _); rw [if_neg hx]; exact hS⟩
  · refine bkX9_leave_6 (bkX9_leave_35 ⟨rfl, ?_⟩)
    show (if x = 8 then _ else _)
    rw [if_pos hx, sk_sk, sk_at, wx_g, wx_sg]
/-- what a look leaves -/
def po_look (S : hs_T) (g : Nat → Int32) (i : Nat) (o : Option Nat × (Nat → Int32)) (S' : hs_T) : Prop := match o with
  | (none, cm) => ∃ h', S' = wx_ S (upd g 5 (g 5 + 1)) h' ∧ ∀ b, b < 3 → h' b = cm b
  | (some x, _) => if x = 8 then ∃ h', S' = wx_ S (upd (upd g 1 (nI i)) 2 8) h' else ∃ h', S' = wx_ S (upd (upd (upd g 3 (g 3 + 1)) 2 (nI x)) 5 0) h' ∧ ∀ b, b < 3 → h' b = 0
theorem lX9_look {st lk : Nat} (hT : TrX S j n t) (hj : j < 4) (hi : i < n) (hr : r < 2) (hW : WFp p) (hp : PrX S r p) (hst : st < p 230) (hlk : lk ≤ 400) (hg2 : g 2 = nI st) (hg5 : g 5 = nI lk) :
    ∀ (m b : Nat) (h cm : Nat → Int32) (o6 : Option av_T), b + m = p (222 + st) → (∀ b, b < 3 → h b = cm b) → Ev (d + 4) mX9_look 21 [some (vR 9 0), some (vR 5 r), some (vR 8 j), some (vI (nI i)), some (vI (nI (p (222 + st)))), some (vI (nI b)), o6] [] (wx_ S g h) (fun r S' => r = none ∧ po_look S g i (s_br t p st i lk m b cm) S') := by
  obtain ⟨hb1, hb3, hbr⟩ := hW.2.1 st hst
  have h8 := hW.1
  intro m
  induction m with
  | zero =>
    intro b h cm o6 hb hcm
    have e : b = p (222 + st) := by omega
    subst e
    refine bkX9_look_21 (fun _ => bkX9_look_103 ⟨rfl, h, ?_, hcm⟩) (fun z => absurd (nI_le (Nat.le_refl _) (by omega)) z)
    rw [wx_g, wx_sg]
  | succ m ih =>
    intro b h cm o6 hb hcm
    obtain ⟨h99, htg, hm3, hoc⟩ := hbr b (by omega)
    obtain ⟨-, hcls⟩ := hp.2.2.2.1 st hst
    obtain ⟨htm, htt, hcd⟩ := hcls b (by omega)
    refine bkX9_look_21 (fun z => absurd z (nl_ (by omega) (by omega))) (fun _ => ?_)
    refine bkX9_look_28 hr (P := fun v S' => v = nI (3 * st + b) ∧ S' = wx_ S g h) (by rw [wx_g, hg2]; exact kX5_bp hr hW (PrX_w hp) hst (by omega)) ?_
    rintro _ _ ⟨rfl, rfl⟩
    refine bkX9_look_38 hr (P := fun v S' => v = bi_ (c_so t p (3 * (3 * st + b)) (p (3 * st + b)) i lk) ∧ S' = wx_ S g h) (by rw [wx_g, hg5]; exact kX5_holds (TrX_w hT) hj hi hlk hr (by omega) (CdX_w hcd) hm3 hoc) ?_
    rintro _ _ ⟨rfl, rfl⟩
    unfold s_br
    refine bkX9_look_52 (fun hb => ?_) (fun hb => ?_)
    · rw [bi_ne0] at hb
      rw [if_pos hb]
      have e1 : sk_ (wx_ S g h) 1000 0 (upd ((wx_ S g h).1 1000 0) (nI b).toNatClampNeg ((wx_ S g h).1 1000 0 (nI b).toNatClampNeg + 1)) = wx_ S g (upd h b (h b + 1)) := by
        rw [wx_h, wx_sh, nI_clamp (by omega)]
      refine bkX9_look_58 (vp_lt (by omega) (by omega)) hr (P := fun v S' => v = nI (p (24 + (3 * st + b))) ∧ S' = wx_ S g (upd h b (h b + 1))) ?_ ?_
      · rw [e1]
        refine (kX5_timesOf hr (c := 3 * st + b) (by omega)).imp ?_
        rintro v S' ⟨rfl, rfl⟩
        exact ⟨by rw [wx_o _ _ _ (by omega) (by omega)]; exact htm, rfl⟩
      · rintro _ _ ⟨rfl, rfl⟩
        rw [e1, wx_h, nI_clamp (by omega), pk_us, ← hcm b (by omega)]
        have hcm' : ∀ a, a < 3 → upd h b (h b + 1) a = upd cm b (h b + 1) a := by
          intro a ha
          by_cases e : a = b
          · subst e; rw [pk_us, pk_us]
          · rw [pk_un e, pk_un e]; exact hcm a ha
        refine bkX9_look_82 (fun he => ?_) (fun he => ?_)
        · rw [if_neg he]
          refine bkX9_look_97 ?_
          rw [nI_1]
          exact ih (b + 1) _ _ _ (by omega) hcm'
        · rw [if_pos he]
          refine bkX9_look_85 hr (P := fun v S' => v = nI (p (48 + (3 * st + b))) ∧ S' = wx_ S g (upd h b (h b + 1))) ?_ ?_
          · refine (kX5_targetOf hr (c := 3 * st + b) (by omega)).imp ?_
            rintro v S' ⟨rfl, rfl⟩
            exact ⟨by rw [wx_o _ _ _ (by omega) (by omega)]; exact htt, rfl⟩
          · rintro _ _ ⟨rfl, rfl⟩
            refine bkX9_look_92 (kX9_leave (d := d + 1)) ?_
            intro S' hS
            refine bkX9_look_96 ⟨rfl, ?_⟩
            have e8 : nI (p (48 + (3 * st + b))) = 8 ↔ p (48 + (3 * st + b)) = 8 := nI_eq (b := 8) (by omega) (by omega)
            unfold po_look
            by_cases h8 : p (48 + (3 * st + b)) = 8
            · rw [if_pos (e8.mpr h8)] at hS
              show if _ then _ else _
              rw [if_pos h8]
              exact ⟨_, hS⟩
            · rw [if_neg (fun z => h8 (e8.mp z))] at hS
              show if _ then _ else _
              rw [if_neg h8]
              exact hS
    · rw [bi_0] at hb
      rw [if_neg (by rw [hb]; decide)]
      refine bkX9_look_55 (bkX9_look_97 ?_)
      rw [nI_1]
      exact ih (b + 1) _ _ _ (by omega) hcm
theorem kX9_look {st lk : Nat} {cm : Nat → Int32} (hT : TrX S j n t) (hj : j < 4) (hi : i < n) (hr : r < 2) (hW : WFp p) (hp : PrX S r p) (hst : st < p 230) (hlk : lk ≤ 400) (hg2 : g 2 = nI st) (hg5 : g 5 = nI lk) (hcm : ∀ b, b < 3 → h b = cm b) : Cv (d + 4) mX9_look [vR 9 0, vR 5 r, vR 8 j, vI (nI i)] (wx_ S g h) (po_look S g i (s_br t p st i lk (p (222 + st)) 0 cm)) := by
  obtain ⟨hb1, hb3, hbr⟩ := hW.2.1 st hst
  refine cxX9_look ?_
  refine bkX9_look_0 hr (P := fun v S' => v = nI (p (222 + st)) ∧ S' = wx_ S g h) (by rw [wx_g, hg2]; exact kX5_bc hr hW (PrX_w hp) hst) ?_
  rintro _ _ ⟨rfl, rfl⟩
  refine bkX9_look_8 ?_
  rw [if_neg (show ¬ (3 : Int32) < nI (p (222 + st)) from nI_nlt (a := 3) (by omega) (by omega))]
  exact lX9_look hT hj hi hr hW hp hst hlk hg2 hg5 (p (222 + st)) 0 h cm _ (by omega) hcm
/-- the watch's fields behind a run -/
def po_run (S : hs_T) (o : Int32 × Int32 × Int32 × Int32) (S' : hs_T) : Prop := ∃ g h, S' = wx_ S g h ∧ g 1 = o.1 ∧ g 2 = o.2.1 ∧ g 3 = o.2.2.1 ∧ g 4 = o.2.2.2
theorem s_br_tg {st lk : Nat} (hW : WFp p) (hst : st < p 230) : ∀ (m b : Nat) (cm cm' : Nat → Int32) (x : Nat), b + m = p (222 + st) → s_br t p st i lk m b cm = (some x, cm') → x = 8 ∨ x < p 230 := by
  obtain ⟨hb1, hb3, hbr⟩ := hW.2.1 st hst
  intro m
  induction m with
  | zero => intro b cm cm' x _ h; simp [s_br] at h
  | succ m ih =>
    intro b cm cm' x hb h
    unfold s_br at h
    split at h
    · split at h
      · have e := (Prod.mk.injEq .. ▸ h).1
        cases e
        exact (hbr b (by omega)).2.1
      · exact ih _ _ _ _ (by omega) h
    · exact ih _ _ _ _ (by omega) h
theorem lX9_follow {N : Nat} {Q : Option av_T → hs_T → Prop} (hT : TrX S j n t) (hj : j < 4) (hN : N ≤ n) (hr : r < 2) (hW : WFp p) (hp : PrX S r p) (hns : 0 < p 230) :
    ∀ (m i st lk : Nat) (cm g h : Nat → Int32) (en lo : Int32), i + m = N → st < p 230 → lk ≤ i → (∀ b, b < 3 → h b = cm b) → g 1 = -4 → g 2 = nI st → g 3 = en → g 4 = lo → g 5 = nI lk → (∀ S', po_run S (s_run t p m i st lk cm en lo) S' → Q none S') → Ev (d + 5) mX9_follow 24 [some (vR 9 0), some (vR 5 r), some (vR 8 j), some (vI (nI N)), some (vI (nI i))] [] (wx_ S g h) Q := by
  have hn := hT.2.1
  have h8 := hW.1
  intro m
  induction m with
  | zero =>
    intro i st lk cm g h en lo hi hst hlk hcm g1 g2 g3 g4 g5 hQ
    have e : i = N := by omega
    subst e
    refine bkX9_follow_24 (fun _ => bkX9_follow_68 (hQ _ ⟨g, h, rfl, g1, g2, g3, g4⟩)) (fun z => absurd (nI_le (Nat.le_refl _) (by omega)) z)
  | succ m ih =>
    intro i st lk cm g h en lo hi hst hlk hcm g1 g2 g3 g4 g5 hQ
    refine bkX9_follow_24 (fun z => absurd z (nl_ (by omega) (by omega))) (fun _ => ?_)
    refine bkX9_follow_30 (fun z => absurd z (by rw [wx_g, g1]; decide)) (fun _ => ?_)
    refine bkX9_follow_37 hr (fun z => absurd z (by rw [wx_o _ _ _ (by omega) (by omega), hp.1]; exact nI_nle hns (by omega))) (fun _ => ?_)
    refine bkX9_follow_44 (kX9_look hT hj (by omega) hr hW hp hst (by omega) g2 g5 hcm) ?_
    intro S' hS
    refine bkX9_follow_52 ?_
    unfold s_run at hQ
    cases hb : s_br t p st i lk (p (222 + st)) 0 cm with
    | mk o cm' =>
      rw [hb] at hQ hS
      cases o with
      | none =>
        obtain ⟨h', rfl, hh⟩ := hS
        rw [wx_g, wx_sg, nI_1]
        refine ih (i + 1) st (lk + 1) cm' _ h' en (lo + 1) (by omega) hst (by omega) hh ?_ ?_ ?_ ?_ ?_ hQ
        · rw [pk_un (by omega), pk_un (by omega)]; exact g1
        · rw [pk_un (by omega), pk_un (by omega)]; exact g2
        · rw [pk_un (by omega), pk_un (by omega)]; exact g3
        · rw [pk_us, pk_un (by omega), g4]
        · rw [pk_un (by omega), pk_us, g5, nI_1]
      | some x =>
        have hx := s_br_tg (t := t) (i := i) (lk := lk) hW hst _ _ _ _ _ (by omega) hb
        unfold po_look at hS
        replace hS : if x = 8 then _ else _ := hS
        replace hQ : ∀ S', po_run S (if x = 8 then _ else _) S' → Q none S' := hQ
        by_cases e8 : x = 8
        · rw [if_pos e8] at hS
          obtain ⟨h', rfl⟩ := hS
          rw [wx_g, wx_sg, nI_1]
          have fin : Q none (wx_ S (upd (upd (upd g 1 (nI i)) 2 8) 4 (upd (upd g 1 (nI i)) 2 8 4 + 1)) h') := by
            refine hQ _ ?_
            rw [if_pos e8]
            refine ⟨_, h', rfl, ?_, ?_, ?_, ?_⟩
            · rw [pk_un (by omega), pk_un (by omega), pk_us]
            · rw [pk_un (by omega), pk_us]
            · rw [pk_un (by omega), pk_un (by omega), pk_un (by omega)]; exact g3
            · rw [pk_us, pk_un (by omega), pk_un (by omega), g4]
          refine bkX9_follow_24 (fun _ => bkX9_follow_68 fin) (fun _ => ?_)
          refine bkX9_follow_30 (fun _ => bkX9_follow_68 fin) (fun z => absurd ?_ z)
          rw [wx_g, pk_un (by omega), pk_un (by omega), pk_us]
          exact nI_pos' (by omega)
        · rw [if_neg e8] at hS
          obtain ⟨h', rfl, hh⟩ := hS
          rw [wx_g, wx_sg, nI_1]
          refine ih (i + 1) x 0 (fun _ => 0) _ h' (en + 1) (lo + 1) (by omega) (by omega) (by omega) hh ?_ ?_ ?_ ?_ ?_ (fun S' hS' => hQ S' (by rw [if_neg e8]; exact hS'))
          · rw [pk_un (by omega), pk_un (by omega), pk_un (by omega), pk_un (by omega)]; exact g1
          · rw [pk_un (by omega), pk_un (by omega), pk_us]
          · rw [pk_un (by omega), pk_un (by omega), pk_un (by omega), pk_us, g3]
          · rw [pk_us, pk_un (by omega), pk_un (by omega), pk_un (by omega), g4]
          · rw [pk_un (by omega), pk_us]; rfl
theorem kX9_follow {N : Nat} (hT : TrX S j n t) (hj : j < 4) (hN : N ≤ n) (hr : r < 2) (hW : WFp p) (hp : PrX S r p) : Cv (d + 5) mX9_follow [vR 9 0, vR 5 r, vR 8 j, vI (nI N)] S (po_run S (s_go t p N)) := by
  have hn := hT.2.1
  have h8 := hW.1
  refine cxX9_follow ?_
  have e : (sk_ (sk_ (sk_ S 9 0 (upd (S.1 9 0) 1 (-4))) 9 0 (upd ((sk_ S 9 0 (upd (S.1 9 0) 1 (-4))).1 9 0) 3 0)) 9 0 (upd ((sk_ (sk_ S 9 0 (upd (S.1 9 0) 1 (-4))) 9 0 (upd ((sk_ S 9 0 (upd (S.1 9 0) 1 (-4))).1 9 0) 3 0)).1 9 0) 4 0)) = wx_ S (upd (upd (upd (S.1 9 0) 1 (-4)) 3 0) 4 0) (S.1 1000 0) := by
    rw [sk_sk, sk_at, sk_at, sk_sk]
    conv => lhs; rw [← wx_id S, wx_sg]
    simp only [wx_id]
  refine bkX9_follow_0 (P := fun S' => ∃ h', S' = wx_ S (upd (upd (upd (upd (upd (S.1 9 0) 1 (-4)) 3 0) 4 0) 2 0) 5 0) h' ∧ ∀ b, b < 3 → h' b = 0) (by rw [e]; exact kX9_enter) ?_
  rintro _ ⟨h', rfl, hh⟩
  refine bkX9_follow_21 ?_
  unfold s_go
  by_cases h0 : p 230 = 0
  · rw [if_pos h0]
    have fin : po_run S (-4, 0, 0, 0) (wx_ S (upd (upd (upd (upd (upd (S.1 9 0) 1 (-4)) 3 0) 4 0) 2 0) 5 0) h') := ⟨_, h', rfl, rfl, rfl, rfl, rfl⟩
    refine bkX9_follow_24 (fun _ => bkX9_follow_68 ⟨rfl, fin⟩) (fun _ => ?_)
    refine bkX9_follow_30 (fun _ => bkX9_follow_68 ⟨rfl, fin⟩) (fun _ => ?_)
    refine bkX9_follow_37 hr (fun _ => bkX9_follow_68 ⟨rfl, fin⟩) (fun z => absurd ?_ z)
    rw [wx_o _ _ _ (by omega) (by omega), hp.1, h0]
    decide
  · rw [if_neg h0]
    exact lX9_follow hT hj hN hr hW hp (by omega) N 0 0 0 (fun _ => 0) _ h' 0 0 (by omega) (by omega) (by omega) hh rfl rfl rfl rfl rfl (fun S' h => ⟨rfl, h⟩)
end RN
