/-! ===== read, the reference's ===== -/
def rc_ (o : st_T) (l : Nat) (f : Int32) (i c : Nat) : Nat := match o with
  | none => 1
  | some q => if l = q.1 then (if 0 ≤ f.toInt + (2 * i + c : Nat) ∧ f.toInt + (2 * i + c : Nat) < q.2.1 then 0 else 2) else 3
theorem rc_le (o : st_T) (l : Nat) (f : Int32) (i c : Nat) : rc_ o l f i c ≤ 3 := by
  unfold rc_
  cases o with
  | none => exact (by decide : (1 : Nat) ≤ 3)
  | some q =>
    show (if l = q.1 then (if 0 ≤ f.toInt + (2 * i + c : Nat) ∧ f.toInt + (2 * i + c : Nat) < q.2.1 then 0 else 2) else 3) ≤ 3
    split
    · split <;> omega
    · omega
theorem rd_stop {o : st_T} {l N : Nat} {f : Int32} (h : (rd_p o l f N).2 < N) : (rd_p o l f N).1 ≠ 0 ∧ (rc_ o l f (rd_p o l f N).2 0 = (rd_p o l f N).1 ∨ (rc_ o l f (rd_p o l f N).2 0 = 0 ∧ rc_ o l f (rd_p o l f N).2 1 = (rd_p o l f N).1)) := by
  have hN0 : ¬ N = 0 := by omega
  unfold rd_p at h ⊢
  simp only [if_neg hN0] at h ⊢
  cases o with
  | none => exact ⟨by simp, Or.inl rfl⟩
  | some q =>
    by_cases hl : l = q.1
    · simp only [if_pos hl] at h ⊢
      rw [if_pos h]
      refine ⟨by decide, ?_⟩
      unfold rc_
      simp only [if_pos hl]
      unfold rd_W at h ⊢
      cases hf : inR f 0 ((q.2.1 : Int) - 1)
      · refine Or.inl ?_
        rw [if_neg]
        intro z
        simp only [Bool.false_eq_true, if_false, Nat.mul_zero, Nat.zero_add] at z
        have : inR f 0 ((q.2.1 : Int) - 1) = true := decide_eq_true ⟨by omega, by omega⟩
        rw [this] at hf; exact absurd hf (by decide)
      · rw [hf] at h
        obtain ⟨F, hF, rfl⟩ := inR_get hf
        have hr := (fb_rng (nI F)).2
        by_cases hF31 : F < 2 ^ 31
        · rw [if_pos rfl] at h ⊢
          rw [nI_tn hF31] at h ⊢
          rw [nI_toInt hF31]
          rw [Nat.min_eq_right (by omega)] at h ⊢
          by_cases z : F + 2 * ((q.2.1 - F) / 2) < q.2.1
          · refine Or.inr ⟨?_, ?_⟩
            · rw [if_pos (by omega)]
            · rw [if_neg (by omega)]
          · exact Or.inl (by rw [if_neg (by omega)])
        · have hm := decide_eq_true_eq.mp (show decide (0 ≤ (nI F).toInt ∧ (nI F).toInt ≤ (q.2.1 : Int) - 1) = true from hf)
          obtain ⟨F', e1, e2⟩ := nI_rng hm.1
          have hF' : F' < 2 ^ 31 := by omega
          rw [e1] at h ⊢
          rw [if_pos rfl] at h ⊢
          rw [nI_tn hF'] at h ⊢
          rw [nI_toInt hF']
          rw [Nat.min_eq_right (by omega)] at h ⊢
          by_cases z : F' + 2 * ((q.2.1 - F') / 2) < q.2.1
          · refine Or.inr ⟨?_, ?_⟩
            · rw [if_pos (by omega)]
            · rw [if_neg (by omega)]
          · exact Or.inl (by rw [if_neg (by omega)])
    · simp only [if_neg hl] at h ⊢
      refine ⟨by decide, Or.inl ?_⟩
      unfold rc_
      simp only [if_neg hl]
theorem rd_end {o : st_T} {l N : Nat} {f : Int32} (h : N ≤ (rd_p o l f N).2) : (rd_p o l f N).1 = 0 := by
  unfold rd_p at h ⊢
  by_cases hN0 : N = 0
  · rw [if_pos hN0]
  · rw [if_neg hN0] at h ⊢
    cases o with
    | none => exact absurd h (by simp; omega)
    | some q =>
      by_cases hl : l = q.1
      · simp only [if_pos hl] at h ⊢
        rw [if_neg (by omega)]
      · simp only [if_neg hl] at h; omega
def EM (k _j f : Nat) : Prop := k = 1202 ∨ (k = 11 ∧ (f = 3 ∨ f = 33))
section RM2
variable {d : Nat} {S : hs_T} {n w i k l N : Nat} {t : Nat → Nat} {x y f : Int32}
theorem lp_ {f : Int32} {i c : Nat} (hi : i ≤ 20) (hc : c ≤ 2) : ((f.toInt64 + (2 * nI i).toInt64) + (nI c).toInt64).toInt = f.toInt + (2 * i + c : Nat) := by
  have hr := fb_rng f
  have e : 2 * nI i = nI (2 * i) := by rw [show (2 : Int32) = nI 2 from rfl, pk_mul]
  have a1 : f.toInt64.toInt = f.toInt := Int32.toInt_toInt64 f
  have a2 : (nI (2 * i)).toInt64.toInt = (2 * i : Nat) := by rw [Int32.toInt_toInt64, nI_toInt (by omega)]
  have a3 : (nI c).toInt64.toInt = (c : Nat) := by rw [Int32.toInt_toInt64, nI_toInt (by omega)]
  rw [e, fb_addL, fb_addL, a1, a2, a3]
  · omega
  · rw [a1, a2]; omega
  · rw [a1, a2]; omega
  · rw [fb_addL, a1, a2, a3] <;> (try rw [a1, a2]) <;> omega
  · rw [fb_addL, a1, a2, a3] <;> (try rw [a1, a2]) <;> omega
theorem sM_rc {o : st_T} {c : Nat} {x4 x5 x7 : Int32} {o10 o11 : Option av_T} {Q : Option av_T → hs_T → Prop} (hc : c < 2) (hk : k < 4) (hl : l ≤ 2) (hi : i ≤ 20) (h : ShM S k o)
    (hQ : ∀ p, Ev d mX11_read 53 [some (vR 11 0), some (vI (nI k)), some (vI (nI l)), some (vI f), some (vI x4), some (vI x5), some (vI (nI (rc_ o l f i c))), some (vI x7), some (vI (nI i)), some (vI (nI (c + 1))), some (vJ p), none] [] S Q) :
    Ev d mX11_read 53 [some (vR 11 0), some (vI (nI k)), some (vI (nI l)), some (vI f), some (vI x4), some (vI x5), some (vI 0), some (vI x7), some (vI (nI i)), some (vI (nI c)), o10, o11] [] S Q := by
  have kin : vp_in (nI k) 4 := vp_lt (by omega) (by omega)
  refine bkX11_read_53 (fun h => absurd h (nl_ (b := 2) (by omega) (by omega))) (fun _ => ?_)
  refine bkX11_read_59 (fun h => absurd rfl h) (fun _ => ?_)
  have lp := lp_ (f := f) (i := i) (c := c) hi (by omega)
  generalize hp : (f.toInt64 + (2 * nI i).toInt64) + (nI c).toInt64 = p at *
  have fin : ∀ v : Nat, v = rc_ o l f i c → Ev d mX11_read 132 [some (vR 11 0), some (vI (nI k)), some (vI (nI l)), some (vI f), some (vI x4), some (vI x5), some (vI 0), some (vI x7), some (vI (nI i)), some (vI (nI c)), some (vJ p), none] [vI (nI v)] S Q := by
    rintro v rfl
    refine bkX11_read_132 ?_
    rw [nI_1]; exact hQ p
  cases o with
  | none =>
    have h : S.1 1230 0 k = -4 := h
    refine bkX11_read_64 kin ?_ ?_ <;> rw [nI_clamp (by omega), hp] <;> intro h5
    · exact absurd h h5
    · exact bkX11_read_89 (fin 1 rfl)
  | some q =>
    obtain ⟨h1, h2, h3, h4, h5⟩ := h
    refine bkX11_read_64 kin ?_ ?_ <;> rw [nI_clamp (by omega), hp] <;> intro h6
    · refine bkX11_read_93 kin ?_ ?_ <;> rw [nI_clamp (by omega), h1, nI_eq (by omega) (by omega)] <;> intro h7
      · have z0 : (0 : Int64).toInt = 0 := rfl
        have zs : (nI q.2.1).toInt64.toInt = (q.2.1 : Int) := by rw [Int32.toInt_toInt64, nI_toInt (by omega)]
        refine bkX11_read_107 (fun h8 => ?_) (fun h8 => ?_) <;> rw [lg_cmp_lt, fa_lt64, lp, z0] at h8
        · refine bkX11_read_127 (fin 2 ?_)
          unfold rc_
          simp only [if_pos h7.symm]
          rw [if_neg (by omega)]
        · refine bkX11_read_114 kin ?_ ?_ <;> rw [nI_clamp (by omega), h2, lg_cmp_lt, fa_lt64, lp, zs] <;> intro h9
          · refine bkX11_read_131 (fin 0 ?_)
            unfold rc_
            simp only [if_pos h7.symm]
            rw [if_pos (by omega)]
          · refine bkX11_read_127 (fin 2 ?_)
            unfold rc_
            simp only [if_pos h7.symm]
            rw [if_neg (by omega)]
      · refine bkX11_read_103 (fin 3 ?_)
        unfold rc_
        simp only [if_neg (fun e => h7 e.symm)]
    · exact absurd h6 (by rw [h1]; exact ne4 (by omega))
end RM2
