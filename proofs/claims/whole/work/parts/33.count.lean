/-! ===== count ===== -/
def sp_count (n b : Nat) (im : Nat → im_T) (sh : Nat → st_T) (x : Int32) : Int32 := if x = 0 then nI n else if x = 1 then bi_ (im 0).isSome + bi_ (im 1).isSome else if x = 2 then nI b else if x = 3 then (match sh 0 with | none => -4 | some q => nI q.2.1) else -1
section CT
variable {d : Nat} {S : hs_T} {n b : Nat} {x : Int32} {im : Nat → im_T} {sh : Nat → st_T}
theorem sX_kept {k : Nat} {x1 : Int32} {o3 : Option av_T} {Q : Option av_T → hs_T → Prop} (hk : k < 2) (hI : ImX S k (im k)) (hQ : ∀ o3, Ev d mX10_imagesKept 4 [some (vR 10 0), some (vI (x1 + bi_ (im k).isSome)), some (vI (nI (k + 1))), o3] [] S Q) : Ev d mX10_imagesKept 4 [some (vR 10 0), some (vI x1), some (vI (nI k)), o3] [] S Q := by
  refine bkX10_imagesKept_4 (fun h => absurd h (nl_ (b := 2) (by omega) (by omega))) (fun _ => ?_)
  refine bkX10_imagesKept_13 (vp_lt (by omega) (by omega)) ?_
  rw [nI_clamp (by omega)]
  cases ho : im k with
  | none =>
    rw [ho] at hI hQ
    have hI : S.1 8 (2 + k) 2 = 0 := hI
    refine bkX10_imagesKept_25 (by omega) (fun _ => bkX10_imagesKept_36 (bkX10_imagesKept_37 ?_)) (fun h => absurd hI h)
    rw [nI_1]; exact hQ _
  | some q =>
    rw [ho] at hI hQ
    refine bkX10_imagesKept_25 (by omega) (fun h => absurd h (by rw [hI.1]; decide)) (fun _ => bkX10_imagesKept_32 (bkX10_imagesKept_37 ?_))
    rw [nI_1]; exact hQ _
theorem kX10_count (h1 : S.1 8 0 1 = nI n) (h2 : S.1 7 0 1 = nI b) (hI : ∀ k, k < 2 → ImX S k (im k)) (hS : ShX S 0 (sh 0)) : Ci (d + 3) mX10_count [vR 10 0, vI x] S (fun v S' => v = sp_count n b im sh x ∧ S' = S) := by
  refine cxX10_count ?_
  unfold sp_count
  refine bkX10_count_0 (fun e => ?_) (fun e => ?_) (fun e => ?_) (fun e => ?_) (fun e0 e1 e2 e3 => ?_)
  · exact bkX10_count_32 ⟨_, rfl, by rw [h1, if_pos e], rfl⟩
  · rw [if_neg (by rw [e]; decide), if_pos e]
    refine bkX10_count_40 (P := fun v S' => v = bi_ (im 0).isSome + bi_ (im 1).isSome ∧ S' = S) ?_ ?_
    · refine cxX10_imagesKept ?_
      refine bkX10_imagesKept_0 ?_
      refine sX_kept (k := 0) (im := im) (by omega) (hI 0 (by omega)) (fun o3 => ?_)
      refine sX_kept (k := 1) (im := im) (by omega) (hI 1 (by omega)) (fun o3 => ?_)
      refine bkX10_imagesKept_4 (fun _ => bkX10_imagesKept_45 ⟨_, rfl, by rw [Int32.zero_add], rfl⟩) (fun h => absurd (by decide) h)
    · rintro _ S ⟨rfl, rfl⟩
      exact bkX10_count_44 ⟨_, rfl, rfl, rfl⟩
  · exact bkX10_count_45 ⟨_, rfl, by rw [h2, if_neg (by rw [e]; decide), if_neg (by rw [e]; decide), if_pos e], rfl⟩
  · rw [if_neg (by rw [e]; decide), if_neg (by rw [e]; decide), if_neg (by rw [e]; decide), if_pos e]
    refine bkX10_count_56 (P := fun v S' => v = (match sh 0 with | none => -4 | some q => nI q.2.1) ∧ S' = S) ?_ ?_
    · refine cxX10_cellsOfFirst ?_
      refine bkX10_cellsOfFirst_0 (kX10_sheetOf (x := 0)) ?_
      rintro _ S ⟨rfl, rfl⟩
      refine bkX10_cellsOfFirst_5_r ?_
      refine bkX10_cellsOfFirst_10 (by decide) (kX6_isNothing (by decide) hS) ?_
      rintro _ S ⟨rfl, rfl⟩
      cases ho : sh 0 with
      | none => exact bkX10_cellsOfFirst_14 (fun h => absurd h (by decide)) (fun _ => bkX10_cellsOfFirst_17_r (bkX10_cellsOfFirst_26_r ⟨_, rfl, rfl, rfl⟩))
      | some q =>
        rw [ho] at hS
        exact bkX10_cellsOfFirst_14 (fun _ => bkX10_cellsOfFirst_22 (by decide) (bkX10_cellsOfFirst_26_r ⟨_, rfl, hS.2.1, rfl⟩)) (fun h => absurd rfl h)
    · rintro _ S ⟨rfl, rfl⟩
      exact bkX10_count_60 ⟨_, rfl, rfl, rfl⟩
  · exact bkX10_count_61 ⟨_, rfl, by rw [if_neg e0, if_neg e1, if_neg e2, if_neg e3], rfl⟩
theorem im_4 {k : Nat} {o : im_T} (h : ImM S k o) : S.1 1205 0 k = -4 ↔ o = none := by
  cases o with
  | none => exact ⟨fun _ => rfl, fun _ => h⟩
  | some q =>
    have h1 : S.1 1205 0 k = nI q.1 := h.1
    have h2 : q.1 ≤ 400 := h.2.1
    rw [h1]
    exact ⟨fun z => absurd z (ne4 (by omega)), fun z => absurd z (by simp)⟩
theorem kM_count (h1 : S.1 11 0 3 = nI n) (h2 : S.1 11 0 8 = nI b) (hI : ∀ k, k < 2 → ImM S k (im k)) (hS : ShM S 0 (sh 0)) : Ci (d + 1) mX11_count [vR 11 0, vI x] S (fun v S' => v = sp_count n b im sh x ∧ S' = S) := by
  refine cxX11_count ?_
  unfold sp_count
  refine bkX11_count_0 (fun e => ?_) (fun e => ?_) (fun e => ?_) (fun e => ?_) (fun e0 e1 e2 e3 => ?_)
  · exact bkX11_count_32 ⟨_, rfl, by rw [h1, if_pos e], rfl⟩
  · rw [if_neg (by rw [e]; decide), if_pos e]
    have p2 : ∀ a : Bool, a = (im 0).isSome → Ev (d + 1) mX11_count 53 [some (vR 11 0), some (vI x)] [vI (bi_ a)] S (fun r S' => ∃ v, r = some (vI v) ∧ v = bi_ (im 0).isSome + bi_ (im 1).isSome ∧ S' = S) := by
      rintro a rfl
      refine bkX11_count_53 kM_flag ?_
      rintro _ S ⟨rfl, rfl⟩
      have p3 : ∀ a : Bool, a = (im 1).isSome → Ev (d + 1) mX11_count 72 [some (vR 11 0), some (vI x)] [vI (bi_ a), vI (bi_ (im 0).isSome)] S (fun r S' => ∃ v, r = some (vI v) ∧ v = bi_ (im 0).isSome + bi_ (im 1).isSome ∧ S' = S) := by
        rintro a rfl
        refine bkX11_count_72 kM_flag ?_
        rintro _ S ⟨rfl, rfl⟩
        exact bkX11_count_75 ⟨_, rfl, rfl, rfl⟩
      refine bkX11_count_56 (fun h => bkX11_count_71 (p3 false ?_)) (fun h => bkX11_count_67 (p3 true ?_)) <;> rw [im_4 (hI 1 (by omega))] at h
      · rw [h]; rfl
      · cases ho : im 1 with
        | none => exact absurd ho h
        | some q => rfl
    refine bkX11_count_37 (fun h => bkX11_count_52 (p2 false ?_)) (fun h => bkX11_count_48 (p2 true ?_)) <;> rw [im_4 (hI 0 (by omega))] at h
    · rw [h]; rfl
    · cases ho : im 0 with
      | none => exact absurd ho h
      | some q => rfl
  · exact bkX11_count_77 ⟨_, rfl, by rw [h2, if_neg (by rw [e]; decide), if_neg (by rw [e]; decide), if_pos e], rfl⟩
  · rw [if_neg (by rw [e]; decide), if_neg (by rw [e]; decide), if_neg (by rw [e]; decide), if_pos e]
    cases ho : sh 0 with
    | none =>
      rw [ho] at hS
      have hS : S.1 1230 0 0 = -4 := hS
      exact bkX11_count_82 (fun h => absurd hS h) (fun _ => bkX11_count_93 (bkX11_count_104 ⟨_, rfl, rfl, rfl⟩))
    | some q =>
      rw [ho] at hS
      have h3 := hS.2.2.1
      exact bkX11_count_82 (fun _ => bkX11_count_98 (bkX11_count_104 ⟨_, rfl, hS.2.1, rfl⟩)) (fun h => absurd h (by rw [hS.1]; exact ne4 (by omega)))
  · exact bkX11_count_105 ⟨_, rfl, by rw [if_neg e0, if_neg e1, if_neg e2, if_neg e3], rfl⟩
end CT
