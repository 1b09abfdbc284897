/-! ===== the String constants' methods; names spelled; tokens ===== -/
theorem fs_38 : Cond.fieldLink RJ0 38 "java/lang/String" "COMPACT_STRINGS" "Z" ∈ tb_ := tb_of (tk_2 _ (List.mem_of_getElem? (i := 187) rfl)) rfl
theorem fs_1053 : Cond.fieldLink RJ0 1053 "jdk/internal/util/Preconditions" "SIOOBE_FORMATTER" "Ljava/util/function/BiFunction;" ∈ tb_ := tb_of (tk_2 _ (List.mem_of_getElem? (i := 203) rfl)) rfl
theorem fs_9 : Cond.fieldLink RJ0 9 "java/lang/String" "value" "[B" ∈ tb_ := tb_of (tk_7 _ (List.mem_of_getElem? (i := 17) rfl)) rfl
theorem fs_15 : Cond.fieldLink RJ0 15 "java/lang/String" "coder" "B" ∈ tb_ := tb_of (tk_7 _ (List.mem_of_getElem? (i := 18) rfl)) rfl
/-- the constant's bytes as numbers -/
def kw (j : Nat) : List Nat := (kbt.getD j []).map (fun x => x.toInt.toNat)
theorem kw_len : ∀ j, j < 14 → kln.getD j 0 = (kw j).length := by decide +kernel
theorem kw_le : ∀ j, j < 14 → (kw j).length ≤ 5 := by decide +kernel
theorem kw_shr : ∀ j, j < 14 → nI (kln.getD j 0) >>> ((0 : Int32) &&& 31) = nI (kln.getD j 0) := by decide +kernel
theorem kw_chr : ∀ j, j < 14 → ∀ i, i < 5 → i < (kw j).length → ((((kbt.getD j []).getD i 0) &&& 255).toUInt32 % 65536).toInt32 = nI ((kw j).getD i 0) := by decide +kernel
theorem kw_nar : ∀ j, j < 14 → ∀ i, i < 5 → narrow .char (.int (nI ((kw j).getD i 0))) = .int (nI ((kw j).getD i 0)) := by decide +kernel
theorem kw_sm : ∀ j, j < 14 → ∀ i, i < 5 → (kw j).getD i 0 < 256 := by decide +kernel
section ST
variable {d pc : Nat} {md : md_T} {ls : List (Option av_T)} {st : List av_T} {S : hs_T} {Q : Option av_T → hs_T → Prop}
theorem Ev.i2c {x : Int32} (hd : decode md.2.1 pc = .ok (.i2c, 1)) (k : Ev d md (pc + 1) ls (vI (x.toUInt32 % 65536).toInt32 :: st) S Q) : Ev d md pc ls (vI x :: st) S Q :=
  fun G p l e s m args below meth c H locs lc B hP hS hl => lv_i2c B.1 B.2.1 hd rfl (k G p l e s m args below meth c H locs lc B hP hS hl)
theorem Ev.getsF {i : Nat} (hl : Cond.fieldLink md.1.cls i "jdk/internal/util/Preconditions" "SIOOBE_FORMATTER" "Ljava/util/function/BiFunction;" ∈ tb_) (hd : decode md.2.1 pc = .ok (.getstatic i, 3)) (kk : ∀ w : av_T, (w = vN ∨ w = vR 52 0) → Ev d md (pc + 3) ls (w :: st) S Q) : Ev d md pc ls st S Q := by
  intro G p l e s m args below meth c H locs lc B hP hS hr
  obtain ⟨w, hw, hE⟩ := B.2.2.2.2.2.2.2.2.2.2.2.2.2
  exact va_gets B.1 B.2.1 hE hS B.2.2.2.2.1 (B.2.2.2.2.2.1 _ hl) (fun _ h => h) hd (kk w hw G p l e s m args below meth c H locs lc B hP hS hr)
end ST
section SU
variable {d : Nat} {S : hs_T} {n i j z : Nat} {b : Nat → Nat}
theorem kJ0_coder (hj : j < 14) : Ci d mJ0_coder_7d493 [vR 50 j] S (fun v S' => v = 0 ∧ S' = S) := by
  refine Cx.of (by decide) (by simp [el_, ct_]) ?_
  show Ev d mJ0_coder_7d493 0 [some (vR 50 j)] [] S _
  refine Ev.getsC fs_38 dJ0_coder_7d493_0 ?_
  refine Ev.if_eq dJ0_coder_7d493_3 (tgt := 13) (by decide) (fun h => absurd h (by decide)) (fun _ => ?_)
  refine Ev.aload_n dJ0_coder_7d493_6 rfl rfl ?_
  refine Ev.getKc hj fs_15 dJ0_coder_7d493_7 ?_
  refine Ev.goto dJ0_coder_7d493_10 (tgt := 14) (by decide) ?_
  exact Ev.iret dJ0_coder_7d493_14 rfl (by decide) ⟨_, rfl, rfl, rfl⟩
theorem kJ0_isLatin1 (hj : j < 14) : Ci d mJ0_isLatin1_aae02 [vR 50 j] S (fun v S' => v = 1 ∧ S' = S) := by
  refine Cx.of (by decide) (by simp [el_, ct_]) ?_
  show Ev d mJ0_isLatin1_aae02 0 [some (vR 50 j)] [] S _
  refine Ev.getsC fs_38 dJ0_isLatin1_aae02_0 ?_
  refine Ev.if_eq dJ0_isLatin1_aae02_3 (tgt := 17) (by decide) (fun h => absurd h (by decide)) (fun _ => ?_)
  refine Ev.aload_n dJ0_isLatin1_aae02_6 rfl rfl ?_
  refine Ev.getKc hj fs_15 dJ0_isLatin1_aae02_7 ?_
  refine Ev.if_ne dJ0_isLatin1_aae02_10 (tgt := 17) (by decide) (fun h => absurd rfl h) (fun _ => ?_)
  refine Ev.iconst dJ0_isLatin1_aae02_13 (v := 1) (by decide) ?_
  refine Ev.goto dJ0_isLatin1_aae02_14 (tgt := 18) (by decide) ?_
  exact Ev.iret dJ0_isLatin1_aae02_18 rfl (by decide) ⟨_, rfl, rfl, rfl⟩
theorem kJ0_length (hj : j < 14) : Ci (d + 1) mJ0_length_8abf5 [vR 50 j] S (fun v S' => v = nI (kw j).length ∧ S' = S) := by
  refine Cx.of (by decide) (by simp [el_, ct_]) ?_
  show Ev (d + 1) mJ0_length_8abf5 0 [some (vR 50 j)] [] S _
  refine Ev.aload_n dJ0_length_8abf5_0 rfl rfl ?_
  refine Ev.getKv hj fs_9 dJ0_length_8abf5_1 ?_
  refine Ev.lenK hj dJ0_length_8abf5_4 ?_
  refine Ev.aload_n dJ0_length_8abf5_5 rfl rfl ?_
  refine Ev.callK (as := []) (rest := [vI (nI (kln.getD j 0))]) okJ0_coder_7d493 in_J0_coder_7d493 ml_J0_335 rfl (Nat.le_of_ble_eq_true rfl) hj rfl rfl dJ0_length_8abf5_6 (kJ0_coder hj) ?_
  rintro _ S ⟨_, rfl, rfl, rfl⟩
  refine Ev.ishr dJ0_length_8abf5_9 ?_
  exact Ev.iret dJ0_length_8abf5_10 rfl rfl ⟨_, rfl, by rw [kw_shr j hj, kw_len j hj], rfl⟩
theorem kJ3_checkIndex {w : av_T} (hw : w = vN ∨ w = vR 52 0) (hi : i < n) (hn : n < 2 ^ 31) : Ci d mJ3_checkIndex_8e157 [vI (nI i), vI (nI n), w] S (fun v S' => v = nI i ∧ S' = S) := by
  have key : ∀ ls : List (Option av_T), ls[0]? = some (some (vI (nI i))) → ls[1]? = some (some (vI (nI n))) → Ev d mJ3_checkIndex_8e157 0 ls [] S (fun r S' => ∃ v, r = some (vI v) ∧ v = nI i ∧ S' = S) := by
    intro ls h0 h1
    refine Ev.iload_n dJ3_checkIndex_8e157_0 rfl h0 ?_
    refine Ev.if_lt dJ3_checkIndex_8e157_1 (tgt := 9) (by decide) (fun h => absurd h (nI_pos (by omega))) (fun _ => ?_)
    refine Ev.iload_n dJ3_checkIndex_8e157_4 rfl h0 ?_
    refine Ev.iload_n dJ3_checkIndex_8e157_5 rfl h1 ?_
    refine Ev.icmp_lt dJ3_checkIndex_8e157_6 (tgt := 16) (by decide) (fun _ => ?_) (fun h => absurd (nI_lt hi hn) h)
    refine Ev.iload_n dJ3_checkIndex_8e157_16 rfl h0 ?_
    exact Ev.iret dJ3_checkIndex_8e157_17 rfl rfl ⟨_, rfl, rfl, rfl⟩
  rcases hw with rfl | rfl
  · exact Cx.of (by decide) (by simp [el_, ct_]) (key _ rfl rfl)
  · exact Cx.of (by decide) (by simp [el_, ct_]) (key _ rfl rfl)
theorem kJ0_checkIndex (hi : i < n) (hn : n < 2 ^ 31) : Cv (d + 1) mJ0_checkIndex_df160 [vI (nI i), vI (nI n)] S (fun S' => S' = S) := by
  refine Cx.of (by decide) (by simp [el_, ct_]) ?_
  show Ev (d + 1) mJ0_checkIndex_df160 0 [some (vI (nI i)), some (vI (nI n))] [] S _
  refine Ev.iload_n dJ0_checkIndex_df160_0 rfl rfl ?_
  refine Ev.iload_n dJ0_checkIndex_df160_1 rfl rfl ?_
  refine Ev.getsF fs_1053 dJ0_checkIndex_df160_2 (fun w hw => ?_)
  refine Ev.callS (as := [vI (nI i), vI (nI n), w]) (rest := []) okJ3_checkIndex_8e157 stJ3_checkIndex_8e157 ml_J0_1059 rfl (Nat.le_of_ble_eq_true rfl) rfl dJ0_checkIndex_df160_5 (kJ3_checkIndex hw hi hn) ?_
  rintro _ S ⟨_, rfl, rfl, rfl⟩
  refine Ev.pop dJ0_checkIndex_df160_8 rfl ?_
  exact Ev.vret dJ0_checkIndex_df160_9 rfl ⟨rfl, rfl⟩
theorem kJ1_charAt (hj : j < 14) (hi : i < (kw j).length) : Ci (d + 2) mJ1_charAt_3b067 [vR 51 j, vI (nI i)] S (fun v S' => v = nI ((kw j).getD i 0) ∧ S' = S) := by
  have h5 := kw_le j hj
  have hl := kw_len j hj
  refine Cx.of (by decide) (by simp [el_, ct_]) ?_
  show Ev (d + 2) mJ1_charAt_3b067 0 [some (vR 51 j), some (vI (nI i))] [] S _
  refine Ev.iload_n dJ1_charAt_3b067_0 rfl rfl ?_
  refine Ev.aload_n dJ1_charAt_3b067_1 rfl rfl ?_
  refine Ev.lenK hj dJ1_charAt_3b067_2 ?_
  refine Ev.callS (as := [vI (nI i), vI (nI (kln.getD j 0))]) (rest := []) okJ0_checkIndex_df160 stJ0_checkIndex_df160 ml_J1_9 rfl (Nat.le_of_ble_eq_true rfl) rfl dJ1_charAt_3b067_3 (kJ0_checkIndex (by omega) (by omega)) ?_
  rintro _ S ⟨rfl, rfl⟩
  refine Ev.aload_n dJ1_charAt_3b067_6 rfl rfl ?_
  refine Ev.iload_n dJ1_charAt_3b067_7 rfl rfl ?_
  refine Ev.balK hj (vp_lt (by omega) (by omega)) dJ1_charAt_3b067_8 ?_
  rw [nI_clamp (by omega)]
  refine Ev.sipush dJ1_charAt_3b067_9 (v := 255) (by decide) ?_
  refine Ev.iand dJ1_charAt_3b067_12 ?_
  refine Ev.i2c dJ1_charAt_3b067_13 ?_
  rw [kw_chr j hj i (by omega) hi]
  exact Ev.iret dJ1_charAt_3b067_14 rfl (kw_nar j hj i (by omega)) ⟨_, rfl, rfl, rfl⟩
theorem kJ0_charAt (hj : j < 14) (hi : i < (kw j).length) : Ci (d + 3) mJ0_charAt_5068e [vR 50 j, vI (nI i)] S (fun v S' => v = nI ((kw j).getD i 0) ∧ S' = S) := by
  have h5 := kw_le j hj
  refine Cx.of (by decide) (by simp [el_, ct_]) ?_
  show Ev (d + 3) mJ0_charAt_5068e 0 [some (vR 50 j), some (vI (nI i))] [] S _
  refine Ev.aload_n dJ0_charAt_5068e_0 rfl rfl ?_
  refine Ev.callK (as := []) (rest := []) okJ0_isLatin1_aae02 in_J0_isLatin1_aae02 ml_J0_492 rfl (Nat.le_of_ble_eq_true rfl) hj rfl rfl dJ0_charAt_5068e_1 (kJ0_isLatin1 hj) ?_
  rintro _ S ⟨_, rfl, rfl, rfl⟩
  refine Ev.if_eq dJ0_charAt_5068e_4 (tgt := 16) (by decide) (fun h => absurd h (by decide)) (fun _ => ?_)
  refine Ev.aload_n dJ0_charAt_5068e_7 rfl rfl ?_
  refine Ev.getKv hj fs_9 dJ0_charAt_5068e_8 ?_
  refine Ev.iload_n dJ0_charAt_5068e_11 rfl rfl ?_
  refine Ev.callS (as := [vR 51 j, vI (nI i)]) (rest := []) okJ1_charAt_3b067 stJ1_charAt_3b067 ml_J0_495 rfl (Nat.le_of_ble_eq_true rfl) rfl dJ0_charAt_5068e_12 (kJ1_charAt hj hi) ?_
  rintro _ S ⟨_, rfl, rfl, rfl⟩
  exact Ev.iret dJ0_charAt_5068e_15 rfl (kw_nar j hj i (by omega)) ⟨_, rfl, rfl, rfl⟩
/-- the bytes from i to z are these -/
def t_sp (b : Nat → Nat) (i z : Nat) (w : List Nat) : Bool := decide (z = i + w.length ∧ ∀ k, k < w.length → b (i + k) = w.getD k 0)
theorem lX7_spells (hT : TpX S n b) (hj : j < 14) (hz : i + (kw j).length ≤ n) {x3 : Int32} {Q : Option av_T → hs_T → Prop}
    (h1 : (∀ k, k < (kw j).length → b (i + k) = (kw j).getD k 0) → Q (some (vI 1)) S) (h0 : (¬ ∀ k, k < (kw j).length → b (i + k) = (kw j).getD k 0) → Q (some (vI 0)) S) :
    ∀ (m k : Nat), k + m = (kw j).length → (∀ q, q < k → b (i + q) = (kw j).getD q 0) → Ev (d + 4) mX7_spells 15 [some (vR 7 0), some (vR 50 j), some (vI (nI i)), some (vI x3), some (vI (nI k))] [] S Q := by
  have hn := hT.2.1
  have h5 := kw_le j hj
  intro m
  induction m with
  | zero =>
    intro k hk hq
    refine bkX7_spells_15 hj (kJ0_length hj) ?_
    rintro _ S ⟨rfl, rfl⟩
    refine bkX7_spells_21 (fun _ => bkX7_spells_49 (h1 (fun q hq2 => hq q (by omega)))) (fun h => absurd (nI_le (by omega) (by omega)) h)
  | succ m ih =>
    intro k hk hq
    refine bkX7_spells_15 hj (kJ0_length hj) ?_
    rintro _ S ⟨rfl, rfl⟩
    refine bkX7_spells_21 (fun h => absurd h (nl_ (by omega) (by omega))) (fun _ => ?_)
    refine bkX7_spells_24 (P := fun v S' => v = nI (b (i + k)) ∧ S' = S) ?_ ?_
    · rw [nI_add]
      refine (kX7_byteAt hT (by omega)).imp ?_
      rintro v S' ⟨rfl, rfl⟩
      exact ⟨by rw [if_pos (by omega)], rfl⟩
    · rintro _ S ⟨rfl, rfl⟩
      refine bkX7_spells_32 hj (kJ0_charAt hj (by omega)) ?_
      rintro _ S ⟨rfl, rfl⟩
      have hb := (hT.2.2 (i + k) (by omega)).2
      have hc := kw_sm j hj k (by omega)
      refine bkX7_spells_38 (fun h => ?_) (fun h => ?_) <;> rw [nI_eq (by omega) (by omega)] at h
      · refine bkX7_spells_43 ?_
        rw [nI_1]
        refine ih (k + 1) (by omega) (fun q hq2 => ?_)
        by_cases e : q = k
        · rw [e]; exact h
        · exact hq q (by omega)
      · exact bkX7_spells_41 (h0 (fun hh => h (hh k (by omega))))
theorem kX7_spells (hT : TpX S n b) (hj : j < 14) (hiz : i ≤ z) (hz : z ≤ n) : Ci (d + 4) mX7_spells [vR 7 0, vR 50 j, vI (nI i), vI (nI z)] S (fun v S' => v = bi_ (t_sp b i z (kw j)) ∧ S' = S) := by
  have hn := hT.2.1
  have h5 := kw_le j hj
  refine cxX7_spells ?_
  refine bkX7_spells_0 hj (kJ0_length hj) ?_
  rintro _ S ⟨rfl, rfl⟩
  rw [pk_sub hiz]
  refine bkX7_spells_7 (fun h => ?_) (fun h => ?_) <;> rw [nI_eq (by omega) (by omega)] at h
  · refine bkX7_spells_12 ?_
    refine lX7_spells hT hj (by omega) (fun hh => ⟨_, rfl, ?_, rfl⟩) (fun hh => ⟨_, rfl, ?_, rfl⟩) (kw j).length 0 (by omega) (fun q hq => by omega)
    · rw [t_sp, decide_eq_true ⟨by omega, hh⟩]; rfl
    · rw [t_sp, decide_eq_false (fun hc => hh hc.2)]; rfl
  · exact bkX7_spells_10 ⟨_, rfl, by rw [t_sp, decide_eq_false (fun hc => h (by omega))]; rfl, rfl⟩
/-- the code of a term's name, of a name -/
def t_tr (b : Nat → Nat) (i z : Nat) : Nat := if t_sp b i z (kw 7) then 20 else if t_sp b i z (kw 8) then 21 else if t_sp b i z (kw 9) then 22 else if t_sp b i z (kw 10) then 23 else if t_sp b i z (kw 11) then 24 else if t_sp b i z (kw 12) then 25 else if t_sp b i z (kw 13) then 26 else 3
def t_nm (b : Nat → Nat) (i z : Nat) : Nat := if t_sp b i z (kw 0) then 4 else if t_sp b i z (kw 1) then 5 else if t_sp b i z (kw 2) then 6 else if t_sp b i z (kw 3) then 7 else if t_sp b i z (kw 4) then 8 else if t_sp b i z (kw 5) then 9 else if t_sp b i z (kw 6) then 10 else t_tr b i z
theorem t_tr_le (b : Nat → Nat) (i z : Nat) : t_tr b i z = 3 ∨ (20 ≤ t_tr b i z ∧ t_tr b i z ≤ 26) := by
  unfold t_tr; repeat' split
  all_goals omega
theorem t_nm_le (b : Nat → Nat) (i z : Nat) : 3 ≤ t_nm b i z ∧ t_nm b i z ≤ 26 := by
  have := t_tr_le b i z
  unfold t_nm; repeat' split
  all_goals omega
theorem kX7_termBetween (hT : TpX S n b) (hiz : i ≤ z) (hz : z ≤ n) : Ci (d + 5) mX7_termBetween [vR 7 0, vI (nI i), vI (nI z)] S (fun v S' => v = (if t_tr b i z = 3 then -1 else nI (t_tr b i z - 20)) ∧ S' = S) := by
  refine cxX7_termBetween ?_
  unfold t_tr
  refine bkX7_termBetween_0 (kX7_spells (j := 7) hT (by omega) hiz hz) ?_
  rintro _ S ⟨rfl, rfl⟩
  cases t_sp b i z (kw 7)
  case true => exact bkX7_termBetween_8 (fun h => absurd h (by decide)) (fun _ => bkX7_termBetween_11 ⟨_, rfl, rfl, rfl⟩)
  refine bkX7_termBetween_8 (fun _ => ?_) (fun h => absurd rfl h)
  refine bkX7_termBetween_13 (kX7_spells (j := 8) hT (by omega) hiz hz) ?_
  rintro _ S ⟨rfl, rfl⟩
  cases t_sp b i z (kw 8)
  case true => exact bkX7_termBetween_21 (fun h => absurd h (by decide)) (fun _ => bkX7_termBetween_24 ⟨_, rfl, rfl, rfl⟩)
  refine bkX7_termBetween_21 (fun _ => ?_) (fun h => absurd rfl h)
  refine bkX7_termBetween_26 (kX7_spells (j := 9) hT (by omega) hiz hz) ?_
  rintro _ S ⟨rfl, rfl⟩
  cases t_sp b i z (kw 9)
  case true => exact bkX7_termBetween_34 (fun h => absurd h (by decide)) (fun _ => bkX7_termBetween_37 ⟨_, rfl, rfl, rfl⟩)
  refine bkX7_termBetween_34 (fun _ => ?_) (fun h => absurd rfl h)
  refine bkX7_termBetween_39 (kX7_spells (j := 10) hT (by omega) hiz hz) ?_
  rintro _ S ⟨rfl, rfl⟩
  cases t_sp b i z (kw 10)
  case true => exact bkX7_termBetween_47 (fun h => absurd h (by decide)) (fun _ => bkX7_termBetween_50 ⟨_, rfl, rfl, rfl⟩)
  refine bkX7_termBetween_47 (fun _ => ?_) (fun h => absurd rfl h)
  refine bkX7_termBetween_52 (kX7_spells (j := 11) hT (by omega) hiz hz) ?_
  rintro _ S ⟨rfl, rfl⟩
  cases t_sp b i z (kw 11)
  case true => exact bkX7_termBetween_60 (fun h => absurd h (by decide)) (fun _ => bkX7_termBetween_63 ⟨_, rfl, rfl, rfl⟩)
  refine bkX7_termBetween_60 (fun _ => ?_) (fun h => absurd rfl h)
  refine bkX7_termBetween_65 (kX7_spells (j := 12) hT (by omega) hiz hz) ?_
  rintro _ S ⟨rfl, rfl⟩
  cases t_sp b i z (kw 12)
  case true => exact bkX7_termBetween_73 (fun h => absurd h (by decide)) (fun _ => bkX7_termBetween_76 ⟨_, rfl, rfl, rfl⟩)
  refine bkX7_termBetween_73 (fun _ => ?_) (fun h => absurd rfl h)
  refine bkX7_termBetween_78 (kX7_spells (j := 13) hT (by omega) hiz hz) ?_
  rintro _ S ⟨rfl, rfl⟩
  cases t_sp b i z (kw 13)
  case true => exact bkX7_termBetween_86 (fun h => absurd h (by decide)) (fun _ => bkX7_termBetween_89 (bkX7_termBetween_95 ⟨_, rfl, rfl, rfl⟩))
  exact bkX7_termBetween_86 (fun _ => bkX7_termBetween_94 (bkX7_termBetween_95 ⟨_, rfl, rfl, rfl⟩)) (fun h => absurd rfl h)
theorem kX7_nameBetween (hT : TpX S n b) (hiz : i ≤ z) (hz : z ≤ n) : Ci (d + 6) mX7_nameBetween [vR 7 0, vI (nI i), vI (nI z)] S (fun v S' => v = nI (t_nm b i z) ∧ S' = S) := by
  refine cxX7_nameBetween ?_
  unfold t_nm
  refine bkX7_nameBetween_0 (kX7_spells (j := 0) hT (by omega) hiz hz) ?_
  rintro _ S ⟨rfl, rfl⟩
  cases t_sp b i z (kw 0)
  case true => exact bkX7_nameBetween_8 (fun h => absurd h (by decide)) (fun _ => bkX7_nameBetween_11 ⟨_, rfl, rfl, rfl⟩)
  refine bkX7_nameBetween_8 (fun _ => ?_) (fun h => absurd rfl h)
  refine bkX7_nameBetween_13 (kX7_spells (j := 1) hT (by omega) hiz hz) ?_
  rintro _ S ⟨rfl, rfl⟩
  cases t_sp b i z (kw 1)
  case true => exact bkX7_nameBetween_21 (fun h => absurd h (by decide)) (fun _ => bkX7_nameBetween_24 ⟨_, rfl, rfl, rfl⟩)
  refine bkX7_nameBetween_21 (fun _ => ?_) (fun h => absurd rfl h)
  refine bkX7_nameBetween_26 (kX7_spells (j := 2) hT (by omega) hiz hz) ?_
  rintro _ S ⟨rfl, rfl⟩
  cases t_sp b i z (kw 2)
  case true => exact bkX7_nameBetween_34 (fun h => absurd h (by decide)) (fun _ => bkX7_nameBetween_37 ⟨_, rfl, rfl, rfl⟩)
  refine bkX7_nameBetween_34 (fun _ => ?_) (fun h => absurd rfl h)
  refine bkX7_nameBetween_40 (kX7_spells (j := 3) hT (by omega) hiz hz) ?_
  rintro _ S ⟨rfl, rfl⟩
  cases t_sp b i z (kw 3)
  case true => exact bkX7_nameBetween_48 (fun h => absurd h (by decide)) (fun _ => bkX7_nameBetween_51 ⟨_, rfl, rfl, rfl⟩)
  refine bkX7_nameBetween_48 (fun _ => ?_) (fun h => absurd rfl h)
  refine bkX7_nameBetween_54 (kX7_spells (j := 4) hT (by omega) hiz hz) ?_
  rintro _ S ⟨rfl, rfl⟩
  cases t_sp b i z (kw 4)
  case true => exact bkX7_nameBetween_62 (fun h => absurd h (by decide)) (fun _ => bkX7_nameBetween_65 ⟨_, rfl, rfl, rfl⟩)
  refine bkX7_nameBetween_62 (fun _ => ?_) (fun h => absurd rfl h)
  refine bkX7_nameBetween_68 (kX7_spells (j := 5) hT (by omega) hiz hz) ?_
  rintro _ S ⟨rfl, rfl⟩
  cases t_sp b i z (kw 5)
  case true => exact bkX7_nameBetween_76 (fun h => absurd h (by decide)) (fun _ => bkX7_nameBetween_79 ⟨_, rfl, rfl, rfl⟩)
  refine bkX7_nameBetween_76 (fun _ => ?_) (fun h => absurd rfl h)
  refine bkX7_nameBetween_82 (kX7_spells (j := 6) hT (by omega) hiz hz) ?_
  rintro _ S ⟨rfl, rfl⟩
  cases t_sp b i z (kw 6)
  case true => exact bkX7_nameBetween_90 (fun h => absurd h (by decide)) (fun _ => bkX7_nameBetween_93 ⟨_, rfl, rfl, rfl⟩)
  refine bkX7_nameBetween_90 (fun _ => ?_) (fun h => absurd rfl h)
  refine bkX7_nameBetween_96 (kX7_termBetween hT hiz hz) ?_
  rintro _ S ⟨rfl, rfl⟩
  simp only [Bool.false_eq_true, if_false]
  have hle := t_tr_le b i z
  by_cases h3 : t_tr b i z = 3
  · rw [if_pos h3, h3]
    exact bkX7_nameBetween_102 (fun h => absurd h (by decide)) (fun _ => bkX7_nameBetween_107 (bkX7_nameBetween_115 ⟨_, rfl, rfl, rfl⟩))
  · rw [if_neg h3]
    refine bkX7_nameBetween_102 (fun _ => bkX7_nameBetween_111 (bkX7_nameBetween_115 ⟨_, rfl, ?_, rfl⟩)) (fun h => absurd (nI_le (a := 0) (Nat.zero_le _) (by omega)) h)
    rw [show (20 : Int32) = nI 20 from rfl, nI_add]; congr 1; omega
/-- the code of the token that begins at i -/
def t_tk (b : Nat → Nat) (n i : Nat) : Nat := if inC 97 122 (b i) then t_nm b i (t_bt b n i) else if inC 48 57 (b i) then (if t_bt b n i - i ≤ 3 then 2 else 1) else if b i = 59 ∨ b i = 124 ∨ b i = 38 then b i else 1
theorem t_bt_le (b : Nat → Nat) {n i : Nat} (h : i < n) : i < t_bt b n i ∧ t_bt b n i ≤ n := by
  have l1 := t_ba_le b n 97 122 (i := i) (by omega)
  have l2 := t_ba_le b n 48 57 (i := i) (by omega)
  unfold t_bt; omega
theorem kX7_tokenBetween (hT : TpX S n b) (hin : i < n) : Ci (d + 7) mX7_tokenBetween [vR 7 0, vI (nI i), vI (nI (t_bt b n i))] S (fun v S' => v = nI (t_tk b n i) ∧ S' = S) := by
  have hn := hT.2.1
  have hb := (hT.2.2 i hin).2
  have hz := t_bt_le b hin
  refine cxX7_tokenBetween ?_
  refine bkX7_tokenBetween_0 (kX7_byteAt hT (by omega)) ?_
  rintro _ S ⟨rfl, rfl⟩
  rw [if_pos hin]
  have key : ¬ (97 ≤ b i ∧ b i ≤ 122) → Ev (d + 7) mX7_tokenBetween 25 [some (vR 7 0), some (vI (nI i)), some (vI (nI (t_bt b n i))), some (vI (nI (b i)))] [] S (fun r S' => ∃ v, r = some (vI v) ∧ v = nI (t_tk b n i) ∧ S' = S) := by
    intro h1
    have e1 : inC 97 122 (b i) = false := decide_eq_false h1
    have key2 : ¬ (48 ≤ b i ∧ b i ≤ 57) → Ev (d + 7) mX7_tokenBetween 50 [some (vR 7 0), some (vI (nI i)), some (vI (nI (t_bt b n i))), some (vI (nI (b i)))] [] S (fun r S' => ∃ v, r = some (vI v) ∧ v = nI (t_tk b n i) ∧ S' = S) := by
      intro h2
      have e2 : inC 48 57 (b i) = false := decide_eq_false h2
      have tk : t_tk b n i = if b i = 59 ∨ b i = 124 ∨ b i = 38 then b i else 1 := by simp only [t_tk, e1, e2, Bool.false_eq_true, if_false]
      have ok : (b i = 59 ∨ b i = 124 ∨ b i = 38) → Ev (d + 7) mX7_tokenBetween 68 [some (vR 7 0), some (vI (nI i)), some (vI (nI (t_bt b n i))), some (vI (nI (b i)))] [] S (fun r S' => ∃ v, r = some (vI v) ∧ v = nI (t_tk b n i) ∧ S' = S) := fun h3 => bkX7_tokenBetween_68 (bkX7_tokenBetween_73 ⟨_, rfl, by rw [tk, if_pos h3], rfl⟩)
      refine bkX7_tokenBetween_50 (fun h => ok ?_) (fun h => ?_) <;> rw [show (59 : Int32) = nI 59 from rfl, nI_eq (by omega) (by omega)] at h
      · omega
      · refine bkX7_tokenBetween_56 (fun h' => ok ?_) (fun h' => ?_) <;> rw [show (124 : Int32) = nI 124 from rfl, nI_eq (by omega) (by omega)] at h'
        · omega
        · refine bkX7_tokenBetween_62 (fun h'' => ?_) (fun h'' => ok ?_) <;> rw [show (38 : Int32) = nI 38 from rfl, nI_eq (by omega) (by omega)] at h''
          · exact bkX7_tokenBetween_72 (bkX7_tokenBetween_73 ⟨_, rfl, by rw [tk, if_neg (by omega)]; rfl, rfl⟩)
          · omega
    refine bkX7_tokenBetween_25 (fun h => key2 ?_) (fun h => ?_) <;> rw [show (48 : Int32) = nI 48 from rfl, nI_ltI (by omega) (by omega)] at h
    · omega
    · refine bkX7_tokenBetween_31 (fun h2 => key2 ?_) (fun h2 => ?_) <;> rw [show (57 : Int32) = nI 57 from rfl, nI_ltI (by omega) (by omega)] at h2
      · omega
      · have e2 : inC 48 57 (b i) = true := decide_eq_true ⟨by omega, by omega⟩
        have tk : t_tk b n i = if t_bt b n i - i ≤ 3 then 2 else 1 := by simp only [t_tk, e1, e2, Bool.false_eq_true, if_false, if_true]
        refine bkX7_tokenBetween_37 (fun h3 => ?_) (fun h3 => ?_) <;> rw [pk_sub (by omega), show (3 : Int32) = nI 3 from rfl, nI_leI (by omega) (by omega)] at h3
        · exact bkX7_tokenBetween_48 (bkX7_tokenBetween_49 ⟨_, rfl, by rw [tk, if_pos h3]; rfl, rfl⟩)
        · exact bkX7_tokenBetween_44 (bkX7_tokenBetween_49 ⟨_, rfl, by rw [tk, if_neg h3]; rfl, rfl⟩)
  refine bkX7_tokenBetween_5 (fun h => key ?_) (fun h => ?_) <;> rw [show (97 : Int32) = nI 97 from rfl, nI_ltI (by omega) (by omega)] at h
  · omega
  · refine bkX7_tokenBetween_12 (fun h2 => key ?_) (fun h2 => ?_) <;> rw [show (122 : Int32) = nI 122 from rfl, nI_ltI (by omega) (by omega)] at h2
    · omega
    · have e1 : inC 97 122 (b i) = true := decide_eq_true ⟨by omega, by omega⟩
      refine bkX7_tokenBetween_18 (kX7_nameBetween hT (by omega) hz.2) ?_
      rintro _ S ⟨rfl, rfl⟩
      exact bkX7_tokenBetween_24 ⟨_, rfl, by simp only [t_tk, e1, if_true], rfl⟩
end SU
