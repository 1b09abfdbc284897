/-! ===== contracts by what is answered; more rules; facts that the blocks use (by wip/whole/gen_blocks.py) ===== -/
def Ci (d : Nat) (md : md_T) (as : List av_T) (S : hs_T) (P : Int32 → hs_T → Prop) : Prop := Cx d md as S (fun r S' => ∃ v, r = some (vI v) ∧ P v S')
def Cv (d : Nat) (md : md_T) (as : List av_T) (S : hs_T) (P : hs_T → Prop) : Prop := Cx d md as S (fun r S' => r = none ∧ P S')
def Cr (d : Nat) (md : md_T) (as : List av_T) (S : hs_T) (P : Option (Nat × Nat) → hs_T → Prop) : Prop := Cx d md as S (fun r S' => ∃ v, r = some (Sum.inr (Sum.inr v)) ∧ P v S')
theorem Ci.imp {d : Nat} {md : md_T} {as : List av_T} {S : hs_T} {P P' : Int32 → hs_T → Prop} (h : Ci d md as S P) (hp : ∀ v S', P v S' → P' v S') : Ci d md as S P' := Cx.imp h (fun _ _ ⟨v, h1, h2⟩ => ⟨v, h1, hp _ _ h2⟩)
theorem Cv.imp {d : Nat} {md : md_T} {as : List av_T} {S : hs_T} {P P' : hs_T → Prop} (h : Cv d md as S P) (hp : ∀ S', P S' → P' S') : Cv d md as S P' := Cx.imp h (fun _ _ ⟨h1, h2⟩ => ⟨h1, hp _ h2⟩)
theorem Cr.imp {d : Nat} {md : md_T} {as : List av_T} {S : hs_T} {P P' : Option (Nat × Nat) → hs_T → Prop} (h : Cr d md as S P) (hp : ∀ v S', P v S' → P' v S') : Cr d md as S P' := Cx.imp h (fun _ _ ⟨v, h1, h2⟩ => ⟨v, h1, hp _ _ h2⟩)
def bi_ (b : Bool) : Int32 := if b then 1 else 0
theorem bi_n (b : Bool) : narrow .boolean (.int (bi_ b)) = .int (bi_ b) := by cases b <;> decide
theorem bi_f (b : Bool) : fits .boolean (.int (bi_ b)) = true := by cases b <;> decide
theorem bi_0 (b : Bool) : bi_ b = 0 ↔ b = false := by cases b <;> decide
theorem bi_1 (b : Bool) : bi_ b = 1 ↔ b = true := by cases b <;> decide
theorem bi_t : bi_ true = 1 := rfl
theorem bi_F : bi_ false = 0 := rfl
theorem bi_inj {a b : Bool} : bi_ a = bi_ b ↔ a = b := by cases a <;> cases b <;> decide
section RP
variable {d : Nat} {md : md_T} {pc : Nat} {ls : List (Option av_T)} {st : List av_T} {S : hs_T} {Q : Option av_T → hs_T → Prop}
theorem Ev.ialoadA {k j n a : Nat} {i : Int32} (hp : (k, j) ∈ plc) (hk : ¬ k < 12) (ha : ak_ k = (0, n, 0, 0)) (hin : vp_in i n) (hi : i.toNatClampNeg = a) (hd : decode md.2.1 pc = .ok (.iaload, 1)) (kk : Ev d md (pc + 1) ls (vI (S.1 k j a) :: st) S Q) : Ev d md pc ls (vI i :: vR k j :: st) S Q :=
  Ev.iaload hp hk ha hin hd (by rw [hi]; exact kk)
theorem Ev.iastoreA {k j n a : Nat} {i x : Int32} {S' : hs_T} (hp : (k, j) ∈ plc) (hk : ¬ k < 12) (ha : ak_ k = (0, n, 0, 0)) (hin : vp_in i n) (hi : i.toNatClampNeg = a) (hS' : sk_ S k j (upd (S.1 k j) a x) = S') (hd : decode md.2.1 pc = .ok (.iastore, 1)) (kk : Ev d md (pc + 1) ls st S' Q) : Ev d md pc ls (vI x :: vI i :: vR k j :: st) S Q :=
  Ev.iastore hp hk ha hin (by rw [hi]; exact hS') hd kk
theorem mm_room {G : cg_T} {d : Nat} {st : List av_T} (hw : (st.map ct_).sum ≤ 8) : ((st.map (cv_ G.2.1)).map fun v => v.category).sum + 13 ≤ (rm_ (d + 1)).locals := by
  rw [List.map_map, show ((fun v : Value => v.category) ∘ cv_ G.2.1) = ct_ from funext (fun v => cv_cat G.2.1 v)]
  show _ ≤ 32 * (d + 1)
  omega
theorem Ev.mmax {i : Nat} {x y : Int32} (hl : Cond.methodLink md.1.cls i yJ9_max_7cf53 ∈ tb_) (hw : (st.map ct_).sum ≤ 8) (hd : decode md.2.1 pc = .ok (.invokestatic i, 3)) (k : Ev (d + 1) md (pc + 3) ls (vI (if x < y then y else x) :: st) S Q) : Ev (d + 1) md pc ls (vI y :: vI x :: st) S Q :=
  fun G p l e s m args below meth c H locs lc B hP hS hr => va_mmax B.1 B.2.1 (B.2.2.2.1.trans hr.1.symm) B.2.2.2.2.1 (B.2.2.2.2.2.1 _ hl) (B.2.2.2.2.2.1 _ stJ9_max_7cf53) (B.2.2.2.2.2.1 _ iniJ9) (B.2.2.2.2.2.1 _ okJ9_max_7cf53.1) (Nat.le_add_left 1 d) (mm_room hw) (Nat.le_refl 0) (Nat.le_refl 0) hd (k G p l e s m args below meth c H locs lc B hP hS hr)
theorem Ev.mmin {i : Nat} {x y : Int32} (hl : Cond.methodLink md.1.cls i yJ9_min_7cf53 ∈ tb_) (hw : (st.map ct_).sum ≤ 8) (hd : decode md.2.1 pc = .ok (.invokestatic i, 3)) (k : Ev (d + 1) md (pc + 3) ls (vI (if y < x then y else x) :: st) S Q) : Ev (d + 1) md pc ls (vI y :: vI x :: st) S Q :=
  fun G p l e s m args below meth c H locs lc B hP hS hr => va_mmin B.1 B.2.1 (B.2.2.2.1.trans hr.1.symm) B.2.2.2.2.1 (B.2.2.2.2.2.1 _ hl) (B.2.2.2.2.2.1 _ stJ9_min_7cf53) (B.2.2.2.2.2.1 _ iniJ9) (B.2.2.2.2.2.1 _ okJ9_min_7cf53.1) (Nat.le_add_left 1 d) (mm_room hw) (Nat.le_refl 0) (Nat.le_refl 0) hd (k G p l e s m args below meth c H locs lc B hP hS hr)
end RP
theorem tw_out {x : Int32} {lo hi : Int} (h : ∀ c : Int, lo ≤ c → c ≤ hi → ¬ x.toInt = c) : x.toInt < lo ∨ hi < x.toInt := by
  rcases Int.lt_or_le x.toInt lo with z | z
  · exact Or.inl z
  · rcases Int.lt_or_le hi x.toInt with z2 | z2
    · exact Or.inr z2
    · exact absurd rfl (h x.toInt z z2)
theorem lk_mem {α β : Type} [BEq α] [LawfulBEq α] {a : α} {b : β} : ∀ {l : List (α × β)}, l.lookup a = some b → (a, b) ∈ l
  | [], h => by simp at h
  | (x, y) :: l, h => by
    rw [List.lookup_cons] at h
    by_cases e : (a == x) = true
    · rw [e] at h
      cases h
      rw [eq_of_beq e]
      exact List.mem_cons_self
    · rw [Bool.not_eq_true] at e
      rw [e] at h
      exact List.mem_cons_of_mem _ (lk_mem h)
theorem fk_mem {c f : Nat} {t : Nat × Nat × Nat} (h : fk_ c f = t) (ht : t.1 = 3) : (100 * c + f, t) ∈ fk_T := by
  unfold fk_ at h
  cases e : fk_T.lookup (100 * c + f) with
  | none => rw [e] at h; subst h; simp at ht
  | some u => rw [e] at h; subst h; exact lk_mem e
theorem pu_of {g n : Nat} (h : ∀ q ∈ fk_T, q.2.1 = 3 → q.2.2.1 = g → q.1 = n) {k f : Nat} (hn : n = 100 * k + f) (hf : f < 100) : ∀ c f', f' < 100 → (fk_ c f').1 = 3 → (fk_ c f').2.1 = g → c = k ∧ f' = f := by
  intro c f' h1 h2 h3
  have h4 := h _ (fk_mem (t := fk_ c f') rfl h2) h2 h3
  have h5 : 100 * c + f' = n := h4
  omega
theorem pu_0 : ∀ c f', f' < 100 → (fk_ c f').1 = 3 → (fk_ c f').2.1 = 0 → c = 10 ∧ f' = 10 := pu_of (n := 1010) (by decide +kernel) rfl (by decide)
theorem pu_1 : ∀ c f', f' < 100 → (fk_ c f').1 = 3 → (fk_ c f').2.1 = 1 → c = 4 ∧ f' = 1 := pu_of (n := 401) (by decide +kernel) rfl (by decide)
theorem pj_of {k : Nat} (h : ∀ q ∈ plc, q.1 = k → q.2 = 0) : ∀ b, (k, b) ∈ plc → b = 0 := fun b hb => h (k, b) hb rfl
theorem pj_10 : ∀ b, (10, b) ∈ plc → b = 0 := pj_of (by decide +kernel)
theorem pj_4 : ∀ b, (4, b) ∈ plc → b = 0 := pj_of (by decide +kernel)
theorem pz_10_0 : (10, 0) ∈ plc := by decide +kernel
theorem pz_4_0 : (4, 0) ∈ plc := by decide +kernel
theorem pz_7_0 : (7, 0) ∈ plc := by decide +kernel
theorem pz_800_0 : (800, 0) ∈ plc := by decide +kernel
theorem pz_802_0 : (802, 0) ∈ plc := by decide +kernel
theorem pz_803_0 : (803, 0) ∈ plc := by decide +kernel
theorem pz_804_0 : (804, 0) ∈ plc := by decide +kernel
theorem pz_5_1 : (5, 1) ∈ plc := by decide +kernel
theorem pz_600_1 : (600, 1) ∈ plc := by decide +kernel
theorem pz_601_1 : (601, 1) ∈ plc := by decide +kernel
theorem pz_602_1 : (602, 1) ∈ plc := by decide +kernel
theorem pz_603_1 : (603, 1) ∈ plc := by decide +kernel
theorem pz_604_1 : (604, 1) ∈ plc := by decide +kernel
theorem pz_605_1 : (605, 1) ∈ plc := by decide +kernel
theorem pz_8_0 : (8, 0) ∈ plc := by decide +kernel
theorem pz_900_0 : (900, 0) ∈ plc := by decide +kernel
theorem pz_8_1 : (8, 1) ∈ plc := by decide +kernel
theorem pz_900_1 : (900, 1) ∈ plc := by decide +kernel
theorem pz_1103_0 : (1103, 0) ∈ plc := by decide +kernel
theorem pz_8_2 : (8, 2) ∈ plc := by decide +kernel
theorem pz_900_2 : (900, 2) ∈ plc := by decide +kernel
theorem pz_8_3 : (8, 3) ∈ plc := by decide +kernel
theorem pz_900_3 : (900, 3) ∈ plc := by decide +kernel
theorem pz_1104_0 : (1104, 0) ∈ plc := by decide +kernel
theorem pz_6_0 : (6, 0) ∈ plc := by decide +kernel
theorem pz_700_0 : (700, 0) ∈ plc := by decide +kernel
theorem pz_6_1 : (6, 1) ∈ plc := by decide +kernel
theorem pz_700_1 : (700, 1) ∈ plc := by decide +kernel
theorem pz_6_2 : (6, 2) ∈ plc := by decide +kernel
theorem pz_700_2 : (700, 2) ∈ plc := by decide +kernel
theorem pz_6_3 : (6, 3) ∈ plc := by decide +kernel
theorem pz_700_3 : (700, 3) ∈ plc := by decide +kernel
theorem pz_9_0 : (9, 0) ∈ plc := by decide +kernel
theorem pz_1000_0 : (1000, 0) ∈ plc := by decide +kernel
theorem pz_3_0 : (3, 0) ∈ plc := by decide +kernel
theorem pz_2_0 : (2, 0) ∈ plc := by decide +kernel
theorem pz_0_0 : (0, 0) ∈ plc := by decide +kernel
theorem pz_100_0 : (100, 0) ∈ plc := by decide +kernel
theorem pz_1_0 : (1, 0) ∈ plc := by decide +kernel
theorem pz_200_0 : (200, 0) ∈ plc := by decide +kernel
theorem pz_201_0 : (201, 0) ∈ plc := by decide +kernel
theorem pz_5_0 : (5, 0) ∈ plc := by decide +kernel
theorem pz_600_0 : (600, 0) ∈ plc := by decide +kernel
theorem pz_601_0 : (601, 0) ∈ plc := by decide +kernel
theorem pz_602_0 : (602, 0) ∈ plc := by decide +kernel
theorem pz_603_0 : (603, 0) ∈ plc := by decide +kernel
theorem pz_604_0 : (604, 0) ∈ plc := by decide +kernel
theorem pz_605_0 : (605, 0) ∈ plc := by decide +kernel
theorem pz_11_0 : (11, 0) ∈ plc := by decide +kernel
theorem pz_1200_0 : (1200, 0) ∈ plc := by decide +kernel
theorem pz_1201_0 : (1201, 0) ∈ plc := by decide +kernel
theorem pz_1202_0 : (1202, 0) ∈ plc := by decide +kernel
theorem pz_1204_0 : (1204, 0) ∈ plc := by decide +kernel
theorem pz_1205_0 : (1205, 0) ∈ plc := by decide +kernel
theorem pz_1207_0 : (1207, 0) ∈ plc := by decide +kernel
theorem pz_1220_0 : (1220, 0) ∈ plc := by decide +kernel
theorem pz_1226_0 : (1226, 0) ∈ plc := by decide +kernel
theorem pz_1230_0 : (1230, 0) ∈ plc := by decide +kernel
theorem pz_1231_0 : (1231, 0) ∈ plc := by decide +kernel
theorem pz_1232_0 : (1232, 0) ∈ plc := by decide +kernel
theorem ff_0_0 (S : hs_T) (j : Nat) : fv_ S 0 j 0 = vR 100 j := rfl
theorem ff_0_1 (S : hs_T) (j : Nat) : fv_ S 0 j 1 = vI (S.1 0 j 1) := rfl
theorem ff_0_2 (S : hs_T) (j : Nat) : fv_ S 0 j 2 = vI (S.1 0 j 2) := rfl
theorem ff_0_3 (S : hs_T) (j : Nat) : fv_ S 0 j 3 = vI (S.1 0 j 3) := rfl
theorem ff_0_4 (S : hs_T) (j : Nat) : fv_ S 0 j 4 = vI (S.1 0 j 4) := rfl
theorem ff_0_5 (S : hs_T) (j : Nat) : fv_ S 0 j 5 = vI (S.1 0 j 5) := rfl
theorem ff_1_0 (S : hs_T) (j : Nat) : fv_ S 1 j 0 = vR 200 j := rfl
theorem ff_1_1 (S : hs_T) (j : Nat) : fv_ S 1 j 1 = vR 201 j := rfl
theorem ff_1_2 (S : hs_T) (j : Nat) : fv_ S 1 j 2 = vI (S.1 1 j 2) := rfl
theorem ff_1_3 (S : hs_T) (j : Nat) : fv_ S 1 j 3 = vI (S.1 1 j 3) := rfl
theorem ff_1_4 (S : hs_T) (j : Nat) : fv_ S 1 j 4 = vI (S.1 1 j 4) := rfl
theorem ff_2_0 (S : hs_T) (j : Nat) : fv_ S 2 j 0 = vI (S.1 2 j 0) := rfl
theorem ff_2_1 (S : hs_T) (j : Nat) : fv_ S 2 j 1 = vI (S.1 2 j 1) := rfl
theorem ff_2_2 (S : hs_T) (j : Nat) : fv_ S 2 j 2 = vI (S.1 2 j 2) := rfl
theorem ff_2_3 (S : hs_T) (j : Nat) : fv_ S 2 j 3 = vI (S.1 2 j 3) := rfl
theorem ff_2_4 (S : hs_T) (j : Nat) : fv_ S 2 j 4 = vI (S.1 2 j 4) := rfl
theorem ff_3_0 (S : hs_T) (j : Nat) : fv_ S 3 j 0 = vI (S.1 3 j 0) := rfl
theorem ff_3_1 (S : hs_T) (j : Nat) : fv_ S 3 j 1 = vI (S.1 3 j 1) := rfl
theorem ff_3_2 (S : hs_T) (j : Nat) : fv_ S 3 j 2 = vI (S.1 3 j 2) := rfl
theorem ff_3_3 (S : hs_T) (j : Nat) : fv_ S 3 j 3 = vI (S.1 3 j 3) := rfl
theorem ff_3_4 (S : hs_T) (j : Nat) : fv_ S 3 j 4 = vI (S.1 3 j 4) := rfl
theorem ff_3_5 (S : hs_T) (j : Nat) : fv_ S 3 j 5 = vI (S.1 3 j 5) := rfl
theorem ff_4_0 (S : hs_T) (j : Nat) : fv_ S 4 j 0 = vR 7 0 := rfl
theorem ff_4_1 (S : hs_T) (j : Nat) : fv_ S 4 j 1 = vR 5 (S.2.2 1) := rfl
theorem ff_4_2 (S : hs_T) (j : Nat) : fv_ S 4 j 2 = vI (S.1 4 j 2) := rfl
theorem ff_4_3 (S : hs_T) (j : Nat) : fv_ S 4 j 3 = vI (S.1 4 j 3) := rfl
theorem ff_4_4 (S : hs_T) (j : Nat) : fv_ S 4 j 4 = vI (S.1 4 j 4) := rfl
theorem ff_4_5 (S : hs_T) (j : Nat) : fv_ S 4 j 5 = vI (S.1 4 j 5) := rfl
theorem ff_4_6 (S : hs_T) (j : Nat) : fv_ S 4 j 6 = vI (S.1 4 j 6) := rfl
theorem ff_4_7 (S : hs_T) (j : Nat) : fv_ S 4 j 7 = vI (S.1 4 j 7) := rfl
theorem ff_4_8 (S : hs_T) (j : Nat) : fv_ S 4 j 8 = vI (S.1 4 j 8) := rfl
theorem ff_4_9 (S : hs_T) (j : Nat) : fv_ S 4 j 9 = vI (S.1 4 j 9) := rfl
theorem ff_4_10 (S : hs_T) (j : Nat) : fv_ S 4 j 10 = vI (S.1 4 j 10) := rfl
theorem ff_5_0 (S : hs_T) (j : Nat) : fv_ S 5 j 0 = vR 600 j := rfl
theorem ff_5_1 (S : hs_T) (j : Nat) : fv_ S 5 j 1 = vR 601 j := rfl
theorem ff_5_2 (S : hs_T) (j : Nat) : fv_ S 5 j 2 = vR 602 j := rfl
theorem ff_5_3 (S : hs_T) (j : Nat) : fv_ S 5 j 3 = vR 603 j := rfl
theorem ff_5_4 (S : hs_T) (j : Nat) : fv_ S 5 j 4 = vR 604 j := rfl
theorem ff_5_5 (S : hs_T) (j : Nat) : fv_ S 5 j 5 = vR 605 j := rfl
theorem ff_5_6 (S : hs_T) (j : Nat) : fv_ S 5 j 6 = vI (S.1 5 j 6) := rfl
theorem ff_5_7 (S : hs_T) (j : Nat) : fv_ S 5 j 7 = vI (S.1 5 j 7) := rfl
theorem ff_5_8 (S : hs_T) (j : Nat) : fv_ S 5 j 8 = vI (S.1 5 j 8) := rfl
theorem ff_6_0 (S : hs_T) (j : Nat) : fv_ S 6 j 0 = vR 700 j := rfl
theorem ff_6_1 (S : hs_T) (j : Nat) : fv_ S 6 j 1 = vI (S.1 6 j 1) := rfl
theorem ff_6_2 (S : hs_T) (j : Nat) : fv_ S 6 j 2 = vI (S.1 6 j 2) := rfl
theorem ff_7_0 (S : hs_T) (j : Nat) : fv_ S 7 j 0 = vR 800 j := rfl
theorem ff_7_1 (S : hs_T) (j : Nat) : fv_ S 7 j 1 = vI (S.1 7 j 1) := rfl
theorem ff_7_2 (S : hs_T) (j : Nat) : fv_ S 7 j 2 = vR 802 j := rfl
theorem ff_7_3 (S : hs_T) (j : Nat) : fv_ S 7 j 3 = vR 803 j := rfl
theorem ff_7_4 (S : hs_T) (j : Nat) : fv_ S 7 j 4 = vR 804 j := rfl
theorem ff_7_5 (S : hs_T) (j : Nat) : fv_ S 7 j 5 = vI (S.1 7 j 5) := rfl
theorem ff_8_0 (S : hs_T) (j : Nat) : fv_ S 8 j 0 = vR 900 j := rfl
theorem ff_8_1 (S : hs_T) (j : Nat) : fv_ S 8 j 1 = vI (S.1 8 j 1) := rfl
theorem ff_8_2 (S : hs_T) (j : Nat) : fv_ S 8 j 2 = vI (S.1 8 j 2) := rfl
theorem ff_9_0 (S : hs_T) (j : Nat) : fv_ S 9 j 0 = vR 1000 j := rfl
theorem ff_9_1 (S : hs_T) (j : Nat) : fv_ S 9 j 1 = vI (S.1 9 j 1) := rfl
theorem ff_9_2 (S : hs_T) (j : Nat) : fv_ S 9 j 2 = vI (S.1 9 j 2) := rfl
theorem ff_9_3 (S : hs_T) (j : Nat) : fv_ S 9 j 3 = vI (S.1 9 j 3) := rfl
theorem ff_9_4 (S : hs_T) (j : Nat) : fv_ S 9 j 4 = vI (S.1 9 j 4) := rfl
theorem ff_9_5 (S : hs_T) (j : Nat) : fv_ S 9 j 5 = vI (S.1 9 j 5) := rfl
theorem ff_10_0 (S : hs_T) (j : Nat) : fv_ S 10 j 0 = vR 4 0 := rfl
theorem ff_10_1 (S : hs_T) (j : Nat) : fv_ S 10 j 1 = vR 8 0 := rfl
theorem ff_10_2 (S : hs_T) (j : Nat) : fv_ S 10 j 2 = vR 8 1 := rfl
theorem ff_10_3 (S : hs_T) (j : Nat) : fv_ S 10 j 3 = vR 1103 j := rfl
theorem ff_10_4 (S : hs_T) (j : Nat) : fv_ S 10 j 4 = vR 1104 j := rfl
theorem ff_10_5 (S : hs_T) (j : Nat) : fv_ S 10 j 5 = vR 9 0 := rfl
theorem ff_10_6 (S : hs_T) (j : Nat) : fv_ S 10 j 6 = vR 3 0 := rfl
theorem ff_10_7 (S : hs_T) (j : Nat) : fv_ S 10 j 7 = vR 2 0 := rfl
theorem ff_10_8 (S : hs_T) (j : Nat) : fv_ S 10 j 8 = vR 0 0 := rfl
theorem ff_10_9 (S : hs_T) (j : Nat) : fv_ S 10 j 9 = vR 1 0 := rfl
theorem ff_10_10 (S : hs_T) (j : Nat) : fv_ S 10 j 10 = vR 5 (S.2.2 0) := rfl
theorem ff_10_11 (S : hs_T) (j : Nat) : fv_ S 10 j 11 = vI (S.1 10 j 11) := rfl
theorem ff_10_12 (S : hs_T) (j : Nat) : fv_ S 10 j 12 = vI (S.1 10 j 12) := rfl
theorem ff_11_0 (S : hs_T) (j : Nat) : fv_ S 11 j 0 = vR 1200 j := rfl
theorem ff_11_1 (S : hs_T) (j : Nat) : fv_ S 11 j 1 = vR 1201 j := rfl
theorem ff_11_2 (S : hs_T) (j : Nat) : fv_ S 11 j 2 = vR 1202 j := rfl
theorem ff_11_3 (S : hs_T) (j : Nat) : fv_ S 11 j 3 = vI (S.1 11 j 3) := rfl
theorem ff_11_4 (S : hs_T) (j : Nat) : fv_ S 11 j 4 = vR 1204 j := rfl
theorem ff_11_5 (S : hs_T) (j : Nat) : fv_ S 11 j 5 = vR 1205 j := rfl
theorem ff_11_6 (S : hs_T) (j : Nat) : fv_ S 11 j 6 = vI (S.1 11 j 6) := rfl
theorem ff_11_7 (S : hs_T) (j : Nat) : fv_ S 11 j 7 = vR 1207 j := rfl
theorem ff_11_8 (S : hs_T) (j : Nat) : fv_ S 11 j 8 = vI (S.1 11 j 8) := rfl
theorem ff_11_9 (S : hs_T) (j : Nat) : fv_ S 11 j 9 = vI (S.1 11 j 9) := rfl
theorem ff_11_10 (S : hs_T) (j : Nat) : fv_ S 11 j 10 = vI (S.1 11 j 10) := rfl
theorem ff_11_11 (S : hs_T) (j : Nat) : fv_ S 11 j 11 = vI (S.1 11 j 11) := rfl
theorem ff_11_12 (S : hs_T) (j : Nat) : fv_ S 11 j 12 = vI (S.1 11 j 12) := rfl
theorem ff_11_13 (S : hs_T) (j : Nat) : fv_ S 11 j 13 = vI (S.1 11 j 13) := rfl
theorem ff_11_14 (S : hs_T) (j : Nat) : fv_ S 11 j 14 = vI (S.1 11 j 14) := rfl
theorem ff_11_15 (S : hs_T) (j : Nat) : fv_ S 11 j 15 = vI (S.1 11 j 15) := rfl
theorem ff_11_16 (S : hs_T) (j : Nat) : fv_ S 11 j 16 = vI (S.1 11 j 16) := rfl
theorem ff_11_17 (S : hs_T) (j : Nat) : fv_ S 11 j 17 = vI (S.1 11 j 17) := rfl
theorem ff_11_18 (S : hs_T) (j : Nat) : fv_ S 11 j 18 = vI (S.1 11 j 18) := rfl
theorem ff_11_19 (S : hs_T) (j : Nat) : fv_ S 11 j 19 = vI (S.1 11 j 19) := rfl
theorem ff_11_20 (S : hs_T) (j : Nat) : fv_ S 11 j 20 = vR 1220 j := rfl
theorem ff_11_21 (S : hs_T) (j : Nat) : fv_ S 11 j 21 = vI (S.1 11 j 21) := rfl
theorem ff_11_22 (S : hs_T) (j : Nat) : fv_ S 11 j 22 = vI (S.1 11 j 22) := rfl
theorem ff_11_23 (S : hs_T) (j : Nat) : fv_ S 11 j 23 = vI (S.1 11 j 23) := rfl
theorem ff_11_24 (S : hs_T) (j : Nat) : fv_ S 11 j 24 = vI (S.1 11 j 24) := rfl
theorem ff_11_25 (S : hs_T) (j : Nat) : fv_ S 11 j 25 = vI (S.1 11 j 25) := rfl
theorem ff_11_26 (S : hs_T) (j : Nat) : fv_ S 11 j 26 = vR 1226 j := rfl
theorem ff_11_27 (S : hs_T) (j : Nat) : fv_ S 11 j 27 = vI (S.1 11 j 27) := rfl
theorem ff_11_28 (S : hs_T) (j : Nat) : fv_ S 11 j 28 = vI (S.1 11 j 28) := rfl
theorem ff_11_29 (S : hs_T) (j : Nat) : fv_ S 11 j 29 = vI (S.1 11 j 29) := rfl
theorem ff_11_30 (S : hs_T) (j : Nat) : fv_ S 11 j 30 = vR 1230 j := rfl
theorem ff_11_31 (S : hs_T) (j : Nat) : fv_ S 11 j 31 = vR 1231 j := rfl
theorem ff_11_32 (S : hs_T) (j : Nat) : fv_ S 11 j 32 = vR 1232 j := rfl
theorem ff_11_33 (S : hs_T) (j : Nat) : fv_ S 11 j 33 = vI (S.1 11 j 33) := rfl
theorem ak_100 : ak_ 100 = (0, 25, 0, 0) := by decide +kernel
theorem ak_200 : ak_ 200 = (0, 256, 0, 0) := by decide +kernel
theorem ak_201 : ak_ 201 = (1, 1024, 0, 0) := by decide +kernel
theorem ak_600 : ak_ 600 = (0, 8, 0, 0) := by decide +kernel
theorem ak_601 : ak_ 601 = (0, 24, 0, 0) := by decide +kernel
theorem ak_602 : ak_ 602 = (0, 24, 0, 0) := by decide +kernel
theorem ak_603 : ak_ 603 = (0, 25, 0, 0) := by decide +kernel
theorem ak_604 : ak_ 604 = (0, 75, 0, 0) := by decide +kernel
theorem ak_605 : ak_ 605 = (0, 75, 0, 0) := by decide +kernel
theorem ak_700 : ak_ 700 = (0, 40, 0, 0) := by decide +kernel
theorem ak_800 : ak_ 800 = (0, 400, 0, 0) := by decide +kernel
theorem ak_802 : ak_ 802 = (0, 401, 0, 0) := by decide +kernel
theorem ak_803 : ak_ 803 = (0, 401, 0, 0) := by decide +kernel
theorem ak_804 : ak_ 804 = (0, 401, 0, 0) := by decide +kernel
theorem ak_900 : ak_ 900 = (0, 400, 0, 0) := by decide +kernel
theorem ak_1000 : ak_ 1000 = (0, 3, 0, 0) := by decide +kernel
theorem ak_1103 : ak_ 1103 = (2, 2, 8, 2) := by decide +kernel
theorem ak_1104 : ak_ 1104 = (2, 4, 6, 0) := by decide +kernel
theorem ak_1200 : ak_ 1200 = (0, 234, 0, 0) := by decide +kernel
theorem ak_1201 : ak_ 1201 = (0, 234, 0, 0) := by decide +kernel
theorem ak_1202 : ak_ 1202 = (0, 400, 0, 0) := by decide +kernel
theorem ak_1204 : ak_ 1204 = (0, 800, 0, 0) := by decide +kernel
theorem ak_1205 : ak_ 1205 = (0, 2, 0, 0) := by decide +kernel
theorem ak_1207 : ak_ 1207 = (0, 400, 0, 0) := by decide +kernel
theorem ak_1220 : ak_ 1220 = (0, 3, 0, 0) := by decide +kernel
theorem ak_1226 : ak_ 1226 = (0, 400, 0, 0) := by decide +kernel
theorem ak_1230 : ak_ 1230 = (0, 4, 0, 0) := by decide +kernel
theorem ak_1231 : ak_ 1231 = (0, 4, 0, 0) := by decide +kernel
theorem ak_1232 : ak_ 1232 = (0, 160, 0, 0) := by decide +kernel
