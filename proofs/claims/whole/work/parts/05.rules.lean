/-! ===== the rules: one an instruction ===== -/
section RU
variable {d : Nat} {md : md_T} {pc : Nat} {ls : List (Option av_T)} {st : List av_T} {S : hs_T} {Q : Option av_T → hs_T → Prop}
theorem Ev.imp {Q' : Option av_T → hs_T → Prop} (h : Ev d md pc ls st S Q') (hq : ∀ r S', Q' r S' → Q r S') : Ev d md pc ls st S Q := by
  intro G p l e s m args below meth c H locs lc B hP hS hl T hT X
  obtain ⟨t, h1, o, h2, h3, ⟨⟨r, S', g1, g2⟩, g3⟩, g4⟩ := h G p l e s m args below meth c H locs lc B hP hS hl T hT X
  exact ⟨t, h1, o, h2, h3, ⟨⟨r, S', hq r S' g1, g2⟩, g3⟩, g4⟩
theorem Ev.iconst {n : Int} {v : Int32} (hd : decode md.2.1 pc = .ok (.iconst n, 1)) (hv : Int32.ofInt n = v) (k : Ev d md (pc + 1) ls (vI v :: st) S Q) : Ev d md pc ls st S Q :=
  fun G p l e s m args below meth c H locs lc B hP hS hl => lv_iconst B.1 B.2.1 hd hv (k G p l e s m args below meth c H locs lc B hP hS hl)
theorem Ev.bipush {n : Int} {v : Int32} (hd : decode md.2.1 pc = .ok (.bipush n, 2)) (hv : (Int8.ofInt n).toInt32 = v) (k : Ev d md (pc + 2) ls (vI v :: st) S Q) : Ev d md pc ls st S Q :=
  fun G p l e s m args below meth c H locs lc B hP hS hl => lv_bipush B.1 B.2.1 hd hv (k G p l e s m args below meth c H locs lc B hP hS hl)
theorem Ev.sipush {n : Int} {v : Int32} (hd : decode md.2.1 pc = .ok (.sipush n, 3)) (hv : (Int16.ofInt n).toInt32 = v) (k : Ev d md (pc + 3) ls (vI v :: st) S Q) : Ev d md pc ls st S Q :=
  fun G p l e s m args below meth c H locs lc B hP hS hl => lv_sipush B.1 B.2.1 hd hv (k G p l e s m args below meth c H locs lc B hP hS hl)
theorem Ev.lconst {n : Fin 2} {v : Int64} (hd : decode md.2.1 pc = .ok (.lconst n, 1)) (hv : Int64.ofNat (n : Nat) = v) (k : Ev d md (pc + 1) ls (vJ v :: st) S Q) : Ev d md pc ls st S Q :=
  fun G p l e s m args below meth c H locs lc B hP hS hl => lv_lconst B.1 B.2.1 hd hv (k G p l e s m args below meth c H locs lc B hP hS hl)
theorem Ev.aconst_null (hd : decode md.2.1 pc = .ok (.aconst_null, 1)) (k : Ev d md (pc + 1) ls (vN :: st) S Q) : Ev d md pc ls st S Q :=
  fun G p l e s m args below meth c H locs lc B hP hS hl => lv_null B.1 B.2.1 hd (k G p l e s m args below meth c H locs lc B hP hS hl)
theorem Ev.ldc2 {i : Nat} {v : Int64} (hw : Cond.constantLong md.1.cls i v ∈ tb_) (hd : decode md.2.1 pc = .ok (.ldc2_w i, 3)) (k : Ev d md (pc + 3) ls (vJ v :: st) S Q) : Ev d md pc ls st S Q :=
  fun G p l e s m args below meth c H locs lc B hP hS hl => lv_ldc2 B.1 B.2.1 B.2.2.2.2.1 (B.2.2.2.2.2.1 _ hw) hd (k G p l e s m args below meth c H locs lc B hP hS hl)
theorem Ev.ldcw {i : Nat} {v : Int32} (hw : Cond.constant md.1.cls i v ∈ tb_) (hd : decode md.2.1 pc = .ok (.ldc_w i, 3)) (k : Ev d md (pc + 3) ls (vI v :: st) S Q) : Ev d md pc ls st S Q :=
  fun G p l e s m args below meth c H locs lc B hP hS hl => lv_ldcw B.1 B.2.1 B.2.2.2.2.1 (B.2.2.2.2.2.1 _ hw) hd (k G p l e s m args below meth c H locs lc B hP hS hl)
theorem Ev.ldcS {i n : Nat} {tx : String} (ho : md.1.cls = RX7) (hk : kst[n]? = some (i, tx)) (hd : decode md.2.1 pc = .ok (.ldc i, 2)) (k : Ev d md (pc + 2) ls (vR 50 n :: st) S Q) : Ev d md pc ls st S Q :=
  fun G p l e s m args below meth c H locs lc B hP hS hl => va_ldcS B.1 B.2.1 (own := RX7) (tx := tx) (ho ▸ B.2.2.2.2.1) (B.2.2.2.2.2.2.2.2.2.2.2.1 n (i, tx) hk) hd (k G p l e s m args below meth c H locs lc B hP hS hl)
/-! locals -/
theorem Ev.iload_n {k : Fin 4} {i : Nat} {x : Int32} (hd : decode md.2.1 pc = .ok (.iload_n k, 1)) (hi : (k : Nat) = i) (hl : ls[i]? = some (some (vI x))) (kk : Ev d md (pc + 1) ls (vI x :: st) S Q) : Ev d md pc ls st S Q :=
  fun G p l e s m args below meth c H locs lc B hP hS hr => lv_iload_n B.1 B.2.1 hd hi (hr.2.2 i _ hl) (kk G p l e s m args below meth c H locs lc B hP hS hr)
theorem Ev.iload {i : Nat} {x : Int32} (hd : decode md.2.1 pc = .ok (.iload i, 2)) (hl : ls[i]? = some (some (vI x))) (kk : Ev d md (pc + 2) ls (vI x :: st) S Q) : Ev d md pc ls st S Q :=
  fun G p l e s m args below meth c H locs lc B hP hS hr => lv_iload B.1 B.2.1 hd (hr.2.2 i _ hl) (kk G p l e s m args below meth c H locs lc B hP hS hr)
theorem Ev.lload_n {k : Fin 4} {i : Nat} {x : Int64} (hd : decode md.2.1 pc = .ok (.lload_n k, 1)) (hi : (k : Nat) = i) (hl : ls[i]? = some (some (vJ x))) (kk : Ev d md (pc + 1) ls (vJ x :: st) S Q) : Ev d md pc ls st S Q :=
  fun G p l e s m args below meth c H locs lc B hP hS hr => lv_lload_n B.1 B.2.1 hd hi (hr.2.2 i _ hl) (kk G p l e s m args below meth c H locs lc B hP hS hr)
theorem Ev.lload {i : Nat} {x : Int64} (hd : decode md.2.1 pc = .ok (.lload i, 2)) (hl : ls[i]? = some (some (vJ x))) (kk : Ev d md (pc + 2) ls (vJ x :: st) S Q) : Ev d md pc ls st S Q :=
  fun G p l e s m args below meth c H locs lc B hP hS hr => lv_lload B.1 B.2.1 hd (hr.2.2 i _ hl) (kk G p l e s m args below meth c H locs lc B hP hS hr)
theorem Ev.aload_n {k : Fin 4} {i a j : Nat} (hd : decode md.2.1 pc = .ok (.aload_n k, 1)) (hi : (k : Nat) = i) (hl : ls[i]? = some (some (vR a j))) (kk : Ev d md (pc + 1) ls (vR a j :: st) S Q) : Ev d md pc ls st S Q :=
  fun G p l e s m args below meth c H locs lc B hP hS hr => lv_aload_n B.1 B.2.1 hd hi (hr.2.2 i _ hl) (kk G p l e s m args below meth c H locs lc B hP hS hr)
theorem Ev.aload {i a j : Nat} (hd : decode md.2.1 pc = .ok (.aload i, 2)) (hl : ls[i]? = some (some (vR a j))) (kk : Ev d md (pc + 2) ls (vR a j :: st) S Q) : Ev d md pc ls st S Q :=
  fun G p l e s m args below meth c H locs lc B hP hS hr => lv_aload B.1 B.2.1 hd (hr.2.2 i _ hl) (kk G p l e s m args below meth c H locs lc B hP hS hr)
theorem Ev.aload_nN {k : Fin 4} {i : Nat} (hd : decode md.2.1 pc = .ok (.aload_n k, 1)) (hi : (k : Nat) = i) (hl : ls[i]? = some (some vN)) (kk : Ev d md (pc + 1) ls (vN :: st) S Q) : Ev d md pc ls st S Q :=
  fun G p l e s m args below meth c H locs lc B hP hS hr => lv_aload_nN B.1 B.2.1 hd hi (hr.2.2 i _ hl) (kk G p l e s m args below meth c H locs lc B hP hS hr)
theorem Ev.aloadN {i : Nat} (hd : decode md.2.1 pc = .ok (.aload i, 2)) (hl : ls[i]? = some (some vN)) (kk : Ev d md (pc + 2) ls (vN :: st) S Q) : Ev d md pc ls st S Q :=
  fun G p l e s m args below meth c H locs lc B hP hS hr => lv_aloadN B.1 B.2.1 hd (hr.2.2 i _ hl) (kk G p l e s m args below meth c H locs lc B hP hS hr)
/-- storing: a long ahead of the place is lost -/
def cl_ (ls : List (Option av_T)) (i : Nat) : List (Option av_T) := match i with
  | 0 => ls
  | i + 1 => match ls[i]? with
    | some (some (Sum.inr (Sum.inl _))) => ls.set i none
    | _ => ls
def s1_ (ls : List (Option av_T)) (i : Nat) (v : av_T) : List (Option av_T) := (cl_ ls i).set i (some v)
def s2_ (ls : List (Option av_T)) (i : Nat) (v : av_T) : List (Option av_T) := ((cl_ ls i).set i (some v)).set (i + 1) none
theorem cl_at {ls : List (Option av_T)} {i k : Nat} {w : av_T} (h : (cl_ ls i)[k]? = some (some w)) : ls[k]? = some (some w) ∧ ¬ (k + 1 = i ∧ ct_ w = 2) := by
  unfold cl_ at h
  split at h
  · exact ⟨h, fun z => by omega⟩
  · rename_i i
    split at h
    · rename_i x hx
      by_cases hk : i = k
      · subst hk
        rw [List.getElem?_set_self (List.getElem?_eq_some_iff.mp hx).1] at h
        cases h
      · rw [List.getElem?_set_ne hk] at h
        exact ⟨h, fun z => hk (by omega)⟩
    · rename_i hx
      refine ⟨h, fun z => ?_⟩
      obtain ⟨z1, z2⟩ := z
      have e : k = i := by omega
      subst e
      rcases w with w | w | w
      · simp [ct_] at z2
      · exact hx w h
      · simp [ct_] at z2
def as_ (ad : Nat → Nat → Nat) (ls : List (Option av_T)) : List (Nat × Value) := (List.range ls.length).filterMap (fun i => (ls[i]?.join).map (fun v => (i, cv_ ad v)))
theorem as_in {ad : Nat → Nat → Nat} {ls : List (Option av_T)} {q : Nat × Value} : q ∈ as_ ad ls ↔ ∃ v, ls[q.1]? = some (some v) ∧ q.2 = cv_ ad v := by
  unfold as_
  rw [List.mem_filterMap]
  constructor
  · rintro ⟨i, -, h⟩
    cases hv : ls[i]? with
    | none => rw [hv] at h; cases h
    | some o =>
      cases o with
      | none => rw [hv] at h; cases h
      | some v => rw [hv] at h; cases h; exact ⟨v, hv, rfl⟩
  · rintro ⟨v, h1, h2⟩
    refine ⟨q.1, List.mem_range.mpr (List.getElem?_eq_some_iff.mp h1).1, ?_⟩
    rw [h1]
    show some (q.1, cv_ ad v) = some q
    rw [← h2]
theorem lr_has {G : cg_T} {n : Nat} {ls : List (Option av_T)} {lc : Array Slot} (h : lr_ G n ls lc) : lv_has lc n (as_ G.2.1 ls) :=
  ⟨h.1, h.2.1, fun q hq => by obtain ⟨v, h1, h2⟩ := as_in.mp hq; rw [h2]; exact h.2.2 _ _ h1⟩
theorem lr_s1 {G : cg_T} {n i : Nat} {ls : List (Option av_T)} {lc : Array Slot} {v : av_T} (h : lv_has lc n ((i, cv_ G.2.1 v) :: (as_ G.2.1 ls).filter (fun q => !(q.1 == i) && !(q.1 + 1 == i && q.2.category == 2)))) : lr_ G n (s1_ ls i v) lc := by
  refine ⟨h.1, h.2.1, fun k w hk => ?_⟩
  by_cases e : i = k
  · subst e
    have hl : i < (cl_ ls i).length := by
      have h9 := (List.getElem?_eq_some_iff.mp hk).1
      rw [s1_, List.length_set] at h9
      exact h9
    rw [s1_, List.getElem?_set_self hl] at hk
    cases hk
    exact h.2.2 (i, cv_ G.2.1 v) List.mem_cons_self
  · rw [s1_, List.getElem?_set_ne e] at hk
    obtain ⟨g1, g2⟩ := cl_at hk
    refine h.2.2 (k, cv_ G.2.1 w) (List.mem_cons_of_mem _ (List.mem_filter.mpr ⟨as_in.mpr ⟨w, g1, rfl⟩, ?_⟩))
    have e2 : ¬ k = i := fun z => e z.symm
    simp only [cv_cat]
    simp [e2]
    omega
theorem lr_s2 {G : cg_T} {n i : Nat} {ls : List (Option av_T)} {lc : Array Slot} {v : av_T} (h : lv_has lc n ((i, cv_ G.2.1 v) :: (as_ G.2.1 ls).filter (fun q => !(q.1 == i) && (!(q.1 == i + 1) && !(q.1 + 1 == i && q.2.category == 2))))) : lr_ G n (s2_ ls i v) lc := by
  refine ⟨h.1, h.2.1, fun k w hk => ?_⟩
  by_cases e1 : i + 1 = k
  · subst e1
    have hl : i + 1 < ((cl_ ls i).set i (some v)).length := by
      have h9 := (List.getElem?_eq_some_iff.mp hk).1
      rw [s2_, List.length_set] at h9
      exact h9
    rw [s2_, List.getElem?_set_self hl] at hk
    cases hk
  · rw [s2_, List.getElem?_set_ne e1] at hk
    by_cases e : i = k
    · subst e
      have hl : i < (cl_ ls i).length := by
        have h9 := (List.getElem?_eq_some_iff.mp hk).1
        rw [List.length_set] at h9
        exact h9
      rw [List.getElem?_set_self hl] at hk
      cases hk
      exact h.2.2 (i, cv_ G.2.1 v) List.mem_cons_self
    · rw [List.getElem?_set_ne e] at hk
      obtain ⟨g1, g2⟩ := cl_at hk
      refine h.2.2 (k, cv_ G.2.1 w) (List.mem_cons_of_mem _ (List.mem_filter.mpr ⟨as_in.mpr ⟨w, g1, rfl⟩, ?_⟩))
      have e2 : ¬ k = i := fun z => e z.symm
      have e3 : ¬ k = i + 1 := fun z => e1 z.symm
      simp only [cv_cat]
      simp [e2, e3]
      omega
theorem Ev.istore_n {k : Fin 4} {i : Nat} {x : Int32} {ls' : List (Option av_T)} (hd : decode md.2.1 pc = .ok (.istore_n k, 1)) (hi : (k : Nat) = i) (hn : i < md.2.2.1) (hl : s1_ ls i (vI x) = ls') (kk : Ev d md (pc + 1) ls' st S Q) : Ev d md pc ls (vI x :: st) S Q := by
  intro G p l e s m args below meth c H locs lc B hP hS hr
  refine lv_istore_n B.1 B.2.1 hd hi (lr_has hr) hn rfl (fun lc' h' => ?_)
  exact kk G p l e s m args below meth c H locs lc' B hP hS (hl ▸ lr_s1 h')
theorem Ev.istore {i : Nat} {x : Int32} {ls' : List (Option av_T)} (hd : decode md.2.1 pc = .ok (.istore i, 2)) (hn : i < md.2.2.1) (hl : s1_ ls i (vI x) = ls') (kk : Ev d md (pc + 2) ls' st S Q) : Ev d md pc ls (vI x :: st) S Q := by
  intro G p l e s m args below meth c H locs lc B hP hS hr
  refine lv_istore B.1 B.2.1 hd (lr_has hr) hn rfl (fun lc' h' => ?_)
  exact kk G p l e s m args below meth c H locs lc' B hP hS (hl ▸ lr_s1 h')
theorem Ev.lstore {i : Nat} {x : Int64} {ls' : List (Option av_T)} (hd : decode md.2.1 pc = .ok (.lstore i, 2)) (hn : i + 1 < md.2.2.1) (hl : s2_ ls i (vJ x) = ls') (kk : Ev d md (pc + 2) ls' st S Q) : Ev d md pc ls (vJ x :: st) S Q := by
  intro G p l e s m args below meth c H locs lc B hP hS hr
  refine lv_lstore B.1 B.2.1 hd (lr_has hr) hn rfl (fun lc' h' => ?_)
  exact kk G p l e s m args below meth c H locs lc' B hP hS (hl ▸ lr_s2 h')
theorem Ev.astore_n {k : Fin 4} {i a j : Nat} {ls' : List (Option av_T)} (hd : decode md.2.1 pc = .ok (.astore_n k, 1)) (hi : (k : Nat) = i) (hn : i < md.2.2.1) (hl : s1_ ls i (vR a j) = ls') (kk : Ev d md (pc + 1) ls' st S Q) : Ev d md pc ls (vR a j :: st) S Q := by
  intro G p l e s m args below meth c H locs lc B hP hS hr
  refine lv_astore_n B.1 B.2.1 hd hi (lr_has hr) hn rfl (fun lc' h' => ?_)
  exact kk G p l e s m args below meth c H locs lc' B hP hS (hl ▸ lr_s1 (v := vR a j) h')
theorem Ev.astore {i a j : Nat} {ls' : List (Option av_T)} (hd : decode md.2.1 pc = .ok (.astore i, 2)) (hn : i < md.2.2.1) (hl : s1_ ls i (vR a j) = ls') (kk : Ev d md (pc + 2) ls' st S Q) : Ev d md pc ls (vR a j :: st) S Q := by
  intro G p l e s m args below meth c H locs lc B hP hS hr
  refine lv_astore B.1 B.2.1 hd (lr_has hr) hn rfl (fun lc' h' => ?_)
  exact kk G p l e s m args below meth c H locs lc' B hP hS (hl ▸ lr_s1 (v := vR a j) h')
theorem Ev.astore_nN {k : Fin 4} {i : Nat} {ls' : List (Option av_T)} (hd : decode md.2.1 pc = .ok (.astore_n k, 1)) (hi : (k : Nat) = i) (hn : i < md.2.2.1) (hl : s1_ ls i vN = ls') (kk : Ev d md (pc + 1) ls' st S Q) : Ev d md pc ls (vN :: st) S Q := by
  intro G p l e s m args below meth c H locs lc B hP hS hr
  refine lv_astore_nN B.1 B.2.1 hd hi (lr_has hr) hn rfl (fun lc' h' => ?_)
  exact kk G p l e s m args below meth c H locs lc' B hP hS (hl ▸ lr_s1 (v := vN) h')
theorem Ev.astoreN {i : Nat} {ls' : List (Option av_T)} (hd : decode md.2.1 pc = .ok (.astore i, 2)) (hn : i < md.2.2.1) (hl : s1_ ls i vN = ls') (kk : Ev d md (pc + 2) ls' st S Q) : Ev d md pc ls (vN :: st) S Q := by
  intro G p l e s m args below meth c H locs lc B hP hS hr
  refine lv_astoreN B.1 B.2.1 hd (lr_has hr) hn rfl (fun lc' h' => ?_)
  exact kk G p l e s m args below meth c H locs lc' B hP hS (hl ▸ lr_s1 (v := vN) h')
theorem Ev.iinc {i : Nat} {n : Int} {x v : Int32} {ls' : List (Option av_T)} (hd : decode md.2.1 pc = .ok (.iinc i n, 3)) (hx : ls[i]? = some (some (vI x))) (hv : x + Int32.ofInt n = v) (hn : i < md.2.2.1) (hl : s1_ ls i (vI v) = ls') (kk : Ev d md (pc + 3) ls' st S Q) : Ev d md pc ls st S Q := by
  intro G p l e s m args below meth c H locs lc B hP hS hr
  obtain ⟨k, hk⟩ := List.getElem?_of_mem ((as_in (ad := G.2.1) (ls := ls) (q := (i, .int x))).mpr ⟨_, hx, rfl⟩)
  refine lv_iinc B.1 B.2.1 hd (lr_has hr) hk hv hn rfl (fun lc' h' => ?_)
  exact kk G p l e s m args below meth c H locs lc' B hP hS (hl ▸ lr_s1 (v := vI v) h')
/-! arithmetic -/
theorem Ev.iadd {x y : Int32} (hd : decode md.2.1 pc = .ok (.iadd, 1)) (k : Ev d md (pc + 1) ls (vI (x + y) :: st) S Q) : Ev d md pc ls (vI y :: vI x :: st) S Q :=
  fun G p l e s m args below meth c H locs lc B hP hS hl => lv_iadd B.1 B.2.1 hd (k G p l e s m args below meth c H locs lc B hP hS hl)
theorem Ev.isub {x y : Int32} (hd : decode md.2.1 pc = .ok (.isub, 1)) (k : Ev d md (pc + 1) ls (vI (x - y) :: st) S Q) : Ev d md pc ls (vI y :: vI x :: st) S Q :=
  fun G p l e s m args below meth c H locs lc B hP hS hl => lv_isub B.1 B.2.1 hd (k G p l e s m args below meth c H locs lc B hP hS hl)
theorem Ev.imul {x y : Int32} (hd : decode md.2.1 pc = .ok (.imul, 1)) (k : Ev d md (pc + 1) ls (vI (x * y) :: st) S Q) : Ev d md pc ls (vI y :: vI x :: st) S Q :=
  fun G p l e s m args below meth c H locs lc B hP hS hl => lv_imul B.1 B.2.1 hd (k G p l e s m args below meth c H locs lc B hP hS hl)
theorem Ev.iand {x y : Int32} (hd : decode md.2.1 pc = .ok (.iand, 1)) (k : Ev d md (pc + 1) ls (vI (x &&& y) :: st) S Q) : Ev d md pc ls (vI y :: vI x :: st) S Q :=
  fun G p l e s m args below meth c H locs lc B hP hS hl => lv_iand B.1 B.2.1 hd (k G p l e s m args below meth c H locs lc B hP hS hl)
theorem Ev.ior {x y : Int32} (hd : decode md.2.1 pc = .ok (.ior, 1)) (k : Ev d md (pc + 1) ls (vI (x ||| y) :: st) S Q) : Ev d md pc ls (vI y :: vI x :: st) S Q :=
  fun G p l e s m args below meth c H locs lc B hP hS hl => lv_ior B.1 B.2.1 hd (k G p l e s m args below meth c H locs lc B hP hS hl)
theorem Ev.ixor {x y : Int32} (hd : decode md.2.1 pc = .ok (.ixor, 1)) (k : Ev d md (pc + 1) ls (vI (x ^^^ y) :: st) S Q) : Ev d md pc ls (vI y :: vI x :: st) S Q :=
  fun G p l e s m args below meth c H locs lc B hP hS hl => lv_ixor B.1 B.2.1 hd (k G p l e s m args below meth c H locs lc B hP hS hl)
theorem Ev.idiv {x y : Int32} (hd : decode md.2.1 pc = .ok (.idiv, 1)) (hy : ¬ y = 0) (k : Ev d md (pc + 1) ls (vI (x / y) :: st) S Q) : Ev d md pc ls (vI y :: vI x :: st) S Q :=
  fun G p l e s m args below meth c H locs lc B hP hS hl => lv_idiv B.1 B.2.1 hd hy (k G p l e s m args below meth c H locs lc B hP hS hl)
theorem Ev.irem {x y : Int32} (hd : decode md.2.1 pc = .ok (.irem, 1)) (hy : ¬ y = 0) (k : Ev d md (pc + 1) ls (vI (x - x / y * y) :: st) S Q) : Ev d md pc ls (vI y :: vI x :: st) S Q :=
  fun G p l e s m args below meth c H locs lc B hP hS hl => lv_irem B.1 B.2.1 hd hy (k G p l e s m args below meth c H locs lc B hP hS hl)
theorem Ev.ineg {x : Int32} (hd : decode md.2.1 pc = .ok (.ineg, 1)) (k : Ev d md (pc + 1) ls (vI (-x) :: st) S Q) : Ev d md pc ls (vI x :: st) S Q :=
  fun G p l e s m args below meth c H locs lc B hP hS hl => lv_ineg B.1 B.2.1 hd (k G p l e s m args below meth c H locs lc B hP hS hl)
theorem Ev.ishl {x y : Int32} (hd : decode md.2.1 pc = .ok (.ishl, 1)) (k : Ev d md (pc + 1) ls (vI (x <<< (y &&& 31)) :: st) S Q) : Ev d md pc ls (vI y :: vI x :: st) S Q :=
  fun G p l e s m args below meth c H locs lc B hP hS hl => lv_ishl B.1 B.2.1 hd (k G p l e s m args below meth c H locs lc B hP hS hl)
theorem Ev.ishr {x y : Int32} (hd : decode md.2.1 pc = .ok (.ishr, 1)) (k : Ev d md (pc + 1) ls (vI (x >>> (y &&& 31)) :: st) S Q) : Ev d md pc ls (vI y :: vI x :: st) S Q :=
  fun G p l e s m args below meth c H locs lc B hP hS hl => lv_ishr B.1 B.2.1 hd (k G p l e s m args below meth c H locs lc B hP hS hl)
theorem Ev.iushr {x y : Int32} (hd : decode md.2.1 pc = .ok (.iushr, 1)) (k : Ev d md (pc + 1) ls (vI (x.toUInt32 >>> (y.toUInt32 &&& Int32.toUInt32 31)).toInt32 :: st) S Q) : Ev d md pc ls (vI y :: vI x :: st) S Q :=
  fun G p l e s m args below meth c H locs lc B hP hS hl => lv_iushr B.1 B.2.1 hd rfl (k G p l e s m args below meth c H locs lc B hP hS hl)
theorem Ev.ladd {x y : Int64} (hd : decode md.2.1 pc = .ok (.ladd, 1)) (k : Ev d md (pc + 1) ls (vJ (x + y) :: st) S Q) : Ev d md pc ls (vJ y :: vJ x :: st) S Q :=
  fun G p l e s m args below meth c H locs lc B hP hS hl => lv_ladd B.1 B.2.1 hd (k G p l e s m args below meth c H locs lc B hP hS hl)
theorem Ev.land {x y : Int64} (hd : decode md.2.1 pc = .ok (.land, 1)) (k : Ev d md (pc + 1) ls (vJ (x &&& y) :: st) S Q) : Ev d md pc ls (vJ y :: vJ x :: st) S Q :=
  fun G p l e s m args below meth c H locs lc B hP hS hl => lv_land B.1 B.2.1 hd (k G p l e s m args below meth c H locs lc B hP hS hl)
theorem Ev.lor {x y : Int64} (hd : decode md.2.1 pc = .ok (.lor, 1)) (k : Ev d md (pc + 1) ls (vJ (x ||| y) :: st) S Q) : Ev d md pc ls (vJ y :: vJ x :: st) S Q :=
  fun G p l e s m args below meth c H locs lc B hP hS hl => lv_lor B.1 B.2.1 hd (k G p l e s m args below meth c H locs lc B hP hS hl)
theorem Ev.lshl {x : Int64} {y : Int32} (hd : decode md.2.1 pc = .ok (.lshl, 1)) (k : Ev d md (pc + 1) ls (vJ (x <<< (y.toInt64 &&& 63)) :: st) S Q) : Ev d md pc ls (vI y :: vJ x :: st) S Q :=
  fun G p l e s m args below meth c H locs lc B hP hS hl => lv_lshl B.1 B.2.1 hd rfl (k G p l e s m args below meth c H locs lc B hP hS hl)
theorem Ev.lshr {x : Int64} {y : Int32} (hd : decode md.2.1 pc = .ok (.lshr, 1)) (k : Ev d md (pc + 1) ls (vJ (x >>> (y.toInt64 &&& 63)) :: st) S Q) : Ev d md pc ls (vI y :: vJ x :: st) S Q :=
  fun G p l e s m args below meth c H locs lc B hP hS hl => lv_lshr B.1 B.2.1 hd rfl (k G p l e s m args below meth c H locs lc B hP hS hl)
theorem Ev.i2l {x : Int32} (hd : decode md.2.1 pc = .ok (.i2l, 1)) (k : Ev d md (pc + 1) ls (vJ x.toInt64 :: st) S Q) : Ev d md pc ls (vI x :: st) S Q :=
  fun G p l e s m args below meth c H locs lc B hP hS hl => lv_i2l B.1 B.2.1 hd rfl (k G p l e s m args below meth c H locs lc B hP hS hl)
theorem Ev.l2i {x : Int64} (hd : decode md.2.1 pc = .ok (.l2i, 1)) (k : Ev d md (pc + 1) ls (vI x.toInt32 :: st) S Q) : Ev d md pc ls (vJ x :: st) S Q :=
  fun G p l e s m args below meth c H locs lc B hP hS hl => lv_l2i B.1 B.2.1 hd rfl (k G p l e s m args below meth c H locs lc B hP hS hl)
theorem Ev.i2b {x : Int32} (hd : decode md.2.1 pc = .ok (.i2b, 1)) (k : Ev d md (pc + 1) ls (vI x.toInt8.toInt32 :: st) S Q) : Ev d md pc ls (vI x :: st) S Q :=
  fun G p l e s m args below meth c H locs lc B hP hS hl => lv_i2b B.1 B.2.1 hd rfl (k G p l e s m args below meth c H locs lc B hP hS hl)
theorem Ev.i2s {x : Int32} (hd : decode md.2.1 pc = .ok (.i2s, 1)) (k : Ev d md (pc + 1) ls (vI x.toInt16.toInt32 :: st) S Q) : Ev d md pc ls (vI x :: st) S Q :=
  fun G p l e s m args below meth c H locs lc B hP hS hl => lv_i2s B.1 B.2.1 hd rfl (k G p l e s m args below meth c H locs lc B hP hS hl)
theorem Ev.lcmp {x y : Int64} (hd : decode md.2.1 pc = .ok (.lcmp, 1)) (k : Ev d md (pc + 1) ls (vI (lg_cmp x y) :: st) S Q) : Ev d md pc ls (vJ y :: vJ x :: st) S Q :=
  fun G p l e s m args below meth c H locs lc B hP hS hl => W.lcmp B.1 B.2.1 hd (k G p l e s m args below meth c H locs lc B hP hS hl)
theorem Ev.dup {v : av_T} (hd : decode md.2.1 pc = .ok (.dup, 1)) (hc : ct_ v = 1) (k : Ev d md (pc + 1) ls (v :: v :: st) S Q) : Ev d md pc ls (v :: st) S Q :=
  fun G p l e s m args below meth c H locs lc B hP hS hl => lv_dup B.1 B.2.1 hd ((cv_cat _ v).trans hc) (k G p l e s m args below meth c H locs lc B hP hS hl)
theorem Ev.dup2 {v w : av_T} (hd : decode md.2.1 pc = .ok (.dup2, 1)) (hc : ct_ v = 1) (hc2 : ct_ w = 1) (k : Ev d md (pc + 1) ls (v :: w :: v :: w :: st) S Q) : Ev d md pc ls (v :: w :: st) S Q :=
  fun G p l e s m args below meth c H locs lc B hP hS hl => lv_dup2_11 B.1 B.2.1 hd ((cv_cat _ v).trans hc) ((cv_cat _ w).trans hc2) (k G p l e s m args below meth c H locs lc B hP hS hl)
theorem Ev.pop {v : av_T} (hd : decode md.2.1 pc = .ok (.pop, 1)) (hc : ct_ v = 1) (k : Ev d md (pc + 1) ls st S Q) : Ev d md pc ls (v :: st) S Q :=
  fun G p l e s m args below meth c H locs lc B hP hS hl => lv_pop B.1 B.2.1 hd ((cv_cat _ v).trans hc) (k G p l e s m args below meth c H locs lc B hP hS hl)
/-! branches -/
theorem Ev.goto {off : Int} {tgt : Nat} (hd : decode md.2.1 pc = .ok (.goto off, 3)) (ht : (pc : Int) + off = (tgt : Int)) (k : Ev d md tgt ls st S Q) : Ev d md pc ls st S Q :=
  fun G p l e s m args below meth c H locs lc B hP hS hl => lv_goto B.1 B.2.1 hd ht (k G p l e s m args below meth c H locs lc B hP hS hl)
theorem Ev.if_eq {x : Int32} {off : Int} {tgt : Nat} (hd : decode md.2.1 pc = .ok (.ifCond .eq off, 3)) (ht : (pc : Int) + off = (tgt : Int)) (kt : x = 0 → Ev d md tgt ls st S Q) (kf : ¬ x = 0 → Ev d md (pc + 3) ls st S Q) : Ev d md pc ls (vI x :: st) S Q :=
  fun G p l e s m args below meth c H locs lc B hP hS hl => lv_if_eq B.1 B.2.1 hd ht (fun h => kt h G p l e s m args below meth c H locs lc B hP hS hl) (fun h => kf h G p l e s m args below meth c H locs lc B hP hS hl)
theorem Ev.if_ne {x : Int32} {off : Int} {tgt : Nat} (hd : decode md.2.1 pc = .ok (.ifCond .ne off, 3)) (ht : (pc : Int) + off = (tgt : Int)) (kt : ¬ x = 0 → Ev d md tgt ls st S Q) (kf : x = 0 → Ev d md (pc + 3) ls st S Q) : Ev d md pc ls (vI x :: st) S Q :=
  fun G p l e s m args below meth c H locs lc B hP hS hl => lv_if_ne B.1 B.2.1 hd ht (fun h => kt h G p l e s m args below meth c H locs lc B hP hS hl) (fun h => kf h G p l e s m args below meth c H locs lc B hP hS hl)
theorem Ev.if_lt {x : Int32} {off : Int} {tgt : Nat} (hd : decode md.2.1 pc = .ok (.ifCond .lt off, 3)) (ht : (pc : Int) + off = (tgt : Int)) (kt : x < 0 → Ev d md tgt ls st S Q) (kf : ¬ x < 0 → Ev d md (pc + 3) ls st S Q) : Ev d md pc ls (vI x :: st) S Q :=
  fun G p l e s m args below meth c H locs lc B hP hS hl => lv_if_lt B.1 B.2.1 hd ht (fun h => kt h G p l e s m args below meth c H locs lc B hP hS hl) (fun h => kf h G p l e s m args below meth c H locs lc B hP hS hl)
theorem Ev.if_ge {x : Int32} {off : Int} {tgt : Nat} (hd : decode md.2.1 pc = .ok (.ifCond .ge off, 3)) (ht : (pc : Int) + off = (tgt : Int)) (kt : 0 ≤ x → Ev d md tgt ls st S Q) (kf : ¬ 0 ≤ x → Ev d md (pc + 3) ls st S Q) : Ev d md pc ls (vI x :: st) S Q :=
  fun G p l e s m args below meth c H locs lc B hP hS hl => lv_if_ge B.1 B.2.1 hd ht (fun h => kt h G p l e s m args below meth c H locs lc B hP hS hl) (fun h => kf h G p l e s m args below meth c H locs lc B hP hS hl)
theorem Ev.if_gt {x : Int32} {off : Int} {tgt : Nat} (hd : decode md.2.1 pc = .ok (.ifCond .gt off, 3)) (ht : (pc : Int) + off = (tgt : Int)) (kt : 0 < x → Ev d md tgt ls st S Q) (kf : ¬ 0 < x → Ev d md (pc + 3) ls st S Q) : Ev d md pc ls (vI x :: st) S Q :=
  fun G p l e s m args below meth c H locs lc B hP hS hl => lv_if_gt B.1 B.2.1 hd ht (fun h => kt h G p l e s m args below meth c H locs lc B hP hS hl) (fun h => kf h G p l e s m args below meth c H locs lc B hP hS hl)
theorem Ev.if_le {x : Int32} {off : Int} {tgt : Nat} (hd : decode md.2.1 pc = .ok (.ifCond .le off, 3)) (ht : (pc : Int) + off = (tgt : Int)) (kt : x ≤ 0 → Ev d md tgt ls st S Q) (kf : ¬ x ≤ 0 → Ev d md (pc + 3) ls st S Q) : Ev d md pc ls (vI x :: st) S Q :=
  fun G p l e s m args below meth c H locs lc B hP hS hl => lv_if_le B.1 B.2.1 hd ht (fun h => kt h G p l e s m args below meth c H locs lc B hP hS hl) (fun h => kf h G p l e s m args below meth c H locs lc B hP hS hl)
theorem Ev.icmp_eq {x y : Int32} {off : Int} {tgt : Nat} (hd : decode md.2.1 pc = .ok (.if_icmp .eq off, 3)) (ht : (pc : Int) + off = (tgt : Int)) (kt : x = y → Ev d md tgt ls st S Q) (kf : ¬ x = y → Ev d md (pc + 3) ls st S Q) : Ev d md pc ls (vI y :: vI x :: st) S Q :=
  fun G p l e s m args below meth c H locs lc B hP hS hl => lv_icmp_eq B.1 B.2.1 hd ht (fun h => kt h G p l e s m args below meth c H locs lc B hP hS hl) (fun h => kf h G p l e s m args below meth c H locs lc B hP hS hl)
theorem Ev.icmp_ne {x y : Int32} {off : Int} {tgt : Nat} (hd : decode md.2.1 pc = .ok (.if_icmp .ne off, 3)) (ht : (pc : Int) + off = (tgt : Int)) (kt : ¬ x = y → Ev d md tgt ls st S Q) (kf : x = y → Ev d md (pc + 3) ls st S Q) : Ev d md pc ls (vI y :: vI x :: st) S Q :=
  fun G p l e s m args below meth c H locs lc B hP hS hl => lv_icmp_ne B.1 B.2.1 hd ht (fun h => kt h G p l e s m args below meth c H locs lc B hP hS hl) (fun h => kf h G p l e s m args below meth c H locs lc B hP hS hl)
theorem Ev.icmp_lt {x y : Int32} {off : Int} {tgt : Nat} (hd : decode md.2.1 pc = .ok (.if_icmp .lt off, 3)) (ht : (pc : Int) + off = (tgt : Int)) (kt : x < y → Ev d md tgt ls st S Q) (kf : ¬ x < y → Ev d md (pc + 3) ls st S Q) : Ev d md pc ls (vI y :: vI x :: st) S Q :=
  fun G p l e s m args below meth c H locs lc B hP hS hl => lv_icmp_lt B.1 B.2.1 hd ht (fun h => kt h G p l e s m args below meth c H locs lc B hP hS hl) (fun h => kf h G p l e s m args below meth c H locs lc B hP hS hl)
theorem Ev.icmp_ge {x y : Int32} {off : Int} {tgt : Nat} (hd : decode md.2.1 pc = .ok (.if_icmp .ge off, 3)) (ht : (pc : Int) + off = (tgt : Int)) (kt : y ≤ x → Ev d md tgt ls st S Q) (kf : ¬ y ≤ x → Ev d md (pc + 3) ls st S Q) : Ev d md pc ls (vI y :: vI x :: st) S Q :=
  fun G p l e s m args below meth c H locs lc B hP hS hl => lv_icmp_ge B.1 B.2.1 hd ht (fun h => kt h G p l e s m args below meth c H locs lc B hP hS hl) (fun h => kf h G p l e s m args below meth c H locs lc B hP hS hl)
theorem Ev.icmp_gt {x y : Int32} {off : Int} {tgt : Nat} (hd : decode md.2.1 pc = .ok (.if_icmp .gt off, 3)) (ht : (pc : Int) + off = (tgt : Int)) (kt : y < x → Ev d md tgt ls st S Q) (kf : ¬ y < x → Ev d md (pc + 3) ls st S Q) : Ev d md pc ls (vI y :: vI x :: st) S Q :=
  fun G p l e s m args below meth c H locs lc B hP hS hl => lv_icmp_gt B.1 B.2.1 hd ht (fun h => kt h G p l e s m args below meth c H locs lc B hP hS hl) (fun h => kf h G p l e s m args below meth c H locs lc B hP hS hl)
theorem Ev.icmp_le {x y : Int32} {off : Int} {tgt : Nat} (hd : decode md.2.1 pc = .ok (.if_icmp .le off, 3)) (ht : (pc : Int) + off = (tgt : Int)) (kt : x ≤ y → Ev d md tgt ls st S Q) (kf : ¬ x ≤ y → Ev d md (pc + 3) ls st S Q) : Ev d md pc ls (vI y :: vI x :: st) S Q :=
  fun G p l e s m args below meth c H locs lc B hP hS hl => lv_icmp_le B.1 B.2.1 hd ht (fun h => kt h G p l e s m args below meth c H locs lc B hP hS hl) (fun h => kf h G p l e s m args below meth c H locs lc B hP hS hl)
theorem Ev.ifnull {a j : Nat} {off : Int} (hd : decode md.2.1 pc = .ok (.ifnull off, 3)) (k : Ev d md (pc + 3) ls st S Q) : Ev d md pc ls (vR a j :: st) S Q :=
  fun G p l e s m args below meth c H locs lc B hP hS hl => lv_ifnull B.1 B.2.1 hd (k G p l e s m args below meth c H locs lc B hP hS hl)
theorem Ev.ifnullN {off : Int} {tgt : Nat} (hd : decode md.2.1 pc = .ok (.ifnull off, 3)) (ht : (pc : Int) + off = (tgt : Int)) (k : Ev d md tgt ls st S Q) : Ev d md pc ls (vN :: st) S Q :=
  fun G p l e s m args below meth c H locs lc B hP hS hl => lv_ifnullN B.1 B.2.1 hd ht (k G p l e s m args below meth c H locs lc B hP hS hl)
theorem Ev.ifnonnull {a j : Nat} {off : Int} {tgt : Nat} (hd : decode md.2.1 pc = .ok (.ifnonnull off, 3)) (ht : (pc : Int) + off = (tgt : Int)) (k : Ev d md tgt ls st S Q) : Ev d md pc ls (vR a j :: st) S Q :=
  fun G p l e s m args below meth c H locs lc B hP hS hl => lv_ifnonnull B.1 B.2.1 hd ht (k G p l e s m args below meth c H locs lc B hP hS hl)
theorem Ev.ifnonnullN {off : Int} (hd : decode md.2.1 pc = .ok (.ifnonnull off, 3)) (k : Ev d md (pc + 3) ls st S Q) : Ev d md pc ls (vN :: st) S Q :=
  fun G p l e s m args below meth c H locs lc B hP hS hl => lv_ifnonnullN B.1 B.2.1 hd (k G p l e s m args below meth c H locs lc B hP hS hl)
theorem Ev.tableIn {dflt lo hi : Int} {offs : Array Int} {len : Nat} {x : Int32} {off : Int} {tgt : Nat} (hd : decode md.2.1 pc = .ok (.tableswitch dflt lo hi offs, len)) (h1 : ¬ x.toInt < lo) (h2 : ¬ hi < x.toInt) (ho : offs[(x.toInt - lo).toNat]? = some off) (ht : (pc : Int) + off = (tgt : Int)) (k : Ev d md tgt ls st S Q) : Ev d md pc ls (vI x :: st) S Q :=
  fun G p l e s m args below meth c H locs lc B hP hS hl => lv_tableIn B.1 B.2.1 hd h1 h2 ho ht (k G p l e s m args below meth c H locs lc B hP hS hl)
theorem Ev.tableOut {dflt lo hi : Int} {offs : Array Int} {len : Nat} {x : Int32} {tgt : Nat} (hd : decode md.2.1 pc = .ok (.tableswitch dflt lo hi offs, len)) (h : x.toInt < lo ∨ hi < x.toInt) (ht : (pc : Int) + dflt = (tgt : Int)) (k : Ev d md tgt ls st S Q) : Ev d md pc ls (vI x :: st) S Q :=
  fun G p l e s m args below meth c H locs lc B hP hS hl => lv_tableOut B.1 B.2.1 hd h ht (k G p l e s m args below meth c H locs lc B hP hS hl)
theorem Ev.lookup {dflt : Int} {ps : Array (Int × Int)} {len : Nat} {x : Int32} {off : Int} {tgt : Nat} (hd : decode md.2.1 pc = .ok (.lookupswitch dflt ps, len)) (hp : (ps.toList.zip (ps.toList.drop 1)).all (fun (a, next) => a.1 < next.1) = true) (ho : Op.lookupswitch.offset ps.toList dflt x.toInt = off) (ht : (pc : Int) + off = (tgt : Int)) (k : Ev d md tgt ls st S Q) : Ev d md pc ls (vI x :: st) S Q :=
  fun G p l e s m args below meth c H locs lc B hP hS hl => lv_lookup B.1 B.2.1 hd hp ho ht (k G p l e s m args below meth c H locs lc B hP hS hl)
end RU
