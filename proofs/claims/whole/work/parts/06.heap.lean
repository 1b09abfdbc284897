/-! ===== rules of fields and arrays, returns, calls ===== -/
def sk_ (S : hs_T) (k j : Nat) (g : Nat → Int32) : hs_T := (fun k' j' => if k' = k ∧ j' = j then g else S.1 k' j', S.2)
def sd_ (S : hs_T) (i v : Nat) : hs_T := (S.1, S.2.1, fun i' => if i' = i then v else S.2.2 i')
def sl_ (S : hs_T) (g : Nat → Int64) : hs_T := (S.1, g, S.2.2)
theorem sk_at (S : hs_T) (k j : Nat) (g : Nat → Int32) : (sk_ S k j g).1 k j = g := by simp [sk_]
theorem sk_ne (S : hs_T) {k j k' j' : Nat} (g : Nat → Int32) (h : ¬ (k' = k ∧ j' = j)) : (sk_ S k j g).1 k' j' = S.1 k' j' := by simp [sk_, h]
theorem sk_sk (S : hs_T) (k j : Nat) (g g' : Nat → Int32) : sk_ (sk_ S k j g) k j g' = sk_ S k j g' := by
  unfold sk_
  refine Prod.ext ?_ rfl
  funext k' j'
  by_cases h : k' = k ∧ j' = j <;> simp [h]
theorem sk_id (S : hs_T) (k j : Nat) : sk_ S k j (S.1 k j) = S := by
  unfold sk_
  refine Prod.ext ?_ rfl
  funext k' j'
  by_cases h : k' = k ∧ j' = j
  · simp [h]
  · simp [h]
theorem sk_2 (S : hs_T) (k j : Nat) (g : Nat → Int32) : (sk_ S k j g).2 = S.2 := rfl
theorem sk_cm (S : hs_T) {k j k' j' : Nat} (g g' : Nat → Int32) (h : ¬ (k' = k ∧ j' = j)) : sk_ (sk_ S k j g) k' j' g' = sk_ (sk_ S k' j' g') k j g := by
  unfold sk_
  refine Prod.ext ?_ rfl
  funext a b
  by_cases h1 : a = k ∧ b = j
  · by_cases h2 : a = k' ∧ b = j'
    · exact absurd ⟨h2.1.symm.trans h1.1, h2.2.symm.trans h1.2⟩ h
    · simp [h1, h]
      intro z1 z2
      exact absurd ⟨z1.symm, z2.symm⟩ h
  · by_cases h2 : a = k' ∧ b = j'
    · simp [h1, h2]
      intro z1 z2
      exact absurd ⟨z1, z2⟩ h
    · simp [h1, h2]
theorem ce_obj {G : cg_T} {S : hs_T} {k j : Nat} (h : k < 12) : ce_ G S k j = .inr (k, (List.range (nf_ k)).map (fun f => cv_ G.2.1 (fv_ S k j f))) := by
  unfold ce_; rw [if_pos h]
theorem ce_int {G : cg_T} {S : hs_T} {k j n : Nat} (h : ¬ k < 12) (ha : ak_ k = (0, n, 0, 0)) : ce_ G S k j = .inl (G.2.2 0, n, .inl (S.1 k j)) := by
  unfold ce_; rw [if_neg h, ha]; rfl
theorem ce_long {G : cg_T} {S : hs_T} {k j n : Nat} (h : ¬ k < 12) (ha : ak_ k = (1, n, 0, 0)) : ce_ G S k j = .inl (G.2.2 1, n, .inr (.inl S.2.1)) := by
  unfold ce_; rw [if_neg h, ha]; rfl
theorem ce_ref {G : cg_T} {S : hs_T} {k j n k' o : Nat} (h : ¬ k < 12) (ha : ak_ k = (2, n, k', o)) : ce_ G S k j = .inl (G.2.2 k', n, .inr (.inr (.inr (.inr (fun i => some (G.2.1 k' (o + i))))))) := by
  unfold ce_; rw [if_neg h, ha]; rfl
section RH
variable {d : Nat} {md : md_T} {pc : Nat} {ls : List (Option av_T)} {st : List av_T} {S : hs_T} {Q : Option av_T → hs_T → Prop}
/-- what a link of a field says: by the tables, or of a nest mate -/
def fl_ (own : String) (i : Nat) (T : u_T) (f : Nat) : Prop := (Cond.fieldLink own i (T f).1 (T f).2.1 (T f).2.2.1 ∈ tb_) ∨ ∃ host, Cond.fieldLinkNest own i (T f).1 (T f).2.1 (T f).2.2.1 host ∈ nb_
/-- what is known of a class: its row of vwCl, its fields' words, types and names -/
def cl_ok (k : Nat) (C : String) (T : u_T) (N : Nat) (ty : Nat → FieldType) : Prop :=
  vwCl[k]? = some (C, T, N) ∧ (∀ w ∈ u_ws C T N, w ∈ tb_) ∧ (∀ i, i < N → parseFieldDescriptor (T i).2.2.1 = some (ty i)) ∧ (∀ a, a < N → ∀ b, b < N → a ≠ b → (T a).2.1 ≠ (T b).2.1) ∧ k < 12 ∧ nf_ k = N
theorem Ev.get {k j f i : Nat} {C : String} {T : u_T} {N : Nat} {ty : Nat → FieldType} {v : av_T} (hc : cl_ok k C T N ty) (hf : f < N) (hl : fl_ md.1.cls i T f) (hp : (k, j) ∈ plc) (hv : fv_ S k j f = v) (hd : decode md.2.1 pc = .ok (.getfield i, 3)) (kk : Ev d md (pc + 3) ls (v :: st) S Q) : Ev d md pc ls (vR k j :: st) S Q := by
  intro G p l e s m args below meth c H locs lc B hP hS hr
  obtain ⟨n, h1, h2⟩ := pc_in G S hp
  rw [ce_obj hc.2.2.2.2.1] at h2
  have hfs : ((List.range (nf_ k)).map (fun f => cv_ G.2.1 (fv_ S k j f)))[f]? = some (cv_ G.2.1 v) := by
    rw [List.getElem?_map, List.getElem?_range (by rw [hc.2.2.2.2.2]; exact hf), Option.map_some, hv]
  have K := kk G p l e s m args below meth c H locs lc B hP hS hr
  rcases hl with hl | ⟨host, hl⟩
  · exact va_get (C := C) (T := T) (N := N) B.1 B.2.1 B.2.2.2.2.2.1 hc.2.1 B.2.2.2.2.1 B.2.2.2.2.2.2.2.2.1 hP n h2 hc.1 f hf (B.2.2.2.2.2.1 _ hl) (fun _ h9 => h9) hfs hd K
  · exact va_getN (C := C) (T := T) (N := N) B.1 B.2.1 B.2.2.2.2.2.1 hc.2.1 B.2.2.2.2.1 B.2.2.2.2.2.2.2.2.1 hP n h2 hc.1 f hf (nb_use hl (B.2.2.2.2.2.2.2.2.2.1 _ hl)) (fun _ h9 => h9) hfs hd K
theorem fv_int {S : hs_T} {k j f : Nat} (h : (fk_ k f).1 = 0) : fv_ S k j f = vI (S.1 k j f) := by
  unfold fv_; rw [h]; rfl
/-- the picture behind a write of a field -/
theorem pc_put {G : cg_T} {S S' : hs_T} {k j f n : Nat} {v : av_T} (hk : k < 12) (hi : plc[n]? = some (k, j)) (hv : fv_ S' k j f = v) (ho : ∀ f', f' < nf_ k → f' ≠ f → fv_ S' k j f' = fv_ S k j f') (hq : ∀ q ∈ plc, q ≠ (k, j) → ce_ G S' q.1 q.2 = ce_ G S q.1 q.2) (hf : f < nf_ k) :
    (pc_ G S).set n (G.2.1 k j, .inr (k, ((List.range (nf_ k)).map (fun f => cv_ G.2.1 (fv_ S k j f))).set f (cv_ G.2.1 v))) = pc_ G S' := by
  rw [← pc_set G S S' hi hq, ce_obj hk]
  congr 4
  refine List.ext_getElem? (fun a => ?_)
  by_cases ha : f = a
  · subst ha
    rw [List.getElem?_set_self (by simp; exact hf), List.getElem?_map, List.getElem?_range hf, Option.map_some, hv]
  · rw [List.getElem?_set_ne ha, List.getElem?_map, List.getElem?_map]
    by_cases hl : a < nf_ k
    · rw [List.getElem?_range hl, Option.map_some, Option.map_some, ho a hl (fun z => ha z.symm)]
    · rw [List.getElem?_eq_none (by simp; omega)]; rfl
theorem ce_sk {G : cg_T} {S : hs_T} {k j : Nat} {g : Nat → Int32} (q : Nat × Nat) (h : q ≠ (k, j)) : ce_ G (sk_ S k j g) q.1 q.2 = ce_ G S q.1 q.2 := by
  obtain ⟨a, b⟩ := q
  have hn : ¬ (a = k ∧ b = j) := fun z => h (by rw [z.1, z.2])
  have e : (sk_ S k j g).1 a b = S.1 a b := sk_ne S g hn
  have e2 : ∀ f, fv_ (sk_ S k j g) a b f = fv_ S a b f := by
    intro f
    unfold fv_
    rw [e]
    rfl
  unfold ce_
  simp only [e, e2]
  rfl
theorem nf_le : ∀ a, a < 12 → nf_ a ≤ 100 := by decide +kernel
theorem ce_sd {G : cg_T} {S : hs_T} {i v k j f : Nat} (hf : ∀ c f', f' < 100 → (fk_ c f').1 = 3 → (fk_ c f').2.1 = i → c = k ∧ f' = f) (hj : ∀ b, (k, b) ∈ plc → b = j) (q : Nat × Nat) (hq : q ∈ plc) (h : q ≠ (k, j)) : ce_ G (sd_ S i v) q.1 q.2 = ce_ G S q.1 q.2 := by
  obtain ⟨a, b⟩ := q
  have e2 : ∀ f', f' < 100 → fv_ (sd_ S i v) a b f' = fv_ S a b f' := by
    intro f' hf9
    unfold fv_
    by_cases h3 : (fk_ a f').1 = 3
    · have hne : ¬ (fk_ a f').2.1 = i := by
        intro z
        have z2 := hf a f' hf9 h3 z
        have hb := hj b (by rw [← z2.1]; exact hq)
        exact h (by rw [z2.1, hb])
      rw [h3]
      show (if (3 : Nat) = 1 then _ else if (3 : Nat) = 2 then _ else if (3 : Nat) = 3 then vR 5 (if (fk_ a f').2.1 = i then v else S.2.2 (fk_ a f').2.1) else _) = _
      rw [if_neg hne]
      rfl
    · rw [if_neg (c := (fk_ a f').1 = 3) h3, if_neg (c := (fk_ a f').1 = 3) h3]
      rfl
  unfold ce_
  show (if a < 12 then _ else _) = (if a < 12 then _ else _)
  by_cases h12 : a < 12
  · rw [if_pos h12, if_pos h12]
    congr 2
    exact List.map_congr_left (fun f' hf' => by rw [e2 f' (Nat.lt_of_lt_of_le (List.mem_range.mp hf') (nf_le a h12))])
  · rw [if_neg h12, if_neg h12]
    rfl
/-- a put of an int or a boolean -/
theorem Ev.put {k j f i : Nat} {C : String} {T : u_T} {N : Nat} {ty : Nat → FieldType} {x : Int32} {S' : hs_T} (hc : cl_ok k C T N ty) (hf : f < N) (hl : fl_ md.1.cls i T f) (hp : (k, j) ∈ plc) (hk : (fk_ k f).1 = 0) (hfin : (T f).2.2.2 = false) (hn : narrow (ty f) (.int x) = .int x) (hfit : fits (ty f) (.int x) = true) (hS' : sk_ S k j (upd (S.1 k j) f x) = S') (hd : decode md.2.1 pc = .ok (.putfield i, 3)) (kk : Ev d md (pc + 3) ls st S' Q) : Ev d md pc ls (vI x :: vR k j :: st) S Q := by
  intro G p l e s m args below meth c H locs lc B hP hS hr
  obtain ⟨n, h1, h2⟩ := pc_in G S hp
  rw [ce_obj hc.2.2.2.2.1] at h2
  have hfn : f < nf_ k := by rw [hc.2.2.2.2.2]; exact hf
  have hpic := pc_put (G := G) (S := S) (S' := S') (v := vI x) hc.2.2.2.2.1 h1 (by rw [← hS', fv_int hk, sk_at]; simp [upd]) (fun f' _ hf' => by
    rw [← hS']; unfold fv_; rw [sk_at]; simp [upd, hf', sk_2]) (fun q _ hq => by rw [← hS']; exact ce_sk q hq) hfn
  have hlen : f < ((List.range (nf_ k)).map (fun f => cv_ G.2.1 (fv_ S k j f))).length := by simp; exact hfn
  rcases hl with hl | ⟨host, hl⟩
  · exact va_put (C := C) (T := T) (N := N) (v := .int x) (ty := ty f) B.1 B.2.1 B.2.2.2.2.2.1 hc.2.1 ty hc.2.2.1 hc.2.2.2.1 B.2.2.2.2.1 B.2.2.2.2.2.2.2.2.1 hP (pc_D B.2.2.2.2.2.2.2.1 S) hS n h2 hc.1 f hf (B.2.2.2.2.2.1 _ hl) (fun _ h9 => h9) hfin (hc.2.2.1 f hf) hn hfit hlen hd (fun H1 locs1 hP1 _ hS1 => kk G p l e s m args below meth c H1 locs1 lc B (hpic ▸ hP1) hS1 hr)
  · exact va_putN (C := C) (T := T) (N := N) (v := .int x) (ty := ty f) B.1 B.2.1 B.2.2.2.2.2.1 hc.2.1 ty hc.2.2.1 hc.2.2.2.1 B.2.2.2.2.1 B.2.2.2.2.2.2.2.2.1 hP (pc_D B.2.2.2.2.2.2.2.1 S) hS n h2 hc.1 f hf (nb_use hl (B.2.2.2.2.2.2.2.2.2.1 _ hl)) (fun _ h9 => h9) hfin (hc.2.2.1 f hf) hn hfit hlen hd (fun H1 locs1 hP1 _ hS1 => kk G p l e s m args below meth c H1 locs1 lc B (hpic ▸ hP1) hS1 hr)
/-- a put of one of the two references that change -/
theorem Ev.putD {k j f i g v : Nat} {C : String} {T : u_T} {N : Nat} {ty : Nat → FieldType} {S' : hs_T} {cn : String} (hc : cl_ok k C T N ty) (hf : f < N) (hl : fl_ md.1.cls i T f) (hp : (k, j) ∈ plc) (hk : fk_ k f = (3, g, 0)) (hu : ∀ c f', f' < 100 → (fk_ c f').1 = 3 → (fk_ c f').2.1 = g → c = k ∧ f' = f) (hj : ∀ b, (k, b) ∈ plc → b = j) (hfin : (T f).2.2.2 = false) (hty : ty f = .object cn) (hS' : sd_ S g v = S') (hd : decode md.2.1 pc = .ok (.putfield i, 3)) (kk : Ev d md (pc + 3) ls st S' Q) : Ev d md pc ls (vR 5 v :: vR k j :: st) S Q := by
  intro G p l e s m args below meth c H locs lc B hP hS hr
  obtain ⟨n, h1, h2⟩ := pc_in G S hp
  rw [ce_obj hc.2.2.2.2.1] at h2
  have hfn : f < nf_ k := by rw [hc.2.2.2.2.2]; exact hf
  have hpic := pc_put (G := G) (S := S) (S' := S') (v := vR 5 v) hc.2.2.2.2.1 h1 (by rw [← hS']; unfold fv_; rw [hk]; simp [sd_]) (fun f' hf9 hf' => by
    rw [← hS']; unfold fv_
    by_cases h3 : (fk_ k f').1 = 3
    · have hne : ¬ (fk_ k f').2.1 = g := fun z => hf' (hu k f' (Nat.lt_of_lt_of_le hf9 (nf_le k hc.2.2.2.2.1)) h3 z).2
      simp [h3, sd_, hne]
    · simp [h3, sd_]) (fun q hq hq2 => by rw [← hS']; exact ce_sd (k := k) (f := f) hu hj q hq hq2) hfn
  have hlen : f < ((List.range (nf_ k)).map (fun f => cv_ G.2.1 (fv_ S k j f))).length := by simp; exact hfn
  rcases hl with hl | ⟨host, hl⟩
  · exact va_put (C := C) (T := T) (N := N) (v := .ref (G.2.1 5 v)) (ty := ty f) B.1 B.2.1 B.2.2.2.2.2.1 hc.2.1 ty hc.2.2.1 hc.2.2.2.1 B.2.2.2.2.1 B.2.2.2.2.2.2.2.2.1 hP (pc_D B.2.2.2.2.2.2.2.1 S) hS n h2 hc.1 f hf (B.2.2.2.2.2.1 _ hl) (fun _ h9 => h9) hfin (hc.2.2.1 f hf) (by rw [hty]; rfl) (by rw [hty]; rfl) hlen hd (fun H1 locs1 hP1 _ hS1 => kk G p l e s m args below meth c H1 locs1 lc B (hpic ▸ hP1) hS1 hr)
  · exact va_putN (C := C) (T := T) (N := N) (v := .ref (G.2.1 5 v)) (ty := ty f) B.1 B.2.1 B.2.2.2.2.2.1 hc.2.1 ty hc.2.2.1 hc.2.2.2.1 B.2.2.2.2.1 B.2.2.2.2.2.2.2.2.1 hP (pc_D B.2.2.2.2.2.2.2.1 S) hS n h2 hc.1 f hf (nb_use hl (B.2.2.2.2.2.2.2.2.2.1 _ hl)) (fun _ h9 => h9) hfin (hc.2.2.1 f hf) (by rw [hty]; rfl) (by rw [hty]; rfl) hlen hd (fun H1 locs1 hP1 _ hS1 => kk G p l e s m args below meth c H1 locs1 lc B (hpic ▸ hP1) hS1 hr)
/-! arrays -/
theorem Ev.iaload {k j n : Nat} {i : Int32} (hp : (k, j) ∈ plc) (hk : ¬ k < 12) (ha : ak_ k = (0, n, 0, 0)) (hin : vp_in i n) (hd : decode md.2.1 pc = .ok (.iaload, 1)) (kk : Ev d md (pc + 1) ls (vI (S.1 k j i.toNatClampNeg) :: st) S Q) : Ev d md pc ls (vI i :: vR k j :: st) S Q := by
  intro G p l e s m args below meth c H locs lc B hP hS hr
  obtain ⟨q, h1, h2⟩ := pc_in G S hp
  rw [ce_int hk ha] at h2
  exact va_iald B.1 B.2.1 B.2.2.2.2.2.2.2.2.1 hP q 0 h2 rfl hin hd (kk G p l e s m args below meth c H locs lc B hP hS hr)
theorem Ev.laload {k j n : Nat} {i : Int32} (hp : (k, j) ∈ plc) (hk : ¬ k < 12) (ha : ak_ k = (1, n, 0, 0)) (hin : vp_in i n) (hd : decode md.2.1 pc = .ok (.laload, 1)) (kk : Ev d md (pc + 1) ls (vJ (S.2.1 i.toNatClampNeg) :: st) S Q) : Ev d md pc ls (vI i :: vR k j :: st) S Q := by
  intro G p l e s m args below meth c H locs lc B hP hS hr
  obtain ⟨q, h1, h2⟩ := pc_in G S hp
  rw [ce_long hk ha] at h2
  exact va_lald B.1 B.2.1 B.2.2.2.2.2.2.2.2.1 hP q 1 h2 rfl hin hd (kk G p l e s m args below meth c H locs lc B hP hS hr)
theorem Ev.aaload {k j n k' o t0 : Nat} {C : String} {i : Int32} (hp : (k, j) ∈ plc) (hk : ¬ k < 12) (ha : ak_ k = (2, n, k', o)) (ht : ∀ G : cg_T, (ty_ G)[t0]? = some (G.2.2 k', .object C)) (hin : vp_in i n) (hd : decode md.2.1 pc = .ok (.aaload, 1)) (kk : Ev d md (pc + 1) ls (vR k' (o + i.toNatClampNeg) :: st) S Q) : Ev d md pc ls (vI i :: vR k j :: st) S Q := by
  intro G p l e s m args below meth c H locs lc B hP hS hr
  obtain ⟨q, h1, h2⟩ := pc_in G S hp
  rw [ce_ref hk ha] at h2
  exact va_aldq B.1 B.2.1 B.2.2.2.2.2.2.2.2.1 hP q t0 h2 (ht G) hin hd (kk G p l e s m args below meth c H locs lc B hP hS hr)
theorem Ev.alen {k j n : Nat} {v : Int32} (hp : (k, j) ∈ plc) (hk : ¬ k < 12) (ha : (ak_ k).2.1 = n) (hT : (ak_ k).1 = 0 ∨ (ak_ k).1 = 1 ∨ ((ak_ k).1 = 2 ∧ ((ak_ k).2.2.1 = 8 ∨ (ak_ k).2.2.1 = 6))) (hv : Int32.ofNat n = v) (hd : decode md.2.1 pc = .ok (.arraylength, 1)) (kk : Ev d md (pc + 1) ls (vI v :: st) S Q) : Ev d md pc ls (vR k j :: st) S Q := by
  intro G p l e s m args below meth c H locs lc B hP hS hr
  obtain ⟨q, h1, h2⟩ := pc_in G S hp
  have K := kk G p l e s m args below meth c H locs lc B hP hS hr
  unfold ce_ at h2
  rw [if_neg hk] at h2
  rcases hT with hT | hT | ⟨hT, hR⟩
  · rw [if_neg (by omega), if_neg (by omega)] at h2
    exact va_alen B.1 B.2.1 B.2.2.2.2.2.2.2.2.1 hP q 0 h2 rfl (by show Int32.ofNat (ak_ k).2.1 = v; rw [ha]; exact hv) hd K
  · rw [if_pos hT] at h2
    exact va_alen B.1 B.2.1 B.2.2.2.2.2.2.2.2.1 hP q 1 h2 rfl (by show Int32.ofNat (ak_ k).2.1 = v; rw [ha]; exact hv) hd K
  · rw [if_neg (by omega), if_pos hT] at h2
    rcases hR with hR | hR
    · rw [hR] at h2
      exact va_alen B.1 B.2.1 B.2.2.2.2.2.2.2.2.1 hP q 2 h2 rfl (by show Int32.ofNat (ak_ k).2.1 = v; rw [ha]; exact hv) hd K
    · rw [hR] at h2
      exact va_alen B.1 B.2.1 B.2.2.2.2.2.2.2.2.1 hP q 3 h2 rfl (by show Int32.ofNat (ak_ k).2.1 = v; rw [ha]; exact hv) hd K
theorem Ev.iastore {k j n : Nat} {i x : Int32} {S' : hs_T} (hp : (k, j) ∈ plc) (hk : ¬ k < 12) (ha : ak_ k = (0, n, 0, 0)) (hin : vp_in i n) (hS' : sk_ S k j (upd (S.1 k j) i.toNatClampNeg x) = S') (hd : decode md.2.1 pc = .ok (.iastore, 1)) (kk : Ev d md (pc + 1) ls st S' Q) : Ev d md pc ls (vI x :: vI i :: vR k j :: st) S Q := by
  intro G p l e s m args below meth c H locs lc B hP hS hr
  obtain ⟨q, h1, h2⟩ := pc_in G S hp
  rw [ce_int hk ha] at h2
  have hpic : (pc_ G S).set q (G.2.1 k j, .inl (G.2.2 0, n, .inl (upd (S.1 k j) i.toNatClampNeg x))) = pc_ G S' := by
    rw [← pc_set G S S' h1 (fun q _ hq => by rw [← hS']; exact ce_sk q hq), ce_int hk ha, ← hS', sk_at]
  refine va_iast B.1 B.2.1 B.2.2.2.2.2.2.2.2.1 hP (pc_D B.2.2.2.2.2.2.2.1 S) hS q 0 h2 rfl hin hd (fun H1 locs1 hP1 _ hS1 => ?_)
  exact kk G p l e s m args below meth c H1 locs1 lc B (hpic ▸ hP1) hS1 hr
theorem Ev.lastore {n : Nat} {i : Int32} {x : Int64} {S' : hs_T} (ha : ak_ 201 = (1, n, 0, 0)) (hin : vp_in i n) (hS' : sl_ S (vp_updL S.2.1 i.toNatClampNeg x) = S') (hd : decode md.2.1 pc = .ok (.lastore, 1)) (kk : Ev d md (pc + 1) ls st S' Q) : Ev d md pc ls (vJ x :: vI i :: vR 201 0 :: st) S Q := by
  intro G p l e s m args below meth c H locs lc B hP hS hr
  obtain ⟨q, h1, h2⟩ := pc_in G S (k := 201) (j := 0) (by decide)
  rw [ce_long (by decide) ha] at h2
  have hpic : (pc_ G S).set q (G.2.1 201 0, .inl (G.2.2 1, n, .inr (.inl (vp_updL S.2.1 i.toNatClampNeg x)))) = pc_ G S' := by
    rw [← pc_set G S S' h1 (fun q hq hq2 => by
      rw [← hS']
      have key : ∀ q ∈ plc, q ≠ (201, 0) → q.1 < 12 ∨ (ak_ q.1).1 ≠ 1 := by decide +kernel
      unfold ce_
      rcases key q hq hq2 with z | z
      · rw [if_pos z, if_pos z]; rfl
      · rw [if_neg (c := (ak_ q.1).1 = 1) z, if_neg (c := (ak_ q.1).1 = 1) z]; rfl), ce_long (by decide) ha, ← hS']
    rfl
  refine va_last B.1 B.2.1 B.2.2.2.2.2.2.2.2.1 hP (pc_D B.2.2.2.2.2.2.2.1 S) hS q 1 h2 rfl hin hd (fun H1 locs1 hP1 _ hS1 => ?_)
  exact kk G p l e s m args below meth c H1 locs1 lc B (hpic ▸ hP1) hS1 hr
/-! returns -/
theorem Ev.iret {v : Int32} {ty : FieldType} (hd : decode md.2.1 pc = .ok (.ireturn, 1)) (hr : md.2.2.2 = some ty) (hn : narrow ty (.int v) = .int v) (hq : Q (some (vI v)) S) : Ev d md pc ls [vI v] S Q :=
  fun G p l e s m args below meth c H locs lc B hP hS hl => W.zret B.1 B.2.1 (B.2.2.1.trans hr) hn (fun t ht hW => ⟨⟨some (vI v), S, hq, rfl, by rw [ht]; exact hP⟩, hS.F ht⟩) hS.2.2 hd B.2.2.2.2.2.2.1
theorem Ev.vret (hd : decode md.2.1 pc = .ok (.return_, 1)) (hr : md.2.2.2 = none) (hq : Q none S) : Ev d md pc ls [] S Q :=
  fun G p l e s m args below meth c H locs lc B hP hS hl => W.vret B.1 B.2.1 (B.2.2.1.trans hr) (fun t ht hW => ⟨⟨none, S, hq, rfl, by rw [ht]; exact hP⟩, hS.F ht⟩) hS.2.2 hd B.2.2.2.2.2.2.1
theorem Ev.aret {v : Option (Nat × Nat)} {cn : String} (hd : decode md.2.1 pc = .ok (.areturn, 1)) (hr : md.2.2.2 = some (.object cn)) (hq : Q (some (Sum.inr (Sum.inr v))) S) : Ev d md pc ls [Sum.inr (Sum.inr v)] S Q :=
  fun G p l e s m args below meth c H locs lc B hP hS hl => W.aret B.1 B.2.1 (B.2.2.1.trans hr) (Or.inl ⟨cn, rfl⟩) (by cases v with | none => exact Or.inl rfl | some q => exact Or.inr ⟨_, rfl⟩) (fun t ht hW => ⟨⟨some (Sum.inr (Sum.inr v)), S, hq, rfl, by rw [ht]; exact hP⟩, hS.F ht⟩) hS.2.2 hd B.2.2.2.2.2.2.1
end RH
/-! calls, in any room: what comes behind one -/
section RC
variable {p : Program} {l : Launch} {e : Env} {R : Room} {s : State} {m : MethodId} {args : Array Value} {below : List Frame} {meth : Method} {c : Code} {H : Heap} {locs : List Loc} {cells slots : Nat} {Z : State → Prop}
theorem wc_ {G : cg_T} {Qc : Option av_T → hs_T → Prop} {a : Array Value} {pc : Nat} {lc : Array Slot} {st0 rest : List Value} {A0 : Nat → Prop} {H0 : Heap} (hr : va_Run p l e R s m args below meth c H locs cells slots 0 0 (F0 m pc lc st0) rest (qp_ G Qc a) (aw_ G)) (hS : va_S A0 H0 H locs) (hA : ∀ q, aw_ G q → A0 q)
    (kk : ∀ (r : Option av_T) (S' : hs_T) (H1 : Heap) (locs1 : List Loc), Qc r S' → va_P G.1 vwCl (pc_ G S') H1 → va_S A0 H0 H1 locs1 → H.size ≤ H1.size → (∀ q : Nat, q < H.size → ¬ aw_ G q → H1[q]? = H[q]?) → W p l e R s m args below meth c H1 locs1 cells slots Z (F0 m (pc + 3) lc ((r.map (cv_ G.2.1)).toList ++ rest))) :
    W p l e R s m args below meth c H locs cells slots Z (F0 m pc lc st0) := by
  intro T hT X
  obtain ⟨v, st₀, t, T', L, h0, X', hL, e1, e2, ⟨⟨r, S', hq, hv, hp⟩, hz, hk⟩, st⟩ := hr T hT X
  cases hv
  rw [h0] at hz hk
  obtain ⟨t2, a1, b1⟩ := kk r S' T'.heap (locs ++ L) hq (by rw [e1]; exact hp)
    ⟨Nat.le_trans hS.1 (by rw [e1]; exact hz), fun q h1 h2 => by rw [e1, hk q (Nat.lt_of_lt_of_le h1 hS.1) (fun z => h2 (hA q z))]; exact hS.2.1 q h1 h2, fun q hq => by
      rcases List.mem_append.mp hq with h | h
      · exact hS.2.2 q h
      · exact hA _ (hL q h)⟩ (by rw [e1]; exact hz) (fun q h1 h2 => by rw [e1]; exact hk q h1 h2) T' rfl X'
  exact ⟨t2, st t2 a1, b1⟩
/-- what is known of a method: n parameters; its words; instance or static -/
def mk_ (md : md_T) (n : Nat) : Prop := Cond.code md.1 md.2.1 md.2.2.1 md.2.2.2 ∈ tb_ ∧ Cond.initialized md.1.cls ∈ tb_ ∧ (md.1.cls ≠ "java/lang/invoke/MethodHandle" ∧ md.1.cls ≠ "java/lang/invoke/VarHandle" ∧ (parseMethodDescriptor md.1.desc).map (fun d => d.parameters.length) = some n) ∧ md.2.2.1 ≤ 13
def mi_ (md : md_T) : Prop := Cond.instanceMethod md.1 ∈ tb_ ∧ Cond.selects md.1.cls md.1 md.1 ∈ tb_
theorem wl_good (md : md_T) (h : Cond.code md.1 md.2.1 md.2.2.1 md.2.2.2 ∈ tb_) : GoodIn tb_ (wl_ md) := by
  intro w hw
  rcases List.mem_cons.mp hw with e | hw
  · subst e; exact tb_good _ h
  · exact tb_good _ hw
theorem cb_ {md : md_T} {n index d : Nat} {own : String} (ht : ∀ w ∈ tb_, w.before args s = true) (hm : mk_ md n) (hl : Cond.methodLink own index md.1 ∈ tb_) (hR : d + 1 ≤ R.frames ∧ 32 * (d + 1) ≤ R.locals) : CallB R s args own index md.1 md.2.1 md.2.2.1 md.2.2.2 (wl_ md) (rm_ d) 0 0 n :=
  callB_of n ht (wl_good md hm.1) rfl rfl rfl (ht _ hm.2.1) (ht _ hl) hm.2.2.1 ⟨hR.1, by have := hm.2.2.2; have := hR.2; show 8 + (md.2.2.1 + 11) + 32 * d ≤ R.locals; omega⟩
theorem fb_ {G : cg_T} {S : hs_T} {as : List Value} : FrameBlind (va_Pc as (fun U => va_P G.1 vwCl (pc_ G S) U.heap ∧ am_ G U)) :=
  fun a U g mk q => by
    obtain ⟨q0, q1, q2⟩ := q
    exact ⟨q0, q1, am_blind (U := U) (V := U.calling g mk a) rfl rfl q2⟩
end RC
section RC2
variable {d : Nat} {md : md_T} {pc : Nat} {ls : List (Option av_T)} {st : List av_T} {S : hs_T} {Q : Option av_T → hs_T → Prop}
/-- a static call within the tables -/
theorem Ev.callS {y : md_T} {n i : Nat} {as rest : List av_T} {Qc : Option av_T → hs_T → Prop} (hm : mk_ y n) (hs : Cond.static y.1 ∈ tb_) (hl : Cond.methodLink md.1.cls i y.1 ∈ tb_) (hn : as.length = n) (hw : (rest.map ct_).sum ≤ 8) (hst : st = as.reverse ++ rest) (hd : decode md.2.1 pc = .ok (.invokestatic i, 3)) (hC : Cx d y as S Qc)
    (kk : ∀ r S', Qc r S' → Ev (d + 1) md (pc + 3) ls (r.toList ++ rest) S' Q) : Ev (d + 1) md pc ls st S Q := by
  intro G p l e s m args below meth c H locs lc B hP hS hr
  subst hst
  have hcat : ((rest.map (cv_ G.2.1)).map fun v => v.category).sum ≤ 8 := by
    rw [List.map_map, show ((fun v : Value => v.category) ∘ cv_ G.2.1) = ct_ from funext (fun v => cv_cat G.2.1 v)]; exact hw
  refine wc_ (G := G) (va_runS (As := as.map (cv_ G.2.1)) (rest := rest.map (cv_ G.2.1)) (Ts := tb_) ⟨B.1, B.2.1, B.2.2.2.1, B.2.2.2.2.1, B.2.2.2.2.2.1⟩ (hC G l B.2.2.2.2.2.2.2.1) ⟨cb_ B.2.2.2.2.2.1 hm hl ⟨Nat.le_refl _, Nat.le_refl _⟩, B.2.2.2.2.2.1 _ hs⟩ ⟨fb_, fun U hU hW => ⟨rfl, by rw [hU]; exact hP, am_warm hW hU hS B.2.2.2.2.2.2.2.2⟩⟩ rfl (by rw [List.length_map]; exact hn) hr.1 (by show (as.reverse ++ rest).map _ = _; rw [List.map_append, List.map_reverse]) (lv_room hcat) hd ⟨Nat.le_refl _, Nat.le_refl _⟩) hS (fun _ h => h) (fun r S' H1 locs1 hq hP1 hS1 _ _ => ?_)
  have K := kk r S' hq G p l e s m args below meth c H1 locs1 lc B hP1 hS1 hr
  have e1 : (r.map (cv_ G.2.1)).toList ++ rest.map (cv_ G.2.1) = (r.toList ++ rest).map (cv_ G.2.1) := by cases r <;> rfl
  rw [e1]
  exact K
/-- a call on an object of the world -/
theorem Ev.callV {y : md_T} {n i k j : Nat} {as rest : List av_T} {T : u_T} {N : Nat} {Qc : Option av_T → hs_T → Prop} (hm : mk_ y n) (hs : mi_ y) (hl : Cond.methodLink md.1.cls i y.1 ∈ tb_) (hn : as.length = n) (hw : (rest.map ct_).sum ≤ 8) (hp : (k, j) ∈ plc) (hk : k < 12) (hc : vwCl[k]? = some (y.1.cls, T, N)) (hst : st = as.reverse ++ vR k j :: rest) (hd : decode md.2.1 pc = .ok (.invokevirtual i, 3)) (hC : Cx d y (vR k j :: as) S Qc)
    (kk : ∀ r S', Qc r S' → Ev (d + 1) md (pc + 3) ls (r.toList ++ rest) S' Q) : Ev (d + 1) md pc ls st S Q := by
  intro G p l e s m args below meth c H locs lc B hP hS hr
  subst hst
  have hcat : ((rest.map (cv_ G.2.1)).map fun v => v.category).sum ≤ 8 := by
    rw [List.map_map, show ((fun v : Value => v.category) ∘ cv_ G.2.1) = ct_ from funext (fun v => cv_cat G.2.1 v)]; exact hw
  obtain ⟨q, h1, h2⟩ := pc_in G S hp
  rw [ce_obj hk] at h2
  refine wc_ (G := G) (va_runV (As := as.map (cv_ G.2.1)) (rest := rest.map (cv_ G.2.1)) (Ts := tb_) (C := y.1.cls) ⟨B.1, B.2.1, B.2.2.2.1, B.2.2.2.2.1, B.2.2.2.2.2.1⟩ (hC G l B.2.2.2.2.2.2.2.1) ⟨cb_ B.2.2.2.2.2.1 hm hl ⟨Nat.le_refl _, Nat.le_refl _⟩, B.2.2.2.2.2.1 _ hs.1, B.2.2.2.2.2.1 _ hs.2⟩ ⟨fb_, va_recv B.2.2.2.2.2.2.2.2.1 hP hc h2, fun U hU hW => ⟨rfl, by rw [hU]; exact hP, am_warm hW hU hS B.2.2.2.2.2.2.2.2⟩⟩ rfl (by rw [List.length_map]; exact hn) hr.1 (by show (as.reverse ++ vR k j :: rest).map _ = _; rw [List.map_append, List.map_reverse]; rfl) (lv_room hcat) hd ⟨Nat.le_refl _, Nat.le_refl _⟩) hS (fun _ h => h) (fun r S' H1 locs1 hq hP1 hS1 _ _ => ?_)
  have K := kk r S' hq G p l e s m args below meth c H1 locs1 lc B hP1 hS1 hr
  have e1 : (r.map (cv_ G.2.1)).toList ++ rest.map (cv_ G.2.1) = (r.toList ++ rest).map (cv_ G.2.1) := by cases r <;> rfl
  rw [e1]
  exact K
/-- a call on a String constant -/
theorem Ev.callK {y : md_T} {n i j : Nat} {as rest : List av_T} {Qc : Option av_T → hs_T → Prop} (hm : mk_ y n) (hs : mi_ y) (hl : Cond.methodLink md.1.cls i y.1 ∈ tb_) (hn : as.length = n) (hw : (rest.map ct_).sum ≤ 8) (hj : j < 14) (hc : y.1.cls = "java/lang/String") (hst : st = as.reverse ++ vR 50 j :: rest) (hd : decode md.2.1 pc = .ok (.invokevirtual i, 3)) (hC : Cx d y (vR 50 j :: as) S Qc)
    (kk : ∀ r S', Qc r S' → Ev (d + 1) md (pc + 3) ls (r.toList ++ rest) S' Q) : Ev (d + 1) md pc ls st S Q := by
  intro G p l e s m args below meth c H locs lc B hP hS hr
  subst hst
  have hcat : ((rest.map (cv_ G.2.1)).map fun v => v.category).sum ≤ 8 := by
    rw [List.map_map, show ((fun v : Value => v.category) ∘ cv_ G.2.1) = ct_ from funext (fun v => cv_cat G.2.1 v)]; exact hw
  have hE := B.2.2.2.2.2.2.2.2.2.2.1
  refine wc_ (G := G) (va_runV (As := as.map (cv_ G.2.1)) (rest := rest.map (cv_ G.2.1)) (Ts := tb_) (C := y.1.cls) ⟨B.1, B.2.1, B.2.2.2.1, B.2.2.2.2.1, B.2.2.2.2.2.1⟩ (hC G l B.2.2.2.2.2.2.2.1) ⟨cb_ B.2.2.2.2.2.1 hm hl ⟨Nat.le_refl _, Nat.le_refl _⟩, B.2.2.2.2.2.1 _ hs.1, B.2.2.2.2.2.1 _ hs.2⟩ ⟨fb_, by rw [hc]; exact vk_recv hE hj hS, fun U hU hW => ⟨rfl, by rw [hU]; exact hP, am_warm hW hU hS B.2.2.2.2.2.2.2.2⟩⟩ rfl (by rw [List.length_map]; exact hn) hr.1 (by show (as.reverse ++ vR 50 j :: rest).map _ = _; rw [List.map_append, List.map_reverse]; rfl) (lv_room hcat) hd ⟨Nat.le_refl _, Nat.le_refl _⟩) hS (fun _ h => h) (fun r S' H1 locs1 hq hP1 hS1 _ _ => ?_)
  have K := kk r S' hq G p l e s m args below meth c H1 locs1 lc B hP1 hS1 hr
  have e1 : (r.map (cv_ G.2.1)).toList ++ rest.map (cv_ G.2.1) = (r.toList ++ rest).map (cv_ G.2.1) := by cases r <;> rfl
  rw [e1]
  exact K
end RC2
