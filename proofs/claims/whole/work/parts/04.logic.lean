/-! ===== an own logic over the kit: abstract values, one world of sixty cells, Ev (a frame returns) and Cx (a contract) ===== -/
abbrev av_T : Type := Int32 ⊕ Int64 ⊕ Option (Nat × Nat)
abbrev vI (x : Int32) : av_T := Sum.inl x
abbrev vJ (x : Int64) : av_T := Sum.inr (Sum.inl x)
abbrev vR (k j : Nat) : av_T := Sum.inr (Sum.inr (some (k, j)))
abbrev vN : av_T := Sum.inr (Sum.inr none)
/-- the heap: ints by kind, instance, index; the longs; the two references that change -/
abbrev hs_T : Type := (Nat → Nat → Nat → Int32) × (Nat → Int64) × (Nat → Nat)
abbrev cg_T : Type := va_G × (Nat → Nat → Nat) × (Nat → ClassId)
abbrev md_T : Type := MethodName × ByteArray × Nat × Option FieldType
def cv_ (ad : Nat → Nat → Nat) : av_T → Value
  | Sum.inl x => .int x
  | Sum.inr (Sum.inl x) => .long x
  | Sum.inr (Sum.inr none) => .null
  | Sum.inr (Sum.inr (some q)) => .ref (ad q.1 q.2)
def ct_ : av_T → Nat
  | Sum.inr (Sum.inl _) => 2
  | _ => 1
theorem cv_cat (ad : Nat → Nat → Nat) (v : av_T) : (cv_ ad v).category = ct_ v := by
  rcases v with x | x | (_ | q) <;> rfl
/-- fields that hold references: key 100 * class + field; 1: its own array; 2: a fixed object; 3: one of the two that change -/
def fk_T : List (Nat × (Nat × Nat × Nat)) := [(0, (1, 100, 0)), (100, (1, 200, 0)), (101, (1, 201, 0)), (400, (2, 7, 0)), (401, (3, 1, 0)),
  (500, (1, 600, 0)), (501, (1, 601, 0)), (502, (1, 602, 0)), (503, (1, 603, 0)), (504, (1, 604, 0)), (505, (1, 605, 0)), (600, (1, 700, 0)),
  (700, (1, 800, 0)), (702, (1, 802, 0)), (703, (1, 803, 0)), (704, (1, 804, 0)), (800, (1, 900, 0)), (900, (1, 1000, 0)),
  (1000, (2, 4, 0)), (1001, (2, 8, 0)), (1002, (2, 8, 1)), (1003, (1, 1103, 0)), (1004, (1, 1104, 0)), (1005, (2, 9, 0)), (1006, (2, 3, 0)), (1007, (2, 2, 0)), (1008, (2, 0, 0)), (1009, (2, 1, 0)), (1010, (3, 0, 0)),
  (1100, (1, 1200, 0)), (1101, (1, 1201, 0)), (1102, (1, 1202, 0)), (1104, (1, 1204, 0)), (1105, (1, 1205, 0)), (1107, (1, 1207, 0)), (1120, (1, 1220, 0)), (1126, (1, 1226, 0)), (1130, (1, 1230, 0)), (1131, (1, 1231, 0)), (1132, (1, 1232, 0))]
def fk_ (c f : Nat) : Nat × Nat × Nat := (fk_T.lookup (100 * c + f)).getD (0, 0, 0)
def fv_ (S : hs_T) (c j f : Nat) : av_T :=
  if (fk_ c f).1 = 1 then vR (fk_ c f).2.1 j else if (fk_ c f).1 = 2 then vR (fk_ c f).2.1 (fk_ c f).2.2 else if (fk_ c f).1 = 3 then vR 5 (S.2.2 (fk_ c f).2.1) else vI (S.1 c j f)
/-- arrays: kind; 0 ints, 1 longs, 2 references; length; kind and first instance of what it refers to -/
def ak_T : List (Nat × (Nat × Nat × Nat × Nat)) := [(100, (0, 25, 0, 0)), (200, (0, 256, 0, 0)), (201, (1, 1024, 0, 0)), (600, (0, 8, 0, 0)), (601, (0, 24, 0, 0)), (602, (0, 24, 0, 0)), (603, (0, 25, 0, 0)), (604, (0, 75, 0, 0)), (605, (0, 75, 0, 0)),
  (700, (0, 40, 0, 0)), (800, (0, 400, 0, 0)), (802, (0, 401, 0, 0)), (803, (0, 401, 0, 0)), (804, (0, 401, 0, 0)), (900, (0, 400, 0, 0)), (1000, (0, 3, 0, 0)), (1103, (2, 2, 8, 2)), (1104, (2, 4, 6, 0)),
  (1200, (0, 234, 0, 0)), (1201, (0, 234, 0, 0)), (1202, (0, 400, 0, 0)), (1204, (0, 800, 0, 0)), (1205, (0, 2, 0, 0)), (1207, (0, 400, 0, 0)), (1220, (0, 3, 0, 0)), (1226, (0, 400, 0, 0)), (1230, (0, 4, 0, 0)), (1231, (0, 4, 0, 0)), (1232, (0, 160, 0, 0))]
def ak_ (k : Nat) : Nat × Nat × Nat × Nat := (ak_T.lookup k).getD (3, 0, 0, 0)
def nf_ (c : Nat) : Nat := (vwCl[c]?.map (fun q => q.2.2)).getD 0
def ce_ (G : cg_T) (S : hs_T) (k j : Nat) : va_E :=
  if k < 12 then .inr (k, (List.range (nf_ k)).map (fun f => cv_ G.2.1 (fv_ S k j f)))
  else if (ak_ k).1 = 1 then .inl (G.2.2 1, (ak_ k).2.1, .inr (.inl S.2.1))
  else if (ak_ k).1 = 2 then .inl (G.2.2 (ak_ k).2.2.1, (ak_ k).2.1, .inr (.inr (.inr (.inr (fun i => some (G.2.1 (ak_ k).2.2.1 ((ak_ k).2.2.2 + i)))))))
  else .inl (G.2.2 0, (ak_ k).2.1, .inl (S.1 k j))
/-- the places: the class's forty-eight in the order in which they are made, then the reference's twelve -/
def plc : List (Nat × Nat) := [(10, 0), (4, 0), (7, 0), (800, 0), (802, 0), (803, 0), (804, 0), (5, 1), (600, 1), (601, 1), (602, 1), (603, 1), (604, 1), (605, 1), (8, 0), (900, 0), (8, 1), (900, 1), (1103, 0), (8, 2), (900, 2), (8, 3), (900, 3), (1104, 0), (6, 0), (700, 0), (6, 1), (700, 1), (6, 2), (700, 2), (6, 3), (700, 3),
  (9, 0), (1000, 0), (3, 0), (2, 0), (0, 0), (100, 0), (1, 0), (200, 0), (201, 0), (5, 0), (600, 0), (601, 0), (602, 0), (603, 0), (604, 0), (605, 0),
  (11, 0), (1200, 0), (1201, 0), (1202, 0), (1204, 0), (1205, 0), (1207, 0), (1220, 0), (1226, 0), (1230, 0), (1231, 0), (1232, 0)]
def pc_ (G : cg_T) (S : hs_T) : va_W := plc.map (fun q => (G.2.1 q.1 q.2, ce_ G S q.1 q.2))
def aw_ (G : cg_T) : Nat → Prop := fun a => ∃ q ∈ plc, a = G.2.1 q.1 q.2
def dj_ (G : cg_T) : Prop := ∀ a ∈ plc, ∀ b ∈ plc, G.2.1 a.1 a.2 = G.2.1 b.1 b.2 → a = b
def ty_ (G : cg_T) : List (ClassId × FieldType) := [(G.2.2 0, .int), (G.2.2 1, .long), (G.2.2 8, .object RX8), (G.2.2 6, .object RX6)]
theorem plc_nd : va_nd (plc.map (fun q => 4 * q.1 + q.2)) = true := by decide +kernel
theorem plc_inj {i j : Nat} {a : Nat × Nat} (hi : plc[i]? = some a) (hj : plc[j]? = some a) : i = j :=
  va_nd_inj _ plc_nd i j (4 * a.1 + a.2) (by rw [List.getElem?_map, hi]; rfl) (by rw [List.getElem?_map, hj]; rfl)
theorem pc_at (G : cg_T) (S : hs_T) {i : Nat} {q : Nat × Nat} (h : plc[i]? = some q) : (pc_ G S)[i]? = some (G.2.1 q.1 q.2, ce_ G S q.1 q.2) := by
  rw [pc_, List.getElem?_map, h]; rfl
theorem pc_in (G : cg_T) (S : hs_T) {k j : Nat} (h : (k, j) ∈ plc) : ∃ i : Nat, plc[i]? = some (k, j) ∧ (pc_ G S)[i]? = some (G.2.1 k j, ce_ G S k j) := by
  obtain ⟨i, hi⟩ := List.getElem?_of_mem h
  exact ⟨i, hi, pc_at G S hi⟩
theorem pc_set (G : cg_T) (S S' : hs_T) {i k j : Nat} (hi : plc[i]? = some (k, j)) (ho : ∀ q ∈ plc, q ≠ (k, j) → ce_ G S' q.1 q.2 = ce_ G S q.1 q.2) :
    (pc_ G S).set i (G.2.1 k j, ce_ G S' k j) = pc_ G S' := by
  refine List.ext_getElem? (fun n => ?_)
  by_cases hn : i = n
  · subst hn
    have hl : i < (pc_ G S).length := (List.getElem?_eq_some_iff.mp (pc_at G S hi)).1
    rw [List.getElem?_set_self hl, pc_at G S' hi]
  · rw [List.getElem?_set_ne hn]
    cases hq : plc[n]? with
    | none => rw [pc_, pc_, List.getElem?_map, List.getElem?_map, hq]; rfl
    | some q =>
      rw [pc_at G S hq, pc_at G S' hq, ho q (List.mem_of_getElem? hq) (fun e => hn (plc_inj hi (by rw [hq, e])))]
theorem pc_D {G : cg_T} (h : dj_ G) (S : hs_T) : va_D (aw_ G) (pc_ G S) := by
  have key : ∀ (n : Nat) (x : Nat × va_E), (pc_ G S)[n]? = some x → ∃ q, plc[n]? = some q ∧ x.1 = G.2.1 q.1 q.2 := by
    intro n x hx
    cases hq : plc[n]? with
    | none => rw [pc_, List.getElem?_map, hq] at hx; cases hx
    | some q =>
      rw [pc_at G S hq] at hx
      cases hx
      exact ⟨q, rfl, rfl⟩
  refine ⟨fun i j x y hi hj hxy => ?_, fun n x hx => ?_⟩
  · obtain ⟨a, h1, h2⟩ := key i x hi
    obtain ⟨b, h3, h4⟩ := key j y hj
    have e := h a (List.mem_of_getElem? h1) b (List.mem_of_getElem? h3) (by rw [← h2, ← h4]; exact hxy)
    subst e
    exact plc_inj h1 h3
  · obtain ⟨a, h1, h2⟩ := key n x hx
    exact ⟨a, List.mem_of_getElem? h1, h2⟩
/-! the words -/
def tb_ : List Cond := lw_tbl.filter goodWord
def ns_ : Cond → Bool
  | .fieldLinkNest .. => true
  | .methodLinkNest .. => true
  | _ => false
def nb_ : List Cond := lw_tbl.filter ns_
theorem tb_of {w : Cond} (h : w ∈ lw_tbl) (g : goodWord w = true) : w ∈ tb_ := List.mem_filter.mpr ⟨h, g⟩
theorem nb_of {w : Cond} (h : w ∈ lw_tbl) (g : ns_ w = true) : w ∈ nb_ := List.mem_filter.mpr ⟨h, g⟩
theorem tb_good : ∀ w ∈ tb_, w ∈ tb_ ∧ ((w.onTables && w.keeps) = true ∨ ∃ ty, w = .arrayClass ty) := fun _ h => ⟨h, good_of_word (List.mem_filter.mp h).2⟩
theorem nb_warm {w : Cond} (h : w ∈ nb_) {s U : State} (hW : s.WarmedH U.vm) (hZ : va_Nw w s) : va_Nw w U := by
  have h1 := (List.mem_filter.mp h).2
  cases w <;> first | exact va_Nw.warmF hW hZ | exact va_Nw.warmM hW hZ | (simp [ns_] at h1)
theorem nb_same {w : Cond} (h : w ∈ nb_) {s U : State} (hv : s.vm = U.vm) (hZ : va_Nw w s) : va_Nw w U := by
  have h1 := (List.mem_filter.mp h).2
  cases w <;> first | exact va_Nw.same rfl hv hZ | (simp [ns_] at h1)
theorem nb_use {w : Cond} (h : w ∈ nb_) {A : Array Value} {U : State} (hZ : va_Nw w U) : w.before A U = true := by
  have h1 := (List.mem_filter.mp h).2
  cases w <;> first | exact va_Nw.use rfl hZ | (simp [ns_] at h1)
/-! the String constants: their places in the pool of Tape, and their bytes -/
def kst : List (Nat × String) := [(61, "state"), (67, "keep"), (69, "depth"), (71, "ahead"), (73, "times"), (75, "go"), (77, "hit"), (82, "high"), (86, "low"), (88, "rise"), (90, "fall"), (92, "is"), (94, "not"), (96, "after")]
def kbt : List (List Int32) := [[115, 116, 97, 116, 101], [107, 101, 101, 112], [100, 101, 112, 116, 104], [97, 104, 101, 97, 100], [116, 105, 109, 101, 115], [103, 111], [104, 105, 116], [104, 105, 103, 104], [108, 111, 119], [114, 105, 115, 101], [102, 97, 108, 108], [105, 115], [110, 111, 116], [97, 102, 116, 101, 114]]
def kln : List Nat := kbt.map List.length
def sg_ (G : cg_T) (U : State) (H : Heap) : Prop :=
  vk_S 14 kln kbt (G.2.1 50) (G.2.1 51) (aw_ G) U H ∧ (∀ (i : Nat) (q : Nat × String), kst[i]? = some q → vk_R RX7 q.1 q.2 (G.2.1 50 i) U) ∧
  va_Z "java/lang/String" "COMPACT_STRINGS" "Z" (.int 1) (aw_ G) U H ∧ ∃ v : av_T, (v = vN ∨ v = vR 52 0) ∧ va_Z "jdk/internal/util/Preconditions" "SIOOBE_FORMATTER" "Ljava/util/function/BiFunction;" (cv_ G.2.1 v) (aw_ G) U H
def am_ (G : cg_T) (U : State) : Prop := va_K G.1 vwCl (ty_ G) U ∧ (∀ w ∈ nb_, va_Nw w U) ∧ sg_ G U U.heap
theorem sg_warm {G : cg_T} {s U : State} {H : Heap} (hW : s.WarmedH U.vm) (h : sg_ G s H) : sg_ G U H := by
  obtain ⟨h1, h2, h3, v, h4, h5⟩ := h
  exact ⟨vk_S.moved hW.alike h1, fun i q hq => vk_R.warm hW (h2 i q hq), va_Z.moved hW.alike h3, v, h4, va_Z.moved hW.alike h5⟩
theorem sg_kept {G : cg_T} {U : State} {H H1 : Heap} (h : sg_ G U H) (hq : ∀ a : Nat, a < H.size → ¬ aw_ G a → H1[a]? = H[a]?) : sg_ G U H1 := by
  obtain ⟨h1, h2, h3, v, h4, h5⟩ := h
  exact ⟨vk_S.kept h1 hq, h2, va_Z.kept h3 hq, v, h4, va_Z.kept h5 hq⟩
theorem am_warm {G : cg_T} {s U : State} {H : Heap} {locs : List Loc} (hW : s.WarmedH U.vm) (hH : U.heap = H) (hS : va_S (aw_ G) s.heap H locs) (h : am_ G s) : am_ G U := by
  obtain ⟨h1, h2, h3⟩ := h
  refine ⟨va_K.moved hW.alike h1, fun w hw => nb_warm hw hW (h2 w hw), ?_⟩
  rw [hH]
  exact sg_kept (sg_warm hW h3) (fun a ha hn => hS.2.1 a ha hn)
theorem am_blind {G : cg_T} {U V : State} (hv : U.vm = V.vm) (hh : U.heap = V.heap) (h : am_ G U) : am_ G V := by
  obtain ⟨h1, h2, h3, h4, h5, v, h6, h7⟩ := h
  have hal : U.vm.Alike V.vm := by rw [hv]; exact Vm.Alike.refl V.vm
  refine ⟨va_K.moved hal h1, fun w hw => nb_same hw hv (h2 w hw), ?_, fun i q hq => vk_R.same hv.symm (h4 i q hq), ?_, v, h6, ?_⟩
  · rw [← hh]; exact vk_S.moved hal h3
  · rw [← hh]; exact va_Z.moved hal h5
  · rw [← hh]; exact va_Z.moved hal h7
/-! rooms, frames, ends -/
def rm_ (d : Nat) : Room := { frames := d, cells := 0, slots := 0, locals := 32 * d }
def wl_ (md : md_T) : List Cond := Cond.code md.1 md.2.1 md.2.2.1 md.2.2.2 :: tb_
def qp_ (G : cg_T) (Q : Option av_T → hs_T → Prop) : Array Value → State → Outcome → State → Prop := fun _ st o t =>
  (∃ (r : Option av_T) (S : hs_T), Q r S ∧ o = .returned (r.map (cv_ G.2.1)) ∧ va_P G.1 vwCl (pc_ G S) t.heap) ∧ va_F (aw_ G) st t
def lr_ (G : cg_T) (n : Nat) (ls : List (Option av_T)) (lc : Array Slot) : Prop :=
  lc.size = n ∧ lv_wf lc ∧ ∀ (i : Nat) (v : av_T), ls[i]? = some (some v) → lc[i]? = some (.val (cv_ G.2.1 v))
def bs_ (md : md_T) (G : cg_T) (p : Program) (s : State) (m : MethodId) (args : Array Value) (meth : Method) (c : Code) : Prop :=
  p.tables.exec = Jvm.exec ∧ c.code = md.2.1 ∧ meth.sig.returnType = md.2.2.2 ∧ c.maxLocals = md.2.2.1 ∧ s.vm.findClass md.1.cls = some m.cls ∧ (∀ w ∈ tb_, w.before args s = true) ∧ meth.locks = false ∧ dj_ G ∧ am_ G s
/-- from this frame of the method, in this state, the machine returns with Q -/
def Ev (d : Nat) (md : md_T) (pc : Nat) (ls : List (Option av_T)) (st : List av_T) (S : hs_T) (Q : Option av_T → hs_T → Prop) : Prop :=
  ∀ (G : cg_T) (p : Program) (l : Launch) (e : Env) (s : State) (m : MethodId) (args : Array Value) (below : List Frame) (meth : Method) (c : Code) (H : Heap) (locs : List Loc) (lc : Array Slot),
    bs_ md G p s m args meth c → va_P G.1 vwCl (pc_ G S) H → va_S (aw_ G) s.heap H locs → lr_ G md.2.2.1 ls lc →
    W p l e (rm_ d) s m args below meth c H locs 0 0 (MQ below (qp_ G Q) args s 0 0 (aw_ G)) (F0 m pc lc (st.map (cv_ G.2.1)))
/-- the method's contract -/
def Cx (d : Nat) (md : md_T) (as : List av_T) (S : hs_T) (Q : Option av_T → hs_T → Prop) : Prop :=
  ∀ (G : cg_T) (l : Launch), dj_ G → Met l md.1 (wl_ md) (rm_ d) (va_Pc (as.map (cv_ G.2.1)) (fun U => va_P G.1 vwCl (pc_ G S) U.heap ∧ am_ G U)) (qp_ G Q) 0 0 (aw_ G)
/-! the locals at the entry -/
def el_ : List av_T → List (Option av_T)
  | [] => []
  | v :: r => if ct_ v = 2 then some v :: none :: el_ r else some v :: el_ r
def en_ (n : Nat) (as : List av_T) : List (Option av_T) := el_ as ++ List.replicate (n - (el_ as).length) none
theorem el_cons (v : av_T) (r : List av_T) : el_ (v :: r) = if ct_ v = 2 then some v :: none :: el_ r else some v :: el_ r := rfl
theorem el_len (ad : Nat → Nat → Nat) : ∀ as : List av_T, (lg_sl (as.map (cv_ ad))).length = (el_ as).length
  | [] => rfl
  | v :: r => by
    have ih := el_len ad r
    unfold lg_sl at ih ⊢
    rw [List.map_cons, List.flatMap_cons, List.length_append, ih, cv_cat, el_cons]
    split
    · simp; omega
    · simp; omega
theorem el_at (ad : Nat → Nat → Nat) : ∀ (as : List av_T) (b i : Nat) (v : av_T), (el_ as)[i]? = some (some v) → (b + i, cv_ ad v) ∈ lv_args b (as.map (cv_ ad))
  | [], b, i, v, h => by simp [el_] at h
  | w :: r, b, i, v, h => by
    rw [List.map_cons]
    unfold lv_args
    rw [cv_cat]
    rw [el_cons] at h
    split at h
    · rename_i hc
      match i, h with
      | 0, h => simp at h; subst h; exact List.mem_cons_self
      | 1, h => simp at h
      | i + 2, h =>
        have h' : (el_ r)[i]? = some (some v) := by simpa using h
        have := el_at ad r (b + 2) i v h'
        rw [if_pos hc]
        refine List.mem_cons_of_mem _ ?_
        rw [show b + (i + 2) = b + 2 + i by omega]
        exact this
    · rename_i hc
      match i, h with
      | 0, h => simp at h; subst h; exact List.mem_cons_self
      | i + 1, h =>
        have h' : (el_ r)[i]? = some (some v) := by simpa using h
        have := el_at ad r (b + 1) i v h'
        rw [if_neg hc]
        refine List.mem_cons_of_mem _ ?_
        rw [show b + (i + 1) = b + 1 + i by omega]
        exact this
theorem en_at {n i : Nat} {as : List av_T} {v : av_T} (h : (en_ n as)[i]? = some (some v)) : (el_ as)[i]? = some (some v) := by
  unfold en_ at h
  by_cases hi : i < (el_ as).length
  · rwa [List.getElem?_append_left hi] at h
  · rw [List.getElem?_append_right (by omega)] at h
    have := List.eq_of_mem_replicate (List.mem_of_getElem? h)
    cases this
theorem Cx.of {d : Nat} {md : md_T} {as : List av_T} {S : hs_T} {Q : Option av_T → hs_T → Prop} (hp : plainName md.1.cls = true) (hle : (el_ as).length ≤ md.2.2.1) (h : Ev d md 0 (en_ md.2.2.1 as) [] S Q) : Cx d md as S Q := by
  intro G l hj
  refine Met.ofW (cc := md.2.1) (maxL := md.2.2.1) (ret := md.2.2.2) hp rfl ?_
  intro p e s m args below meth c s₁ B hml hv
  obtain ⟨rfl, hP, hA⟩ := hv
  have hts := atoms_spec (ws := wl_ md) B.pre
  have hown : s.vm.findClass md.1.cls = some m.cls := findClass_of_methodNamed B.named
  have hl := lv_entry (as.map (cv_ G.2.1)) (n := md.2.2.1) (by rw [el_len]; exact hle)
  rw [lg_entry_eq]
  refine h G p l e s m _ below meth c s.heap [] _ ⟨B.exec, B.bytes, B.returns, hml, hown, fun w hw => hts w (List.mem_cons_of_mem _ hw), B.notSynchronized, hj, hA⟩ hP va_S.rf ⟨hl.1, hl.2.1, fun i v hi => ?_⟩
  have h1 := el_at G.2.1 as 0 i v (en_at hi)
  rw [Nat.zero_add] at h1
  exact hl.2.2 _ h1
theorem Cx.imp {d : Nat} {md : md_T} {as : List av_T} {S : hs_T} {Q Q' : Option av_T → hs_T → Prop} (h : Cx d md as S Q) (hq : ∀ r S', Q r S' → Q' r S') : Cx d md as S Q' := by
  intro G l hj p e ha hc hk s m args below hf happ hpre htr
  obtain ⟨k, o, h1, h2, h3, ⟨⟨⟨r, S', g1, g2⟩, g3⟩, g4⟩⟩ := h G l hj p e ha hc hk s m args below hf happ hpre htr
  exact ⟨k, o, h1, h2, h3, ⟨⟨r, S', hq r S' g1, g2⟩, g3⟩, g4⟩
