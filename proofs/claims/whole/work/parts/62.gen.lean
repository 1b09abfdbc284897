/-! ===== EightWiresModel() (by wip/whole/gen_ctor11.py) ===== -/
section WG
variable {p : Program} {l : Launch} {e : Env} {R : Room} {s : State} {m : MethodId} {args : Array Value} {below : List Frame} {meth : Method} {c : Code} {H H0 : Heap} {locs : List Loc} {cells slots pc nL : Nat} {Z : State → Prop} {lc : Array Slot} {rest : List Value} {G : cg_T} {S : hs_T} {A0 : Nat → Prop} {cc : ByteArray} {own : String}
theorem wg_get {k j f i : Nat} {C : String} {T : u_T} {N : Nat} {ty : Nat → FieldType} {v : av_T} (hx : p.tables.exec = Jvm.exec) (hb : c.code = cc) (hown : s.vm.findClass own = some m.cls) (htb : ∀ w ∈ tb_, w.before args s = true) (hK : va_K G.1 vwCl (ty_ G) s) (hP : va_P G.1 vwCl (pc_ G S) H) (hc : cl_ok k C T N ty) (hf : f < N) (hl : Cond.fieldLink own i (T f).1 (T f).2.1 (T f).2.2.1 ∈ tb_) (hp : (k, j) ∈ plc) (hv : fv_ S k j f = v) (hd : decode cc pc = .ok (.getfield i, 3))
    (kk : W p l e R s m args below meth c H locs cells slots Z (F0 m (pc + 3) lc (cv_ G.2.1 v :: rest))) : W p l e R s m args below meth c H locs cells slots Z (F0 m pc lc (.ref (G.2.1 k j) :: rest)) := by
  obtain ⟨n, h1, h2⟩ := pc_in G S hp
  rw [ce_obj hc.2.2.2.2.1] at h2
  have hfs : ((List.range (nf_ k)).map (fun f => cv_ G.2.1 (fv_ S k j f)))[f]? = some (cv_ G.2.1 v) := by
    rw [List.getElem?_map, List.getElem?_range (by rw [hc.2.2.2.2.2]; exact hf), Option.map_some, hv]
  exact va_get (C := C) (T := T) (N := N) hx hb htb hc.2.1 hown hK hP n h2 hc.1 f hf (htb _ hl) (fun _ h9 => h9) hfs hd kk
theorem wg_iast {k j n : Nat} {i x : Int32} {S' : hs_T} (hx : p.tables.exec = Jvm.exec) (hb : c.code = cc) (hK : va_K G.1 vwCl (ty_ G) s) (hdj : dj_ G) (hP : va_P G.1 vwCl (pc_ G S) H) (hS : va_S A0 H0 H locs) (hA : ∀ q, aw_ G q → A0 q) (hp : (k, j) ∈ plc) (hk : ¬ k < 12) (ha : ak_ k = (0, n, 0, 0)) (hin : vp_in i n) (hS' : sk_ S k j (upd (S.1 k j) i.toNatClampNeg x) = S') (hd : decode cc pc = .ok (.iastore, 1))
    (kk : ∀ (H1 : Heap) (locs1 : List Loc), va_P G.1 vwCl (pc_ G S') H1 → va_S A0 H0 H1 locs1 → W p l e R s m args below meth c H1 locs1 cells slots Z (F0 m (pc + 1) lc rest)) : W p l e R s m args below meth c H locs cells slots Z (F0 m pc lc (.int x :: .int i :: .ref (G.2.1 k j) :: rest)) := by
  obtain ⟨q, h1, h2⟩ := pc_in G S hp
  rw [ce_int hk ha] at h2
  have hpic : (pc_ G S).set q (G.2.1 k j, .inl (G.2.2 0, n, .inl (upd (S.1 k j) i.toNatClampNeg x))) = pc_ G S' := by
    rw [← pc_set G S S' h1 (fun q _ hq => by rw [← hS']; exact ce_sk q hq), ce_int hk ha, ← hS', sk_at]
  refine va_iast hx hb hK hP ((pc_D hdj S).weaken (fun _ _ _ h => hA _ h)) hS q 0 h2 rfl hin hd (fun H1 locs1 hP1 _ hS1 => ?_)
  exact kk H1 locs1 (hpic ▸ hP1) hS1
theorem am_w {U : State} {Hx : Heap} (hW : s.WarmedH U.vm) (hH : U.heap = Hx) (hk : ∀ a : Nat, a < s.heap.size → ¬ aw_ G a → Hx[a]? = s.heap[a]?) (h : am_ G s) : am_ G U := by
  obtain ⟨h1, h2, h3⟩ := h
  refine ⟨va_K.moved hW.alike h1, fun w hw => nb_warm hw hW (h2 w hw), ?_⟩
  rw [hH]
  exact sg_kept (sg_warm hW h3) hk
/-- a call on an object of the world, from any frame -/
theorem wg_callV {d : Nat} {y : md_T} {n i k j : Nat} {as : List av_T} {T : u_T} {N : Nat} {Qc : Option av_T → hs_T → Prop} (hx : p.tables.exec = Jvm.exec) (hb : c.code = cc) (hml : c.maxLocals = nL) (hown : s.vm.findClass own = some m.cls) (htb : ∀ w ∈ tb_, w.before args s = true) (hdj : dj_ G) (ham : am_ G s) (hm : mk_ y n) (hs : mi_ y) (hl : Cond.methodLink own i y.1 ∈ tb_) (hn : as.length = n) (hw : (rest.map fun v => v.category).sum ≤ 8) (hp : (k, j) ∈ plc) (hk : k < 12) (hc : vwCl[k]? = some (y.1.cls, T, N)) (hd : decode cc pc = .ok (.invokevirtual i, 3)) (hC : Cx d y (vR k j :: as) S Qc)
    (hR : d + 1 ≤ R.frames ∧ 32 * (d + 1) ≤ R.locals) (hcs : cells ≤ R.cells ∧ slots ≤ R.slots) (hP : va_P G.1 vwCl (pc_ G S) H) (hS : va_S A0 s.heap H locs) (hA : ∀ q, aw_ G q → A0 q) (hkp : ∀ a : Nat, a < s.heap.size → ¬ aw_ G a → H[a]? = s.heap[a]?) (hls : lc.size = nL)
    (kk : ∀ (r : Option av_T) (S' : hs_T) (H1 : Heap) (locs1 : List Loc), Qc r S' → va_P G.1 vwCl (pc_ G S') H1 → va_S A0 s.heap H1 locs1 → (∀ a : Nat, a < s.heap.size → ¬ aw_ G a → H1[a]? = s.heap[a]?) → W p l e R s m args below meth c H1 locs1 cells slots Z (F0 m (pc + 3) lc ((r.map (cv_ G.2.1)).toList ++ rest))) :
    W p l e R s m args below meth c H locs cells slots Z (F0 m pc lc ((as.map (cv_ G.2.1)).reverse ++ .ref (G.2.1 k j) :: rest)) := by
  obtain ⟨q, h1, h2⟩ := pc_in G S hp
  rw [ce_obj hk] at h2
  refine wc_ (G := G) (va_runV (As := as.map (cv_ G.2.1)) (rest := rest) (Ts := tb_) (C := y.1.cls) ⟨hx, hb, hml, hown, htb⟩ (hC G l hdj) ⟨cb_ htb hm hl hR, htb _ hs.1, htb _ hs.2⟩ ⟨fb_, va_recv ham.1 hP hc h2, fun U hU hW => ⟨rfl, by rw [hU]; exact hP, am_w hW hU hkp ham⟩⟩ rfl (by rw [List.length_map]; exact hn) hls rfl (lv_room hw) hd hcs) hS hA (fun r S' H1 locs1 hq hP1 hS1 hz hk1 => ?_)
  exact kk r S' H1 locs1 hq hP1 hS1 (fun a h1 h2 => (hk1 a (Nat.lt_of_lt_of_le h1 hS.1) h2).trans (hkp a h1 h2))
end WG
/-! the start -/
def s0_ : hs_T := (fun k _ f => if k = 6 ∧ f = 2 then -1 else if k = 5 ∧ f = 7 then 100 else 0, fun _ => 0, fun i => if i = 0 then 0 else 1)
def pcX (D : va_G) (ad : Nat → Nat → Nat) (ci : Nat → ClassId) : va_W := (plc.take 48).map (fun q => (ad q.1 q.2, ce_ (D, ad, ci) s0_ q.1 q.2))
def sgB (ad : Nat → Nat → Nat) (A : Nat → Prop) (U : State) (H : Heap) : Prop :=
  vk_S 14 kln kbt (ad 50) (ad 51) A U H ∧ (∀ (i : Nat) (q : Nat × String), kst[i]? = some q → vk_R RX7 q.1 q.2 (ad 50 i) U) ∧
  va_Z "java/lang/String" "COMPACT_STRINGS" "Z" (.int 1) A U H ∧ ∃ v : av_T, (v = vN ∨ v = vR 52 0) ∧ va_Z "jdk/internal/util/Preconditions" "SIOOBE_FORMATTER" "Ljava/util/function/BiFunction;" (cv_ ad v) A U H
theorem Z_nar {C n d : String} {v : Value} {A B : Nat → Prop} {U : State} {H : Heap} (h : va_Z C n d v A U H) (hAB : ∀ q, B q → A q) : va_Z C n d v B U H := by
  obtain ⟨cf, kf, fi, f, a, cell, h1, h2, h3, h4, h5, h6, h7, h8⟩ := h
  exact ⟨cf, kf, fi, f, a, cell, h1, h2, h3, h4, h5, h6, h7, fun z => h8 (hAB _ z)⟩
theorem sg_ofB {G : cg_T} {ad : Nat → Nat → Nat} {A : Nat → Prop} {U : State} {H : Heap} (h : sgB ad A U H) (h0 : G.2.1 50 = ad 50) (h1 : G.2.1 51 = ad 51) (h2 : G.2.1 52 0 = ad 52 0) (hA : ∀ q, aw_ G q → A q) : sg_ G U H := by
  obtain ⟨a1, a2, a3, v, a4, a5⟩ := h
  refine ⟨by rw [h0, h1]; exact a1.narrow hA, fun i q hq => by rw [h0]; exact a2 i q hq, Z_nar a3 hA, v, a4, ?_⟩
  rcases a4 with rfl | rfl
  · exact Z_nar a5 hA
  · show va_Z _ _ _ (.ref (G.2.1 52 0)) _ _ _
    rw [h2]; exact Z_nar a5 hA
theorem dj_of {A : Nat → Prop} {G : cg_T} {S : hs_T} (h : va_D A (pc_ G S)) : dj_ G ∧ ∀ q, aw_ G q → A q := by
  constructor
  · intro a ha b hb e
    obtain ⟨i, hi⟩ := List.getElem?_of_mem ha
    obtain ⟨j, hj⟩ := List.getElem?_of_mem hb
    have := h.1 i j _ _ (pc_at G S hi) (pc_at G S hj) e
    subst this
    rw [hi] at hj
    cases hj; rfl
  · rintro q ⟨a, ha, rfl⟩
    obtain ⟨i, hi⟩ := List.getElem?_of_mem ha
    exact h.2 i _ (pc_at G S hi)
/-- the reference's addresses beside the class's -/
def adM (ad : Nat → Nat → Nat) (h1 : Nat) (a : Nat → Nat) : Nat → Nat → Nat := fun k j => if k = 11 then h1 else if 1200 ≤ k then a k else ad k j
abbrev t4_ (ci : Nat → ClassId) : List (ClassId × FieldType) := [(ci 0, .int), (ci 1, .long), (ci 8, .object RX8), (ci 6, .object RX6)]
def w11_ (D : va_G) (ad : Nat → Nat → Nat) (ci : Nat → ClassId) (h1 : Nat) : va_W := ((h1, .inr (11, [.null, .null, .null, .int 0, .null, .null, .int 0, .null, .int 0, .int 0, .int 0, .int 0, .int 0, .int 0, .int 0, .int 0, .int 0, .int 0, .int 0, .int 0, .null, .int 0, .int 0, .int 0, .int 0, .int 0, .null, .int 0, .int 0, .int 0, .null, .null, .null, .int 0])) :: pcX D ad ci)
/-- what EightWiresModel() needs of a state -/
def pM (D : va_G) (ad : Nat → Nat → Nat) (ci : Nat → ClassId) (h1 sz z0 : Nat) (U : State) : Prop := U.heap.size = sz ∧ va_P D vwCl (w11_ D ad ci h1) U.heap ∧ va_K D vwCl (t4_ ci) U ∧ va_D (fun q => z0 ≤ q) (w11_ D ad ci h1) ∧ (∀ w ∈ nb_, va_Nw w U) ∧ sgB ad (fun q => z0 ≤ q) U U.heap ∧ z0 ≤ sz
def qM (D : va_G) (ad : Nat → Nat → Nat) (ci : Nat → ClassId) (h1 sz : Nat) (t : State) : Prop := ∃ (a : Nat → Nat) (S : hs_T), Inv S ∧ va_P D vwCl (pc_ (D, adM ad h1 a, ci) S) t.heap ∧ dj_ (D, adM ad h1 a, ci) ∧ ∀ q, aw_ (D, adM ad h1 a, ci) q → va_A (w11_ D ad ci h1) sz q
theorem fk_lt : ∀ c, c < 11 → ∀ f, f < 16 → (fk_ c f).2.1 < 1200 ∧ (fk_ c f).2.1 ≠ 11 := by decide +kernel
theorem nf_16 : ∀ c, c < 11 → nf_ c ≤ 16 := by decide +kernel
theorem pl_48 : ∀ q ∈ plc.take 48, q.1 ≠ 11 ∧ q.1 < 1200 ∧ (ak_ q.1).2.2.1 ≠ 11 ∧ (ak_ q.1).2.2.1 < 1200 := by decide +kernel
theorem adM_c {ad : Nat → Nat → Nat} {h1 : Nat} {a : Nat → Nat} {k j : Nat} (h : k ≠ 11 ∧ k < 1200) : adM ad h1 a k j = ad k j := by
  unfold adM; rw [if_neg h.1, if_neg (by omega)]
theorem ce_adM {D : va_G} {ad : Nat → Nat → Nat} {ci : Nat → ClassId} {h1 : Nat} {a : Nat → Nat} {k j : Nat} {S : hs_T} (h : k ≠ 11 ∧ k < 1200 ∧ (ak_ k).2.2.1 ≠ 11 ∧ (ak_ k).2.2.1 < 1200) : ce_ (D, adM ad h1 a, ci) S k j = ce_ (D, ad, ci) S k j := by
  unfold ce_
  by_cases hk : k < 12
  · rw [if_pos hk, if_pos hk]
    congr 2
    refine List.map_congr_left (fun f hf => ?_)
    rw [List.mem_range] at hf
    have h16 := nf_16 k (by omega)
    have hl := fk_lt k (by omega) f (by omega)
    unfold fv_
    split
    · show Value.ref (adM ad h1 a _ j) = Value.ref (ad _ j)
      rw [adM_c ⟨hl.2, hl.1⟩]
    · split
      · show Value.ref (adM ad h1 a _ _) = Value.ref (ad _ _)
        rw [adM_c ⟨hl.2, hl.1⟩]
      · split
        · show Value.ref (adM ad h1 a 5 _) = Value.ref (ad 5 _)
          rw [adM_c (by omega)]
        · rfl
  · rw [if_neg hk, if_neg hk]
    split
    · rfl
    · split
      · show (Sum.inl (ci _, _, Sum.inr (Sum.inr (Sum.inr (Sum.inr (fun i => some (adM ad h1 a (ak_ k).2.2.1 ((ak_ k).2.2.2 + i))))))) : va_E) = Sum.inl (ci _, _, Sum.inr (Sum.inr (Sum.inr (Sum.inr (fun i => some (ad (ak_ k).2.2.1 ((ak_ k).2.2.2 + i)))))))
        have e : (fun i => some (adM ad h1 a (ak_ k).2.2.1 ((ak_ k).2.2.2 + i))) = (fun i => some (ad (ak_ k).2.2.1 ((ak_ k).2.2.2 + i))) := funext fun i => by rw [adM_c ⟨h.2.2.1, h.2.2.2⟩]
        rw [e]
      · rfl
def psM (i : Nat) : Nat := if i < 48 then i + 1 else if i = 48 then 0 else i
theorem at_M {D : va_G} {ad : Nat → Nat → Nat} {ci : Nat → ClassId} {h1 a1200 a1201 a1202 a1204 a1205 a1207 a1220 a1226 a1230 a1231 a1232 : Nat} {i : Nat} {q : Nat × Nat} (hi : plc[i]? = some q) : ((h1, .inr (11, [.ref a1200, .ref a1201, .ref a1202, .int 0, .ref a1204, .ref a1205, .int 0, .ref a1207, .int 0, .int 0, .int 0, .int 0, .int 0, .int 0, .int 0, .int 0, .int 0, .int 0, .int 0, .int 0, .ref a1220, .int 0, .int 0, .int 0, .int 0, .int 0, .ref a1226, .int 0, .int 0, .int 0, .ref a1230, .ref a1231, .ref a1232, .int 0])) :: (pcX D ad ci ++ [(a1200, .inl (ci 0, 234, .inl (fun _ => 0))), (a1201, .inl (ci 0, 234, .inl (fun _ => 0))), (a1202, .inl (ci 0, 400, .inl (fun _ => 0))), (a1204, .inl (ci 0, 800, .inl (fun _ => 0))), (a1205, .inl (ci 0, 2, .inl (fun _ => 0))), (a1207, .inl (ci 0, 400, .inl (fun _ => 0))), (a1220, .inl (ci 0, 3, .inl (fun _ => 0))), (a1226, .inl (ci 0, 400, .inl (fun _ => 0))), (a1230, .inl (ci 0, 4, .inl (fun _ => 0))), (a1231, .inl (ci 0, 4, .inl (fun _ => 0))), (a1232, .inl (ci 0, 160, .inl (fun _ => 0)))]))[psM i]? = some ((adM ad h1 (fun k => if k = 1200 then a1200 else if k = 1201 then a1201 else if k = 1202 then a1202 else if k = 1204 then a1204 else if k = 1205 then a1205 else if k = 1207 then a1207 else if k = 1220 then a1220 else if k = 1226 then a1226 else if k = 1230 then a1230 else if k = 1231 then a1231 else if k = 1232 then a1232 else 0)) q.1 q.2, ce_ (D, adM ad h1 (fun k => if k = 1200 then a1200 else if k = 1201 then a1201 else if k = 1202 then a1202 else if k = 1204 then a1204 else if k = 1205 then a1205 else if k = 1207 then a1207 else if k = 1220 then a1220 else if k = 1226 then a1226 else if k = 1230 then a1230 else if k = 1231 then a1231 else if k = 1232 then a1232 else 0), ci) s0_ q.1 q.2) := by
  have hlen : (pcX D ad ci).length = 48 := by unfold pcX; rw [List.length_map]; rfl
  have h60 : i < 60 := (List.getElem?_eq_some_iff.mp hi).1
  by_cases h : i < 48
  · have ht : (plc.take 48)[i]? = some q := by rw [List.getElem?_take, if_pos h]; exact hi
    have hm := pl_48 q (List.mem_of_getElem? ht)
    unfold psM
    rw [if_pos h, List.getElem?_cons_succ, List.getElem?_append_left (by rw [hlen]; exact h)]
    unfold pcX
    rw [List.getElem?_map, ht, ce_adM hm, adM_c ⟨hm.1, hm.2.1⟩]
    rfl
  · by_cases h2 : i = 48
    · subst h2
      cases hi
      rfl
    · unfold psM
      rw [if_neg h, if_neg h2, show i = (i - 1) + 1 by omega, List.getElem?_cons_succ, List.getElem?_append_right (by rw [hlen]; omega), hlen]
      obtain ⟨j, rfl⟩ : ∃ j, i = 49 + j := ⟨i - 49, by omega⟩
      have hj : j < 11 := by omega
      rw [show 49 + j - 1 - 48 = j by omega]
      match j, hj, hi with
      | 0, _, hi => cases hi; rfl
      | 1, _, hi => cases hi; rfl
      | 2, _, hi => cases hi; rfl
      | 3, _, hi => cases hi; rfl
      | 4, _, hi => cases hi; rfl
      | 5, _, hi => cases hi; rfl
      | 6, _, hi => cases hi; rfl
      | 7, _, hi => cases hi; rfl
      | 8, _, hi => cases hi; rfl
      | 9, _, hi => cases hi; rfl
      | 10, _, hi => cases hi; rfl
      | j + 11, hj, _ => omega
theorem tail_M {D : va_G} {ad : Nat → Nat → Nat} {ci : Nat → ClassId} {h1 a1200 a1201 a1202 a1204 a1205 a1207 a1220 a1226 a1230 a1231 a1232 : Nat} {H : Heap} {A : Nat → Prop} (hP : va_P D vwCl ((h1, .inr (11, [.ref a1200, .ref a1201, .ref a1202, .int 0, .ref a1204, .ref a1205, .int 0, .ref a1207, .int 0, .int 0, .int 0, .int 0, .int 0, .int 0, .int 0, .int 0, .int 0, .int 0, .int 0, .int 0, .ref a1220, .int 0, .int 0, .int 0, .int 0, .int 0, .ref a1226, .int 0, .int 0, .int 0, .ref a1230, .ref a1231, .ref a1232, .int 0])) :: ((pcX D ad ci ++ [(a1200, .inl (ci 0, 234, .inl (fun _ => 0)))]) ++ [(a1201, .inl (ci 0, 234, .inl (fun _ => 0)))] ++ [(a1202, .inl (ci 0, 400, .inl (fun _ => 0)))] ++ [(a1204, .inl (ci 0, 800, .inl (fun _ => 0)))] ++ [(a1205, .inl (ci 0, 2, .inl (fun _ => 0)))] ++ [(a1207, .inl (ci 0, 400, .inl (fun _ => 0)))] ++ [(a1220, .inl (ci 0, 3, .inl (fun _ => 0)))] ++ [(a1226, .inl (ci 0, 400, .inl (fun _ => 0)))] ++ [(a1230, .inl (ci 0, 4, .inl (fun _ => 0)))] ++ [(a1231, .inl (ci 0, 4, .inl (fun _ => 0)))] ++ [(a1232, .inl (ci 0, 160, .inl (fun _ => 0)))])) H) (hD : va_D A ((h1, .inr (11, [.ref a1200, .ref a1201, .ref a1202, .int 0, .ref a1204, .ref a1205, .int 0, .ref a1207, .int 0, .int 0, .int 0, .int 0, .int 0, .int 0, .int 0, .int 0, .int 0, .int 0, .int 0, .int 0, .ref a1220, .int 0, .int 0, .int 0, .int 0, .int 0, .ref a1226, .int 0, .int 0, .int 0, .ref a1230, .ref a1231, .ref a1232, .int 0])) :: ((pcX D ad ci ++ [(a1200, .inl (ci 0, 234, .inl (fun _ => 0)))]) ++ [(a1201, .inl (ci 0, 234, .inl (fun _ => 0)))] ++ [(a1202, .inl (ci 0, 400, .inl (fun _ => 0)))] ++ [(a1204, .inl (ci 0, 800, .inl (fun _ => 0)))] ++ [(a1205, .inl (ci 0, 2, .inl (fun _ => 0)))] ++ [(a1207, .inl (ci 0, 400, .inl (fun _ => 0)))] ++ [(a1220, .inl (ci 0, 3, .inl (fun _ => 0)))] ++ [(a1226, .inl (ci 0, 400, .inl (fun _ => 0)))] ++ [(a1230, .inl (ci 0, 4, .inl (fun _ => 0)))] ++ [(a1231, .inl (ci 0, 4, .inl (fun _ => 0)))] ++ [(a1232, .inl (ci 0, 160, .inl (fun _ => 0)))]))) : va_P D vwCl (pc_ (D, adM ad h1 (fun k => if k = 1200 then a1200 else if k = 1201 then a1201 else if k = 1202 then a1202 else if k = 1204 then a1204 else if k = 1205 then a1205 else if k = 1207 then a1207 else if k = 1220 then a1220 else if k = 1226 then a1226 else if k = 1230 then a1230 else if k = 1231 then a1231 else if k = 1232 then a1232 else 0), ci) s0_) H ∧ dj_ (D, adM ad h1 (fun k => if k = 1200 then a1200 else if k = 1201 then a1201 else if k = 1202 then a1202 else if k = 1204 then a1204 else if k = 1205 then a1205 else if k = 1207 then a1207 else if k = 1220 then a1220 else if k = 1226 then a1226 else if k = 1230 then a1230 else if k = 1231 then a1231 else if k = 1232 then a1232 else 0), ci) ∧ ∀ q, aw_ (D, adM ad h1 (fun k => if k = 1200 then a1200 else if k = 1201 then a1201 else if k = 1202 then a1202 else if k = 1204 then a1204 else if k = 1205 then a1205 else if k = 1207 then a1207 else if k = 1220 then a1220 else if k = 1226 then a1226 else if k = 1230 then a1230 else if k = 1231 then a1231 else if k = 1232 then a1232 else 0), ci) q → A q := by
  simp only [List.append_assoc, List.cons_append, List.nil_append] at hP hD
  refine ⟨fun k q hq => ?_, fun a ha b hb e => ?_, ?_⟩
  · cases hk : plc[k]? with
    | none => rw [pc_, List.getElem?_map, hk] at hq; cases hq
    | some r =>
      rw [pc_at _ _ hk] at hq
      cases hq
      exact hP (psM k) _ (at_M hk)
  · obtain ⟨i, hi⟩ := List.getElem?_of_mem ha
    obtain ⟨j, hj⟩ := List.getElem?_of_mem hb
    have h := hD.1 _ _ _ _ (at_M hi) (at_M hj) e
    have e2 : i = j := by
      unfold psM at h
      repeat' split at h
      all_goals omega
    subst e2
    rw [hi] at hj
    cases hj; rfl
  · rintro q ⟨a, ha, rfl⟩
    obtain ⟨i, hi⟩ := List.getElem?_of_mem ha
    exact hD.2 _ _ (at_M hi)
theorem W_p0 : WFp p0_ := by
  refine ⟨by decide, fun s hs => ?_, by decide, fun i hi => ?_, by decide, by decide⟩
  · have : p0_ 230 = 0 := rfl
    omega
  · have : p0_ 231 = 0 := rfl
    omega
theorem Inv_0 {S : hs_T} (hX : eX s0_ S) (h5 : ∀ k, k < 2 → S.1 1205 0 k = -4) (h30 : ∀ k, k < 4 → S.1 1230 0 k = -4) (hp : PrM S p0_) (h3 : S.1 11 0 3 = 0) (h8 : S.1 11 0 8 = 0) (h13 : S.1 11 0 13 = 0) (h33 : S.1 11 0 33 = 0) : Inv S := by
  refine ⟨((0, fun _ => 0), (0, fun _ => 0), p0_, fun _ => none, fun _ => none, 0, 0), IX_e hX ?_, ?_⟩
  · refine ⟨⟨rfl, Nat.zero_le _, fun i hi => absurd hi (Nat.not_lt_zero i)⟩, ⟨rfl, Nat.zero_le _, fun i hi => absurd hi (Nat.not_lt_zero i)⟩, ⟨by decide, by decide, by decide⟩, ⟨rfl, rfl, rfl, fun s hs => ?_, rfl, fun i hi => ?_⟩, W_p0, fun k hk => rfl, fun k hk => rfl, rfl, rfl⟩
    · have : s < p0_ 230 := hs
      have : p0_ 230 = 0 := rfl
      omega
    · have : i < p0_ 231 := hi
      have : p0_ 231 = 0 := rfl
      omega
  · exact ⟨⟨h3, Nat.zero_le _, fun i hi => absurd hi (Nat.not_lt_zero i)⟩, ⟨h8, Nat.zero_le _, fun i hi => absurd hi (Nat.not_lt_zero i)⟩, hp, W_p0, fun k hk => h5 k hk, fun k hk => h30 k hk, h13, h33⟩
