/-! ===== the law's cases (by wip/whole/gen_law.py) ===== -/
section LC
variable {p : Program} {l : Launch} {e : Env} {s : State} {m : MethodId} {below : List Frame} {meth : Method} {c : Code} {b L i : Nat} {xs : Nat → Int32} {G : cg_T} {S : hs_T} {H : Heap} {locs : List Loc} {Z : State → Prop} {lc : Array Slot} {rest : List Value} {pc : Nat}
def lc_ (p : Program) (s : State) (m : MethodId) (c : Code) (b L : Nat) (xs : Nat → Int32) (G : cg_T) : Prop := p.tables.exec = Jvm.exec ∧ c.code = code ∧ c.maxLocals = 4 ∧ s.vm.findClass RL = some m.cls ∧ (∀ w ∈ tb_, w.before #[Value.ref b] s = true) ∧ dj_ G ∧ am_ G s ∧ va_X b L xs s s.heap ∧ b < s.heap.size ∧ (∀ q, aw_ G q → s.heap.size ≤ q) ∧ L ≤ 2560
abbrev vs_ (s : State) (H : Heap) (locs : List Loc) : Prop := va_S (fun q : Nat => s.heap.size ≤ q) s.heap H locs
abbrev lh_ (G : cg_T) (b i : Nat) (lc : Array Slot) : Prop := lv_has lc 4 [(3, .int (nI i)), (2, .ref (G.2.1 11 0)), (1, .ref (G.2.1 10 0)), (0, .ref b)]
theorem ld_k {k : Nat} {n : Int} (C : lc_ p s m c b L xs G) (hi : i + 5 ≤ L) (hS : vs_ s H locs) (hl : lh_ G b i lc) (d0 : decode code pc = .ok (.aload_n 0, 1)) (d1 : decode code (pc + 1) = .ok (.iload_n 3, 1)) (d2 : decode code (pc + 2) = .ok (.iconst n, 1)) (hv : Int32.ofInt n = nI k) (d3 : decode code (pc + 3) = .ok (.iadd, 1)) (d4 : decode code (pc + 4) = .ok (.iaload, 1)) (hk : k < 5)
    (kk : W p l e room_1 s m #[Value.ref b] below meth c H locs 60 7914 Z (F0 m (pc + 5) lc (.int (xs (i + k)) :: rest))) : W p l e room_1 s m #[Value.ref b] below meth c H locs 60 7914 Z (F0 m pc lc rest) := by
  obtain ⟨hx, hb, hml, hown, htb, hdj, ham, hX, hbl, hA, hL⟩ := C
  refine lv_aload_n hx hb d0 rfl (lv_at hl 3 rfl) ?_
  refine lv_iload_n hx hb d1 rfl (lv_at hl 0 rfl) ?_
  refine lv_iconst hx hb d2 hv ?_
  refine lv_iadd hx hb d3 ?_
  refine va_sld hx hb hX hbl (Nat.not_le.mpr hbl) hS (by rw [nI_add]; exact vp_lt (by omega) (by omega)) d4 ?_
  rw [nI_add, nI_clamp (by omega)]
  exact kk
theorem bz_ {x : Int32} (hx : p.tables.exec = Jvm.exec) (hb : c.code = code) (d0 : decode code pc = .ok (.ifCond .eq 7, 3)) (d1 : decode code (pc + 3) = .ok (.iconst 1, 1)) (d2 : decode code (pc + 4) = .ok (.goto 4, 3)) (d3 : decode code (pc + 7) = .ok (.iconst 0, 1))
    (kk : W p l e room_1 s m #[Value.ref b] below meth c H locs 60 7914 Z (F0 m (pc + 8) lc (.int (bi_ (!decide (x = 0))) :: rest))) : W p l e room_1 s m #[Value.ref b] below meth c H locs 60 7914 Z (F0 m pc lc (.int x :: rest)) := by
  refine lv_if_eq hx hb d0 (tgt := pc + 7) (by omega) (fun h => ?_) (fun h => ?_)
  · refine lv_iconst hx hb d3 (v := 0) (by decide) ?_
    rw [decide_eq_true h] at kk
    exact kk
  · refine lv_iconst hx hb d1 (v := 1) (by decide) ?_
    refine lv_goto hx hb d2 (tgt := pc + 8) (by omega) ?_
    rw [decide_eq_false h] at kk
    exact kk
theorem lawC {y : md_T} {n ix k j : Nat} {as : List av_T} {T : u_T} {N : Nat} {Qc : Option av_T → hs_T → Prop} (C : lc_ p s m c b L xs G) (hm : mk_ y n) (hs : mi_ y) (hli : Cond.methodLink RL ix y.1 ∈ tb_) (hn : as.length = n) (hw : (rest.map fun v => v.category).sum ≤ 8) (hp : (k, j) ∈ plc) (hk : k < 12) (hc : vwCl[k]? = some (y.1.cls, T, N)) (hd : decode code pc = .ok (.invokevirtual ix, 3)) (hC : Cx 9 y (vR k j :: as) S Qc) (hP : va_P G.1 vwCl (pc_ G S) H) (hS : vs_ s H locs) (hl : lh_ G b i lc)
    (kk : ∀ (r : Option av_T) (S' : hs_T) (H1 : Heap) (locs1 : List Loc), Qc r S' → va_P G.1 vwCl (pc_ G S') H1 → vs_ s H1 locs1 → W p l e room_1 s m #[Value.ref b] below meth c H1 locs1 60 7914 Z (F0 m (pc + 3) lc ((r.map (cv_ G.2.1)).toList ++ rest))) :
    W p l e room_1 s m #[Value.ref b] below meth c H locs 60 7914 Z (F0 m pc lc ((as.map (cv_ G.2.1)).reverse ++ .ref (G.2.1 k j) :: rest)) := by
  obtain ⟨hx, hb, hml, hown, htb, hdj, ham, hX, hbl, hA, hL⟩ := C
  exact wg_callV (d := 9) hx hb hml hown htb hdj ham hm hs hli hn hw hp hk hc hd hC ⟨Nat.le_of_ble_eq_true rfl, Nat.le_of_ble_eq_true rfl⟩ ⟨Nat.le_of_ble_eq_true rfl, Nat.le_of_ble_eq_true rfl⟩ hP hS hA (fun a b1 _ => hS.2.1 a b1 (Nat.not_le.mpr b1)) hl.1 (fun r S' H1 locs1 hq hP1 hS1 _ => kk r S' H1 locs1 hq hP1 hS1)

theorem lw_c0 (C : lc_ p s m c b L xs G) (hi : i + 5 ≤ L) (hI : Inv S) (hP : va_P G.1 vwCl (pc_ G S) H) (hS : vs_ s H locs) (hl : lh_ G b i lc) (K : ∀ (S : hs_T) (H : Heap) (locs : List Loc), Inv S → va_P G.1 vwCl (pc_ G S) H → vs_ s H locs → W p l e room_1 s m #[Value.ref b] below meth c H locs 60 7914 Z (F0 m 1453 lc [])) : W p l e room_1 s m #[Value.ref b] below meth c H locs 60 7914 Z (F0 m 204 lc []) := by
  have C0 := C
  obtain ⟨hx, hb, hml, hown, htb, hdj, ham, hX, hbl, hA, hL⟩ := C0
  refine lv_aload_n hx hb dL_law_204 rfl (lv_at hl 2 rfl) ?_
  refine ld_k C hi hS hl (k := 1) dL_law_205 dL_law_206 dL_law_207 (by decide) dL_law_208 dL_law_209 (by omega) ?_
  refine lv_i2l hx hb dL_law_210 rfl ?_
  refine lv_bipush hx hb dL_law_211 (v := 32) (by decide) ?_
  refine lv_lshl hx hb dL_law_213 rfl ?_
  refine ld_k C hi hS hl (k := 2) dL_law_214 dL_law_215 dL_law_216 (by decide) dL_law_217 dL_law_218 (by omega) ?_
  refine lv_i2l hx hb dL_law_219 rfl ?_
  refine lv_ldc2 hx hb hown (htb _ kl_L_13) dL_law_220 ?_
  refine lv_land hx hb dL_law_223 ?_
  refine lv_lor hx hb dL_law_224 ?_
  refine lawC C (as := [vJ _]) (rest := []) okX10_feed in_X10_feed ml_L_15 rfl (Nat.le_of_ble_eq_true rfl) pz_10_0 (by decide) okX10.1 dL_law_225 (pr_feed hI) hP hS hl ?_
  rintro _ S1 H1 locs1 ⟨v, rfl, h1⟩ hP1 hS1
  refine lv_aload_n hx hb dL_law_228 rfl (lv_at hl 1 rfl) ?_
  refine ld_k C hi hS1 hl (k := 1) dL_law_229 dL_law_230 dL_law_231 (by decide) dL_law_232 dL_law_233 (by omega) ?_
  refine lv_i2l hx hb dL_law_234 rfl ?_
  refine lv_bipush hx hb dL_law_235 (v := 32) (by decide) ?_
  refine lv_lshl hx hb dL_law_237 rfl ?_
  refine ld_k C hi hS1 hl (k := 2) dL_law_238 dL_law_239 dL_law_240 (by decide) dL_law_241 dL_law_242 (by omega) ?_
  refine lv_i2l hx hb dL_law_243 rfl ?_
  refine lv_ldc2 hx hb hown (htb _ kl_L_13) dL_law_244 ?_
  refine lv_land hx hb dL_law_247 ?_
  refine lv_lor hx hb dL_law_248 ?_
  refine lawC C (as := [vJ _]) (rest := [.int v]) okX11_feed in_X11_feed ml_L_19 rfl (Nat.le_of_ble_eq_true rfl) pz_11_0 (by decide) okX11.1 dL_law_249 h1 hP1 hS1 hl ?_
  rintro _ S2 H2 locs2 ⟨_, rfl, rfl, hI2⟩ hP2 hS2
  exact lv_icmp_eq hx hb dL_law_252 (tgt := 1453) (by decide) (fun _ => K S2 H2 locs2 hI2 hP2 hS2) (fun h => absurd rfl h)
theorem lw_c1 (C : lc_ p s m c b L xs G) (hi : i + 5 ≤ L) (hI : Inv S) (hP : va_P G.1 vwCl (pc_ G S) H) (hS : vs_ s H locs) (hl : lh_ G b i lc) (K : ∀ (S : hs_T) (H : Heap) (locs : List Loc), Inv S → va_P G.1 vwCl (pc_ G S) H → vs_ s H locs → W p l e room_1 s m #[Value.ref b] below meth c H locs 60 7914 Z (F0 m 1453 lc [])) : W p l e room_1 s m #[Value.ref b] below meth c H locs 60 7914 Z (F0 m 257 lc []) := by
  have C0 := C
  obtain ⟨hx, hb, hml, hown, htb, hdj, ham, hX, hbl, hA, hL⟩ := C0
  refine lv_aload_n hx hb dL_law_257 rfl (lv_at hl 2 rfl) ?_
  refine ld_k C hi hS hl (k := 1) dL_law_258 dL_law_259 dL_law_260 (by decide) dL_law_261 dL_law_262 (by omega) ?_
  refine lawC C (as := [vI _]) (rest := []) okX10_end in_X10_end ml_L_20 rfl (Nat.le_of_ble_eq_true rfl) pz_10_0 (by decide) okX10.1 dL_law_263 (pr_end hI) hP hS hl ?_
  rintro _ S1 H1 locs1 ⟨v, rfl, h1⟩ hP1 hS1
  refine lv_aload_n hx hb dL_law_266 rfl (lv_at hl 1 rfl) ?_
  refine ld_k C hi hS1 hl (k := 1) dL_law_267 dL_law_268 dL_law_269 (by decide) dL_law_270 dL_law_271 (by omega) ?_
  refine lawC C (as := [vI _]) (rest := [.int v]) okX11_end in_X11_end ml_L_24 rfl (Nat.le_of_ble_eq_true rfl) pz_11_0 (by decide) okX11.1 dL_law_272 h1 hP1 hS1 hl ?_
  rintro _ S2 H2 locs2 ⟨_, rfl, rfl, hI2⟩ hP2 hS2
  exact lv_icmp_eq hx hb dL_law_275 (tgt := 1453) (by decide) (fun _ => K S2 H2 locs2 hI2 hP2 hS2) (fun h => absurd rfl h)
theorem lw_c2 (C : lc_ p s m c b L xs G) (hi : i + 5 ≤ L) (hI : Inv S) (hP : va_P G.1 vwCl (pc_ G S) H) (hS : vs_ s H locs) (hl : lh_ G b i lc) (K : ∀ (S : hs_T) (H : Heap) (locs : List Loc), Inv S → va_P G.1 vwCl (pc_ G S) H → vs_ s H locs → W p l e room_1 s m #[Value.ref b] below meth c H locs 60 7914 Z (F0 m 1453 lc [])) : W p l e room_1 s m #[Value.ref b] below meth c H locs 60 7914 Z (F0 m 280 lc []) := by
  have C0 := C
  obtain ⟨hx, hb, hml, hown, htb, hdj, ham, hX, hbl, hA, hL⟩ := C0
  refine lv_aload_n hx hb dL_law_280 rfl (lv_at hl 2 rfl) ?_
  refine lawC C (as := []) (rest := []) okX10_text in_X10_text ml_L_25 rfl (Nat.le_of_ble_eq_true rfl) pz_10_0 (by decide) okX10.1 dL_law_281 (pr_text hI) hP hS hl ?_
  rintro _ S1 H1 locs1 ⟨v, rfl, h1⟩ hP1 hS1
  refine lv_aload_n hx hb dL_law_284 rfl (lv_at hl 1 rfl) ?_
  refine lawC C (as := []) (rest := [.int v]) okX11_text in_X11_text ml_L_29 rfl (Nat.le_of_ble_eq_true rfl) pz_11_0 (by decide) okX11.1 dL_law_285 h1 hP1 hS1 hl ?_
  rintro _ S2 H2 locs2 ⟨_, rfl, rfl, hI2⟩ hP2 hS2
  exact lv_icmp_eq hx hb dL_law_288 (tgt := 1453) (by decide) (fun _ => K S2 H2 locs2 hI2 hP2 hS2) (fun h => absurd rfl h)
theorem lw_c3 (C : lc_ p s m c b L xs G) (hi : i + 5 ≤ L) (hI : Inv S) (hP : va_P G.1 vwCl (pc_ G S) H) (hS : vs_ s H locs) (hl : lh_ G b i lc) (K : ∀ (S : hs_T) (H : Heap) (locs : List Loc), Inv S → va_P G.1 vwCl (pc_ G S) H → vs_ s H locs → W p l e room_1 s m #[Value.ref b] below meth c H locs 60 7914 Z (F0 m 1453 lc [])) : W p l e room_1 s m #[Value.ref b] below meth c H locs 60 7914 Z (F0 m 293 lc []) := by
  have C0 := C
  obtain ⟨hx, hb, hml, hown, htb, hdj, ham, hX, hbl, hA, hL⟩ := C0
  refine lv_aload_n hx hb dL_law_293 rfl (lv_at hl 2 rfl) ?_
  refine lawC C (as := []) (rest := []) okX10_fault in_X10_fault ml_L_30 rfl (Nat.le_of_ble_eq_true rfl) pz_10_0 (by decide) okX10.1 dL_law_294 (pr_fault hI) hP hS hl ?_
  rintro _ S1 H1 locs1 ⟨v, rfl, h1⟩ hP1 hS1
  refine lv_aload_n hx hb dL_law_297 rfl (lv_at hl 1 rfl) ?_
  refine lawC C (as := []) (rest := [.int v]) okX11_fault in_X11_fault ml_L_33 rfl (Nat.le_of_ble_eq_true rfl) pz_11_0 (by decide) okX11.1 dL_law_298 h1 hP1 hS1 hl ?_
  rintro _ S2 H2 locs2 ⟨_, rfl, rfl, hI2⟩ hP2 hS2
  exact lv_icmp_eq hx hb dL_law_301 (tgt := 1453) (by decide) (fun _ => K S2 H2 locs2 hI2 hP2 hS2) (fun h => absurd rfl h)
theorem lw_c4 (C : lc_ p s m c b L xs G) (hi : i + 5 ≤ L) (hI : Inv S) (hP : va_P G.1 vwCl (pc_ G S) H) (hS : vs_ s H locs) (hl : lh_ G b i lc) (K : ∀ (S : hs_T) (H : Heap) (locs : List Loc), Inv S → va_P G.1 vwCl (pc_ G S) H → vs_ s H locs → W p l e room_1 s m #[Value.ref b] below meth c H locs 60 7914 Z (F0 m 1453 lc [])) : W p l e room_1 s m #[Value.ref b] below meth c H locs 60 7914 Z (F0 m 306 lc []) := by
  have C0 := C
  obtain ⟨hx, hb, hml, hown, htb, hdj, ham, hX, hbl, hA, hL⟩ := C0
  refine lv_aload_n hx hb dL_law_306 rfl (lv_at hl 2 rfl) ?_
  refine ld_k C hi hS hl (k := 1) dL_law_307 dL_law_308 dL_law_309 (by decide) dL_law_310 dL_law_311 (by omega) ?_
  refine lawC C (as := [vI _]) (rest := []) okX10_rule in_X10_rule ml_L_34 rfl (Nat.le_of_ble_eq_true rfl) pz_10_0 (by decide) okX10.1 dL_law_312 (pr_rule hI) hP hS hl ?_
  rintro _ S1 H1 locs1 ⟨v, rfl, h1⟩ hP1 hS1
  refine lv_aload_n hx hb dL_law_315 rfl (lv_at hl 1 rfl) ?_
  refine ld_k C hi hS1 hl (k := 1) dL_law_316 dL_law_317 dL_law_318 (by decide) dL_law_319 dL_law_320 (by omega) ?_
  refine lawC C (as := [vI _]) (rest := [.int v]) okX11_rule in_X11_rule ml_L_37 rfl (Nat.le_of_ble_eq_true rfl) pz_11_0 (by decide) okX11.1 dL_law_321 h1 hP1 hS1 hl ?_
  rintro _ S2 H2 locs2 ⟨_, rfl, rfl, hI2⟩ hP2 hS2
  exact lv_icmp_eq hx hb dL_law_324 (tgt := 1453) (by decide) (fun _ => K S2 H2 locs2 hI2 hP2 hS2) (fun h => absurd rfl h)
theorem lw_c5 (C : lc_ p s m c b L xs G) (hi : i + 5 ≤ L) (hI : Inv S) (hP : va_P G.1 vwCl (pc_ G S) H) (hS : vs_ s H locs) (hl : lh_ G b i lc) (K : ∀ (S : hs_T) (H : Heap) (locs : List Loc), Inv S → va_P G.1 vwCl (pc_ G S) H → vs_ s H locs → W p l e room_1 s m #[Value.ref b] below meth c H locs 60 7914 Z (F0 m 1453 lc [])) : W p l e room_1 s m #[Value.ref b] below meth c H locs 60 7914 Z (F0 m 329 lc []) := by
  have C0 := C
  obtain ⟨hx, hb, hml, hown, htb, hdj, ham, hX, hbl, hA, hL⟩ := C0
  refine lv_aload_n hx hb dL_law_329 rfl (lv_at hl 2 rfl) ?_
  refine ld_k C hi hS hl (k := 1) dL_law_330 dL_law_331 dL_law_332 (by decide) dL_law_333 dL_law_334 (by omega) ?_
  refine ld_k C hi hS hl (k := 2) dL_law_335 dL_law_336 dL_law_337 (by decide) dL_law_338 dL_law_339 (by omega) ?_
  refine ld_k C hi hS hl (k := 3) dL_law_340 dL_law_341 dL_law_342 (by decide) dL_law_343 dL_law_344 (by omega) ?_
  refine lawC C (as := [vI _, vI _, vI _]) (rest := []) okX10_branch in_X10_branch ml_L_38 rfl (Nat.le_of_ble_eq_true rfl) pz_10_0 (by decide) okX10.1 dL_law_345 (pr_branch hI) hP hS hl ?_
  rintro _ S1 H1 locs1 ⟨v, rfl, h1⟩ hP1 hS1
  refine lv_aload_n hx hb dL_law_348 rfl (lv_at hl 1 rfl) ?_
  refine ld_k C hi hS1 hl (k := 1) dL_law_349 dL_law_350 dL_law_351 (by decide) dL_law_352 dL_law_353 (by omega) ?_
  refine ld_k C hi hS1 hl (k := 2) dL_law_354 dL_law_355 dL_law_356 (by decide) dL_law_357 dL_law_358 (by omega) ?_
  refine ld_k C hi hS1 hl (k := 3) dL_law_359 dL_law_360 dL_law_361 (by decide) dL_law_362 dL_law_363 (by omega) ?_
  refine lawC C (as := [vI _, vI _, vI _]) (rest := [.int v]) okX11_branch in_X11_branch ml_L_42 rfl (Nat.le_of_ble_eq_true rfl) pz_11_0 (by decide) okX11.1 dL_law_364 h1 hP1 hS1 hl ?_
  rintro _ S2 H2 locs2 ⟨_, rfl, rfl, hI2⟩ hP2 hS2
  exact lv_icmp_eq hx hb dL_law_367 (tgt := 1453) (by decide) (fun _ => K S2 H2 locs2 hI2 hP2 hS2) (fun h => absurd rfl h)
theorem lw_c6 (C : lc_ p s m c b L xs G) (hi : i + 5 ≤ L) (hI : Inv S) (hP : va_P G.1 vwCl (pc_ G S) H) (hS : vs_ s H locs) (hl : lh_ G b i lc) (K : ∀ (S : hs_T) (H : Heap) (locs : List Loc), Inv S → va_P G.1 vwCl (pc_ G S) H → vs_ s H locs → W p l e room_1 s m #[Value.ref b] below meth c H locs 60 7914 Z (F0 m 1453 lc [])) : W p l e room_1 s m #[Value.ref b] below meth c H locs 60 7914 Z (F0 m 372 lc []) := by
  have C0 := C
  obtain ⟨hx, hb, hml, hown, htb, hdj, ham, hX, hbl, hA, hL⟩ := C0
  refine lv_aload_n hx hb dL_law_372 rfl (lv_at hl 2 rfl) ?_
  refine ld_k C hi hS hl (k := 1) dL_law_373 dL_law_374 dL_law_375 (by decide) dL_law_376 dL_law_377 (by omega) ?_
  refine ld_k C hi hS hl (k := 2) dL_law_378 dL_law_379 dL_law_380 (by decide) dL_law_381 dL_law_382 (by omega) ?_
  refine lawC C (as := [vI _, vI _]) (rest := []) okX10_see in_X10_see ml_L_43 rfl (Nat.le_of_ble_eq_true rfl) pz_10_0 (by decide) okX10.1 dL_law_383 (pr_see hI) hP hS hl ?_
  rintro _ S1 H1 locs1 ⟨v, rfl, h1⟩ hP1 hS1
  refine lv_aload_n hx hb dL_law_386 rfl (lv_at hl 1 rfl) ?_
  refine ld_k C hi hS1 hl (k := 1) dL_law_387 dL_law_388 dL_law_389 (by decide) dL_law_390 dL_law_391 (by omega) ?_
  refine ld_k C hi hS1 hl (k := 2) dL_law_392 dL_law_393 dL_law_394 (by decide) dL_law_395 dL_law_396 (by omega) ?_
  refine lawC C (as := [vI _, vI _]) (rest := [.int v]) okX11_see in_X11_see ml_L_47 rfl (Nat.le_of_ble_eq_true rfl) pz_11_0 (by decide) okX11.1 dL_law_397 h1 hP1 hS1 hl ?_
  rintro _ S2 H2 locs2 ⟨_, rfl, rfl, hI2⟩ hP2 hS2
  exact lv_icmp_eq hx hb dL_law_400 (tgt := 1453) (by decide) (fun _ => K S2 H2 locs2 hI2 hP2 hS2) (fun h => absurd rfl h)
theorem lw_c7 (C : lc_ p s m c b L xs G) (hi : i + 5 ≤ L) (hI : Inv S) (hP : va_P G.1 vwCl (pc_ G S) H) (hS : vs_ s H locs) (hl : lh_ G b i lc) (K : ∀ (S : hs_T) (H : Heap) (locs : List Loc), Inv S → va_P G.1 vwCl (pc_ G S) H → vs_ s H locs → W p l e room_1 s m #[Value.ref b] below meth c H locs 60 7914 Z (F0 m 1453 lc [])) : W p l e room_1 s m #[Value.ref b] below meth c H locs 60 7914 Z (F0 m 405 lc []) := by
  have C0 := C
  obtain ⟨hx, hb, hml, hown, htb, hdj, ham, hX, hbl, hA, hL⟩ := C0
  refine lv_aload_n hx hb dL_law_405 rfl (lv_at hl 2 rfl) ?_
  refine ld_k C hi hS hl (k := 1) dL_law_406 dL_law_407 dL_law_408 (by decide) dL_law_409 dL_law_410 (by omega) ?_
  refine lawC C (as := [vI _]) (rest := []) okX10_cut in_X10_cut ml_L_48 rfl (Nat.le_of_ble_eq_true rfl) pz_10_0 (by decide) okX10.1 dL_law_411 (pr_cut hI) hP hS hl ?_
  rintro _ S1 H1 locs1 ⟨v, rfl, h1⟩ hP1 hS1
  refine lv_aload_n hx hb dL_law_414 rfl (lv_at hl 1 rfl) ?_
  refine ld_k C hi hS1 hl (k := 1) dL_law_415 dL_law_416 dL_law_417 (by decide) dL_law_418 dL_law_419 (by omega) ?_
  refine lawC C (as := [vI _]) (rest := [.int v]) okX11_cut in_X11_cut ml_L_51 rfl (Nat.le_of_ble_eq_true rfl) pz_11_0 (by decide) okX11.1 dL_law_420 h1 hP1 hS1 hl ?_
  rintro _ S2 H2 locs2 ⟨_, rfl, rfl, hI2⟩ hP2 hS2
  exact lv_icmp_eq hx hb dL_law_423 (tgt := 1453) (by decide) (fun _ => K S2 H2 locs2 hI2 hP2 hS2) (fun h => absurd rfl h)
theorem lw_c8 (C : lc_ p s m c b L xs G) (hi : i + 5 ≤ L) (hI : Inv S) (hP : va_P G.1 vwCl (pc_ G S) H) (hS : vs_ s H locs) (hl : lh_ G b i lc) (K : ∀ (S : hs_T) (H : Heap) (locs : List Loc), Inv S → va_P G.1 vwCl (pc_ G S) H → vs_ s H locs → W p l e room_1 s m #[Value.ref b] below meth c H locs 60 7914 Z (F0 m 1453 lc [])) : W p l e room_1 s m #[Value.ref b] below meth c H locs 60 7914 Z (F0 m 428 lc []) := by
  have C0 := C
  obtain ⟨hx, hb, hml, hown, htb, hdj, ham, hX, hbl, hA, hL⟩ := C0
  refine lv_aload_n hx hb dL_law_428 rfl (lv_at hl 2 rfl) ?_
  refine ld_k C hi hS hl (k := 1) dL_law_429 dL_law_430 dL_law_431 (by decide) dL_law_432 dL_law_433 (by omega) ?_
  refine lawC C (as := [vI _]) (rest := []) okX10_at in_X10_at ml_L_52 rfl (Nat.le_of_ble_eq_true rfl) pz_10_0 (by decide) okX10.1 dL_law_434 (pr_at hI) hP hS hl ?_
  rintro _ S1 H1 locs1 ⟨v, rfl, h1⟩ hP1 hS1
  refine lv_aload_n hx hb dL_law_437 rfl (lv_at hl 1 rfl) ?_
  refine ld_k C hi hS1 hl (k := 1) dL_law_438 dL_law_439 dL_law_440 (by decide) dL_law_441 dL_law_442 (by omega) ?_
  refine lawC C (as := [vI _]) (rest := [.int v]) okX11_at in_X11_at ml_L_55 rfl (Nat.le_of_ble_eq_true rfl) pz_11_0 (by decide) okX11.1 dL_law_443 h1 hP1 hS1 hl ?_
  rintro _ S2 H2 locs2 ⟨_, rfl, rfl, hI2⟩ hP2 hS2
  exact lv_icmp_eq hx hb dL_law_446 (tgt := 1453) (by decide) (fun _ => K S2 H2 locs2 hI2 hP2 hS2) (fun h => absurd rfl h)
theorem lw_c9 (C : lc_ p s m c b L xs G) (hi : i + 5 ≤ L) (hI : Inv S) (hP : va_P G.1 vwCl (pc_ G S) H) (hS : vs_ s H locs) (hl : lh_ G b i lc) (K : ∀ (S : hs_T) (H : Heap) (locs : List Loc), Inv S → va_P G.1 vwCl (pc_ G S) H → vs_ s H locs → W p l e room_1 s m #[Value.ref b] below meth c H locs 60 7914 Z (F0 m 1453 lc [])) : W p l e room_1 s m #[Value.ref b] below meth c H locs 60 7914 Z (F0 m 451 lc []) := by
  have C0 := C
  obtain ⟨hx, hb, hml, hown, htb, hdj, ham, hX, hbl, hA, hL⟩ := C0
  refine lv_aload_n hx hb dL_law_451 rfl (lv_at hl 2 rfl) ?_
  refine ld_k C hi hS hl (k := 1) dL_law_452 dL_law_453 dL_law_454 (by decide) dL_law_455 dL_law_456 (by omega) ?_
  refine ld_k C hi hS hl (k := 2) dL_law_457 dL_law_458 dL_law_459 (by decide) dL_law_460 dL_law_461 (by omega) ?_
  refine lawC C (as := [vI _, vI _]) (rest := []) okX10_put in_X10_put ml_L_56 rfl (Nat.le_of_ble_eq_true rfl) pz_10_0 (by decide) okX10.1 dL_law_462 (pr_put hI) hP hS hl ?_
  rintro _ S1 H1 locs1 ⟨v, rfl, h1⟩ hP1 hS1
  refine lv_aload_n hx hb dL_law_465 rfl (lv_at hl 1 rfl) ?_
  refine ld_k C hi hS1 hl (k := 1) dL_law_466 dL_law_467 dL_law_468 (by decide) dL_law_469 dL_law_470 (by omega) ?_
  refine ld_k C hi hS1 hl (k := 2) dL_law_471 dL_law_472 dL_law_473 (by decide) dL_law_474 dL_law_475 (by omega) ?_
  refine lawC C (as := [vI _, vI _]) (rest := [.int v]) okX11_put in_X11_put ml_L_59 rfl (Nat.le_of_ble_eq_true rfl) pz_11_0 (by decide) okX11.1 dL_law_476 h1 hP1 hS1 hl ?_
  rintro _ S2 H2 locs2 ⟨_, rfl, rfl, hI2⟩ hP2 hS2
  exact lv_icmp_eq hx hb dL_law_479 (tgt := 1453) (by decide) (fun _ => K S2 H2 locs2 hI2 hP2 hS2) (fun h => absurd rfl h)
theorem lw_c10 (C : lc_ p s m c b L xs G) (hi : i + 5 ≤ L) (hI : Inv S) (hP : va_P G.1 vwCl (pc_ G S) H) (hS : vs_ s H locs) (hl : lh_ G b i lc) (K : ∀ (S : hs_T) (H : Heap) (locs : List Loc), Inv S → va_P G.1 vwCl (pc_ G S) H → vs_ s H locs → W p l e room_1 s m #[Value.ref b] below meth c H locs 60 7914 Z (F0 m 1453 lc [])) : W p l e room_1 s m #[Value.ref b] below meth c H locs 60 7914 Z (F0 m 484 lc []) := by
  have C0 := C
  obtain ⟨hx, hb, hml, hown, htb, hdj, ham, hX, hbl, hA, hL⟩ := C0
  refine lv_aload_n hx hb dL_law_484 rfl (lv_at hl 2 rfl) ?_
  refine ld_k C hi hS hl (k := 1) dL_law_485 dL_law_486 dL_law_487 (by decide) dL_law_488 dL_law_489 (by omega) ?_
  refine lawC C (as := [vI _]) (rest := []) okX10_run in_X10_run ml_L_60 rfl (Nat.le_of_ble_eq_true rfl) pz_10_0 (by decide) okX10.1 dL_law_490 (pr_run hI) hP hS hl ?_
  rintro _ S1 H1 locs1 ⟨v, rfl, h1⟩ hP1 hS1
  refine lv_aload_n hx hb dL_law_493 rfl (lv_at hl 1 rfl) ?_
  refine ld_k C hi hS1 hl (k := 1) dL_law_494 dL_law_495 dL_law_496 (by decide) dL_law_497 dL_law_498 (by omega) ?_
  refine lawC C (as := [vI _]) (rest := [.int v]) okX11_run in_X11_run ml_L_63 rfl (Nat.le_of_ble_eq_true rfl) pz_11_0 (by decide) okX11.1 dL_law_499 h1 hP1 hS1 hl ?_
  rintro _ S2 H2 locs2 ⟨_, rfl, rfl, hI2⟩ hP2 hS2
  exact lv_icmp_eq hx hb dL_law_502 (tgt := 1453) (by decide) (fun _ => K S2 H2 locs2 hI2 hP2 hS2) (fun h => absurd rfl h)
theorem lw_c11 (C : lc_ p s m c b L xs G) (hi : i + 5 ≤ L) (hI : Inv S) (hP : va_P G.1 vwCl (pc_ G S) H) (hS : vs_ s H locs) (hl : lh_ G b i lc) (K : ∀ (S : hs_T) (H : Heap) (locs : List Loc), Inv S → va_P G.1 vwCl (pc_ G S) H → vs_ s H locs → W p l e room_1 s m #[Value.ref b] below meth c H locs 60 7914 Z (F0 m 1453 lc [])) : W p l e room_1 s m #[Value.ref b] below meth c H locs 60 7914 Z (F0 m 507 lc []) := by
  have C0 := C
  obtain ⟨hx, hb, hml, hown, htb, hdj, ham, hX, hbl, hA, hL⟩ := C0
  refine lv_aload_n hx hb dL_law_507 rfl (lv_at hl 2 rfl) ?_
  refine ld_k C hi hS hl (k := 1) dL_law_508 dL_law_509 dL_law_510 (by decide) dL_law_511 dL_law_512 (by omega) ?_
  refine lawC C (as := [vI _]) (rest := []) okX10_state in_X10_state ml_L_64 rfl (Nat.le_of_ble_eq_true rfl) pz_10_0 (by decide) okX10.1 dL_law_513 (pr_state hI) hP hS hl ?_
  rintro _ S1 H1 locs1 ⟨v, rfl, h1⟩ hP1 hS1
  refine lv_aload_n hx hb dL_law_516 rfl (lv_at hl 1 rfl) ?_
  refine ld_k C hi hS1 hl (k := 1) dL_law_517 dL_law_518 dL_law_519 (by decide) dL_law_520 dL_law_521 (by omega) ?_
  refine lawC C (as := [vI _]) (rest := [.int v]) okX11_state in_X11_state ml_L_67 rfl (Nat.le_of_ble_eq_true rfl) pz_11_0 (by decide) okX11.1 dL_law_522 h1 hP1 hS1 hl ?_
  rintro _ S2 H2 locs2 ⟨_, rfl, rfl, hI2⟩ hP2 hS2
  exact lv_icmp_eq hx hb dL_law_525 (tgt := 1453) (by decide) (fun _ => K S2 H2 locs2 hI2 hP2 hS2) (fun h => absurd rfl h)
theorem lw_c12 (C : lc_ p s m c b L xs G) (hi : i + 5 ≤ L) (hI : Inv S) (hP : va_P G.1 vwCl (pc_ G S) H) (hS : vs_ s H locs) (hl : lh_ G b i lc) (K : ∀ (S : hs_T) (H : Heap) (locs : List Loc), Inv S → va_P G.1 vwCl (pc_ G S) H → vs_ s H locs → W p l e room_1 s m #[Value.ref b] below meth c H locs 60 7914 Z (F0 m 1453 lc [])) : W p l e room_1 s m #[Value.ref b] below meth c H locs 60 7914 Z (F0 m 530 lc []) := by
  have C0 := C
  obtain ⟨hx, hb, hml, hown, htb, hdj, ham, hX, hbl, hA, hL⟩ := C0
  refine lv_aload_n hx hb dL_law_530 rfl (lv_at hl 2 rfl) ?_
  refine ld_k C hi hS hl (k := 1) dL_law_531 dL_law_532 dL_law_533 (by decide) dL_law_534 dL_law_535 (by omega) ?_
  refine lawC C (as := [vI _]) (rest := []) okX10_stored in_X10_stored ml_L_68 rfl (Nat.le_of_ble_eq_true rfl) pz_10_0 (by decide) okX10.1 dL_law_536 (pr_stored hI) hP hS hl ?_
  rintro _ S1 H1 locs1 ⟨v, rfl, h1⟩ hP1 hS1
  refine lv_aload_n hx hb dL_law_539 rfl (lv_at hl 1 rfl) ?_
  refine ld_k C hi hS1 hl (k := 1) dL_law_540 dL_law_541 dL_law_542 (by decide) dL_law_543 dL_law_544 (by omega) ?_
  refine lawC C (as := [vI _]) (rest := [.int v]) okX11_stored in_X11_stored ml_L_71 rfl (Nat.le_of_ble_eq_true rfl) pz_11_0 (by decide) okX11.1 dL_law_545 h1 hP1 hS1 hl ?_
  rintro _ S2 H2 locs2 ⟨_, rfl, rfl, hI2⟩ hP2 hS2
  exact lv_icmp_eq hx hb dL_law_548 (tgt := 1453) (by decide) (fun _ => K S2 H2 locs2 hI2 hP2 hS2) (fun h => absurd rfl h)
theorem lw_c13 (C : lc_ p s m c b L xs G) (hi : i + 5 ≤ L) (hI : Inv S) (hP : va_P G.1 vwCl (pc_ G S) H) (hS : vs_ s H locs) (hl : lh_ G b i lc) (K : ∀ (S : hs_T) (H : Heap) (locs : List Loc), Inv S → va_P G.1 vwCl (pc_ G S) H → vs_ s H locs → W p l e room_1 s m #[Value.ref b] below meth c H locs 60 7914 Z (F0 m 1453 lc [])) : W p l e room_1 s m #[Value.ref b] below meth c H locs 60 7914 Z (F0 m 553 lc []) := by
  have C0 := C
  obtain ⟨hx, hb, hml, hown, htb, hdj, ham, hX, hbl, hA, hL⟩ := C0
  refine lv_aload_n hx hb dL_law_553 rfl (lv_at hl 2 rfl) ?_
  refine ld_k C hi hS hl (k := 1) dL_law_554 dL_law_555 dL_law_556 (by decide) dL_law_557 dL_law_558 (by omega) ?_
  refine lawC C (as := [vI _]) (rest := []) okX10_next in_X10_next ml_L_72 rfl (Nat.le_of_ble_eq_true rfl) pz_10_0 (by decide) okX10.1 dL_law_559 (pr_next hI) hP hS hl ?_
  rintro _ S1 H1 locs1 ⟨v, rfl, h1⟩ hP1 hS1
  refine lv_aload_n hx hb dL_law_562 rfl (lv_at hl 1 rfl) ?_
  refine ld_k C hi hS1 hl (k := 1) dL_law_563 dL_law_564 dL_law_565 (by decide) dL_law_566 dL_law_567 (by omega) ?_
  refine lawC C (as := [vI _]) (rest := [.int v]) okX11_next in_X11_next ml_L_75 rfl (Nat.le_of_ble_eq_true rfl) pz_11_0 (by decide) okX11.1 dL_law_568 h1 hP1 hS1 hl ?_
  rintro _ S2 H2 locs2 ⟨_, rfl, rfl, hI2⟩ hP2 hS2
  exact lv_icmp_eq hx hb dL_law_571 (tgt := 1453) (by decide) (fun _ => K S2 H2 locs2 hI2 hP2 hS2) (fun h => absurd rfl h)
theorem lw_c14 (C : lc_ p s m c b L xs G) (hi : i + 5 ≤ L) (hI : Inv S) (hP : va_P G.1 vwCl (pc_ G S) H) (hS : vs_ s H locs) (hl : lh_ G b i lc) (K : ∀ (S : hs_T) (H : Heap) (locs : List Loc), Inv S → va_P G.1 vwCl (pc_ G S) H → vs_ s H locs → W p l e room_1 s m #[Value.ref b] below meth c H locs 60 7914 Z (F0 m 1453 lc [])) : W p l e room_1 s m #[Value.ref b] below meth c H locs 60 7914 Z (F0 m 576 lc []) := by
  have C0 := C
  obtain ⟨hx, hb, hml, hown, htb, hdj, ham, hX, hbl, hA, hL⟩ := C0
  refine lv_aload_n hx hb dL_law_576 rfl (lv_at hl 2 rfl) ?_
  refine ld_k C hi hS hl (k := 1) dL_law_577 dL_law_578 dL_law_579 (by decide) dL_law_580 dL_law_581 (by omega) ?_
  refine ld_k C hi hS hl (k := 2) dL_law_582 dL_law_583 dL_law_584 (by decide) dL_law_585 dL_law_586 (by omega) ?_
  refine bz_ hx hb dL_law_587 dL_law_590 dL_law_591 dL_law_594 ?_
  refine lawC C (as := [vI _, vI (bi_ _)]) (rest := []) okX10_edges in_X10_edges ml_L_76 rfl (Nat.le_of_ble_eq_true rfl) pz_10_0 (by decide) okX10.1 dL_law_595 (pr_edges hI) hP hS hl ?_
  rintro _ S1 H1 locs1 ⟨v, rfl, h1⟩ hP1 hS1
  refine lv_aload_n hx hb dL_law_598 rfl (lv_at hl 1 rfl) ?_
  refine ld_k C hi hS1 hl (k := 1) dL_law_599 dL_law_600 dL_law_601 (by decide) dL_law_602 dL_law_603 (by omega) ?_
  refine ld_k C hi hS1 hl (k := 2) dL_law_604 dL_law_605 dL_law_606 (by decide) dL_law_607 dL_law_608 (by omega) ?_
  refine bz_ hx hb dL_law_609 dL_law_612 dL_law_613 dL_law_616 ?_
  refine lawC C (as := [vI _, vI (bi_ _)]) (rest := [.int v]) okX11_edges in_X11_edges ml_L_80 rfl (Nat.le_of_ble_eq_true rfl) pz_11_0 (by decide) okX11.1 dL_law_617 h1 hP1 hS1 hl ?_
  rintro _ S2 H2 locs2 ⟨_, rfl, rfl, hI2⟩ hP2 hS2
  exact lv_icmp_eq hx hb dL_law_620 (tgt := 1453) (by decide) (fun _ => K S2 H2 locs2 hI2 hP2 hS2) (fun h => absurd rfl h)
theorem lw_c15 (C : lc_ p s m c b L xs G) (hi : i + 5 ≤ L) (hI : Inv S) (hP : va_P G.1 vwCl (pc_ G S) H) (hS : vs_ s H locs) (hl : lh_ G b i lc) (K : ∀ (S : hs_T) (H : Heap) (locs : List Loc), Inv S → va_P G.1 vwCl (pc_ G S) H → vs_ s H locs → W p l e room_1 s m #[Value.ref b] below meth c H locs 60 7914 Z (F0 m 1453 lc [])) : W p l e room_1 s m #[Value.ref b] below meth c H locs 60 7914 Z (F0 m 625 lc []) := by
  have C0 := C
  obtain ⟨hx, hb, hml, hown, htb, hdj, ham, hX, hbl, hA, hL⟩ := C0
  refine lv_aload_n hx hb dL_law_625 rfl (lv_at hl 2 rfl) ?_
  refine ld_k C hi hS hl (k := 1) dL_law_626 dL_law_627 dL_law_628 (by decide) dL_law_629 dL_law_630 (by omega) ?_
  refine ld_k C hi hS hl (k := 2) dL_law_631 dL_law_632 dL_law_633 (by decide) dL_law_634 dL_law_635 (by omega) ?_
  refine bz_ hx hb dL_law_636 dL_law_639 dL_law_640 dL_law_643 ?_
  refine ld_k C hi hS hl (k := 3) dL_law_644 dL_law_645 dL_law_646 (by decide) dL_law_647 dL_law_648 (by omega) ?_
  refine lawC C (as := [vI _, vI (bi_ _), vI _]) (rest := []) okX10_edge in_X10_edge ml_L_81 rfl (Nat.le_of_ble_eq_true rfl) pz_10_0 (by decide) okX10.1 dL_law_649 (pr_edge hI) hP hS hl ?_
  rintro _ S1 H1 locs1 ⟨v, rfl, h1⟩ hP1 hS1
  refine lv_aload_n hx hb dL_law_652 rfl (lv_at hl 1 rfl) ?_
  refine ld_k C hi hS1 hl (k := 1) dL_law_653 dL_law_654 dL_law_655 (by decide) dL_law_656 dL_law_657 (by omega) ?_
  refine ld_k C hi hS1 hl (k := 2) dL_law_658 dL_law_659 dL_law_660 (by decide) dL_law_661 dL_law_662 (by omega) ?_
  refine bz_ hx hb dL_law_663 dL_law_666 dL_law_667 dL_law_670 ?_
  refine ld_k C hi hS1 hl (k := 3) dL_law_671 dL_law_672 dL_law_673 (by decide) dL_law_674 dL_law_675 (by omega) ?_
  refine lawC C (as := [vI _, vI (bi_ _), vI _]) (rest := [.int v]) okX11_edge in_X11_edge ml_L_85 rfl (Nat.le_of_ble_eq_true rfl) pz_11_0 (by decide) okX11.1 dL_law_676 h1 hP1 hS1 hl ?_
  rintro _ S2 H2 locs2 ⟨_, rfl, rfl, hI2⟩ hP2 hS2
  exact lv_icmp_eq hx hb dL_law_679 (tgt := 1453) (by decide) (fun _ => K S2 H2 locs2 hI2 hP2 hS2) (fun h => absurd rfl h)
theorem lw_c16 (C : lc_ p s m c b L xs G) (hi : i + 5 ≤ L) (hI : Inv S) (hP : va_P G.1 vwCl (pc_ G S) H) (hS : vs_ s H locs) (hl : lh_ G b i lc) (K : ∀ (S : hs_T) (H : Heap) (locs : List Loc), Inv S → va_P G.1 vwCl (pc_ G S) H → vs_ s H locs → W p l e room_1 s m #[Value.ref b] below meth c H locs 60 7914 Z (F0 m 1453 lc [])) : W p l e room_1 s m #[Value.ref b] below meth c H locs 60 7914 Z (F0 m 684 lc []) := by
  have C0 := C
  obtain ⟨hx, hb, hml, hown, htb, hdj, ham, hX, hbl, hA, hL⟩ := C0
  refine lv_aload_n hx hb dL_law_684 rfl (lv_at hl 2 rfl) ?_
  refine ld_k C hi hS hl (k := 1) dL_law_685 dL_law_686 dL_law_687 (by decide) dL_law_688 dL_law_689 (by omega) ?_
  refine ld_k C hi hS hl (k := 2) dL_law_690 dL_law_691 dL_law_692 (by decide) dL_law_693 dL_law_694 (by omega) ?_
  refine ld_k C hi hS hl (k := 3) dL_law_695 dL_law_696 dL_law_697 (by decide) dL_law_698 dL_law_699 (by omega) ?_
  refine lawC C (as := [vI _, vI _, vI _]) (rest := []) okX10_pulse in_X10_pulse ml_L_86 rfl (Nat.le_of_ble_eq_true rfl) pz_10_0 (by decide) okX10.1 dL_law_700 (pr_pulse hI) hP hS hl ?_
  rintro _ S1 H1 locs1 ⟨v, rfl, h1⟩ hP1 hS1
  refine lv_aload_n hx hb dL_law_703 rfl (lv_at hl 1 rfl) ?_
  refine ld_k C hi hS1 hl (k := 1) dL_law_704 dL_law_705 dL_law_706 (by decide) dL_law_707 dL_law_708 (by omega) ?_
  refine ld_k C hi hS1 hl (k := 2) dL_law_709 dL_law_710 dL_law_711 (by decide) dL_law_712 dL_law_713 (by omega) ?_
  refine ld_k C hi hS1 hl (k := 3) dL_law_714 dL_law_715 dL_law_716 (by decide) dL_law_717 dL_law_718 (by omega) ?_
  refine lawC C (as := [vI _, vI _, vI _]) (rest := [.int v]) okX11_pulse in_X11_pulse ml_L_89 rfl (Nat.le_of_ble_eq_true rfl) pz_11_0 (by decide) okX11.1 dL_law_719 h1 hP1 hS1 hl ?_
  rintro _ S2 H2 locs2 ⟨_, rfl, rfl, hI2⟩ hP2 hS2
  exact lv_icmp_eq hx hb dL_law_722 (tgt := 1453) (by decide) (fun _ => K S2 H2 locs2 hI2 hP2 hS2) (fun h => absurd rfl h)
theorem lw_c17 (C : lc_ p s m c b L xs G) (hi : i + 5 ≤ L) (hI : Inv S) (hP : va_P G.1 vwCl (pc_ G S) H) (hS : vs_ s H locs) (hl : lh_ G b i lc) (K : ∀ (S : hs_T) (H : Heap) (locs : List Loc), Inv S → va_P G.1 vwCl (pc_ G S) H → vs_ s H locs → W p l e room_1 s m #[Value.ref b] below meth c H locs 60 7914 Z (F0 m 1453 lc [])) : W p l e room_1 s m #[Value.ref b] below meth c H locs 60 7914 Z (F0 m 727 lc []) := by
  have C0 := C
  obtain ⟨hx, hb, hml, hown, htb, hdj, ham, hX, hbl, hA, hL⟩ := C0
  refine lv_aload_n hx hb dL_law_727 rfl (lv_at hl 2 rfl) ?_
  refine ld_k C hi hS hl (k := 1) dL_law_728 dL_law_729 dL_law_730 (by decide) dL_law_731 dL_law_732 (by omega) ?_
  refine ld_k C hi hS hl (k := 2) dL_law_733 dL_law_734 dL_law_735 (by decide) dL_law_736 dL_law_737 (by omega) ?_
  refine lawC C (as := [vI _, vI _]) (rest := []) okX10_duty in_X10_duty ml_L_90 rfl (Nat.le_of_ble_eq_true rfl) pz_10_0 (by decide) okX10.1 dL_law_738 (pr_duty hI) hP hS hl ?_
  rintro _ S1 H1 locs1 ⟨v, rfl, h1⟩ hP1 hS1
  refine lv_aload_n hx hb dL_law_741 rfl (lv_at hl 1 rfl) ?_
  refine ld_k C hi hS1 hl (k := 1) dL_law_742 dL_law_743 dL_law_744 (by decide) dL_law_745 dL_law_746 (by omega) ?_
  refine ld_k C hi hS1 hl (k := 2) dL_law_747 dL_law_748 dL_law_749 (by decide) dL_law_750 dL_law_751 (by omega) ?_
  refine lawC C (as := [vI _, vI _]) (rest := [.int v]) okX11_duty in_X11_duty ml_L_93 rfl (Nat.le_of_ble_eq_true rfl) pz_11_0 (by decide) okX11.1 dL_law_752 h1 hP1 hS1 hl ?_
  rintro _ S2 H2 locs2 ⟨_, rfl, rfl, hI2⟩ hP2 hS2
  exact lv_icmp_eq hx hb dL_law_755 (tgt := 1453) (by decide) (fun _ => K S2 H2 locs2 hI2 hP2 hS2) (fun h => absurd rfl h)
theorem lw_c18 (C : lc_ p s m c b L xs G) (hi : i + 5 ≤ L) (hI : Inv S) (hP : va_P G.1 vwCl (pc_ G S) H) (hS : vs_ s H locs) (hl : lh_ G b i lc) (K : ∀ (S : hs_T) (H : Heap) (locs : List Loc), Inv S → va_P G.1 vwCl (pc_ G S) H → vs_ s H locs → W p l e room_1 s m #[Value.ref b] below meth c H locs 60 7914 Z (F0 m 1453 lc [])) : W p l e room_1 s m #[Value.ref b] below meth c H locs 60 7914 Z (F0 m 760 lc []) := by
  have C0 := C
  obtain ⟨hx, hb, hml, hown, htb, hdj, ham, hX, hbl, hA, hL⟩ := C0
  refine lv_aload_n hx hb dL_law_760 rfl (lv_at hl 2 rfl) ?_
  refine ld_k C hi hS hl (k := 1) dL_law_761 dL_law_762 dL_law_763 (by decide) dL_law_764 dL_law_765 (by omega) ?_
  refine ld_k C hi hS hl (k := 2) dL_law_766 dL_law_767 dL_law_768 (by decide) dL_law_769 dL_law_770 (by omega) ?_
  refine lawC C (as := [vI _, vI _]) (rest := []) okX10_shorter in_X10_shorter ml_L_94 rfl (Nat.le_of_ble_eq_true rfl) pz_10_0 (by decide) okX10.1 dL_law_771 (pr_shorter hI) hP hS hl ?_
  rintro _ S1 H1 locs1 ⟨v, rfl, h1⟩ hP1 hS1
  refine lv_aload_n hx hb dL_law_774 rfl (lv_at hl 1 rfl) ?_
  refine ld_k C hi hS1 hl (k := 1) dL_law_775 dL_law_776 dL_law_777 (by decide) dL_law_778 dL_law_779 (by omega) ?_
  refine ld_k C hi hS1 hl (k := 2) dL_law_780 dL_law_781 dL_law_782 (by decide) dL_law_783 dL_law_784 (by omega) ?_
  refine lawC C (as := [vI _, vI _]) (rest := [.int v]) okX11_shorter in_X11_shorter ml_L_97 rfl (Nat.le_of_ble_eq_true rfl) pz_11_0 (by decide) okX11.1 dL_law_785 h1 hP1 hS1 hl ?_
  rintro _ S2 H2 locs2 ⟨_, rfl, rfl, hI2⟩ hP2 hS2
  exact lv_icmp_eq hx hb dL_law_788 (tgt := 1453) (by decide) (fun _ => K S2 H2 locs2 hI2 hP2 hS2) (fun h => absurd rfl h)
theorem lw_c19 (C : lc_ p s m c b L xs G) (hi : i + 5 ≤ L) (hI : Inv S) (hP : va_P G.1 vwCl (pc_ G S) H) (hS : vs_ s H locs) (hl : lh_ G b i lc) (K : ∀ (S : hs_T) (H : Heap) (locs : List Loc), Inv S → va_P G.1 vwCl (pc_ G S) H → vs_ s H locs → W p l e room_1 s m #[Value.ref b] below meth c H locs 60 7914 Z (F0 m 1453 lc [])) : W p l e room_1 s m #[Value.ref b] below meth c H locs 60 7914 Z (F0 m 793 lc []) := by
  have C0 := C
  obtain ⟨hx, hb, hml, hown, htb, hdj, ham, hX, hbl, hA, hL⟩ := C0
  refine lv_aload_n hx hb dL_law_793 rfl (lv_at hl 2 rfl) ?_
  refine ld_k C hi hS hl (k := 1) dL_law_794 dL_law_795 dL_law_796 (by decide) dL_law_797 dL_law_798 (by omega) ?_
  refine lawC C (as := [vI _]) (rest := []) okX10_smooth in_X10_smooth ml_L_98 rfl (Nat.le_of_ble_eq_true rfl) pz_10_0 (by decide) okX10.1 dL_law_799 (pr_smooth hI) hP hS hl ?_
  rintro _ S1 H1 locs1 ⟨v, rfl, h1⟩ hP1 hS1
  refine lv_aload_n hx hb dL_law_802 rfl (lv_at hl 1 rfl) ?_
  refine ld_k C hi hS1 hl (k := 1) dL_law_803 dL_law_804 dL_law_805 (by decide) dL_law_806 dL_law_807 (by omega) ?_
  refine lawC C (as := [vI _]) (rest := [.int v]) okX11_smooth in_X11_smooth ml_L_101 rfl (Nat.le_of_ble_eq_true rfl) pz_11_0 (by decide) okX11.1 dL_law_808 h1 hP1 hS1 hl ?_
  rintro _ S2 H2 locs2 ⟨_, rfl, rfl, hI2⟩ hP2 hS2
  exact lv_icmp_eq hx hb dL_law_811 (tgt := 1453) (by decide) (fun _ => K S2 H2 locs2 hI2 hP2 hS2) (fun h => absurd rfl h)
theorem lw_c20 (C : lc_ p s m c b L xs G) (hi : i + 5 ≤ L) (hI : Inv S) (hP : va_P G.1 vwCl (pc_ G S) H) (hS : vs_ s H locs) (hl : lh_ G b i lc) (K : ∀ (S : hs_T) (H : Heap) (locs : List Loc), Inv S → va_P G.1 vwCl (pc_ G S) H → vs_ s H locs → W p l e room_1 s m #[Value.ref b] below meth c H locs 60 7914 Z (F0 m 1453 lc [])) : W p l e room_1 s m #[Value.ref b] below meth c H locs 60 7914 Z (F0 m 816 lc []) := by
  have C0 := C
  obtain ⟨hx, hb, hml, hown, htb, hdj, ham, hX, hbl, hA, hL⟩ := C0
  refine lv_aload_n hx hb dL_law_816 rfl (lv_at hl 2 rfl) ?_
  refine ld_k C hi hS hl (k := 1) dL_law_817 dL_law_818 dL_law_819 (by decide) dL_law_820 dL_law_821 (by omega) ?_
  refine ld_k C hi hS hl (k := 2) dL_law_822 dL_law_823 dL_law_824 (by decide) dL_law_825 dL_law_826 (by omega) ?_
  refine ld_k C hi hS hl (k := 3) dL_law_827 dL_law_828 dL_law_829 (by decide) dL_law_830 dL_law_831 (by omega) ?_
  refine lawC C (as := [vI _, vI _, vI _]) (rest := []) okX10_setup in_X10_setup ml_L_102 rfl (Nat.le_of_ble_eq_true rfl) pz_10_0 (by decide) okX10.1 dL_law_832 (pr_setup hI) hP hS hl ?_
  rintro _ S1 H1 locs1 ⟨v, rfl, h1⟩ hP1 hS1
  refine lv_aload_n hx hb dL_law_835 rfl (lv_at hl 1 rfl) ?_
  refine ld_k C hi hS1 hl (k := 1) dL_law_836 dL_law_837 dL_law_838 (by decide) dL_law_839 dL_law_840 (by omega) ?_
  refine ld_k C hi hS1 hl (k := 2) dL_law_841 dL_law_842 dL_law_843 (by decide) dL_law_844 dL_law_845 (by omega) ?_
  refine ld_k C hi hS1 hl (k := 3) dL_law_846 dL_law_847 dL_law_848 (by decide) dL_law_849 dL_law_850 (by omega) ?_
  refine lawC C (as := [vI _, vI _, vI _]) (rest := [.int v]) okX11_setup in_X11_setup ml_L_105 rfl (Nat.le_of_ble_eq_true rfl) pz_11_0 (by decide) okX11.1 dL_law_851 h1 hP1 hS1 hl ?_
  rintro _ S2 H2 locs2 ⟨_, rfl, rfl, hI2⟩ hP2 hS2
  exact lv_icmp_eq hx hb dL_law_854 (tgt := 1453) (by decide) (fun _ => K S2 H2 locs2 hI2 hP2 hS2) (fun h => absurd rfl h)
theorem lw_c21 (C : lc_ p s m c b L xs G) (hi : i + 5 ≤ L) (hI : Inv S) (hP : va_P G.1 vwCl (pc_ G S) H) (hS : vs_ s H locs) (hl : lh_ G b i lc) (K : ∀ (S : hs_T) (H : Heap) (locs : List Loc), Inv S → va_P G.1 vwCl (pc_ G S) H → vs_ s H locs → W p l e room_1 s m #[Value.ref b] below meth c H locs 60 7914 Z (F0 m 1453 lc [])) : W p l e room_1 s m #[Value.ref b] below meth c H locs 60 7914 Z (F0 m 859 lc []) := by
  have C0 := C
  obtain ⟨hx, hb, hml, hown, htb, hdj, ham, hX, hbl, hA, hL⟩ := C0
  refine lv_aload_n hx hb dL_law_859 rfl (lv_at hl 2 rfl) ?_
  refine ld_k C hi hS hl (k := 1) dL_law_860 dL_law_861 dL_law_862 (by decide) dL_law_863 dL_law_864 (by omega) ?_
  refine ld_k C hi hS hl (k := 2) dL_law_865 dL_law_866 dL_law_867 (by decide) dL_law_868 dL_law_869 (by omega) ?_
  refine ld_k C hi hS hl (k := 3) dL_law_870 dL_law_871 dL_law_872 (by decide) dL_law_873 dL_law_874 (by omega) ?_
  refine ld_k C hi hS hl (k := 4) dL_law_875 dL_law_876 dL_law_877 (by decide) dL_law_878 dL_law_879 (by omega) ?_
  refine lawC C (as := [vI _, vI _, vI _, vI _]) (rest := []) okX10_tight in_X10_tight ml_L_106 rfl (Nat.le_of_ble_eq_true rfl) pz_10_0 (by decide) okX10.1 dL_law_880 (pr_tight hI) hP hS hl ?_
  rintro _ S1 H1 locs1 ⟨v, rfl, h1⟩ hP1 hS1
  refine lv_aload_n hx hb dL_law_883 rfl (lv_at hl 1 rfl) ?_
  refine ld_k C hi hS1 hl (k := 1) dL_law_884 dL_law_885 dL_law_886 (by decide) dL_law_887 dL_law_888 (by omega) ?_
  refine ld_k C hi hS1 hl (k := 2) dL_law_889 dL_law_890 dL_law_891 (by decide) dL_law_892 dL_law_893 (by omega) ?_
  refine ld_k C hi hS1 hl (k := 3) dL_law_894 dL_law_895 dL_law_896 (by decide) dL_law_897 dL_law_898 (by omega) ?_
  refine ld_k C hi hS1 hl (k := 4) dL_law_899 dL_law_900 dL_law_901 (by decide) dL_law_902 dL_law_903 (by omega) ?_
  refine lawC C (as := [vI _, vI _, vI _, vI _]) (rest := [.int v]) okX11_tight in_X11_tight ml_L_110 rfl (Nat.le_of_ble_eq_true rfl) pz_11_0 (by decide) okX11.1 dL_law_904 h1 hP1 hS1 hl ?_
  rintro _ S2 H2 locs2 ⟨_, rfl, rfl, hI2⟩ hP2 hS2
  exact lv_icmp_eq hx hb dL_law_907 (tgt := 1453) (by decide) (fun _ => K S2 H2 locs2 hI2 hP2 hS2) (fun h => absurd rfl h)
theorem lw_c22 (C : lc_ p s m c b L xs G) (hi : i + 5 ≤ L) (hI : Inv S) (hP : va_P G.1 vwCl (pc_ G S) H) (hS : vs_ s H locs) (hl : lh_ G b i lc) (K : ∀ (S : hs_T) (H : Heap) (locs : List Loc), Inv S → va_P G.1 vwCl (pc_ G S) H → vs_ s H locs → W p l e room_1 s m #[Value.ref b] below meth c H locs 60 7914 Z (F0 m 1453 lc [])) : W p l e room_1 s m #[Value.ref b] below meth c H locs 60 7914 Z (F0 m 912 lc []) := by
  have C0 := C
  obtain ⟨hx, hb, hml, hown, htb, hdj, ham, hX, hbl, hA, hL⟩ := C0
  refine lv_aload_n hx hb dL_law_912 rfl (lv_at hl 2 rfl) ?_
  refine ld_k C hi hS hl (k := 1) dL_law_913 dL_law_914 dL_law_915 (by decide) dL_law_916 dL_law_917 (by omega) ?_
  refine ld_k C hi hS hl (k := 2) dL_law_918 dL_law_919 dL_law_920 (by decide) dL_law_921 dL_law_922 (by omega) ?_
  refine ld_k C hi hS hl (k := 3) dL_law_923 dL_law_924 dL_law_925 (by decide) dL_law_926 dL_law_927 (by omega) ?_
  refine ld_k C hi hS hl (k := 4) dL_law_928 dL_law_929 dL_law_930 (by decide) dL_law_931 dL_law_932 (by omega) ?_
  refine lawC C (as := [vI _, vI _, vI _, vI _]) (rest := []) okX10_bits in_X10_bits ml_L_111 rfl (Nat.le_of_ble_eq_true rfl) pz_10_0 (by decide) okX10.1 dL_law_933 (pr_bits hI) hP hS hl ?_
  rintro _ S1 H1 locs1 ⟨v, rfl, h1⟩ hP1 hS1
  refine lv_aload_n hx hb dL_law_936 rfl (lv_at hl 1 rfl) ?_
  refine ld_k C hi hS1 hl (k := 1) dL_law_937 dL_law_938 dL_law_939 (by decide) dL_law_940 dL_law_941 (by omega) ?_
  refine ld_k C hi hS1 hl (k := 2) dL_law_942 dL_law_943 dL_law_944 (by decide) dL_law_945 dL_law_946 (by omega) ?_
  refine ld_k C hi hS1 hl (k := 3) dL_law_947 dL_law_948 dL_law_949 (by decide) dL_law_950 dL_law_951 (by omega) ?_
  refine ld_k C hi hS1 hl (k := 4) dL_law_952 dL_law_953 dL_law_954 (by decide) dL_law_955 dL_law_956 (by omega) ?_
  refine lawC C (as := [vI _, vI _, vI _, vI _]) (rest := [.int v]) okX11_bits in_X11_bits ml_L_114 rfl (Nat.le_of_ble_eq_true rfl) pz_11_0 (by decide) okX11.1 dL_law_957 h1 hP1 hS1 hl ?_
  rintro _ S2 H2 locs2 ⟨_, rfl, rfl, hI2⟩ hP2 hS2
  exact lv_icmp_eq hx hb dL_law_960 (tgt := 1453) (by decide) (fun _ => K S2 H2 locs2 hI2 hP2 hS2) (fun h => absurd rfl h)
theorem lw_c23 (C : lc_ p s m c b L xs G) (hi : i + 5 ≤ L) (hI : Inv S) (hP : va_P G.1 vwCl (pc_ G S) H) (hS : vs_ s H locs) (hl : lh_ G b i lc) (K : ∀ (S : hs_T) (H : Heap) (locs : List Loc), Inv S → va_P G.1 vwCl (pc_ G S) H → vs_ s H locs → W p l e room_1 s m #[Value.ref b] below meth c H locs 60 7914 Z (F0 m 1453 lc [])) : W p l e room_1 s m #[Value.ref b] below meth c H locs 60 7914 Z (F0 m 965 lc []) := by
  have C0 := C
  obtain ⟨hx, hb, hml, hown, htb, hdj, ham, hX, hbl, hA, hL⟩ := C0
  refine lv_aload_n hx hb dL_law_965 rfl (lv_at hl 2 rfl) ?_
  refine ld_k C hi hS hl (k := 1) dL_law_966 dL_law_967 dL_law_968 (by decide) dL_law_969 dL_law_970 (by omega) ?_
  refine ld_k C hi hS hl (k := 2) dL_law_971 dL_law_972 dL_law_973 (by decide) dL_law_974 dL_law_975 (by omega) ?_
  refine ld_k C hi hS hl (k := 3) dL_law_976 dL_law_977 dL_law_978 (by decide) dL_law_979 dL_law_980 (by omega) ?_
  refine lawC C (as := [vI _, vI _, vI _]) (rest := []) okX10_serial in_X10_serial ml_L_115 rfl (Nat.le_of_ble_eq_true rfl) pz_10_0 (by decide) okX10.1 dL_law_981 (pr_serial hI) hP hS hl ?_
  rintro _ S1 H1 locs1 ⟨v, rfl, h1⟩ hP1 hS1
  refine lv_aload_n hx hb dL_law_984 rfl (lv_at hl 1 rfl) ?_
  refine ld_k C hi hS1 hl (k := 1) dL_law_985 dL_law_986 dL_law_987 (by decide) dL_law_988 dL_law_989 (by omega) ?_
  refine ld_k C hi hS1 hl (k := 2) dL_law_990 dL_law_991 dL_law_992 (by decide) dL_law_993 dL_law_994 (by omega) ?_
  refine ld_k C hi hS1 hl (k := 3) dL_law_995 dL_law_996 dL_law_997 (by decide) dL_law_998 dL_law_999 (by omega) ?_
  refine lawC C (as := [vI _, vI _, vI _]) (rest := [.int v]) okX11_serial in_X11_serial ml_L_118 rfl (Nat.le_of_ble_eq_true rfl) pz_11_0 (by decide) okX11.1 dL_law_1000 h1 hP1 hS1 hl ?_
  rintro _ S2 H2 locs2 ⟨_, rfl, rfl, hI2⟩ hP2 hS2
  exact lv_icmp_eq hx hb dL_law_1003 (tgt := 1453) (by decide) (fun _ => K S2 H2 locs2 hI2 hP2 hS2) (fun h => absurd rfl h)
theorem lw_c24 (C : lc_ p s m c b L xs G) (hi : i + 5 ≤ L) (hI : Inv S) (hP : va_P G.1 vwCl (pc_ G S) H) (hS : vs_ s H locs) (hl : lh_ G b i lc) (K : ∀ (S : hs_T) (H : Heap) (locs : List Loc), Inv S → va_P G.1 vwCl (pc_ G S) H → vs_ s H locs → W p l e room_1 s m #[Value.ref b] below meth c H locs 60 7914 Z (F0 m 1453 lc [])) : W p l e room_1 s m #[Value.ref b] below meth c H locs 60 7914 Z (F0 m 1008 lc []) := by
  have C0 := C
  obtain ⟨hx, hb, hml, hown, htb, hdj, ham, hX, hbl, hA, hL⟩ := C0
  refine lv_aload_n hx hb dL_law_1008 rfl (lv_at hl 2 rfl) ?_
  refine ld_k C hi hS hl (k := 1) dL_law_1009 dL_law_1010 dL_law_1011 (by decide) dL_law_1012 dL_law_1013 (by omega) ?_
  refine ld_k C hi hS hl (k := 2) dL_law_1014 dL_law_1015 dL_law_1016 (by decide) dL_law_1017 dL_law_1018 (by omega) ?_
  refine lawC C (as := [vI _, vI _]) (rest := []) okX10_rate in_X10_rate ml_L_119 rfl (Nat.le_of_ble_eq_true rfl) pz_10_0 (by decide) okX10.1 dL_law_1019 (pr_rate hI) hP hS hl ?_
  rintro _ S1 H1 locs1 ⟨v, rfl, h1⟩ hP1 hS1
  refine lv_aload_n hx hb dL_law_1022 rfl (lv_at hl 1 rfl) ?_
  refine ld_k C hi hS1 hl (k := 1) dL_law_1023 dL_law_1024 dL_law_1025 (by decide) dL_law_1026 dL_law_1027 (by omega) ?_
  refine ld_k C hi hS1 hl (k := 2) dL_law_1028 dL_law_1029 dL_law_1030 (by decide) dL_law_1031 dL_law_1032 (by omega) ?_
  refine lawC C (as := [vI _, vI _]) (rest := [.int v]) okX11_rate in_X11_rate ml_L_122 rfl (Nat.le_of_ble_eq_true rfl) pz_11_0 (by decide) okX11.1 dL_law_1033 h1 hP1 hS1 hl ?_
  rintro _ S2 H2 locs2 ⟨_, rfl, rfl, hI2⟩ hP2 hS2
  exact lv_icmp_eq hx hb dL_law_1036 (tgt := 1453) (by decide) (fun _ => K S2 H2 locs2 hI2 hP2 hS2) (fun h => absurd rfl h)
theorem lw_c25 (C : lc_ p s m c b L xs G) (hi : i + 5 ≤ L) (hI : Inv S) (hP : va_P G.1 vwCl (pc_ G S) H) (hS : vs_ s H locs) (hl : lh_ G b i lc) (K : ∀ (S : hs_T) (H : Heap) (locs : List Loc), Inv S → va_P G.1 vwCl (pc_ G S) H → vs_ s H locs → W p l e room_1 s m #[Value.ref b] below meth c H locs 60 7914 Z (F0 m 1453 lc [])) : W p l e room_1 s m #[Value.ref b] below meth c H locs 60 7914 Z (F0 m 1041 lc []) := by
  have C0 := C
  obtain ⟨hx, hb, hml, hown, htb, hdj, ham, hX, hbl, hA, hL⟩ := C0
  refine lv_aload_n hx hb dL_law_1041 rfl (lv_at hl 2 rfl) ?_
  refine ld_k C hi hS hl (k := 1) dL_law_1042 dL_law_1043 dL_law_1044 (by decide) dL_law_1045 dL_law_1046 (by omega) ?_
  refine ld_k C hi hS hl (k := 2) dL_law_1047 dL_law_1048 dL_law_1049 (by decide) dL_law_1050 dL_law_1051 (by omega) ?_
  refine ld_k C hi hS hl (k := 3) dL_law_1052 dL_law_1053 dL_law_1054 (by decide) dL_law_1055 dL_law_1056 (by omega) ?_
  refine lawC C (as := [vI _, vI _, vI _]) (rest := []) okX10_seen in_X10_seen ml_L_123 rfl (Nat.le_of_ble_eq_true rfl) pz_10_0 (by decide) okX10.1 dL_law_1057 (pr_seen hI) hP hS hl ?_
  rintro _ S1 H1 locs1 ⟨v, rfl, h1⟩ hP1 hS1
  refine lv_aload_n hx hb dL_law_1060 rfl (lv_at hl 1 rfl) ?_
  refine ld_k C hi hS1 hl (k := 1) dL_law_1061 dL_law_1062 dL_law_1063 (by decide) dL_law_1064 dL_law_1065 (by omega) ?_
  refine ld_k C hi hS1 hl (k := 2) dL_law_1066 dL_law_1067 dL_law_1068 (by decide) dL_law_1069 dL_law_1070 (by omega) ?_
  refine ld_k C hi hS1 hl (k := 3) dL_law_1071 dL_law_1072 dL_law_1073 (by decide) dL_law_1074 dL_law_1075 (by omega) ?_
  refine lawC C (as := [vI _, vI _, vI _]) (rest := [.int v]) okX11_seen in_X11_seen ml_L_126 rfl (Nat.le_of_ble_eq_true rfl) pz_11_0 (by decide) okX11.1 dL_law_1076 h1 hP1 hS1 hl ?_
  rintro _ S2 H2 locs2 ⟨_, rfl, rfl, hI2⟩ hP2 hS2
  exact lv_icmp_eq hx hb dL_law_1079 (tgt := 1453) (by decide) (fun _ => K S2 H2 locs2 hI2 hP2 hS2) (fun h => absurd rfl h)
theorem lw_c26 (C : lc_ p s m c b L xs G) (hi : i + 5 ≤ L) (hI : Inv S) (hP : va_P G.1 vwCl (pc_ G S) H) (hS : vs_ s H locs) (hl : lh_ G b i lc) (K : ∀ (S : hs_T) (H : Heap) (locs : List Loc), Inv S → va_P G.1 vwCl (pc_ G S) H → vs_ s H locs → W p l e room_1 s m #[Value.ref b] below meth c H locs 60 7914 Z (F0 m 1453 lc [])) : W p l e room_1 s m #[Value.ref b] below meth c H locs 60 7914 Z (F0 m 1084 lc []) := by
  have C0 := C
  obtain ⟨hx, hb, hml, hown, htb, hdj, ham, hX, hbl, hA, hL⟩ := C0
  refine lv_aload_n hx hb dL_law_1084 rfl (lv_at hl 2 rfl) ?_
  refine lawC C (as := []) (rest := []) okX10_widest in_X10_widest ml_L_127 rfl (Nat.le_of_ble_eq_true rfl) pz_10_0 (by decide) okX10.1 dL_law_1085 (pr_widest hI) hP hS hl ?_
  rintro _ S1 H1 locs1 ⟨v, rfl, h1⟩ hP1 hS1
  refine lv_aload_n hx hb dL_law_1088 rfl (lv_at hl 1 rfl) ?_
  refine lawC C (as := []) (rest := [.int v]) okX11_widest in_X11_widest ml_L_130 rfl (Nat.le_of_ble_eq_true rfl) pz_11_0 (by decide) okX11.1 dL_law_1089 h1 hP1 hS1 hl ?_
  rintro _ S2 H2 locs2 ⟨_, rfl, rfl, hI2⟩ hP2 hS2
  exact lv_icmp_eq hx hb dL_law_1092 (tgt := 1453) (by decide) (fun _ => K S2 H2 locs2 hI2 hP2 hS2) (fun h => absurd rfl h)
theorem lw_c27 (C : lc_ p s m c b L xs G) (hi : i + 5 ≤ L) (hI : Inv S) (hP : va_P G.1 vwCl (pc_ G S) H) (hS : vs_ s H locs) (hl : lh_ G b i lc) (K : ∀ (S : hs_T) (H : Heap) (locs : List Loc), Inv S → va_P G.1 vwCl (pc_ G S) H → vs_ s H locs → W p l e room_1 s m #[Value.ref b] below meth c H locs 60 7914 Z (F0 m 1453 lc [])) : W p l e room_1 s m #[Value.ref b] below meth c H locs 60 7914 Z (F0 m 1097 lc []) := by
  have C0 := C
  obtain ⟨hx, hb, hml, hown, htb, hdj, ham, hX, hbl, hA, hL⟩ := C0
  refine lv_aload_n hx hb dL_law_1097 rfl (lv_at hl 2 rfl) ?_
  refine lawC C (as := []) (rest := []) okX10_runs in_X10_runs ml_L_131 rfl (Nat.le_of_ble_eq_true rfl) pz_10_0 (by decide) okX10.1 dL_law_1098 (pr_runs hI) hP hS hl ?_
  rintro _ S1 H1 locs1 ⟨v, rfl, h1⟩ hP1 hS1
  refine lv_aload_n hx hb dL_law_1101 rfl (lv_at hl 1 rfl) ?_
  refine lawC C (as := []) (rest := [.int v]) okX11_runs in_X11_runs ml_L_134 rfl (Nat.le_of_ble_eq_true rfl) pz_11_0 (by decide) okX11.1 dL_law_1102 h1 hP1 hS1 hl ?_
  rintro _ S2 H2 locs2 ⟨_, rfl, rfl, hI2⟩ hP2 hS2
  exact lv_icmp_eq hx hb dL_law_1105 (tgt := 1453) (by decide) (fun _ => K S2 H2 locs2 hI2 hP2 hS2) (fun h => absurd rfl h)
theorem lw_c28 (C : lc_ p s m c b L xs G) (hi : i + 5 ≤ L) (hI : Inv S) (hP : va_P G.1 vwCl (pc_ G S) H) (hS : vs_ s H locs) (hl : lh_ G b i lc) (K : ∀ (S : hs_T) (H : Heap) (locs : List Loc), Inv S → va_P G.1 vwCl (pc_ G S) H → vs_ s H locs → W p l e room_1 s m #[Value.ref b] below meth c H locs 60 7914 Z (F0 m 1453 lc [])) : W p l e room_1 s m #[Value.ref b] below meth c H locs 60 7914 Z (F0 m 1110 lc []) := by
  have C0 := C
  obtain ⟨hx, hb, hml, hown, htb, hdj, ham, hX, hbl, hA, hL⟩ := C0
  refine lv_aload_n hx hb dL_law_1110 rfl (lv_at hl 2 rfl) ?_
  refine ld_k C hi hS hl (k := 1) dL_law_1111 dL_law_1112 dL_law_1113 (by decide) dL_law_1114 dL_law_1115 (by omega) ?_
  refine ld_k C hi hS hl (k := 2) dL_law_1116 dL_law_1117 dL_law_1118 (by decide) dL_law_1119 dL_law_1120 (by omega) ?_
  refine lawC C (as := [vI _, vI _]) (rest := []) okX10_fills in_X10_fills ml_L_135 rfl (Nat.le_of_ble_eq_true rfl) pz_10_0 (by decide) okX10.1 dL_law_1121 (pr_fills hI) hP hS hl ?_
  rintro _ S1 H1 locs1 ⟨v, rfl, h1⟩ hP1 hS1
  refine lv_aload_n hx hb dL_law_1124 rfl (lv_at hl 1 rfl) ?_
  refine ld_k C hi hS1 hl (k := 1) dL_law_1125 dL_law_1126 dL_law_1127 (by decide) dL_law_1128 dL_law_1129 (by omega) ?_
  refine ld_k C hi hS1 hl (k := 2) dL_law_1130 dL_law_1131 dL_law_1132 (by decide) dL_law_1133 dL_law_1134 (by omega) ?_
  refine lawC C (as := [vI _, vI _]) (rest := [.int v]) okX11_fills in_X11_fills ml_L_138 rfl (Nat.le_of_ble_eq_true rfl) pz_11_0 (by decide) okX11.1 dL_law_1135 h1 hP1 hS1 hl ?_
  rintro _ S2 H2 locs2 ⟨_, rfl, rfl, hI2⟩ hP2 hS2
  exact lv_icmp_eq hx hb dL_law_1138 (tgt := 1453) (by decide) (fun _ => K S2 H2 locs2 hI2 hP2 hS2) (fun h => absurd rfl h)
theorem lw_c29 (C : lc_ p s m c b L xs G) (hi : i + 5 ≤ L) (hI : Inv S) (hP : va_P G.1 vwCl (pc_ G S) H) (hS : vs_ s H locs) (hl : lh_ G b i lc) (K : ∀ (S : hs_T) (H : Heap) (locs : List Loc), Inv S → va_P G.1 vwCl (pc_ G S) H → vs_ s H locs → W p l e room_1 s m #[Value.ref b] below meth c H locs 60 7914 Z (F0 m 1453 lc [])) : W p l e room_1 s m #[Value.ref b] below meth c H locs 60 7914 Z (F0 m 1143 lc []) := by
  have C0 := C
  obtain ⟨hx, hb, hml, hown, htb, hdj, ham, hX, hbl, hA, hL⟩ := C0
  refine lv_aload_n hx hb dL_law_1143 rfl (lv_at hl 2 rfl) ?_
  refine ld_k C hi hS hl (k := 1) dL_law_1144 dL_law_1145 dL_law_1146 (by decide) dL_law_1147 dL_law_1148 (by omega) ?_
  refine lawC C (as := [vI _]) (rest := []) okX10_values in_X10_values ml_L_139 rfl (Nat.le_of_ble_eq_true rfl) pz_10_0 (by decide) okX10.1 dL_law_1149 (pr_values hI) hP hS hl ?_
  rintro _ S1 H1 locs1 ⟨v, rfl, h1⟩ hP1 hS1
  refine lv_aload_n hx hb dL_law_1152 rfl (lv_at hl 1 rfl) ?_
  refine ld_k C hi hS1 hl (k := 1) dL_law_1153 dL_law_1154 dL_law_1155 (by decide) dL_law_1156 dL_law_1157 (by omega) ?_
  refine lawC C (as := [vI _]) (rest := [.int v]) okX11_values in_X11_values ml_L_142 rfl (Nat.le_of_ble_eq_true rfl) pz_11_0 (by decide) okX11.1 dL_law_1158 h1 hP1 hS1 hl ?_
  rintro _ S2 H2 locs2 ⟨_, rfl, rfl, hI2⟩ hP2 hS2
  exact lv_icmp_eq hx hb dL_law_1161 (tgt := 1453) (by decide) (fun _ => K S2 H2 locs2 hI2 hP2 hS2) (fun h => absurd rfl h)
theorem lw_c30 (C : lc_ p s m c b L xs G) (hi : i + 5 ≤ L) (hI : Inv S) (hP : va_P G.1 vwCl (pc_ G S) H) (hS : vs_ s H locs) (hl : lh_ G b i lc) (K : ∀ (S : hs_T) (H : Heap) (locs : List Loc), Inv S → va_P G.1 vwCl (pc_ G S) H → vs_ s H locs → W p l e room_1 s m #[Value.ref b] below meth c H locs 60 7914 Z (F0 m 1453 lc [])) : W p l e room_1 s m #[Value.ref b] below meth c H locs 60 7914 Z (F0 m 1166 lc []) := by
  have C0 := C
  obtain ⟨hx, hb, hml, hown, htb, hdj, ham, hX, hbl, hA, hL⟩ := C0
  refine lv_aload_n hx hb dL_law_1166 rfl (lv_at hl 2 rfl) ?_
  refine ld_k C hi hS hl (k := 1) dL_law_1167 dL_law_1168 dL_law_1169 (by decide) dL_law_1170 dL_law_1171 (by omega) ?_
  refine lawC C (as := [vI _]) (rest := []) okX10_keep in_X10_keep ml_L_143 rfl (Nat.le_of_ble_eq_true rfl) pz_10_0 (by decide) okX10.1 dL_law_1172 (pr_keep hI) hP hS hl ?_
  rintro _ S1 H1 locs1 ⟨v, rfl, h1⟩ hP1 hS1
  refine lv_aload_n hx hb dL_law_1175 rfl (lv_at hl 1 rfl) ?_
  refine ld_k C hi hS1 hl (k := 1) dL_law_1176 dL_law_1177 dL_law_1178 (by decide) dL_law_1179 dL_law_1180 (by omega) ?_
  refine lawC C (as := [vI _]) (rest := [.int v]) okX11_keep in_X11_keep ml_L_146 rfl (Nat.le_of_ble_eq_true rfl) pz_11_0 (by decide) okX11.1 dL_law_1181 h1 hP1 hS1 hl ?_
  rintro _ S2 H2 locs2 ⟨_, rfl, rfl, hI2⟩ hP2 hS2
  exact lv_icmp_eq hx hb dL_law_1184 (tgt := 1453) (by decide) (fun _ => K S2 H2 locs2 hI2 hP2 hS2) (fun h => absurd rfl h)
theorem lw_c31 (C : lc_ p s m c b L xs G) (hi : i + 5 ≤ L) (hI : Inv S) (hP : va_P G.1 vwCl (pc_ G S) H) (hS : vs_ s H locs) (hl : lh_ G b i lc) (K : ∀ (S : hs_T) (H : Heap) (locs : List Loc), Inv S → va_P G.1 vwCl (pc_ G S) H → vs_ s H locs → W p l e room_1 s m #[Value.ref b] below meth c H locs 60 7914 Z (F0 m 1453 lc [])) : W p l e room_1 s m #[Value.ref b] below meth c H locs 60 7914 Z (F0 m 1189 lc []) := by
  have C0 := C
  obtain ⟨hx, hb, hml, hown, htb, hdj, ham, hX, hbl, hA, hL⟩ := C0
  refine lv_aload_n hx hb dL_law_1189 rfl (lv_at hl 2 rfl) ?_
  refine ld_k C hi hS hl (k := 1) dL_law_1190 dL_law_1191 dL_law_1192 (by decide) dL_law_1193 dL_law_1194 (by omega) ?_
  refine lawC C (as := [vI _]) (rest := []) okX10_back in_X10_back ml_L_147 rfl (Nat.le_of_ble_eq_true rfl) pz_10_0 (by decide) okX10.1 dL_law_1195 (pr_back hI) hP hS hl ?_
  rintro _ S1 H1 locs1 ⟨v, rfl, h1⟩ hP1 hS1
  refine lv_aload_n hx hb dL_law_1198 rfl (lv_at hl 1 rfl) ?_
  refine ld_k C hi hS1 hl (k := 1) dL_law_1199 dL_law_1200 dL_law_1201 (by decide) dL_law_1202 dL_law_1203 (by omega) ?_
  refine lawC C (as := [vI _]) (rest := [.int v]) okX11_back in_X11_back ml_L_150 rfl (Nat.le_of_ble_eq_true rfl) pz_11_0 (by decide) okX11.1 dL_law_1204 h1 hP1 hS1 hl ?_
  rintro _ S2 H2 locs2 ⟨_, rfl, rfl, hI2⟩ hP2 hS2
  exact lv_icmp_eq hx hb dL_law_1207 (tgt := 1453) (by decide) (fun _ => K S2 H2 locs2 hI2 hP2 hS2) (fun h => absurd rfl h)
theorem lw_c32 (C : lc_ p s m c b L xs G) (hi : i + 5 ≤ L) (hI : Inv S) (hP : va_P G.1 vwCl (pc_ G S) H) (hS : vs_ s H locs) (hl : lh_ G b i lc) (K : ∀ (S : hs_T) (H : Heap) (locs : List Loc), Inv S → va_P G.1 vwCl (pc_ G S) H → vs_ s H locs → W p l e room_1 s m #[Value.ref b] below meth c H locs 60 7914 Z (F0 m 1453 lc [])) : W p l e room_1 s m #[Value.ref b] below meth c H locs 60 7914 Z (F0 m 1212 lc []) := by
  have C0 := C
  obtain ⟨hx, hb, hml, hown, htb, hdj, ham, hX, hbl, hA, hL⟩ := C0
  refine lv_aload_n hx hb dL_law_1212 rfl (lv_at hl 2 rfl) ?_
  refine ld_k C hi hS hl (k := 1) dL_law_1213 dL_law_1214 dL_law_1215 (by decide) dL_law_1216 dL_law_1217 (by omega) ?_
  refine ld_k C hi hS hl (k := 2) dL_law_1218 dL_law_1219 dL_law_1220 (by decide) dL_law_1221 dL_law_1222 (by omega) ?_
  refine lawC C (as := [vI _, vI _]) (rest := []) okX10_unlike in_X10_unlike ml_L_151 rfl (Nat.le_of_ble_eq_true rfl) pz_10_0 (by decide) okX10.1 dL_law_1223 (pr_unlike hI) hP hS hl ?_
  rintro _ S1 H1 locs1 ⟨v, rfl, h1⟩ hP1 hS1
  refine lv_aload_n hx hb dL_law_1226 rfl (lv_at hl 1 rfl) ?_
  refine ld_k C hi hS1 hl (k := 1) dL_law_1227 dL_law_1228 dL_law_1229 (by decide) dL_law_1230 dL_law_1231 (by omega) ?_
  refine ld_k C hi hS1 hl (k := 2) dL_law_1232 dL_law_1233 dL_law_1234 (by decide) dL_law_1235 dL_law_1236 (by omega) ?_
  refine lawC C (as := [vI _, vI _]) (rest := [.int v]) okX11_unlike in_X11_unlike ml_L_154 rfl (Nat.le_of_ble_eq_true rfl) pz_11_0 (by decide) okX11.1 dL_law_1237 h1 hP1 hS1 hl ?_
  rintro _ S2 H2 locs2 ⟨_, rfl, rfl, hI2⟩ hP2 hS2
  exact lv_icmp_eq hx hb dL_law_1240 (tgt := 1453) (by decide) (fun _ => K S2 H2 locs2 hI2 hP2 hS2) (fun h => absurd rfl h)
theorem lw_c33 (C : lc_ p s m c b L xs G) (hi : i + 5 ≤ L) (hI : Inv S) (hP : va_P G.1 vwCl (pc_ G S) H) (hS : vs_ s H locs) (hl : lh_ G b i lc) (K : ∀ (S : hs_T) (H : Heap) (locs : List Loc), Inv S → va_P G.1 vwCl (pc_ G S) H → vs_ s H locs → W p l e room_1 s m #[Value.ref b] below meth c H locs 60 7914 Z (F0 m 1453 lc [])) : W p l e room_1 s m #[Value.ref b] below meth c H locs 60 7914 Z (F0 m 1245 lc []) := by
  have C0 := C
  obtain ⟨hx, hb, hml, hown, htb, hdj, ham, hX, hbl, hA, hL⟩ := C0
  refine lv_aload_n hx hb dL_law_1245 rfl (lv_at hl 2 rfl) ?_
  refine ld_k C hi hS hl (k := 1) dL_law_1246 dL_law_1247 dL_law_1248 (by decide) dL_law_1249 dL_law_1250 (by omega) ?_
  refine ld_k C hi hS hl (k := 2) dL_law_1251 dL_law_1252 dL_law_1253 (by decide) dL_law_1254 dL_law_1255 (by omega) ?_
  refine lawC C (as := [vI _, vI _]) (rest := []) okX10_shift in_X10_shift ml_L_155 rfl (Nat.le_of_ble_eq_true rfl) pz_10_0 (by decide) okX10.1 dL_law_1256 (pr_shift hI) hP hS hl ?_
  rintro _ S1 H1 locs1 ⟨v, rfl, h1⟩ hP1 hS1
  refine lv_aload_n hx hb dL_law_1259 rfl (lv_at hl 1 rfl) ?_
  refine ld_k C hi hS1 hl (k := 1) dL_law_1260 dL_law_1261 dL_law_1262 (by decide) dL_law_1263 dL_law_1264 (by omega) ?_
  refine ld_k C hi hS1 hl (k := 2) dL_law_1265 dL_law_1266 dL_law_1267 (by decide) dL_law_1268 dL_law_1269 (by omega) ?_
  refine lawC C (as := [vI _, vI _]) (rest := [.int v]) okX11_shift in_X11_shift ml_L_158 rfl (Nat.le_of_ble_eq_true rfl) pz_11_0 (by decide) okX11.1 dL_law_1270 h1 hP1 hS1 hl ?_
  rintro _ S2 H2 locs2 ⟨_, rfl, rfl, hI2⟩ hP2 hS2
  exact lv_icmp_eq hx hb dL_law_1273 (tgt := 1453) (by decide) (fun _ => K S2 H2 locs2 hI2 hP2 hS2) (fun h => absurd rfl h)
theorem lw_c34 (C : lc_ p s m c b L xs G) (hi : i + 5 ≤ L) (hI : Inv S) (hP : va_P G.1 vwCl (pc_ G S) H) (hS : vs_ s H locs) (hl : lh_ G b i lc) (K : ∀ (S : hs_T) (H : Heap) (locs : List Loc), Inv S → va_P G.1 vwCl (pc_ G S) H → vs_ s H locs → W p l e room_1 s m #[Value.ref b] below meth c H locs 60 7914 Z (F0 m 1453 lc [])) : W p l e room_1 s m #[Value.ref b] below meth c H locs 60 7914 Z (F0 m 1278 lc []) := by
  have C0 := C
  obtain ⟨hx, hb, hml, hown, htb, hdj, ham, hX, hbl, hA, hL⟩ := C0
  refine lv_aload_n hx hb dL_law_1278 rfl (lv_at hl 2 rfl) ?_
  refine ld_k C hi hS hl (k := 1) dL_law_1279 dL_law_1280 dL_law_1281 (by decide) dL_law_1282 dL_law_1283 (by omega) ?_
  refine ld_k C hi hS hl (k := 2) dL_law_1284 dL_law_1285 dL_law_1286 (by decide) dL_law_1287 dL_law_1288 (by omega) ?_
  refine ld_k C hi hS hl (k := 3) dL_law_1289 dL_law_1290 dL_law_1291 (by decide) dL_law_1292 dL_law_1293 (by omega) ?_
  refine lawC C (as := [vI _, vI _, vI _]) (rest := []) okX10_sheet in_X10_sheet ml_L_159 rfl (Nat.le_of_ble_eq_true rfl) pz_10_0 (by decide) okX10.1 dL_law_1294 (pr_sheet hI) hP hS hl ?_
  rintro _ S1 H1 locs1 ⟨v, rfl, h1⟩ hP1 hS1
  refine lv_aload_n hx hb dL_law_1297 rfl (lv_at hl 1 rfl) ?_
  refine ld_k C hi hS1 hl (k := 1) dL_law_1298 dL_law_1299 dL_law_1300 (by decide) dL_law_1301 dL_law_1302 (by omega) ?_
  refine ld_k C hi hS1 hl (k := 2) dL_law_1303 dL_law_1304 dL_law_1305 (by decide) dL_law_1306 dL_law_1307 (by omega) ?_
  refine ld_k C hi hS1 hl (k := 3) dL_law_1308 dL_law_1309 dL_law_1310 (by decide) dL_law_1311 dL_law_1312 (by omega) ?_
  refine lawC C (as := [vI _, vI _, vI _]) (rest := [.int v]) okX11_sheet in_X11_sheet ml_L_162 rfl (Nat.le_of_ble_eq_true rfl) pz_11_0 (by decide) okX11.1 dL_law_1313 h1 hP1 hS1 hl ?_
  rintro _ S2 H2 locs2 ⟨_, rfl, rfl, hI2⟩ hP2 hS2
  exact lv_icmp_eq hx hb dL_law_1316 (tgt := 1453) (by decide) (fun _ => K S2 H2 locs2 hI2 hP2 hS2) (fun h => absurd rfl h)
theorem lw_c35 (C : lc_ p s m c b L xs G) (hi : i + 5 ≤ L) (hI : Inv S) (hP : va_P G.1 vwCl (pc_ G S) H) (hS : vs_ s H locs) (hl : lh_ G b i lc) (K : ∀ (S : hs_T) (H : Heap) (locs : List Loc), Inv S → va_P G.1 vwCl (pc_ G S) H → vs_ s H locs → W p l e room_1 s m #[Value.ref b] below meth c H locs 60 7914 Z (F0 m 1453 lc [])) : W p l e room_1 s m #[Value.ref b] below meth c H locs 60 7914 Z (F0 m 1321 lc []) := by
  have C0 := C
  obtain ⟨hx, hb, hml, hown, htb, hdj, ham, hX, hbl, hA, hL⟩ := C0
  refine lv_aload_n hx hb dL_law_1321 rfl (lv_at hl 2 rfl) ?_
  refine ld_k C hi hS hl (k := 1) dL_law_1322 dL_law_1323 dL_law_1324 (by decide) dL_law_1325 dL_law_1326 (by omega) ?_
  refine ld_k C hi hS hl (k := 2) dL_law_1327 dL_law_1328 dL_law_1329 (by decide) dL_law_1330 dL_law_1331 (by omega) ?_
  refine ld_k C hi hS hl (k := 3) dL_law_1332 dL_law_1333 dL_law_1334 (by decide) dL_law_1335 dL_law_1336 (by omega) ?_
  refine lawC C (as := [vI _, vI _, vI _]) (rest := []) okX10_lay in_X10_lay ml_L_163 rfl (Nat.le_of_ble_eq_true rfl) pz_10_0 (by decide) okX10.1 dL_law_1337 (pr_lay hI) hP hS hl ?_
  rintro _ S1 H1 locs1 ⟨v, rfl, h1⟩ hP1 hS1
  refine lv_aload_n hx hb dL_law_1340 rfl (lv_at hl 1 rfl) ?_
  refine ld_k C hi hS1 hl (k := 1) dL_law_1341 dL_law_1342 dL_law_1343 (by decide) dL_law_1344 dL_law_1345 (by omega) ?_
  refine ld_k C hi hS1 hl (k := 2) dL_law_1346 dL_law_1347 dL_law_1348 (by decide) dL_law_1349 dL_law_1350 (by omega) ?_
  refine ld_k C hi hS1 hl (k := 3) dL_law_1351 dL_law_1352 dL_law_1353 (by decide) dL_law_1354 dL_law_1355 (by omega) ?_
  refine lawC C (as := [vI _, vI _, vI _]) (rest := [.int v]) okX11_lay in_X11_lay ml_L_166 rfl (Nat.le_of_ble_eq_true rfl) pz_11_0 (by decide) okX11.1 dL_law_1356 h1 hP1 hS1 hl ?_
  rintro _ S2 H2 locs2 ⟨_, rfl, rfl, hI2⟩ hP2 hS2
  exact lv_icmp_eq hx hb dL_law_1359 (tgt := 1453) (by decide) (fun _ => K S2 H2 locs2 hI2 hP2 hS2) (fun h => absurd rfl h)
theorem lw_c36 (C : lc_ p s m c b L xs G) (hi : i + 5 ≤ L) (hI : Inv S) (hP : va_P G.1 vwCl (pc_ G S) H) (hS : vs_ s H locs) (hl : lh_ G b i lc) (K : ∀ (S : hs_T) (H : Heap) (locs : List Loc), Inv S → va_P G.1 vwCl (pc_ G S) H → vs_ s H locs → W p l e room_1 s m #[Value.ref b] below meth c H locs 60 7914 Z (F0 m 1453 lc [])) : W p l e room_1 s m #[Value.ref b] below meth c H locs 60 7914 Z (F0 m 1364 lc []) := by
  have C0 := C
  obtain ⟨hx, hb, hml, hown, htb, hdj, ham, hX, hbl, hA, hL⟩ := C0
  refine lv_aload_n hx hb dL_law_1364 rfl (lv_at hl 2 rfl) ?_
  refine ld_k C hi hS hl (k := 1) dL_law_1365 dL_law_1366 dL_law_1367 (by decide) dL_law_1368 dL_law_1369 (by omega) ?_
  refine ld_k C hi hS hl (k := 2) dL_law_1370 dL_law_1371 dL_law_1372 (by decide) dL_law_1373 dL_law_1374 (by omega) ?_
  refine ld_k C hi hS hl (k := 3) dL_law_1375 dL_law_1376 dL_law_1377 (by decide) dL_law_1378 dL_law_1379 (by omega) ?_
  refine ld_k C hi hS hl (k := 4) dL_law_1380 dL_law_1381 dL_law_1382 (by decide) dL_law_1383 dL_law_1384 (by omega) ?_
  refine lawC C (as := [vI _, vI _, vI _, vI _]) (rest := []) okX10_read in_X10_read ml_L_167 rfl (Nat.le_of_ble_eq_true rfl) pz_10_0 (by decide) okX10.1 dL_law_1385 (pr_read hI) hP hS hl ?_
  rintro _ S1 H1 locs1 ⟨v, rfl, h1⟩ hP1 hS1
  refine lv_aload_n hx hb dL_law_1388 rfl (lv_at hl 1 rfl) ?_
  refine ld_k C hi hS1 hl (k := 1) dL_law_1389 dL_law_1390 dL_law_1391 (by decide) dL_law_1392 dL_law_1393 (by omega) ?_
  refine ld_k C hi hS1 hl (k := 2) dL_law_1394 dL_law_1395 dL_law_1396 (by decide) dL_law_1397 dL_law_1398 (by omega) ?_
  refine ld_k C hi hS1 hl (k := 3) dL_law_1399 dL_law_1400 dL_law_1401 (by decide) dL_law_1402 dL_law_1403 (by omega) ?_
  refine ld_k C hi hS1 hl (k := 4) dL_law_1404 dL_law_1405 dL_law_1406 (by decide) dL_law_1407 dL_law_1408 (by omega) ?_
  refine lawC C (as := [vI _, vI _, vI _, vI _]) (rest := [.int v]) okX11_read in_X11_read ml_L_170 rfl (Nat.le_of_ble_eq_true rfl) pz_11_0 (by decide) okX11.1 dL_law_1409 h1 hP1 hS1 hl ?_
  rintro _ S2 H2 locs2 ⟨_, rfl, rfl, hI2⟩ hP2 hS2
  exact lv_icmp_eq hx hb dL_law_1412 (tgt := 1453) (by decide) (fun _ => K S2 H2 locs2 hI2 hP2 hS2) (fun h => absurd rfl h)
theorem lw_c37 (C : lc_ p s m c b L xs G) (hi : i + 5 ≤ L) (hI : Inv S) (hP : va_P G.1 vwCl (pc_ G S) H) (hS : vs_ s H locs) (hl : lh_ G b i lc) (K : ∀ (S : hs_T) (H : Heap) (locs : List Loc), Inv S → va_P G.1 vwCl (pc_ G S) H → vs_ s H locs → W p l e room_1 s m #[Value.ref b] below meth c H locs 60 7914 Z (F0 m 1453 lc [])) : W p l e room_1 s m #[Value.ref b] below meth c H locs 60 7914 Z (F0 m 1417 lc []) := by
  have C0 := C
  obtain ⟨hx, hb, hml, hown, htb, hdj, ham, hX, hbl, hA, hL⟩ := C0
  refine lv_aload_n hx hb dL_law_1417 rfl (lv_at hl 2 rfl) ?_
  refine lawC C (as := []) (rest := []) okX10_torn in_X10_torn ml_L_171 rfl (Nat.le_of_ble_eq_true rfl) pz_10_0 (by decide) okX10.1 dL_law_1418 (pr_torn hI) hP hS hl ?_
  rintro _ S1 H1 locs1 ⟨v, rfl, h1⟩ hP1 hS1
  refine lv_aload_n hx hb dL_law_1421 rfl (lv_at hl 1 rfl) ?_
  refine lawC C (as := []) (rest := [.int v]) okX11_torn in_X11_torn ml_L_174 rfl (Nat.le_of_ble_eq_true rfl) pz_11_0 (by decide) okX11.1 dL_law_1422 h1 hP1 hS1 hl ?_
  rintro _ S2 H2 locs2 ⟨_, rfl, rfl, hI2⟩ hP2 hS2
  exact lv_icmp_eq hx hb dL_law_1425 (tgt := 1453) (by decide) (fun _ => K S2 H2 locs2 hI2 hP2 hS2) (fun h => absurd rfl h)
theorem lw_c38 (C : lc_ p s m c b L xs G) (hi : i + 5 ≤ L) (hI : Inv S) (hP : va_P G.1 vwCl (pc_ G S) H) (hS : vs_ s H locs) (hl : lh_ G b i lc) (K : ∀ (S : hs_T) (H : Heap) (locs : List Loc), Inv S → va_P G.1 vwCl (pc_ G S) H → vs_ s H locs → W p l e room_1 s m #[Value.ref b] below meth c H locs 60 7914 Z (F0 m 1453 lc [])) : W p l e room_1 s m #[Value.ref b] below meth c H locs 60 7914 Z (F0 m 1430 lc []) := by
  have C0 := C
  obtain ⟨hx, hb, hml, hown, htb, hdj, ham, hX, hbl, hA, hL⟩ := C0
  refine lv_aload_n hx hb dL_law_1430 rfl (lv_at hl 2 rfl) ?_
  refine ld_k C hi hS hl (k := 1) dL_law_1431 dL_law_1432 dL_law_1433 (by decide) dL_law_1434 dL_law_1435 (by omega) ?_
  refine lawC C (as := [vI _]) (rest := []) okX10_count in_X10_count ml_L_175 rfl (Nat.le_of_ble_eq_true rfl) pz_10_0 (by decide) okX10.1 dL_law_1436 (pr_count hI) hP hS hl ?_
  rintro _ S1 H1 locs1 ⟨v, rfl, h1⟩ hP1 hS1
  refine lv_aload_n hx hb dL_law_1439 rfl (lv_at hl 1 rfl) ?_
  refine ld_k C hi hS1 hl (k := 1) dL_law_1440 dL_law_1441 dL_law_1442 (by decide) dL_law_1443 dL_law_1444 (by omega) ?_
  refine lawC C (as := [vI _]) (rest := [.int v]) okX11_count in_X11_count ml_L_178 rfl (Nat.le_of_ble_eq_true rfl) pz_11_0 (by decide) okX11.1 dL_law_1445 h1 hP1 hS1 hl ?_
  rintro _ S2 H2 locs2 ⟨_, rfl, rfl, hI2⟩ hP2 hS2
  exact lv_icmp_eq hx hb dL_law_1448 (tgt := 1453) (by decide) (fun _ => K S2 H2 locs2 hI2 hP2 hS2) (fun h => absurd rfl h)
theorem and63 (x : Int32) : ∃ k : Nat, k < 64 ∧ x &&& 63 = nI k := by
  refine ⟨tN (x &&& 63), ?_, (nI_tN _).symm⟩
  unfold tN
  rw [Int32.toBitVec_and, BitVec.toNat_and]
  exact Nat.lt_of_le_of_lt Nat.and_le_right (by decide)
theorem lw_sw (C : lc_ p s m c b L xs G) (hi : i + 5 ≤ L) (hI : Inv S) (hP : va_P G.1 vwCl (pc_ G S) H) (hS : vs_ s H locs) (hl : lh_ G b i lc) (K : ∀ (S : hs_T) (H : Heap) (locs : List Loc), Inv S → va_P G.1 vwCl (pc_ G S) H → vs_ s H locs → W p l e room_1 s m #[Value.ref b] below meth c H locs 60 7914 Z (F0 m 1453 lc [])) {k : Nat} (hk : k < 64) : W p l e room_1 s m #[Value.ref b] below meth c H locs 60 7914 Z (F0 m 32 lc [.int (nI k)]) := by
  have hx := C.1
  have hb := C.2.1
  by_cases h39 : k < 39
  · match k, h39 with
    | 0, _ => exact lv_tableIn hx hb dL_law_32 (off := 172) (tgt := 204) (by decide) (by decide) rfl (by decide) (lw_c0 C hi hI hP hS hl K)
    | 1, _ => exact lv_tableIn hx hb dL_law_32 (off := 225) (tgt := 257) (by decide) (by decide) rfl (by decide) (lw_c1 C hi hI hP hS hl K)
    | 2, _ => exact lv_tableIn hx hb dL_law_32 (off := 248) (tgt := 280) (by decide) (by decide) rfl (by decide) (lw_c2 C hi hI hP hS hl K)
    | 3, _ => exact lv_tableIn hx hb dL_law_32 (off := 261) (tgt := 293) (by decide) (by decide) rfl (by decide) (lw_c3 C hi hI hP hS hl K)
    | 4, _ => exact lv_tableIn hx hb dL_law_32 (off := 274) (tgt := 306) (by decide) (by decide) rfl (by decide) (lw_c4 C hi hI hP hS hl K)
    | 5, _ => exact lv_tableIn hx hb dL_law_32 (off := 297) (tgt := 329) (by decide) (by decide) rfl (by decide) (lw_c5 C hi hI hP hS hl K)
    | 6, _ => exact lv_tableIn hx hb dL_law_32 (off := 340) (tgt := 372) (by decide) (by decide) rfl (by decide) (lw_c6 C hi hI hP hS hl K)
    | 7, _ => exact lv_tableIn hx hb dL_law_32 (off := 373) (tgt := 405) (by decide) (by decide) rfl (by decide) (lw_c7 C hi hI hP hS hl K)
    | 8, _ => exact lv_tableIn hx hb dL_law_32 (off := 396) (tgt := 428) (by decide) (by decide) rfl (by decide) (lw_c8 C hi hI hP hS hl K)
    | 9, _ => exact lv_tableIn hx hb dL_law_32 (off := 419) (tgt := 451) (by decide) (by decide) rfl (by decide) (lw_c9 C hi hI hP hS hl K)
    | 10, _ => exact lv_tableIn hx hb dL_law_32 (off := 452) (tgt := 484) (by decide) (by decide) rfl (by decide) (lw_c10 C hi hI hP hS hl K)
    | 11, _ => exact lv_tableIn hx hb dL_law_32 (off := 475) (tgt := 507) (by decide) (by decide) rfl (by decide) (lw_c11 C hi hI hP hS hl K)
    | 12, _ => exact lv_tableIn hx hb dL_law_32 (off := 498) (tgt := 530) (by decide) (by decide) rfl (by decide) (lw_c12 C hi hI hP hS hl K)
    | 13, _ => exact lv_tableIn hx hb dL_law_32 (off := 521) (tgt := 553) (by decide) (by decide) rfl (by decide) (lw_c13 C hi hI hP hS hl K)
    | 14, _ => exact lv_tableIn hx hb dL_law_32 (off := 544) (tgt := 576) (by decide) (by decide) rfl (by decide) (lw_c14 C hi hI hP hS hl K)
    | 15, _ => exact lv_tableIn hx hb dL_law_32 (off := 593) (tgt := 625) (by decide) (by decide) rfl (by decide) (lw_c15 C hi hI hP hS hl K)
    | 16, _ => exact lv_tableIn hx hb dL_law_32 (off := 652) (tgt := 684) (by decide) (by decide) rfl (by decide) (lw_c16 C hi hI hP hS hl K)
    | 17, _ => exact lv_tableIn hx hb dL_law_32 (off := 695) (tgt := 727) (by decide) (by decide) rfl (by decide) (lw_c17 C hi hI hP hS hl K)
    | 18, _ => exact lv_tableIn hx hb dL_law_32 (off := 728) (tgt := 760) (by decide) (by decide) rfl (by decide) (lw_c18 C hi hI hP hS hl K)
    | 19, _ => exact lv_tableIn hx hb dL_law_32 (off := 761) (tgt := 793) (by decide) (by decide) rfl (by decide) (lw_c19 C hi hI hP hS hl K)
    | 20, _ => exact lv_tableIn hx hb dL_law_32 (off := 784) (tgt := 816) (by decide) (by decide) rfl (by decide) (lw_c20 C hi hI hP hS hl K)
    | 21, _ => exact lv_tableIn hx hb dL_law_32 (off := 827) (tgt := 859) (by decide) (by decide) rfl (by decide) (lw_c21 C hi hI hP hS hl K)
    | 22, _ => exact lv_tableIn hx hb dL_law_32 (off := 880) (tgt := 912) (by decide) (by decide) rfl (by decide) (lw_c22 C hi hI hP hS hl K)
    | 23, _ => exact lv_tableIn hx hb dL_law_32 (off := 933) (tgt := 965) (by decide) (by decide) rfl (by decide) (lw_c23 C hi hI hP hS hl K)
    | 24, _ => exact lv_tableIn hx hb dL_law_32 (off := 976) (tgt := 1008) (by decide) (by decide) rfl (by decide) (lw_c24 C hi hI hP hS hl K)
    | 25, _ => exact lv_tableIn hx hb dL_law_32 (off := 1009) (tgt := 1041) (by decide) (by decide) rfl (by decide) (lw_c25 C hi hI hP hS hl K)
    | 26, _ => exact lv_tableIn hx hb dL_law_32 (off := 1052) (tgt := 1084) (by decide) (by decide) rfl (by decide) (lw_c26 C hi hI hP hS hl K)
    | 27, _ => exact lv_tableIn hx hb dL_law_32 (off := 1065) (tgt := 1097) (by decide) (by decide) rfl (by decide) (lw_c27 C hi hI hP hS hl K)
    | 28, _ => exact lv_tableIn hx hb dL_law_32 (off := 1078) (tgt := 1110) (by decide) (by decide) rfl (by decide) (lw_c28 C hi hI hP hS hl K)
    | 29, _ => exact lv_tableIn hx hb dL_law_32 (off := 1111) (tgt := 1143) (by decide) (by decide) rfl (by decide) (lw_c29 C hi hI hP hS hl K)
    | 30, _ => exact lv_tableIn hx hb dL_law_32 (off := 1134) (tgt := 1166) (by decide) (by decide) rfl (by decide) (lw_c30 C hi hI hP hS hl K)
    | 31, _ => exact lv_tableIn hx hb dL_law_32 (off := 1157) (tgt := 1189) (by decide) (by decide) rfl (by decide) (lw_c31 C hi hI hP hS hl K)
    | 32, _ => exact lv_tableIn hx hb dL_law_32 (off := 1180) (tgt := 1212) (by decide) (by decide) rfl (by decide) (lw_c32 C hi hI hP hS hl K)
    | 33, _ => exact lv_tableIn hx hb dL_law_32 (off := 1213) (tgt := 1245) (by decide) (by decide) rfl (by decide) (lw_c33 C hi hI hP hS hl K)
    | 34, _ => exact lv_tableIn hx hb dL_law_32 (off := 1246) (tgt := 1278) (by decide) (by decide) rfl (by decide) (lw_c34 C hi hI hP hS hl K)
    | 35, _ => exact lv_tableIn hx hb dL_law_32 (off := 1289) (tgt := 1321) (by decide) (by decide) rfl (by decide) (lw_c35 C hi hI hP hS hl K)
    | 36, _ => exact lv_tableIn hx hb dL_law_32 (off := 1332) (tgt := 1364) (by decide) (by decide) rfl (by decide) (lw_c36 C hi hI hP hS hl K)
    | 37, _ => exact lv_tableIn hx hb dL_law_32 (off := 1385) (tgt := 1417) (by decide) (by decide) rfl (by decide) (lw_c37 C hi hI hP hS hl K)
    | 38, _ => exact lv_tableIn hx hb dL_law_32 (off := 1398) (tgt := 1430) (by decide) (by decide) rfl (by decide) (lw_c38 C hi hI hP hS hl K)
    | k + 39, h => omega
  · refine lv_tableOut hx hb dL_law_32 (Or.inr ?_) (tgt := 1453) (by decide) (K S H locs hI hP hS)
    rw [nI_toInt (by omega)]; omega
theorem lw_loop (C : lc_ p s m c b L xs G) (hend : ∀ (H : Heap) (locs : List Loc) (lc : Array Slot), vs_ s H locs → W p l e room_1 s m #[Value.ref b] below meth c H locs 60 7914 Z (F0 m 1459 lc [])) :
    ∀ (f i : Nat) (S : hs_T) (H : Heap) (locs : List Loc) (lc : Array Slot), L < i + 5 * f + 5 → i ≤ 2565 → Inv S → va_P G.1 vwCl (pc_ G S) H → vs_ s H locs → lh_ G b i lc → W p l e room_1 s m #[Value.ref b] below meth c H locs 60 7914 Z (F0 m 18 lc []) := by
  obtain ⟨hx, hb, hml, hown, htb, hdj, ham, hX, hbl, hA, hL⟩ := id C
  intro f
  have cmp : ∀ i : Nat, i ≤ 2565 → (Int32.ofNat L - 5 < nI i ↔ L < i + 5) := by
    intro i hi
    have e5 : (5 : Int32).toInt = 5 := rfl
    have eL : (Int32.ofNat L).toInt = L := nI_toInt (by omega)
    rw [fa_lt, Int32.toInt_sub, eL, e5, nI_toInt (by omega), Int.bmod]
    split <;> omega
  have head : ∀ (i : Nat) (S : hs_T) (H : Heap) (locs : List Loc) (lc : Array Slot), i ≤ 2565 → va_P G.1 vwCl (pc_ G S) H → vs_ s H locs → lh_ G b i lc → (i + 5 ≤ L → W p l e room_1 s m #[Value.ref b] below meth c H locs 60 7914 Z (F0 m 26 lc [])) → W p l e room_1 s m #[Value.ref b] below meth c H locs 60 7914 Z (F0 m 18 lc []) := by
    intro i S H locs lc hi hP hS hl kk
    refine lv_iload_n hx hb dL_law_18 rfl (lv_at hl 0 rfl) ?_
    refine lv_aload_n hx hb dL_law_19 rfl (lv_at hl 3 rfl) ?_
    refine va_slen hx hb hX hbl (Nat.not_le.mpr hbl) hS dL_law_20 ?_
    refine lv_iconst hx hb dL_law_21 (v := 5) (by decide) ?_
    refine lv_isub hx hb dL_law_22 ?_
    refine lv_icmp_gt hx hb dL_law_23 (tgt := 1459) (by decide) (fun _ => hend H locs lc hS) (fun h => kk ?_)
    rw [cmp i hi] at h
    omega
  induction f with
  | zero =>
    intro i S H locs lc hf hi hI hP hS hl
    exact head i S H locs lc hi hP hS hl (fun h => by omega)
  | succ f ih =>
    intro i S H locs lc hf hi hI hP hS hl
    refine head i S H locs lc hi hP hS hl (fun h5 => ?_)
    refine lv_aload_n hx hb dL_law_26 rfl (lv_at hl 3 rfl) ?_
    refine lv_iload_n hx hb dL_law_27 rfl (lv_at hl 0 rfl) ?_
    refine va_sld hx hb hX hbl (Nat.not_le.mpr hbl) hS (vp_lt (by omega) (by omega)) dL_law_28 ?_
    refine lv_bipush hx hb dL_law_29 (v := 63) (by decide) ?_
    refine lv_iand hx hb dL_law_31 ?_
    obtain ⟨k, hk, ek⟩ := and63 (xs (nI i).toNatClampNeg)
    rw [ek]
    refine lw_sw C h5 hI hP hS hl (fun S1 H1 locs1 hI1 hP1 hS1 => ?_) hk
    refine lv_iinc hx hb dL_law_1453 hl (k := 0) rfl (v := nI (i + 5)) (nI_add i 5) (by decide) rfl (fun lc hl => ?_)
    refine lv_goto hx hb dL_law_1456 (tgt := 18) (by decide) ?_
    exact ih (i + 5) S1 H1 locs1 lc (by omega) (by omega) hI1 hP1 hS1 hl
end LC
