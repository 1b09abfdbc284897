/-! ===== constructors (by wip/whole/gen_ctor.py) ===== -/
theorem oi_ : Cond.instanceMethod objectInit ∈ tb_ := tb_of (tk_1 _ (List.mem_of_getElem? (i := 26) rfl)) rfl
theorem oc_ : Cond.code objectInit ⟨#[0xb1]⟩ 1 none ∈ tb_ := tb_of (tk_1 _ (List.mem_of_getElem? (i := 27) rfl)) rfl
theorem ac_int : Cond.arrayClass .int ∈ tb_ := tb_of (tk_1 _ (List.mem_of_getElem? (i := 64) rfl)) rfl
theorem ac_long : Cond.arrayClass .long ∈ tb_ := tb_of (tk_2 _ (List.mem_of_getElem? (i := 85) rfl)) rfl
abbrev t2_ (cI cL : ClassId) : List (ClassId × FieldType) := [(cI, .int), (cL, .long)]
def pN (D : va_G) (cI cL : ClassId) (sz : Nat) (w : va_W) (U : State) : Prop := U.heap.size = sz ∧ va_P D vwCl w U.heap ∧ va_K D vwCl (t2_ cI cL) U ∧ va_D (fun _ => True) w
def qN (D : va_G) (cI cL : ClassId) (sz : Nat) (w0 w : va_W) (t : State) : Prop := va_P D vwCl w t.heap ∧ va_K D vwCl (t2_ cI cL) t ∧ va_D (va_A w0 sz) w
section VN
variable {p : Program} {l : Launch} {e : Env} {R : Room} {s : State} {m : MethodId} {args : Array Value} {below : List Frame} {meth : Method} {c : Code} {H H0 : Heap} {locs : List Loc} {cells slots pc : Nat} {Q : State → Prop} {ls : Array Slot} {rest : List Value} {D : va_G} {ws : va_W} {A : Nat → Prop} {cc : ByteArray} {cI cL : ClassId}
theorem vn_newint (hexec : p.tables.exec = Jvm.exec) (hb : c.code = cc) (harr : (Cond.arrayClass .int).before args s = true) {tys : List (ClassId × FieldType)} (hK : va_K D vwCl ((cI, .int) :: tys) s) (hP : va_P D vwCl ws H) (hD : va_D A ws) (hS : va_S A H0 H locs) (hA : ∀ q, H0.size ≤ q → A q)
    {n : Int32} {N' : Nat} {a0 : vp_A} (ha : ∀ cA : ClassId, vp_cell cA a0 = arrV cA N' (fun _ => defaultValue .int)) (hn : ¬ n < 0) (hN : n.toNatClampNeg = N') (hbytes : N' * componentBytes .int ≤ 536870912) (hcells : cells + 1 ≤ R.cells) (hslots : slots + N' ≤ R.slots) (hdg : decode cc pc = .ok (.newarray .int, 2))
    (kk : ∀ (q : Nat) (H1 : Heap), va_P D vwCl (ws ++ [(q, .inl (cI, a0))]) H1 → va_D A (ws ++ [(q, .inl (cI, a0))]) → va_S A H0 H1 locs → W p l e R s m args below meth c H1 locs (cells + 1) (slots + N') Q (F0 m (pc + 2) ls (.ref q :: rest))) : W p l e R s m args below meth c H locs cells slots Q (F0 m pc ls (.int n :: rest)) := by
  refine va_newa (atype := .int) (ty := .int) hexec hb harr rfl hK hP hD hS hA ha hn hN hbytes hcells hslots hdg (fun q cA H1 hK1 hP1 hD1 hS1 => ?_)
  have e1 : va_RA s cA .int := (hK1.2 (tys.length + 1) (cA, .int) (by rw [List.getElem?_append_right (by simp)]; simp)).2
  have e2 : va_RA s cI .int := (hK.2 0 (cI, .int) rfl).2
  have e3 : cA = cI := by
    have h1 : s.vm.findClass ("[" ++ (FieldType.int).toString) = some cA := e1
    have h2 : s.vm.findClass ("[" ++ (FieldType.int).toString) = some cI := e2
    rw [h1] at h2; cases h2; rfl
  subst e3
  exact kk q H1 hP1 hD1 hS1
theorem vn_newlong (hexec : p.tables.exec = Jvm.exec) (hb : c.code = cc) (harr : (Cond.arrayClass .long).before args s = true) {tys : List (ClassId × FieldType)} {cI : ClassId} (hK : va_K D vwCl ((cI, .int) :: (cL, .long) :: tys) s) (hP : va_P D vwCl ws H) (hD : va_D A ws) (hS : va_S A H0 H locs) (hA : ∀ q, H0.size ≤ q → A q)
    {n : Int32} {N' : Nat} {a0 : vp_A} (ha : ∀ cA : ClassId, vp_cell cA a0 = arrV cA N' (fun _ => defaultValue .long)) (hn : ¬ n < 0) (hN : n.toNatClampNeg = N') (hbytes : N' * componentBytes .long ≤ 536870912) (hcells : cells + 1 ≤ R.cells) (hslots : slots + N' ≤ R.slots) (hdg : decode cc pc = .ok (.newarray .long, 2))
    (kk : ∀ (q : Nat) (H1 : Heap), va_P D vwCl (ws ++ [(q, .inl (cL, a0))]) H1 → va_D A (ws ++ [(q, .inl (cL, a0))]) → va_S A H0 H1 locs → W p l e R s m args below meth c H1 locs (cells + 1) (slots + N') Q (F0 m (pc + 2) ls (.ref q :: rest))) : W p l e R s m args below meth c H locs cells slots Q (F0 m pc ls (.int n :: rest)) := by
  refine va_newa (atype := .long) (ty := .long) hexec hb harr rfl hK hP hD hS hA ha hn hN hbytes hcells hslots hdg (fun q cA H1 hK1 hP1 hD1 hS1 => ?_)
  have e1 : va_RA s cA .long := (hK1.2 (tys.length + 2) (cA, .long) (by rw [List.getElem?_append_right (by simp)]; simp)).2
  have e2 : va_RA s cL .long := (hK.2 1 (cL, .long) rfl).2
  have e3 : cA = cL := by
    have h1 : s.vm.findClass ("[" ++ (FieldType.long).toString) = some cA := e1
    have h2 : s.vm.findClass ("[" ++ (FieldType.long).toString) = some cL := e2
    rw [h1] at h2; cases h2; rfl
  subst e3
  exact kk q H1 hP1 hD1 hS1
end VN
def fN0 (cI cL : ClassId) (h0 : Nat) (w : va_W) : Prop := ∃ q1 : Nat, w = [(h0, .inr (0, [.ref q1, .int 0, .int 0, .int 0, .int 0, .int 0])), (q1, .inl (cI, 25, .inl (fun _ => 0)))]
set_option maxHeartbeats 4000000 in
set_option maxRecDepth 100000 in
theorem kN0 (l : Launch) (D : va_G) (cI cL : ClassId) (h0 sz : Nat) : Met l yX0_init (wl_ mX0_init) ({ frames := 1, cells := 1, slots := 25, locals := 14 }) (va_Pc [.ref h0] (pN D cI cL sz [(h0, .inr (0, [.null, .int 0, .int 0, .int 0, .int 0, .int 0]))])) (va_Qv (fun _ : Unit => True) (fun _ t => ∃ w, fN0 cI cL h0 w ∧ qN D cI cL sz [(h0, .inr (0, [.null, .int 0, .int 0, .int 0, .int 0, .int 0]))] w t) (va_A [(h0, .inr (0, [.null, .int 0, .int 0, .int 0, .int 0, .int 0]))] sz)) 1 25 (va_A [(h0, .inr (0, [.null, .int 0, .int 0, .int 0, .int 0, .int 0]))] sz) := by
  refine Met.ofW (cc := cX0_init) (maxL := 1) (ret := none) (by decide) rfl ?_
  intro p e s m args below meth c s₁ B hml hv
  obtain ⟨rfl, hsz, hP, hK, hD0⟩ := hv
  have hx := B.exec
  have hb := B.bytes
  have hr := B.returns
  have htb : ∀ w ∈ tb_, w.before _ s = true := fun w hw => atoms_spec (ws := wl_ mX0_init) B.pre w (List.mem_cons_of_mem _ hw)
  have hown : s.vm.findClass RX0 = some m.cls := findClass_of_methodNamed B.named
  have hlocks := B.notSynchronized
  have hin : meth.name = "<init>" := (name_of_methodNamed B.named B.method).1
  subst hsz
  have hD := hD0.self (sz := s.heap.size)
  unfold qN
  generalize hAe : va_A [(h0, .inr (0, [.null, .int 0, .int 0, .int 0, .int 0, .int 0]))] s.heap.size = A at hD ⊢
  have hA : ∀ q : Nat, s.heap.size ≤ q → A q := fun q h => by rw [← hAe]; exact Or.inr h
  have hS : va_S A s.heap s.heap [] := va_S.rf
  have hl := lv_entry ([.ref h0]) (n := 1) (Nat.le_of_ble_eq_true rfl)
  rw [lg_entry_eq]
  generalize (lg_sl ([.ref h0]) ++ List.replicate (1 - (lg_sl ([.ref h0])).length) Slot.unset).toArray = ls at hl ⊢
  have hl : lv_has ls 1 [(0, .ref h0)] := hl
  refine lv_aload_n hx hb dX0_init_0 rfl (lv_at hl 0 rfl) ?_
  refine W.objInit hx hb hown (htb (.methodLink RX0 3 objectInit) (tb_of (tk_2 _ (List.mem_of_getElem? (i := 36) rfl)) rfl)) (htb (.instanceMethod objectInit) oi_) (htb _ oc_) rfl (by rw [hml]; exact hl.1) rfl dX0_init_1 (Nat.le_of_ble_eq_true rfl) (Nat.le_of_ble_eq_true rfl) ?_
  refine W.eq (g2 := F0 m 4 ls []) rfl ?_
  refine lv_aload_n hx hb dX0_init_4 rfl (lv_at hl 0 rfl) ?_
  refine lv_bipush hx hb dX0_init_5 (v := 25) (by decide) ?_
  refine vn_newint (N' := 25) (a0 := (25, .inl (fun _ => 0))) hx hb (htb _ ac_int) hK hP hD hS hA (fun _ => rfl) (by decide) (by decide) (Nat.le_of_ble_eq_true rfl) (Nat.le_of_ble_eq_true rfl) (Nat.le_of_ble_eq_true rfl) dX0_init_7 (fun q1 H hP hD hS => ?_)
  have hP : va_P D vwCl [(h0, .inr (0, [.null, .int 0, .int 0, .int 0, .int 0, .int 0])), (q1, .inl (cI, 25, .inl (fun _ => 0)))] H := hP
  have hD : va_D A [(h0, .inr (0, [.null, .int 0, .int 0, .int 0, .int 0, .int 0])), (q1, .inl (cI, 25, .inl (fun _ => 0)))] := hD
  refine W.widen (k := 1) (n := 25) (by omega) (by omega) ?_
  refine va_putF (D := D) (ci := 0) (v := .ref q1) (ty := .array .int) (C := RX0) (T := TX0) (N := 6) hx hb htb okX0.2.1 tyX0 okX0.2.2.1 okX0.2.2.2.1 hown hK hP hD hS 0 rfl rfl 0 (by decide) (htb (.fieldLink RX0 9 "EightWires$Bytes" "row" "[I") (tb_of (tk_2 _ (List.mem_of_getElem? (i := 37) rfl)) rfl)) (fun _ h9 => h9) rfl hin rfl (by decide +kernel) rfl rfl (Nat.le_of_ble_eq_true rfl) dX0_init_9 (fun H locs hP hD hS => ?_)
  have hP : va_P D vwCl [(h0, .inr (0, [.ref q1, .int 0, .int 0, .int 0, .int 0, .int 0])), (q1, .inl (cI, 25, .inl (fun _ => 0)))] H := hP
  have hD : va_D A [(h0, .inr (0, [.ref q1, .int 0, .int 0, .int 0, .int 0, .int 0])), (q1, .inl (cI, 25, .inl (fun _ => 0)))] := hD
  exact W.vret hx hb hr (fun t ht hW => ⟨⟨(), rfl, trivial, _, ⟨q1, rfl⟩, by rw [ht]; exact hP, va_K.moved hW.alike hK, hD⟩, hS.F ht⟩) hS.2.2 dX0_init_12
def fN1 (cI cL : ClassId) (h0 : Nat) (w : va_W) : Prop := ∃ q1 q2 : Nat, w = [(h0, .inr (1, [.ref q1, .ref q2, .int 0, .int 0, .int 0])), (q1, .inl (cI, 256, .inl (fun _ => 0))), (q2, .inl (cL, 1024, .inr (.inl (fun _ => 0))))]
set_option maxHeartbeats 4000000 in
set_option maxRecDepth 100000 in
theorem kN1 (l : Launch) (D : va_G) (cI cL : ClassId) (h0 sz : Nat) : Met l yX1_init (wl_ mX1_init) ({ frames := 1, cells := 2, slots := 1280, locals := 14 }) (va_Pc [.ref h0] (pN D cI cL sz [(h0, .inr (1, [.null, .null, .int 0, .int 0, .int 0]))])) (va_Qv (fun _ : Unit => True) (fun _ t => ∃ w, fN1 cI cL h0 w ∧ qN D cI cL sz [(h0, .inr (1, [.null, .null, .int 0, .int 0, .int 0]))] w t) (va_A [(h0, .inr (1, [.null, .null, .int 0, .int 0, .int 0]))] sz)) 2 1280 (va_A [(h0, .inr (1, [.null, .null, .int 0, .int 0, .int 0]))] sz) := by
  refine Met.ofW (cc := cX1_init) (maxL := 1) (ret := none) (by decide) rfl ?_
  intro p e s m args below meth c s₁ B hml hv
  obtain ⟨rfl, hsz, hP, hK, hD0⟩ := hv
  have hx := B.exec
  have hb := B.bytes
  have hr := B.returns
  have htb : ∀ w ∈ tb_, w.before _ s = true := fun w hw => atoms_spec (ws := wl_ mX1_init) B.pre w (List.mem_cons_of_mem _ hw)
  have hown : s.vm.findClass RX1 = some m.cls := findClass_of_methodNamed B.named
  have hlocks := B.notSynchronized
  have hin : meth.name = "<init>" := (name_of_methodNamed B.named B.method).1
  subst hsz
  have hD := hD0.self (sz := s.heap.size)
  unfold qN
  generalize hAe : va_A [(h0, .inr (1, [.null, .null, .int 0, .int 0, .int 0]))] s.heap.size = A at hD ⊢
  have hA : ∀ q : Nat, s.heap.size ≤ q → A q := fun q h => by rw [← hAe]; exact Or.inr h
  have hS : va_S A s.heap s.heap [] := va_S.rf
  have hl := lv_entry ([.ref h0]) (n := 1) (Nat.le_of_ble_eq_true rfl)
  rw [lg_entry_eq]
  generalize (lg_sl ([.ref h0]) ++ List.replicate (1 - (lg_sl ([.ref h0])).length) Slot.unset).toArray = ls at hl ⊢
  have hl : lv_has ls 1 [(0, .ref h0)] := hl
  refine lv_aload_n hx hb dX1_init_0 rfl (lv_at hl 0 rfl) ?_
  refine W.objInit hx hb hown (htb (.methodLink RX1 3 objectInit) (tb_of (tk_2 _ (List.mem_of_getElem? (i := 65) rfl)) rfl)) (htb (.instanceMethod objectInit) oi_) (htb _ oc_) rfl (by rw [hml]; exact hl.1) rfl dX1_init_1 (Nat.le_of_ble_eq_true rfl) (Nat.le_of_ble_eq_true rfl) ?_
  refine W.eq (g2 := F0 m 4 ls []) rfl ?_
  refine lv_aload_n hx hb dX1_init_4 rfl (lv_at hl 0 rfl) ?_
  refine lv_sipush hx hb dX1_init_5 (v := 256) (by decide) ?_
  refine vn_newint (N' := 256) (a0 := (256, .inl (fun _ => 0))) hx hb (htb _ ac_int) hK hP hD hS hA (fun _ => rfl) (by decide) (by decide) (Nat.le_of_ble_eq_true rfl) (Nat.le_of_ble_eq_true rfl) (Nat.le_of_ble_eq_true rfl) dX1_init_8 (fun q1 H hP hD hS => ?_)
  have hP : va_P D vwCl [(h0, .inr (1, [.null, .null, .int 0, .int 0, .int 0])), (q1, .inl (cI, 256, .inl (fun _ => 0)))] H := hP
  have hD : va_D A [(h0, .inr (1, [.null, .null, .int 0, .int 0, .int 0])), (q1, .inl (cI, 256, .inl (fun _ => 0)))] := hD
  refine W.widen (k := 1) (n := 256) (by omega) (by omega) ?_
  refine va_putF (D := D) (ci := 1) (v := .ref q1) (ty := .array .int) (C := RX1) (T := TX1) (N := 5) hx hb htb okX1.2.1 tyX1 okX1.2.2.1 okX1.2.2.2.1 hown hK hP hD hS 0 rfl rfl 0 (by decide) (htb (.fieldLink RX1 9 "EightWires$Census" "times" "[I") (tb_of (tk_2 _ (List.mem_of_getElem? (i := 66) rfl)) rfl)) (fun _ h9 => h9) rfl hin rfl (by decide +kernel) rfl rfl (Nat.le_of_ble_eq_true rfl) dX1_init_10 (fun H locs hP hD hS => ?_)
  have hP : va_P D vwCl [(h0, .inr (1, [.ref q1, .null, .int 0, .int 0, .int 0])), (q1, .inl (cI, 256, .inl (fun _ => 0)))] H := hP
  have hD : va_D A [(h0, .inr (1, [.ref q1, .null, .int 0, .int 0, .int 0])), (q1, .inl (cI, 256, .inl (fun _ => 0)))] := hD
  refine lv_aload_n hx hb dX1_init_13 rfl (lv_at hl 0 rfl) ?_
  refine lv_sipush hx hb dX1_init_14 (v := 1024) (by decide) ?_
  refine vn_newlong (N' := 1024) (a0 := (1024, .inr (.inl (fun _ => 0)))) hx hb (htb _ ac_long) hK hP hD hS hA (fun _ => rfl) (by decide) (by decide) (Nat.le_of_ble_eq_true rfl) (Nat.le_of_ble_eq_true rfl) (Nat.le_of_ble_eq_true rfl) dX1_init_17 (fun q2 H hP hD hS => ?_)
  have hP : va_P D vwCl [(h0, .inr (1, [.ref q1, .null, .int 0, .int 0, .int 0])), (q1, .inl (cI, 256, .inl (fun _ => 0))), (q2, .inl (cL, 1024, .inr (.inl (fun _ => 0))))] H := hP
  have hD : va_D A [(h0, .inr (1, [.ref q1, .null, .int 0, .int 0, .int 0])), (q1, .inl (cI, 256, .inl (fun _ => 0))), (q2, .inl (cL, 1024, .inr (.inl (fun _ => 0))))] := hD
  refine W.widen (k := 2) (n := 1280) (by omega) (by omega) ?_
  refine va_putF (D := D) (ci := 1) (v := .ref q2) (ty := .array .long) (C := RX1) (T := TX1) (N := 5) hx hb htb okX1.2.1 tyX1 okX1.2.2.1 okX1.2.2.2.1 hown hK hP hD hS 0 rfl rfl 1 (by decide) (htb (.fieldLink RX1 15 "EightWires$Census" "pairs" "[J") (tb_of (tk_2 _ (List.mem_of_getElem? (i := 67) rfl)) rfl)) (fun _ h9 => h9) rfl hin rfl (by decide +kernel) rfl rfl (Nat.le_of_ble_eq_true rfl) dX1_init_19 (fun H locs hP hD hS => ?_)
  have hP : va_P D vwCl [(h0, .inr (1, [.ref q1, .ref q2, .int 0, .int 0, .int 0])), (q1, .inl (cI, 256, .inl (fun _ => 0))), (q2, .inl (cL, 1024, .inr (.inl (fun _ => 0))))] H := hP
  have hD : va_D A [(h0, .inr (1, [.ref q1, .ref q2, .int 0, .int 0, .int 0])), (q1, .inl (cI, 256, .inl (fun _ => 0))), (q2, .inl (cL, 1024, .inr (.inl (fun _ => 0))))] := hD
  exact W.vret hx hb hr (fun t ht hW => ⟨⟨(), rfl, trivial, _, ⟨q1, q2, rfl⟩, by rw [ht]; exact hP, va_K.moved hW.alike hK, hD⟩, hS.F ht⟩) hS.2.2 dX1_init_22
def fN2 (cI cL : ClassId) (h0 : Nat) (w : va_W) : Prop := w = [(h0, .inr (2, [.int 0, .int 0, .int 0, .int 0, .int 0]))]
set_option maxHeartbeats 4000000 in
set_option maxRecDepth 100000 in
theorem kN2 (l : Launch) (D : va_G) (cI cL : ClassId) (h0 sz : Nat) : Met l yX2_init (wl_ mX2_init) ({ frames := 1, cells := 0, slots := 0, locals := 14 }) (va_Pc [.ref h0] (pN D cI cL sz [(h0, .inr (2, [.int 0, .int 0, .int 0, .int 0, .int 0]))])) (va_Qv (fun _ : Unit => True) (fun _ t => ∃ w, fN2 cI cL h0 w ∧ qN D cI cL sz [(h0, .inr (2, [.int 0, .int 0, .int 0, .int 0, .int 0]))] w t) (va_A [(h0, .inr (2, [.int 0, .int 0, .int 0, .int 0, .int 0]))] sz)) 0 0 (va_A [(h0, .inr (2, [.int 0, .int 0, .int 0, .int 0, .int 0]))] sz) := by
  refine Met.ofW (cc := cX2_init) (maxL := 1) (ret := none) (by decide) rfl ?_
  intro p e s m args below meth c s₁ B hml hv
  obtain ⟨rfl, hsz, hP, hK, hD0⟩ := hv
  have hx := B.exec
  have hb := B.bytes
  have hr := B.returns
  have htb : ∀ w ∈ tb_, w.before _ s = true := fun w hw => atoms_spec (ws := wl_ mX2_init) B.pre w (List.mem_cons_of_mem _ hw)
  have hown : s.vm.findClass RX2 = some m.cls := findClass_of_methodNamed B.named
  have hlocks := B.notSynchronized
  have hin : meth.name = "<init>" := (name_of_methodNamed B.named B.method).1
  subst hsz
  have hD := hD0.self (sz := s.heap.size)
  unfold qN
  generalize hAe : va_A [(h0, .inr (2, [.int 0, .int 0, .int 0, .int 0, .int 0]))] s.heap.size = A at hD ⊢
  have hA : ∀ q : Nat, s.heap.size ≤ q → A q := fun q h => by rw [← hAe]; exact Or.inr h
  have hS : va_S A s.heap s.heap [] := va_S.rf
  have hl := lv_entry ([.ref h0]) (n := 1) (Nat.le_of_ble_eq_true rfl)
  rw [lg_entry_eq]
  generalize (lg_sl ([.ref h0]) ++ List.replicate (1 - (lg_sl ([.ref h0])).length) Slot.unset).toArray = ls at hl ⊢
  have hl : lv_has ls 1 [(0, .ref h0)] := hl
  refine lv_aload_n hx hb dX2_init_0 rfl (lv_at hl 0 rfl) ?_
  refine W.objInit hx hb hown (htb (.methodLink RX2 3 objectInit) (tb_of (tk_2 _ (List.mem_of_getElem? (i := 9) rfl)) rfl)) (htb (.instanceMethod objectInit) oi_) (htb _ oc_) rfl (by rw [hml]; exact hl.1) rfl dX2_init_1 (Nat.le_of_ble_eq_true rfl) (Nat.le_of_ble_eq_true rfl) ?_
  refine W.eq (g2 := F0 m 4 ls []) rfl ?_
  exact W.vret hx hb hr (fun t ht hW => ⟨⟨(), rfl, trivial, _, rfl, by rw [ht]; exact hP, va_K.moved hW.alike hK, hD⟩, hS.F ht⟩) hS.2.2 dX2_init_4
def fN3 (cI cL : ClassId) (h0 : Nat) (w : va_W) : Prop := w = [(h0, .inr (3, [.int 0, .int 0, .int 0, .int 0, .int 0, .int 0]))]
set_option maxHeartbeats 4000000 in
set_option maxRecDepth 100000 in
theorem kN3 (l : Launch) (D : va_G) (cI cL : ClassId) (h0 sz : Nat) : Met l yX3_init (wl_ mX3_init) ({ frames := 1, cells := 0, slots := 0, locals := 14 }) (va_Pc [.ref h0] (pN D cI cL sz [(h0, .inr (3, [.int 0, .int 0, .int 0, .int 0, .int 0, .int 0]))])) (va_Qv (fun _ : Unit => True) (fun _ t => ∃ w, fN3 cI cL h0 w ∧ qN D cI cL sz [(h0, .inr (3, [.int 0, .int 0, .int 0, .int 0, .int 0, .int 0]))] w t) (va_A [(h0, .inr (3, [.int 0, .int 0, .int 0, .int 0, .int 0, .int 0]))] sz)) 0 0 (va_A [(h0, .inr (3, [.int 0, .int 0, .int 0, .int 0, .int 0, .int 0]))] sz) := by
  refine Met.ofW (cc := cX3_init) (maxL := 1) (ret := none) (by decide) rfl ?_
  intro p e s m args below meth c s₁ B hml hv
  obtain ⟨rfl, hsz, hP, hK, hD0⟩ := hv
  have hx := B.exec
  have hb := B.bytes
  have hr := B.returns
  have htb : ∀ w ∈ tb_, w.before _ s = true := fun w hw => atoms_spec (ws := wl_ mX3_init) B.pre w (List.mem_cons_of_mem _ hw)
  have hown : s.vm.findClass RX3 = some m.cls := findClass_of_methodNamed B.named
  have hlocks := B.notSynchronized
  have hin : meth.name = "<init>" := (name_of_methodNamed B.named B.method).1
  subst hsz
  have hD := hD0.self (sz := s.heap.size)
  unfold qN
  generalize hAe : va_A [(h0, .inr (3, [.int 0, .int 0, .int 0, .int 0, .int 0, .int 0]))] s.heap.size = A at hD ⊢
  have hA : ∀ q : Nat, s.heap.size ≤ q → A q := fun q h => by rw [← hAe]; exact Or.inr h
  have hS : va_S A s.heap s.heap [] := va_S.rf
  have hl := lv_entry ([.ref h0]) (n := 1) (Nat.le_of_ble_eq_true rfl)
  rw [lg_entry_eq]
  generalize (lg_sl ([.ref h0]) ++ List.replicate (1 - (lg_sl ([.ref h0])).length) Slot.unset).toArray = ls at hl ⊢
  have hl : lv_has ls 1 [(0, .ref h0)] := hl
  refine lv_aload_n hx hb dX3_init_0 rfl (lv_at hl 0 rfl) ?_
  refine W.objInit hx hb hown (htb (.methodLink RX3 3 objectInit) (tb_of (tk_1 _ (List.mem_of_getElem? (i := 218) rfl)) rfl)) (htb (.instanceMethod objectInit) oi_) (htb _ oc_) rfl (by rw [hml]; exact hl.1) rfl dX3_init_1 (Nat.le_of_ble_eq_true rfl) (Nat.le_of_ble_eq_true rfl) ?_
  refine W.eq (g2 := F0 m 4 ls []) rfl ?_
  exact W.vret hx hb hr (fun t ht hW => ⟨⟨(), rfl, trivial, _, rfl, by rw [ht]; exact hP, va_K.moved hW.alike hK, hD⟩, hS.F ht⟩) hS.2.2 dX3_init_4
def fN5 (cI cL : ClassId) (h0 : Nat) (w : va_W) : Prop := ∃ q1 q2 q3 q4 q5 q6 : Nat, w = [(h0, .inr (5, [.ref q1, .ref q2, .ref q3, .ref q4, .ref q5, .ref q6, .int 0, .int 100, .int 0])), (q1, .inl (cI, 8, .inl (fun _ => 0))), (q2, .inl (cI, 24, .inl (fun _ => 0))), (q3, .inl (cI, 24, .inl (fun _ => 0))), (q4, .inl (cI, 25, .inl (fun _ => 0))), (q5, .inl (cI, 75, .inl (fun _ => 0))), (q6, .inl (cI, 75, .inl (fun _ => 0)))]
set_option maxHeartbeats 4000000 in
set_option maxRecDepth 100000 in
theorem kN5 (l : Launch) (D : va_G) (cI cL : ClassId) (h0 sz : Nat) : Met l yX5_init (wl_ mX5_init) ({ frames := 1, cells := 6, slots := 231, locals := 14 }) (va_Pc [.ref h0] (pN D cI cL sz [(h0, .inr (5, [.null, .null, .null, .null, .null, .null, .int 0, .int 0, .int 0]))])) (va_Qv (fun _ : Unit => True) (fun _ t => ∃ w, fN5 cI cL h0 w ∧ qN D cI cL sz [(h0, .inr (5, [.null, .null, .null, .null, .null, .null, .int 0, .int 0, .int 0]))] w t) (va_A [(h0, .inr (5, [.null, .null, .null, .null, .null, .null, .int 0, .int 0, .int 0]))] sz)) 6 231 (va_A [(h0, .inr (5, [.null, .null, .null, .null, .null, .null, .int 0, .int 0, .int 0]))] sz) := by
  refine Met.ofW (cc := cX5_init) (maxL := 1) (ret := none) (by decide) rfl ?_
  intro p e s m args below meth c s₁ B hml hv
  obtain ⟨rfl, hsz, hP, hK, hD0⟩ := hv
  have hx := B.exec
  have hb := B.bytes
  have hr := B.returns
  have htb : ∀ w ∈ tb_, w.before _ s = true := fun w hw => atoms_spec (ws := wl_ mX5_init) B.pre w (List.mem_cons_of_mem _ hw)
  have hown : s.vm.findClass RX5 = some m.cls := findClass_of_methodNamed B.named
  have hlocks := B.notSynchronized
  have hin : meth.name = "<init>" := (name_of_methodNamed B.named B.method).1
  subst hsz
  have hD := hD0.self (sz := s.heap.size)
  unfold qN
  generalize hAe : va_A [(h0, .inr (5, [.null, .null, .null, .null, .null, .null, .int 0, .int 0, .int 0]))] s.heap.size = A at hD ⊢
  have hA : ∀ q : Nat, s.heap.size ≤ q → A q := fun q h => by rw [← hAe]; exact Or.inr h
  have hS : va_S A s.heap s.heap [] := va_S.rf
  have hl := lv_entry ([.ref h0]) (n := 1) (Nat.le_of_ble_eq_true rfl)
  rw [lg_entry_eq]
  generalize (lg_sl ([.ref h0]) ++ List.replicate (1 - (lg_sl ([.ref h0])).length) Slot.unset).toArray = ls at hl ⊢
  have hl : lv_has ls 1 [(0, .ref h0)] := hl
  refine lv_aload_n hx hb dX5_init_0 rfl (lv_at hl 0 rfl) ?_
  refine W.objInit hx hb hown (htb (.methodLink RX5 5 objectInit) (tb_of (tk_1 _ (List.mem_of_getElem? (i := 70) rfl)) rfl)) (htb (.instanceMethod objectInit) oi_) (htb _ oc_) rfl (by rw [hml]; exact hl.1) rfl dX5_init_1 (Nat.le_of_ble_eq_true rfl) (Nat.le_of_ble_eq_true rfl) ?_
  refine W.eq (g2 := F0 m 4 ls []) rfl ?_
  refine lv_aload_n hx hb dX5_init_4 rfl (lv_at hl 0 rfl) ?_
  refine lv_bipush hx hb dX5_init_5 (v := 8) (by decide) ?_
  refine vn_newint (N' := 8) (a0 := (8, .inl (fun _ => 0))) hx hb (htb _ ac_int) hK hP hD hS hA (fun _ => rfl) (by decide) (by decide) (Nat.le_of_ble_eq_true rfl) (Nat.le_of_ble_eq_true rfl) (Nat.le_of_ble_eq_true rfl) dX5_init_7 (fun q1 H hP hD hS => ?_)
  have hP : va_P D vwCl [(h0, .inr (5, [.null, .null, .null, .null, .null, .null, .int 0, .int 0, .int 0])), (q1, .inl (cI, 8, .inl (fun _ => 0)))] H := hP
  have hD : va_D A [(h0, .inr (5, [.null, .null, .null, .null, .null, .null, .int 0, .int 0, .int 0])), (q1, .inl (cI, 8, .inl (fun _ => 0)))] := hD
  refine W.widen (k := 1) (n := 8) (by omega) (by omega) ?_
  refine va_putF (D := D) (ci := 5) (v := .ref q1) (ty := .array .int) (C := RX5) (T := TX5) (N := 9) hx hb htb okX5.2.1 tyX5 okX5.2.2.1 okX5.2.2.2.1 hown hK hP hD hS 0 rfl rfl 0 (by decide) (htb (.fieldLink RX5 11 "EightWires$Rules" "branchCounts" "[I") (tb_of (tk_1 _ (List.mem_of_getElem? (i := 71) rfl)) rfl)) (fun _ h9 => h9) rfl hin rfl (by decide +kernel) rfl rfl (Nat.le_of_ble_eq_true rfl) dX5_init_9 (fun H locs hP hD hS => ?_)
  have hP : va_P D vwCl [(h0, .inr (5, [.ref q1, .null, .null, .null, .null, .null, .int 0, .int 0, .int 0])), (q1, .inl (cI, 8, .inl (fun _ => 0)))] H := hP
  have hD : va_D A [(h0, .inr (5, [.ref q1, .null, .null, .null, .null, .null, .int 0, .int 0, .int 0])), (q1, .inl (cI, 8, .inl (fun _ => 0)))] := hD
  refine lv_aload_n hx hb dX5_init_12 rfl (lv_at hl 0 rfl) ?_
  refine lv_bipush hx hb dX5_init_13 (v := 24) (by decide) ?_
  refine vn_newint (N' := 24) (a0 := (24, .inl (fun _ => 0))) hx hb (htb _ ac_int) hK hP hD hS hA (fun _ => rfl) (by decide) (by decide) (Nat.le_of_ble_eq_true rfl) (Nat.le_of_ble_eq_true rfl) (Nat.le_of_ble_eq_true rfl) dX5_init_15 (fun q2 H hP hD hS => ?_)
  have hP : va_P D vwCl [(h0, .inr (5, [.ref q1, .null, .null, .null, .null, .null, .int 0, .int 0, .int 0])), (q1, .inl (cI, 8, .inl (fun _ => 0))), (q2, .inl (cI, 24, .inl (fun _ => 0)))] H := hP
  have hD : va_D A [(h0, .inr (5, [.ref q1, .null, .null, .null, .null, .null, .int 0, .int 0, .int 0])), (q1, .inl (cI, 8, .inl (fun _ => 0))), (q2, .inl (cI, 24, .inl (fun _ => 0)))] := hD
  refine W.widen (k := 2) (n := 32) (by omega) (by omega) ?_
  refine va_putF (D := D) (ci := 5) (v := .ref q2) (ty := .array .int) (C := RX5) (T := TX5) (N := 9) hx hb htb okX5.2.1 tyX5 okX5.2.2.1 okX5.2.2.2.1 hown hK hP hD hS 0 rfl rfl 1 (by decide) (htb (.fieldLink RX5 15 "EightWires$Rules" "times" "[I") (tb_of (tk_1 _ (List.mem_of_getElem? (i := 72) rfl)) rfl)) (fun _ h9 => h9) rfl hin rfl (by decide +kernel) rfl rfl (Nat.le_of_ble_eq_true rfl) dX5_init_17 (fun H locs hP hD hS => ?_)
  have hP : va_P D vwCl [(h0, .inr (5, [.ref q1, .ref q2, .null, .null, .null, .null, .int 0, .int 0, .int 0])), (q1, .inl (cI, 8, .inl (fun _ => 0))), (q2, .inl (cI, 24, .inl (fun _ => 0)))] H := hP
  have hD : va_D A [(h0, .inr (5, [.ref q1, .ref q2, .null, .null, .null, .null, .int 0, .int 0, .int 0])), (q1, .inl (cI, 8, .inl (fun _ => 0))), (q2, .inl (cI, 24, .inl (fun _ => 0)))] := hD
  refine lv_aload_n hx hb dX5_init_20 rfl (lv_at hl 0 rfl) ?_
  refine lv_bipush hx hb dX5_init_21 (v := 24) (by decide) ?_
  refine vn_newint (N' := 24) (a0 := (24, .inl (fun _ => 0))) hx hb (htb _ ac_int) hK hP hD hS hA (fun _ => rfl) (by decide) (by decide) (Nat.le_of_ble_eq_true rfl) (Nat.le_of_ble_eq_true rfl) (Nat.le_of_ble_eq_true rfl) dX5_init_23 (fun q3 H hP hD hS => ?_)
  have hP : va_P D vwCl [(h0, .inr (5, [.ref q1, .ref q2, .null, .null, .null, .null, .int 0, .int 0, .int 0])), (q1, .inl (cI, 8, .inl (fun _ => 0))), (q2, .inl (cI, 24, .inl (fun _ => 0))), (q3, .inl (cI, 24, .inl (fun _ => 0)))] H := hP
  have hD : va_D A [(h0, .inr (5, [.ref q1, .ref q2, .null, .null, .null, .null, .int 0, .int 0, .int 0])), (q1, .inl (cI, 8, .inl (fun _ => 0))), (q2, .inl (cI, 24, .inl (fun _ => 0))), (q3, .inl (cI, 24, .inl (fun _ => 0)))] := hD
  refine W.widen (k := 3) (n := 56) (by omega) (by omega) ?_
  refine va_putF (D := D) (ci := 5) (v := .ref q3) (ty := .array .int) (C := RX5) (T := TX5) (N := 9) hx hb htb okX5.2.1 tyX5 okX5.2.2.1 okX5.2.2.2.1 hown hK hP hD hS 0 rfl rfl 2 (by decide) (htb (.fieldLink RX5 18 "EightWires$Rules" "targets" "[I") (tb_of (tk_1 _ (List.mem_of_getElem? (i := 73) rfl)) rfl)) (fun _ h9 => h9) rfl hin rfl (by decide +kernel) rfl rfl (Nat.le_of_ble_eq_true rfl) dX5_init_25 (fun H locs hP hD hS => ?_)
  have hP : va_P D vwCl [(h0, .inr (5, [.ref q1, .ref q2, .ref q3, .null, .null, .null, .int 0, .int 0, .int 0])), (q1, .inl (cI, 8, .inl (fun _ => 0))), (q2, .inl (cI, 24, .inl (fun _ => 0))), (q3, .inl (cI, 24, .inl (fun _ => 0)))] H := hP
  have hD : va_D A [(h0, .inr (5, [.ref q1, .ref q2, .ref q3, .null, .null, .null, .int 0, .int 0, .int 0])), (q1, .inl (cI, 8, .inl (fun _ => 0))), (q2, .inl (cI, 24, .inl (fun _ => 0))), (q3, .inl (cI, 24, .inl (fun _ => 0)))] := hD
  refine lv_aload_n hx hb dX5_init_28 rfl (lv_at hl 0 rfl) ?_
  refine lv_bipush hx hb dX5_init_29 (v := 25) (by decide) ?_
  refine vn_newint (N' := 25) (a0 := (25, .inl (fun _ => 0))) hx hb (htb _ ac_int) hK hP hD hS hA (fun _ => rfl) (by decide) (by decide) (Nat.le_of_ble_eq_true rfl) (Nat.le_of_ble_eq_true rfl) (Nat.le_of_ble_eq_true rfl) dX5_init_31 (fun q4 H hP hD hS => ?_)
  have hP : va_P D vwCl [(h0, .inr (5, [.ref q1, .ref q2, .ref q3, .null, .null, .null, .int 0, .int 0, .int 0])), (q1, .inl (cI, 8, .inl (fun _ => 0))), (q2, .inl (cI, 24, .inl (fun _ => 0))), (q3, .inl (cI, 24, .inl (fun _ => 0))), (q4, .inl (cI, 25, .inl (fun _ => 0)))] H := hP
  have hD : va_D A [(h0, .inr (5, [.ref q1, .ref q2, .ref q3, .null, .null, .null, .int 0, .int 0, .int 0])), (q1, .inl (cI, 8, .inl (fun _ => 0))), (q2, .inl (cI, 24, .inl (fun _ => 0))), (q3, .inl (cI, 24, .inl (fun _ => 0))), (q4, .inl (cI, 25, .inl (fun _ => 0)))] := hD
  refine W.widen (k := 4) (n := 81) (by omega) (by omega) ?_
  refine va_putF (D := D) (ci := 5) (v := .ref q4) (ty := .array .int) (C := RX5) (T := TX5) (N := 9) hx hb htb okX5.2.1 tyX5 okX5.2.2.1 okX5.2.2.2.1 hown hK hP hD hS 0 rfl rfl 3 (by decide) (htb (.fieldLink RX5 21 "EightWires$Rules" "termCounts" "[I") (tb_of (tk_1 _ (List.mem_of_getElem? (i := 74) rfl)) rfl)) (fun _ h9 => h9) rfl hin rfl (by decide +kernel) rfl rfl (Nat.le_of_ble_eq_true rfl) dX5_init_33 (fun H locs hP hD hS => ?_)
  have hP : va_P D vwCl [(h0, .inr (5, [.ref q1, .ref q2, .ref q3, .ref q4, .null, .null, .int 0, .int 0, .int 0])), (q1, .inl (cI, 8, .inl (fun _ => 0))), (q2, .inl (cI, 24, .inl (fun _ => 0))), (q3, .inl (cI, 24, .inl (fun _ => 0))), (q4, .inl (cI, 25, .inl (fun _ => 0)))] H := hP
  have hD : va_D A [(h0, .inr (5, [.ref q1, .ref q2, .ref q3, .ref q4, .null, .null, .int 0, .int 0, .int 0])), (q1, .inl (cI, 8, .inl (fun _ => 0))), (q2, .inl (cI, 24, .inl (fun _ => 0))), (q3, .inl (cI, 24, .inl (fun _ => 0))), (q4, .inl (cI, 25, .inl (fun _ => 0)))] := hD
  refine lv_aload_n hx hb dX5_init_36 rfl (lv_at hl 0 rfl) ?_
  refine lv_bipush hx hb dX5_init_37 (v := 75) (by decide) ?_
  refine vn_newint (N' := 75) (a0 := (75, .inl (fun _ => 0))) hx hb (htb _ ac_int) hK hP hD hS hA (fun _ => rfl) (by decide) (by decide) (Nat.le_of_ble_eq_true rfl) (Nat.le_of_ble_eq_true rfl) (Nat.le_of_ble_eq_true rfl) dX5_init_39 (fun q5 H hP hD hS => ?_)
  have hP : va_P D vwCl [(h0, .inr (5, [.ref q1, .ref q2, .ref q3, .ref q4, .null, .null, .int 0, .int 0, .int 0])), (q1, .inl (cI, 8, .inl (fun _ => 0))), (q2, .inl (cI, 24, .inl (fun _ => 0))), (q3, .inl (cI, 24, .inl (fun _ => 0))), (q4, .inl (cI, 25, .inl (fun _ => 0))), (q5, .inl (cI, 75, .inl (fun _ => 0)))] H := hP
  have hD : va_D A [(h0, .inr (5, [.ref q1, .ref q2, .ref q3, .ref q4, .null, .null, .int 0, .int 0, .int 0])), (q1, .inl (cI, 8, .inl (fun _ => 0))), (q2, .inl (cI, 24, .inl (fun _ => 0))), (q3, .inl (cI, 24, .inl (fun _ => 0))), (q4, .inl (cI, 25, .inl (fun _ => 0))), (q5, .inl (cI, 75, .inl (fun _ => 0)))] := hD
  refine W.widen (k := 5) (n := 156) (by omega) (by omega) ?_
  refine va_putF (D := D) (ci := 5) (v := .ref q5) (ty := .array .int) (C := RX5) (T := TX5) (N := 9) hx hb htb okX5.2.1 tyX5 okX5.2.2.1 okX5.2.2.2.1 hown hK hP hD hS 0 rfl rfl 4 (by decide) (htb (.fieldLink RX5 24 "EightWires$Rules" "termKinds" "[I") (tb_of (tk_1 _ (List.mem_of_getElem? (i := 75) rfl)) rfl)) (fun _ h9 => h9) rfl hin rfl (by decide +kernel) rfl rfl (Nat.le_of_ble_eq_true rfl) dX5_init_41 (fun H locs hP hD hS => ?_)
  have hP : va_P D vwCl [(h0, .inr (5, [.ref q1, .ref q2, .ref q3, .ref q4, .ref q5, .null, .int 0, .int 0, .int 0])), (q1, .inl (cI, 8, .inl (fun _ => 0))), (q2, .inl (cI, 24, .inl (fun _ => 0))), (q3, .inl (cI, 24, .inl (fun _ => 0))), (q4, .inl (cI, 25, .inl (fun _ => 0))), (q5, .inl (cI, 75, .inl (fun _ => 0)))] H := hP
  have hD : va_D A [(h0, .inr (5, [.ref q1, .ref q2, .ref q3, .ref q4, .ref q5, .null, .int 0, .int 0, .int 0])), (q1, .inl (cI, 8, .inl (fun _ => 0))), (q2, .inl (cI, 24, .inl (fun _ => 0))), (q3, .inl (cI, 24, .inl (fun _ => 0))), (q4, .inl (cI, 25, .inl (fun _ => 0))), (q5, .inl (cI, 75, .inl (fun _ => 0)))] := hD
  refine lv_aload_n hx hb dX5_init_44 rfl (lv_at hl 0 rfl) ?_
  refine lv_bipush hx hb dX5_init_45 (v := 75) (by decide) ?_
  refine vn_newint (N' := 75) (a0 := (75, .inl (fun _ => 0))) hx hb (htb _ ac_int) hK hP hD hS hA (fun _ => rfl) (by decide) (by decide) (Nat.le_of_ble_eq_true rfl) (Nat.le_of_ble_eq_true rfl) (Nat.le_of_ble_eq_true rfl) dX5_init_47 (fun q6 H hP hD hS => ?_)
  have hP : va_P D vwCl [(h0, .inr (5, [.ref q1, .ref q2, .ref q3, .ref q4, .ref q5, .null, .int 0, .int 0, .int 0])), (q1, .inl (cI, 8, .inl (fun _ => 0))), (q2, .inl (cI, 24, .inl (fun _ => 0))), (q3, .inl (cI, 24, .inl (fun _ => 0))), (q4, .inl (cI, 25, .inl (fun _ => 0))), (q5, .inl (cI, 75, .inl (fun _ => 0))), (q6, .inl (cI, 75, .inl (fun _ => 0)))] H := hP
  have hD : va_D A [(h0, .inr (5, [.ref q1, .ref q2, .ref q3, .ref q4, .ref q5, .null, .int 0, .int 0, .int 0])), (q1, .inl (cI, 8, .inl (fun _ => 0))), (q2, .inl (cI, 24, .inl (fun _ => 0))), (q3, .inl (cI, 24, .inl (fun _ => 0))), (q4, .inl (cI, 25, .inl (fun _ => 0))), (q5, .inl (cI, 75, .inl (fun _ => 0))), (q6, .inl (cI, 75, .inl (fun _ => 0)))] := hD
  refine W.widen (k := 6) (n := 231) (by omega) (by omega) ?_
  refine va_putF (D := D) (ci := 5) (v := .ref q6) (ty := .array .int) (C := RX5) (T := TX5) (N := 9) hx hb htb okX5.2.1 tyX5 okX5.2.2.1 okX5.2.2.2.1 hown hK hP hD hS 0 rfl rfl 5 (by decide) (htb (.fieldLink RX5 27 "EightWires$Rules" "termNumbers" "[I") (tb_of (tk_1 _ (List.mem_of_getElem? (i := 76) rfl)) rfl)) (fun _ h9 => h9) rfl hin rfl (by decide +kernel) rfl rfl (Nat.le_of_ble_eq_true rfl) dX5_init_49 (fun H locs hP hD hS => ?_)
  have hP : va_P D vwCl [(h0, .inr (5, [.ref q1, .ref q2, .ref q3, .ref q4, .ref q5, .ref q6, .int 0, .int 0, .int 0])), (q1, .inl (cI, 8, .inl (fun _ => 0))), (q2, .inl (cI, 24, .inl (fun _ => 0))), (q3, .inl (cI, 24, .inl (fun _ => 0))), (q4, .inl (cI, 25, .inl (fun _ => 0))), (q5, .inl (cI, 75, .inl (fun _ => 0))), (q6, .inl (cI, 75, .inl (fun _ => 0)))] H := hP
  have hD : va_D A [(h0, .inr (5, [.ref q1, .ref q2, .ref q3, .ref q4, .ref q5, .ref q6, .int 0, .int 0, .int 0])), (q1, .inl (cI, 8, .inl (fun _ => 0))), (q2, .inl (cI, 24, .inl (fun _ => 0))), (q3, .inl (cI, 24, .inl (fun _ => 0))), (q4, .inl (cI, 25, .inl (fun _ => 0))), (q5, .inl (cI, 75, .inl (fun _ => 0))), (q6, .inl (cI, 75, .inl (fun _ => 0)))] := hD
  refine lv_aload_n hx hb dX5_init_52 rfl (lv_at hl 0 rfl) ?_
  refine lv_bipush hx hb dX5_init_53 (v := 100) (by decide) ?_
  refine va_put (D := D) (ci := 5) (v := .int 100) (ty := .int) (C := RX5) (T := TX5) (N := 9) hx hb htb okX5.2.1 tyX5 okX5.2.2.1 okX5.2.2.2.1 hown hK hP hD hS 0 rfl rfl 7 (by decide) (htb (.fieldLink RX5 30 "EightWires$Rules" "depth" "I") (tb_of (tk_1 _ (List.mem_of_getElem? (i := 81) rfl)) rfl)) (fun _ h9 => h9) rfl (by decide +kernel) rfl rfl (Nat.le_of_ble_eq_true rfl) dX5_init_55 (fun H locs hP hD hS => ?_)
  have hP : va_P D vwCl [(h0, .inr (5, [.ref q1, .ref q2, .ref q3, .ref q4, .ref q5, .ref q6, .int 0, .int 100, .int 0])), (q1, .inl (cI, 8, .inl (fun _ => 0))), (q2, .inl (cI, 24, .inl (fun _ => 0))), (q3, .inl (cI, 24, .inl (fun _ => 0))), (q4, .inl (cI, 25, .inl (fun _ => 0))), (q5, .inl (cI, 75, .inl (fun _ => 0))), (q6, .inl (cI, 75, .inl (fun _ => 0)))] H := hP
  have hD : va_D A [(h0, .inr (5, [.ref q1, .ref q2, .ref q3, .ref q4, .ref q5, .ref q6, .int 0, .int 100, .int 0])), (q1, .inl (cI, 8, .inl (fun _ => 0))), (q2, .inl (cI, 24, .inl (fun _ => 0))), (q3, .inl (cI, 24, .inl (fun _ => 0))), (q4, .inl (cI, 25, .inl (fun _ => 0))), (q5, .inl (cI, 75, .inl (fun _ => 0))), (q6, .inl (cI, 75, .inl (fun _ => 0)))] := hD
  exact W.vret hx hb hr (fun t ht hW => ⟨⟨(), rfl, trivial, _, ⟨q1, q2, q3, q4, q5, q6, rfl⟩, by rw [ht]; exact hP, va_K.moved hW.alike hK, hD⟩, hS.F ht⟩) hS.2.2 dX5_init_58
def fN6 (cI cL : ClassId) (h0 : Nat) (w : va_W) : Prop := ∃ q1 : Nat, w = [(h0, .inr (6, [.ref q1, .int 0, .int (-1)])), (q1, .inl (cI, 40, .inl (fun _ => 0)))]
set_option maxHeartbeats 4000000 in
set_option maxRecDepth 100000 in
theorem kN6 (l : Launch) (D : va_G) (cI cL : ClassId) (h0 sz : Nat) : Met l yX6_init (wl_ mX6_init) ({ frames := 1, cells := 1, slots := 40, locals := 14 }) (va_Pc [.ref h0] (pN D cI cL sz [(h0, .inr (6, [.null, .int 0, .int 0]))])) (va_Qv (fun _ : Unit => True) (fun _ t => ∃ w, fN6 cI cL h0 w ∧ qN D cI cL sz [(h0, .inr (6, [.null, .int 0, .int 0]))] w t) (va_A [(h0, .inr (6, [.null, .int 0, .int 0]))] sz)) 1 40 (va_A [(h0, .inr (6, [.null, .int 0, .int 0]))] sz) := by
  refine Met.ofW (cc := cX6_init) (maxL := 1) (ret := none) (by decide) rfl ?_
  intro p e s m args below meth c s₁ B hml hv
  obtain ⟨rfl, hsz, hP, hK, hD0⟩ := hv
  have hx := B.exec
  have hb := B.bytes
  have hr := B.returns
  have htb : ∀ w ∈ tb_, w.before _ s = true := fun w hw => atoms_spec (ws := wl_ mX6_init) B.pre w (List.mem_cons_of_mem _ hw)
  have hown : s.vm.findClass RX6 = some m.cls := findClass_of_methodNamed B.named
  have hlocks := B.notSynchronized
  have hin : meth.name = "<init>" := (name_of_methodNamed B.named B.method).1
  subst hsz
  have hD := hD0.self (sz := s.heap.size)
  unfold qN
  generalize hAe : va_A [(h0, .inr (6, [.null, .int 0, .int 0]))] s.heap.size = A at hD ⊢
  have hA : ∀ q : Nat, s.heap.size ≤ q → A q := fun q h => by rw [← hAe]; exact Or.inr h
  have hS : va_S A s.heap s.heap [] := va_S.rf
  have hl := lv_entry ([.ref h0]) (n := 1) (Nat.le_of_ble_eq_true rfl)
  rw [lg_entry_eq]
  generalize (lg_sl ([.ref h0]) ++ List.replicate (1 - (lg_sl ([.ref h0])).length) Slot.unset).toArray = ls at hl ⊢
  have hl : lv_has ls 1 [(0, .ref h0)] := hl
  refine lv_aload_n hx hb dX6_init_0 rfl (lv_at hl 0 rfl) ?_
  refine W.objInit hx hb hown (htb (.methodLink RX6 3 objectInit) (tb_of (tk_1 _ (List.mem_of_getElem? (i := 172) rfl)) rfl)) (htb (.instanceMethod objectInit) oi_) (htb _ oc_) rfl (by rw [hml]; exact hl.1) rfl dX6_init_1 (Nat.le_of_ble_eq_true rfl) (Nat.le_of_ble_eq_true rfl) ?_
  refine W.eq (g2 := F0 m 4 ls []) rfl ?_
  refine lv_aload_n hx hb dX6_init_4 rfl (lv_at hl 0 rfl) ?_
  refine lv_bipush hx hb dX6_init_5 (v := 40) (by decide) ?_
  refine vn_newint (N' := 40) (a0 := (40, .inl (fun _ => 0))) hx hb (htb _ ac_int) hK hP hD hS hA (fun _ => rfl) (by decide) (by decide) (Nat.le_of_ble_eq_true rfl) (Nat.le_of_ble_eq_true rfl) (Nat.le_of_ble_eq_true rfl) dX6_init_7 (fun q1 H hP hD hS => ?_)
  have hP : va_P D vwCl [(h0, .inr (6, [.null, .int 0, .int 0])), (q1, .inl (cI, 40, .inl (fun _ => 0)))] H := hP
  have hD : va_D A [(h0, .inr (6, [.null, .int 0, .int 0])), (q1, .inl (cI, 40, .inl (fun _ => 0)))] := hD
  refine W.widen (k := 1) (n := 40) (by omega) (by omega) ?_
  refine va_putF (D := D) (ci := 6) (v := .ref q1) (ty := .array .int) (C := RX6) (T := TX6) (N := 3) hx hb htb okX6.2.1 tyX6 okX6.2.2.1 okX6.2.2.2.1 hown hK hP hD hS 0 rfl rfl 0 (by decide) (htb (.fieldLink RX6 9 "EightWires$Sheet" "cells" "[I") (tb_of (tk_1 _ (List.mem_of_getElem? (i := 173) rfl)) rfl)) (fun _ h9 => h9) rfl hin rfl (by decide +kernel) rfl rfl (Nat.le_of_ble_eq_true rfl) dX6_init_9 (fun H locs hP hD hS => ?_)
  have hP : va_P D vwCl [(h0, .inr (6, [.ref q1, .int 0, .int 0])), (q1, .inl (cI, 40, .inl (fun _ => 0)))] H := hP
  have hD : va_D A [(h0, .inr (6, [.ref q1, .int 0, .int 0])), (q1, .inl (cI, 40, .inl (fun _ => 0)))] := hD
  refine lv_aload_n hx hb dX6_init_12 rfl (lv_at hl 0 rfl) ?_
  refine lv_iconst hx hb dX6_init_13 (v := (-1)) (by decide) ?_
  refine va_put (D := D) (ci := 6) (v := .int (-1)) (ty := .int) (C := RX6) (T := TX6) (N := 3) hx hb htb okX6.2.1 tyX6 okX6.2.2.1 okX6.2.2.2.1 hown hK hP hD hS 0 rfl rfl 2 (by decide) (htb (.fieldLink RX6 15 "EightWires$Sheet" "size" "I") (tb_of (tk_1 _ (List.mem_of_getElem? (i := 175) rfl)) rfl)) (fun _ h9 => h9) rfl (by decide +kernel) rfl rfl (Nat.le_of_ble_eq_true rfl) dX6_init_14 (fun H locs hP hD hS => ?_)
  have hP : va_P D vwCl [(h0, .inr (6, [.ref q1, .int 0, .int (-1)])), (q1, .inl (cI, 40, .inl (fun _ => 0)))] H := hP
  have hD : va_D A [(h0, .inr (6, [.ref q1, .int 0, .int (-1)])), (q1, .inl (cI, 40, .inl (fun _ => 0)))] := hD
  exact W.vret hx hb hr (fun t ht hW => ⟨⟨(), rfl, trivial, _, ⟨q1, rfl⟩, by rw [ht]; exact hP, va_K.moved hW.alike hK, hD⟩, hS.F ht⟩) hS.2.2 dX6_init_17
def fN7 (cI cL : ClassId) (h0 : Nat) (w : va_W) : Prop := ∃ q1 q2 q3 q4 : Nat, w = [(h0, .inr (7, [.ref q1, .int 0, .ref q2, .ref q3, .ref q4, .int 0])), (q1, .inl (cI, 400, .inl (fun _ => 0))), (q2, .inl (cI, 401, .inl (fun _ => 0))), (q3, .inl (cI, 401, .inl (fun _ => 0))), (q4, .inl (cI, 401, .inl (fun _ => 0)))]
set_option maxHeartbeats 4000000 in
set_option maxRecDepth 100000 in
theorem kN7 (l : Launch) (D : va_G) (cI cL : ClassId) (h0 sz : Nat) : Met l yX7_init (wl_ mX7_init) ({ frames := 1, cells := 4, slots := 1603, locals := 14 }) (va_Pc [.ref h0] (pN D cI cL sz [(h0, .inr (7, [.null, .int 0, .null, .null, .null, .int 0]))])) (va_Qv (fun _ : Unit => True) (fun _ t => ∃ w, fN7 cI cL h0 w ∧ qN D cI cL sz [(h0, .inr (7, [.null, .int 0, .null, .null, .null, .int 0]))] w t) (va_A [(h0, .inr (7, [.null, .int 0, .null, .null, .null, .int 0]))] sz)) 4 1603 (va_A [(h0, .inr (7, [.null, .int 0, .null, .null, .null, .int 0]))] sz) := by
  refine Met.ofW (cc := cX7_init) (maxL := 1) (ret := none) (by decide) rfl ?_
  intro p e s m args below meth c s₁ B hml hv
  obtain ⟨rfl, hsz, hP, hK, hD0⟩ := hv
  have hx := B.exec
  have hb := B.bytes
  have hr := B.returns
  have htb : ∀ w ∈ tb_, w.before _ s = true := fun w hw => atoms_spec (ws := wl_ mX7_init) B.pre w (List.mem_cons_of_mem _ hw)
  have hown : s.vm.findClass RX7 = some m.cls := findClass_of_methodNamed B.named
  have hlocks := B.notSynchronized
  have hin : meth.name = "<init>" := (name_of_methodNamed B.named B.method).1
  subst hsz
  have hD := hD0.self (sz := s.heap.size)
  unfold qN
  generalize hAe : va_A [(h0, .inr (7, [.null, .int 0, .null, .null, .null, .int 0]))] s.heap.size = A at hD ⊢
  have hA : ∀ q : Nat, s.heap.size ≤ q → A q := fun q h => by rw [← hAe]; exact Or.inr h
  have hS : va_S A s.heap s.heap [] := va_S.rf
  have hl := lv_entry ([.ref h0]) (n := 1) (Nat.le_of_ble_eq_true rfl)
  rw [lg_entry_eq]
  generalize (lg_sl ([.ref h0]) ++ List.replicate (1 - (lg_sl ([.ref h0])).length) Slot.unset).toArray = ls at hl ⊢
  have hl : lv_has ls 1 [(0, .ref h0)] := hl
  refine lv_aload_n hx hb dX7_init_0 rfl (lv_at hl 0 rfl) ?_
  refine W.objInit hx hb hown (htb (.methodLink RX7 3 objectInit) (tb_of (tk_1 _ (List.mem_of_getElem? (i := 39) rfl)) rfl)) (htb (.instanceMethod objectInit) oi_) (htb _ oc_) rfl (by rw [hml]; exact hl.1) rfl dX7_init_1 (Nat.le_of_ble_eq_true rfl) (Nat.le_of_ble_eq_true rfl) ?_
  refine W.eq (g2 := F0 m 4 ls []) rfl ?_
  refine lv_aload_n hx hb dX7_init_4 rfl (lv_at hl 0 rfl) ?_
  refine lv_sipush hx hb dX7_init_5 (v := 400) (by decide) ?_
  refine vn_newint (N' := 400) (a0 := (400, .inl (fun _ => 0))) hx hb (htb _ ac_int) hK hP hD hS hA (fun _ => rfl) (by decide) (by decide) (Nat.le_of_ble_eq_true rfl) (Nat.le_of_ble_eq_true rfl) (Nat.le_of_ble_eq_true rfl) dX7_init_8 (fun q1 H hP hD hS => ?_)
  have hP : va_P D vwCl [(h0, .inr (7, [.null, .int 0, .null, .null, .null, .int 0])), (q1, .inl (cI, 400, .inl (fun _ => 0)))] H := hP
  have hD : va_D A [(h0, .inr (7, [.null, .int 0, .null, .null, .null, .int 0])), (q1, .inl (cI, 400, .inl (fun _ => 0)))] := hD
  refine W.widen (k := 1) (n := 400) (by omega) (by omega) ?_
  refine va_putF (D := D) (ci := 7) (v := .ref q1) (ty := .array .int) (C := RX7) (T := TX7) (N := 6) hx hb htb okX7.2.1 tyX7 okX7.2.2.1 okX7.2.2.2.1 hown hK hP hD hS 0 rfl rfl 0 (by decide) (htb (.fieldLink RX7 9 "EightWires$Tape" "places" "[I") (tb_of (tk_1 _ (List.mem_of_getElem? (i := 40) rfl)) rfl)) (fun _ h9 => h9) rfl hin rfl (by decide +kernel) rfl rfl (Nat.le_of_ble_eq_true rfl) dX7_init_10 (fun H locs hP hD hS => ?_)
  have hP : va_P D vwCl [(h0, .inr (7, [.ref q1, .int 0, .null, .null, .null, .int 0])), (q1, .inl (cI, 400, .inl (fun _ => 0)))] H := hP
  have hD : va_D A [(h0, .inr (7, [.ref q1, .int 0, .null, .null, .null, .int 0])), (q1, .inl (cI, 400, .inl (fun _ => 0)))] := hD
  refine lv_aload_n hx hb dX7_init_13 rfl (lv_at hl 0 rfl) ?_
  refine lv_sipush hx hb dX7_init_14 (v := 401) (by decide) ?_
  refine vn_newint (N' := 401) (a0 := (401, .inl (fun _ => 0))) hx hb (htb _ ac_int) hK hP hD hS hA (fun _ => rfl) (by decide) (by decide) (Nat.le_of_ble_eq_true rfl) (Nat.le_of_ble_eq_true rfl) (Nat.le_of_ble_eq_true rfl) dX7_init_17 (fun q2 H hP hD hS => ?_)
  have hP : va_P D vwCl [(h0, .inr (7, [.ref q1, .int 0, .null, .null, .null, .int 0])), (q1, .inl (cI, 400, .inl (fun _ => 0))), (q2, .inl (cI, 401, .inl (fun _ => 0)))] H := hP
  have hD : va_D A [(h0, .inr (7, [.ref q1, .int 0, .null, .null, .null, .int 0])), (q1, .inl (cI, 400, .inl (fun _ => 0))), (q2, .inl (cI, 401, .inl (fun _ => 0)))] := hD
  refine W.widen (k := 2) (n := 801) (by omega) (by omega) ?_
  refine va_putF (D := D) (ci := 7) (v := .ref q2) (ty := .array .int) (C := RX7) (T := TX7) (N := 6) hx hb htb okX7.2.1 tyX7 okX7.2.2.1 okX7.2.2.2.1 hown hK hP hD hS 0 rfl rfl 2 (by decide) (htb (.fieldLink RX7 15 "EightWires$Tape" "tokens" "[I") (tb_of (tk_1 _ (List.mem_of_getElem? (i := 43) rfl)) rfl)) (fun _ h9 => h9) rfl hin rfl (by decide +kernel) rfl rfl (Nat.le_of_ble_eq_true rfl) dX7_init_19 (fun H locs hP hD hS => ?_)
  have hP : va_P D vwCl [(h0, .inr (7, [.ref q1, .int 0, .ref q2, .null, .null, .int 0])), (q1, .inl (cI, 400, .inl (fun _ => 0))), (q2, .inl (cI, 401, .inl (fun _ => 0)))] H := hP
  have hD : va_D A [(h0, .inr (7, [.ref q1, .int 0, .ref q2, .null, .null, .int 0])), (q1, .inl (cI, 400, .inl (fun _ => 0))), (q2, .inl (cI, 401, .inl (fun _ => 0)))] := hD
  refine lv_aload_n hx hb dX7_init_22 rfl (lv_at hl 0 rfl) ?_
  refine lv_sipush hx hb dX7_init_23 (v := 401) (by decide) ?_
  refine vn_newint (N' := 401) (a0 := (401, .inl (fun _ => 0))) hx hb (htb _ ac_int) hK hP hD hS hA (fun _ => rfl) (by decide) (by decide) (Nat.le_of_ble_eq_true rfl) (Nat.le_of_ble_eq_true rfl) (Nat.le_of_ble_eq_true rfl) dX7_init_26 (fun q3 H hP hD hS => ?_)
  have hP : va_P D vwCl [(h0, .inr (7, [.ref q1, .int 0, .ref q2, .null, .null, .int 0])), (q1, .inl (cI, 400, .inl (fun _ => 0))), (q2, .inl (cI, 401, .inl (fun _ => 0))), (q3, .inl (cI, 401, .inl (fun _ => 0)))] H := hP
  have hD : va_D A [(h0, .inr (7, [.ref q1, .int 0, .ref q2, .null, .null, .int 0])), (q1, .inl (cI, 400, .inl (fun _ => 0))), (q2, .inl (cI, 401, .inl (fun _ => 0))), (q3, .inl (cI, 401, .inl (fun _ => 0)))] := hD
  refine W.widen (k := 3) (n := 1202) (by omega) (by omega) ?_
  refine va_putF (D := D) (ci := 7) (v := .ref q3) (ty := .array .int) (C := RX7) (T := TX7) (N := 6) hx hb htb okX7.2.1 tyX7 okX7.2.2.1 okX7.2.2.2.1 hown hK hP hD hS 0 rfl rfl 3 (by decide) (htb (.fieldLink RX7 18 "EightWires$Tape" "starts" "[I") (tb_of (tk_1 _ (List.mem_of_getElem? (i := 45) rfl)) rfl)) (fun _ h9 => h9) rfl hin rfl (by decide +kernel) rfl rfl (Nat.le_of_ble_eq_true rfl) dX7_init_28 (fun H locs hP hD hS => ?_)
  have hP : va_P D vwCl [(h0, .inr (7, [.ref q1, .int 0, .ref q2, .ref q3, .null, .int 0])), (q1, .inl (cI, 400, .inl (fun _ => 0))), (q2, .inl (cI, 401, .inl (fun _ => 0))), (q3, .inl (cI, 401, .inl (fun _ => 0)))] H := hP
  have hD : va_D A [(h0, .inr (7, [.ref q1, .int 0, .ref q2, .ref q3, .null, .int 0])), (q1, .inl (cI, 400, .inl (fun _ => 0))), (q2, .inl (cI, 401, .inl (fun _ => 0))), (q3, .inl (cI, 401, .inl (fun _ => 0)))] := hD
  refine lv_aload_n hx hb dX7_init_31 rfl (lv_at hl 0 rfl) ?_
  refine lv_sipush hx hb dX7_init_32 (v := 401) (by decide) ?_
  refine vn_newint (N' := 401) (a0 := (401, .inl (fun _ => 0))) hx hb (htb _ ac_int) hK hP hD hS hA (fun _ => rfl) (by decide) (by decide) (Nat.le_of_ble_eq_true rfl) (Nat.le_of_ble_eq_true rfl) (Nat.le_of_ble_eq_true rfl) dX7_init_35 (fun q4 H hP hD hS => ?_)
  have hP : va_P D vwCl [(h0, .inr (7, [.ref q1, .int 0, .ref q2, .ref q3, .null, .int 0])), (q1, .inl (cI, 400, .inl (fun _ => 0))), (q2, .inl (cI, 401, .inl (fun _ => 0))), (q3, .inl (cI, 401, .inl (fun _ => 0))), (q4, .inl (cI, 401, .inl (fun _ => 0)))] H := hP
  have hD : va_D A [(h0, .inr (7, [.ref q1, .int 0, .ref q2, .ref q3, .null, .int 0])), (q1, .inl (cI, 400, .inl (fun _ => 0))), (q2, .inl (cI, 401, .inl (fun _ => 0))), (q3, .inl (cI, 401, .inl (fun _ => 0))), (q4, .inl (cI, 401, .inl (fun _ => 0)))] := hD
  refine W.widen (k := 4) (n := 1603) (by omega) (by omega) ?_
  refine va_putF (D := D) (ci := 7) (v := .ref q4) (ty := .array .int) (C := RX7) (T := TX7) (N := 6) hx hb htb okX7.2.1 tyX7 okX7.2.2.1 okX7.2.2.2.1 hown hK hP hD hS 0 rfl rfl 4 (by decide) (htb (.fieldLink RX7 21 "EightWires$Tape" "numbers" "[I") (tb_of (tk_1 _ (List.mem_of_getElem? (i := 47) rfl)) rfl)) (fun _ h9 => h9) rfl hin rfl (by decide +kernel) rfl rfl (Nat.le_of_ble_eq_true rfl) dX7_init_37 (fun H locs hP hD hS => ?_)
  have hP : va_P D vwCl [(h0, .inr (7, [.ref q1, .int 0, .ref q2, .ref q3, .ref q4, .int 0])), (q1, .inl (cI, 400, .inl (fun _ => 0))), (q2, .inl (cI, 401, .inl (fun _ => 0))), (q3, .inl (cI, 401, .inl (fun _ => 0))), (q4, .inl (cI, 401, .inl (fun _ => 0)))] H := hP
  have hD : va_D A [(h0, .inr (7, [.ref q1, .int 0, .ref q2, .ref q3, .ref q4, .int 0])), (q1, .inl (cI, 400, .inl (fun _ => 0))), (q2, .inl (cI, 401, .inl (fun _ => 0))), (q3, .inl (cI, 401, .inl (fun _ => 0))), (q4, .inl (cI, 401, .inl (fun _ => 0)))] := hD
  exact W.vret hx hb hr (fun t ht hW => ⟨⟨(), rfl, trivial, _, ⟨q1, q2, q3, q4, rfl⟩, by rw [ht]; exact hP, va_K.moved hW.alike hK, hD⟩, hS.F ht⟩) hS.2.2 dX7_init_40
def fN8 (cI cL : ClassId) (h0 : Nat) (w : va_W) : Prop := ∃ q1 : Nat, w = [(h0, .inr (8, [.ref q1, .int 0, .int 0])), (q1, .inl (cI, 400, .inl (fun _ => 0)))]
set_option maxHeartbeats 4000000 in
set_option maxRecDepth 100000 in
theorem kN8 (l : Launch) (D : va_G) (cI cL : ClassId) (h0 sz : Nat) : Met l yX8_init (wl_ mX8_init) ({ frames := 1, cells := 1, slots := 400, locals := 14 }) (va_Pc [.ref h0] (pN D cI cL sz [(h0, .inr (8, [.null, .int 0, .int 0]))])) (va_Qv (fun _ : Unit => True) (fun _ t => ∃ w, fN8 cI cL h0 w ∧ qN D cI cL sz [(h0, .inr (8, [.null, .int 0, .int 0]))] w t) (va_A [(h0, .inr (8, [.null, .int 0, .int 0]))] sz)) 1 400 (va_A [(h0, .inr (8, [.null, .int 0, .int 0]))] sz) := by
  refine Met.ofW (cc := cX8_init) (maxL := 1) (ret := none) (by decide) rfl ?_
  intro p e s m args below meth c s₁ B hml hv
  obtain ⟨rfl, hsz, hP, hK, hD0⟩ := hv
  have hx := B.exec
  have hb := B.bytes
  have hr := B.returns
  have htb : ∀ w ∈ tb_, w.before _ s = true := fun w hw => atoms_spec (ws := wl_ mX8_init) B.pre w (List.mem_cons_of_mem _ hw)
  have hown : s.vm.findClass RX8 = some m.cls := findClass_of_methodNamed B.named
  have hlocks := B.notSynchronized
  have hin : meth.name = "<init>" := (name_of_methodNamed B.named B.method).1
  subst hsz
  have hD := hD0.self (sz := s.heap.size)
  unfold qN
  generalize hAe : va_A [(h0, .inr (8, [.null, .int 0, .int 0]))] s.heap.size = A at hD ⊢
  have hA : ∀ q : Nat, s.heap.size ≤ q → A q := fun q h => by rw [← hAe]; exact Or.inr h
  have hS : va_S A s.heap s.heap [] := va_S.rf
  have hl := lv_entry ([.ref h0]) (n := 1) (Nat.le_of_ble_eq_true rfl)
  rw [lg_entry_eq]
  generalize (lg_sl ([.ref h0]) ++ List.replicate (1 - (lg_sl ([.ref h0])).length) Slot.unset).toArray = ls at hl ⊢
  have hl : lv_has ls 1 [(0, .ref h0)] := hl
  refine lv_aload_n hx hb dX8_init_0 rfl (lv_at hl 0 rfl) ?_
  refine W.objInit hx hb hown (htb (.methodLink RX8 3 objectInit) (tb_of (tk_1 _ (List.mem_of_getElem? (i := 149) rfl)) rfl)) (htb (.instanceMethod objectInit) oi_) (htb _ oc_) rfl (by rw [hml]; exact hl.1) rfl dX8_init_1 (Nat.le_of_ble_eq_true rfl) (Nat.le_of_ble_eq_true rfl) ?_
  refine W.eq (g2 := F0 m 4 ls []) rfl ?_
  refine lv_aload_n hx hb dX8_init_4 rfl (lv_at hl 0 rfl) ?_
  refine lv_sipush hx hb dX8_init_5 (v := 400) (by decide) ?_
  refine vn_newint (N' := 400) (a0 := (400, .inl (fun _ => 0))) hx hb (htb _ ac_int) hK hP hD hS hA (fun _ => rfl) (by decide) (by decide) (Nat.le_of_ble_eq_true rfl) (Nat.le_of_ble_eq_true rfl) (Nat.le_of_ble_eq_true rfl) dX8_init_8 (fun q1 H hP hD hS => ?_)
  have hP : va_P D vwCl [(h0, .inr (8, [.null, .int 0, .int 0])), (q1, .inl (cI, 400, .inl (fun _ => 0)))] H := hP
  have hD : va_D A [(h0, .inr (8, [.null, .int 0, .int 0])), (q1, .inl (cI, 400, .inl (fun _ => 0)))] := hD
  refine W.widen (k := 1) (n := 400) (by omega) (by omega) ?_
  refine va_putF (D := D) (ci := 8) (v := .ref q1) (ty := .array .int) (C := RX8) (T := TX8) (N := 3) hx hb htb okX8.2.1 tyX8 okX8.2.2.1 okX8.2.2.2.1 hown hK hP hD hS 0 rfl rfl 0 (by decide) (htb (.fieldLink RX8 9 "EightWires$Trace" "samples" "[I") (tb_of (tk_1 _ (List.mem_of_getElem? (i := 150) rfl)) rfl)) (fun _ h9 => h9) rfl hin rfl (by decide +kernel) rfl rfl (Nat.le_of_ble_eq_true rfl) dX8_init_10 (fun H locs hP hD hS => ?_)
  have hP : va_P D vwCl [(h0, .inr (8, [.ref q1, .int 0, .int 0])), (q1, .inl (cI, 400, .inl (fun _ => 0)))] H := hP
  have hD : va_D A [(h0, .inr (8, [.ref q1, .int 0, .int 0])), (q1, .inl (cI, 400, .inl (fun _ => 0)))] := hD
  exact W.vret hx hb hr (fun t ht hW => ⟨⟨(), rfl, trivial, _, ⟨q1, rfl⟩, by rw [ht]; exact hP, va_K.moved hW.alike hK, hD⟩, hS.F ht⟩) hS.2.2 dX8_init_13
def fN9 (cI cL : ClassId) (h0 : Nat) (w : va_W) : Prop := ∃ q1 : Nat, w = [(h0, .inr (9, [.ref q1, .int 0, .int 0, .int 0, .int 0, .int 0])), (q1, .inl (cI, 3, .inl (fun _ => 0)))]
set_option maxHeartbeats 4000000 in
set_option maxRecDepth 100000 in
theorem kN9 (l : Launch) (D : va_G) (cI cL : ClassId) (h0 sz : Nat) : Met l yX9_init (wl_ mX9_init) ({ frames := 1, cells := 1, slots := 3, locals := 14 }) (va_Pc [.ref h0] (pN D cI cL sz [(h0, .inr (9, [.null, .int 0, .int 0, .int 0, .int 0, .int 0]))])) (va_Qv (fun _ : Unit => True) (fun _ t => ∃ w, fN9 cI cL h0 w ∧ qN D cI cL sz [(h0, .inr (9, [.null, .int 0, .int 0, .int 0, .int 0, .int 0]))] w t) (va_A [(h0, .inr (9, [.null, .int 0, .int 0, .int 0, .int 0, .int 0]))] sz)) 1 3 (va_A [(h0, .inr (9, [.null, .int 0, .int 0, .int 0, .int 0, .int 0]))] sz) := by
  refine Met.ofW (cc := cX9_init) (maxL := 1) (ret := none) (by decide) rfl ?_
  intro p e s m args below meth c s₁ B hml hv
  obtain ⟨rfl, hsz, hP, hK, hD0⟩ := hv
  have hx := B.exec
  have hb := B.bytes
  have hr := B.returns
  have htb : ∀ w ∈ tb_, w.before _ s = true := fun w hw => atoms_spec (ws := wl_ mX9_init) B.pre w (List.mem_cons_of_mem _ hw)
  have hown : s.vm.findClass RX9 = some m.cls := findClass_of_methodNamed B.named
  have hlocks := B.notSynchronized
  have hin : meth.name = "<init>" := (name_of_methodNamed B.named B.method).1
  subst hsz
  have hD := hD0.self (sz := s.heap.size)
  unfold qN
  generalize hAe : va_A [(h0, .inr (9, [.null, .int 0, .int 0, .int 0, .int 0, .int 0]))] s.heap.size = A at hD ⊢
  have hA : ∀ q : Nat, s.heap.size ≤ q → A q := fun q h => by rw [← hAe]; exact Or.inr h
  have hS : va_S A s.heap s.heap [] := va_S.rf
  have hl := lv_entry ([.ref h0]) (n := 1) (Nat.le_of_ble_eq_true rfl)
  rw [lg_entry_eq]
  generalize (lg_sl ([.ref h0]) ++ List.replicate (1 - (lg_sl ([.ref h0])).length) Slot.unset).toArray = ls at hl ⊢
  have hl : lv_has ls 1 [(0, .ref h0)] := hl
  refine lv_aload_n hx hb dX9_init_0 rfl (lv_at hl 0 rfl) ?_
  refine W.objInit hx hb hown (htb (.methodLink RX9 3 objectInit) (tb_of (tk_1 _ (List.mem_of_getElem? (i := 189) rfl)) rfl)) (htb (.instanceMethod objectInit) oi_) (htb _ oc_) rfl (by rw [hml]; exact hl.1) rfl dX9_init_1 (Nat.le_of_ble_eq_true rfl) (Nat.le_of_ble_eq_true rfl) ?_
  refine W.eq (g2 := F0 m 4 ls []) rfl ?_
  refine lv_aload_n hx hb dX9_init_4 rfl (lv_at hl 0 rfl) ?_
  refine lv_iconst hx hb dX9_init_5 (v := 3) (by decide) ?_
  refine vn_newint (N' := 3) (a0 := (3, .inl (fun _ => 0))) hx hb (htb _ ac_int) hK hP hD hS hA (fun _ => rfl) (by decide) (by decide) (Nat.le_of_ble_eq_true rfl) (Nat.le_of_ble_eq_true rfl) (Nat.le_of_ble_eq_true rfl) dX9_init_6 (fun q1 H hP hD hS => ?_)
  have hP : va_P D vwCl [(h0, .inr (9, [.null, .int 0, .int 0, .int 0, .int 0, .int 0])), (q1, .inl (cI, 3, .inl (fun _ => 0)))] H := hP
  have hD : va_D A [(h0, .inr (9, [.null, .int 0, .int 0, .int 0, .int 0, .int 0])), (q1, .inl (cI, 3, .inl (fun _ => 0)))] := hD
  refine W.widen (k := 1) (n := 3) (by omega) (by omega) ?_
  refine va_putF (D := D) (ci := 9) (v := .ref q1) (ty := .array .int) (C := RX9) (T := TX9) (N := 6) hx hb htb okX9.2.1 tyX9 okX9.2.2.1 okX9.2.2.2.1 hown hK hP hD hS 0 rfl rfl 0 (by decide) (htb (.fieldLink RX9 11 "EightWires$Watch" "come" "[I") (tb_of (tk_1 _ (List.mem_of_getElem? (i := 190) rfl)) rfl)) (fun _ h9 => h9) rfl hin rfl (by decide +kernel) rfl rfl (Nat.le_of_ble_eq_true rfl) dX9_init_8 (fun H locs hP hD hS => ?_)
  have hP : va_P D vwCl [(h0, .inr (9, [.ref q1, .int 0, .int 0, .int 0, .int 0, .int 0])), (q1, .inl (cI, 3, .inl (fun _ => 0)))] H := hP
  have hD : va_D A [(h0, .inr (9, [.ref q1, .int 0, .int 0, .int 0, .int 0, .int 0])), (q1, .inl (cI, 3, .inl (fun _ => 0)))] := hD
  exact W.vret hx hb hr (fun t ht hW => ⟨⟨(), rfl, trivial, _, ⟨q1, rfl⟩, by rw [ht]; exact hP, va_K.moved hW.alike hK, hD⟩, hS.F ht⟩) hS.2.2 dX9_init_11
