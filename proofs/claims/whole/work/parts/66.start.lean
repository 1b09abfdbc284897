/-! ===== the law's start (by wip/whole/gen_start.py) ===== -/
def ixT : List (Nat × Nat) := (40, 0) :: (16, 1) :: (28, 2) :: (3200, 3) :: (3208, 4) :: (3212, 5) :: (3216, 6) :: (21, 7) :: (2401, 8) :: (2405, 9) :: (2409, 10) :: (2413, 11) :: (2417, 12) :: (2421, 13) :: (32, 14) :: (3600, 15) :: (33, 16) :: (3601, 17) :: (4412, 18) :: (34, 19) :: (3602, 20) :: (35, 21) :: (3603, 22) :: (4416, 23) :: (24, 24) :: (2800, 25) :: (25, 26) :: (2801, 27) :: (26, 28) :: (2802, 29) :: (27, 30) :: (2803, 31) :: (36, 32) :: (4000, 33) :: (12, 34) :: (8, 35) :: (0, 36) :: (400, 37) :: (4, 38) :: (800, 39) :: (804, 40) :: (20, 41) :: (2400, 42) :: (2404, 43) :: (2408, 44) :: (2412, 45) :: (2416, 46) :: (2420, 47) :: []
def ix_ (k j : Nat) : Nat := (ixT.lookup (4 * k + j)).getD 0
def adX (qs : List Nat) (k50 k51 : Nat → Nat) (t52 : Nat) : Nat → Nat → Nat := fun k j => if k = 50 then k50 j else if k = 51 then k51 j else if k = 52 then t52 else qs.getD (ix_ k j) 0
def ciX (cI cL c8 c6 : ClassId) : Nat → ClassId := fun k => if k = 0 then cI else if k = 1 then cL else if k = 8 then c8 else c6
theorem arr_cg {c : ClassId} {n : Nat} {f g : Nat → Option Nat} (h : ∀ i, i < n → f i = g i) : vp_cell c (n, .inr (.inr (.inr (.inr f)))) = vp_cell c (n, .inr (.inr (.inr (.inr g)))) := by
  show arrV c n (fun j => va_rf (f j)) = arrV c n (fun j => va_rf (g j))
  unfold arrV
  congr 1
  refine Array.ext (by simp) (fun i h1 h2 => ?_)
  have hi : i < n := by simpa using h1
  simp [h i hi]

set_option maxRecDepth 100000 in
theorem at_X {D : va_G} {cI cL c8 c6 : ClassId} {k50 k51 : Nat → Nat} {t52 h0 q1 q2 q3 q4 q5 q6 q7 q8 q9 q10 q11 q12 q13 q14 q15 q16 q17 q18 q19 q20 q21 q22 q23 q24 q25 q26 q27 q28 q29 q30 q31 q32 q33 q34 q35 q36 q37 q38 q39 q40 q41 q42 q43 q44 q45 q46 q47 : Nat} {H : Heap} {i : Nat} {q : Nat × Nat} (hi : (plc.take 48)[i]? = some q) : ∃ x : va_E, ((h0, .inr (10, [.ref q1, .ref q14, .ref q16, .ref q18, .ref q23, .ref q32, .ref q34, .ref q35, .ref q36, .ref q38, .ref q41, .int 0, .int 0])) :: (q1, .inr (4, [.ref q2, .ref q7, .int 0, .int 0, .int 0, .int 0, .int 0, .int 0, .int 0, .int 0, .int 0])) :: (q2, .inr (7, [.ref q3, .int 0, .ref q4, .ref q5, .ref q6, .int 0])) :: (q3, .inl (cI, 400, .inl (fun _ => 0))) :: (q4, .inl (cI, 401, .inl (fun _ => 0))) :: (q5, .inl (cI, 401, .inl (fun _ => 0))) :: (q6, .inl (cI, 401, .inl (fun _ => 0))) :: (q7, .inr (5, [.ref q8, .ref q9, .ref q10, .ref q11, .ref q12, .ref q13, .int 0, .int 100, .int 0])) :: (q8, .inl (cI, 8, .inl (fun _ => 0))) :: (q9, .inl (cI, 24, .inl (fun _ => 0))) :: (q10, .inl (cI, 24, .inl (fun _ => 0))) :: (q11, .inl (cI, 25, .inl (fun _ => 0))) :: (q12, .inl (cI, 75, .inl (fun _ => 0))) :: (q13, .inl (cI, 75, .inl (fun _ => 0))) :: (q14, .inr (8, [.ref q15, .int 0, .int 0])) :: (q15, .inl (cI, 400, .inl (fun _ => 0))) :: (q16, .inr (8, [.ref q17, .int 0, .int 0])) :: (q17, .inl (cI, 400, .inl (fun _ => 0))) :: (q18, .inl (c8, 2, .inr (.inr (.inr (.inr (va_up (va_up (fun _ => none) 0 (some q19)) 1 (some q21))))))) :: (q19, .inr (8, [.ref q20, .int 0, .int 0])) :: (q20, .inl (cI, 400, .inl (fun _ => 0))) :: (q21, .inr (8, [.ref q22, .int 0, .int 0])) :: (q22, .inl (cI, 400, .inl (fun _ => 0))) :: (q23, .inl (c6, 4, .inr (.inr (.inr (.inr (va_up (va_up (va_up (va_up (fun _ => none) 0 (some q24)) 1 (some q26)) 2 (some q28)) 3 (some q30))))))) :: (q24, .inr (6, [.ref q25, .int 0, .int (-1)])) :: (q25, .inl (cI, 40, .inl (fun _ => 0))) :: (q26, .inr (6, [.ref q27, .int 0, .int (-1)])) :: (q27, .inl (cI, 40, .inl (fun _ => 0))) :: (q28, .inr (6, [.ref q29, .int 0, .int (-1)])) :: (q29, .inl (cI, 40, .inl (fun _ => 0))) :: (q30, .inr (6, [.ref q31, .int 0, .int (-1)])) :: (q31, .inl (cI, 40, .inl (fun _ => 0))) :: (q32, .inr (9, [.ref q33, .int 0, .int 0, .int 0, .int 0, .int 0])) :: (q33, .inl (cI, 3, .inl (fun _ => 0))) :: (q34, .inr (3, [.int 0, .int 0, .int 0, .int 0, .int 0, .int 0])) :: (q35, .inr (2, [.int 0, .int 0, .int 0, .int 0, .int 0])) :: (q36, .inr (0, [.ref q37, .int 0, .int 0, .int 0, .int 0, .int 0])) :: (q37, .inl (cI, 25, .inl (fun _ => 0))) :: (q38, .inr (1, [.ref q39, .ref q40, .int 0, .int 0, .int 0])) :: (q39, .inl (cI, 256, .inl (fun _ => 0))) :: (q40, .inl (cL, 1024, .inr (.inl (fun _ => 0)))) :: (q41, .inr (5, [.ref q42, .ref q43, .ref q44, .ref q45, .ref q46, .ref q47, .int 0, .int 100, .int 0])) :: (q42, .inl (cI, 8, .inl (fun _ => 0))) :: (q43, .inl (cI, 24, .inl (fun _ => 0))) :: (q44, .inl (cI, 24, .inl (fun _ => 0))) :: (q45, .inl (cI, 25, .inl (fun _ => 0))) :: (q46, .inl (cI, 75, .inl (fun _ => 0))) :: (q47, .inl (cI, 75, .inl (fun _ => 0))) :: [])[i]? = some (adX (h0 :: q1 :: q2 :: q3 :: q4 :: q5 :: q6 :: q7 :: q8 :: q9 :: q10 :: q11 :: q12 :: q13 :: q14 :: q15 :: q16 :: q17 :: q18 :: q19 :: q20 :: q21 :: q22 :: q23 :: q24 :: q25 :: q26 :: q27 :: q28 :: q29 :: q30 :: q31 :: q32 :: q33 :: q34 :: q35 :: q36 :: q37 :: q38 :: q39 :: q40 :: q41 :: q42 :: q43 :: q44 :: q45 :: q46 :: q47 :: []) k50 k51 t52 q.1 q.2, x) ∧ (va_at D vwCl (adX (h0 :: q1 :: q2 :: q3 :: q4 :: q5 :: q6 :: q7 :: q8 :: q9 :: q10 :: q11 :: q12 :: q13 :: q14 :: q15 :: q16 :: q17 :: q18 :: q19 :: q20 :: q21 :: q22 :: q23 :: q24 :: q25 :: q26 :: q27 :: q28 :: q29 :: q30 :: q31 :: q32 :: q33 :: q34 :: q35 :: q36 :: q37 :: q38 :: q39 :: q40 :: q41 :: q42 :: q43 :: q44 :: q45 :: q46 :: q47 :: []) k50 k51 t52 q.1 q.2, x) H → va_at D vwCl (adX (h0 :: q1 :: q2 :: q3 :: q4 :: q5 :: q6 :: q7 :: q8 :: q9 :: q10 :: q11 :: q12 :: q13 :: q14 :: q15 :: q16 :: q17 :: q18 :: q19 :: q20 :: q21 :: q22 :: q23 :: q24 :: q25 :: q26 :: q27 :: q28 :: q29 :: q30 :: q31 :: q32 :: q33 :: q34 :: q35 :: q36 :: q37 :: q38 :: q39 :: q40 :: q41 :: q42 :: q43 :: q44 :: q45 :: q46 :: q47 :: []) k50 k51 t52 q.1 q.2, ce_ (D, adX (h0 :: q1 :: q2 :: q3 :: q4 :: q5 :: q6 :: q7 :: q8 :: q9 :: q10 :: q11 :: q12 :: q13 :: q14 :: q15 :: q16 :: q17 :: q18 :: q19 :: q20 :: q21 :: q22 :: q23 :: q24 :: q25 :: q26 :: q27 :: q28 :: q29 :: q30 :: q31 :: q32 :: q33 :: q34 :: q35 :: q36 :: q37 :: q38 :: q39 :: q40 :: q41 :: q42 :: q43 :: q44 :: q45 :: q46 :: q47 :: []) k50 k51 t52, ciX cI cL c8 c6) s0_ q.1 q.2) H) := by
  have h48 : i < 48 := (List.getElem?_eq_some_iff.mp hi).1
  match i, h48, hi with
  | 0, _, hi => cases hi; exact ⟨_, rfl, fun h => h⟩
  | 1, _, hi => cases hi; exact ⟨_, rfl, fun h => h⟩
  | 2, _, hi => cases hi; exact ⟨_, rfl, fun h => h⟩
  | 3, _, hi => cases hi; exact ⟨_, rfl, fun h => h⟩
  | 4, _, hi => cases hi; exact ⟨_, rfl, fun h => h⟩
  | 5, _, hi => cases hi; exact ⟨_, rfl, fun h => h⟩
  | 6, _, hi => cases hi; exact ⟨_, rfl, fun h => h⟩
  | 7, _, hi => cases hi; exact ⟨_, rfl, fun h => h⟩
  | 8, _, hi => cases hi; exact ⟨_, rfl, fun h => h⟩
  | 9, _, hi => cases hi; exact ⟨_, rfl, fun h => h⟩
  | 10, _, hi => cases hi; exact ⟨_, rfl, fun h => h⟩
  | 11, _, hi => cases hi; exact ⟨_, rfl, fun h => h⟩
  | 12, _, hi => cases hi; exact ⟨_, rfl, fun h => h⟩
  | 13, _, hi => cases hi; exact ⟨_, rfl, fun h => h⟩
  | 14, _, hi => cases hi; exact ⟨_, rfl, fun h => h⟩
  | 15, _, hi => cases hi; exact ⟨_, rfl, fun h => h⟩
  | 16, _, hi => cases hi; exact ⟨_, rfl, fun h => h⟩
  | 17, _, hi => cases hi; exact ⟨_, rfl, fun h => h⟩
  | 18, _, hi => cases hi; exact ⟨_, rfl, fun h => h.trans (congrArg some (arr_cg (fun i hi => by rcases (show i = 0 ∨ i = 1 by omega) with rfl | rfl <;> rfl)))⟩
  | 19, _, hi => cases hi; exact ⟨_, rfl, fun h => h⟩
  | 20, _, hi => cases hi; exact ⟨_, rfl, fun h => h⟩
  | 21, _, hi => cases hi; exact ⟨_, rfl, fun h => h⟩
  | 22, _, hi => cases hi; exact ⟨_, rfl, fun h => h⟩
  | 23, _, hi => cases hi; exact ⟨_, rfl, fun h => h.trans (congrArg some (arr_cg (fun i hi => by rcases (show i = 0 ∨ i = 1 ∨ i = 2 ∨ i = 3 by omega) with rfl | rfl | rfl | rfl <;> rfl)))⟩
  | 24, _, hi => cases hi; exact ⟨_, rfl, fun h => h⟩
  | 25, _, hi => cases hi; exact ⟨_, rfl, fun h => h⟩
  | 26, _, hi => cases hi; exact ⟨_, rfl, fun h => h⟩
  | 27, _, hi => cases hi; exact ⟨_, rfl, fun h => h⟩
  | 28, _, hi => cases hi; exact ⟨_, rfl, fun h => h⟩
  | 29, _, hi => cases hi; exact ⟨_, rfl, fun h => h⟩
  | 30, _, hi => cases hi; exact ⟨_, rfl, fun h => h⟩
  | 31, _, hi => cases hi; exact ⟨_, rfl, fun h => h⟩
  | 32, _, hi => cases hi; exact ⟨_, rfl, fun h => h⟩
  | 33, _, hi => cases hi; exact ⟨_, rfl, fun h => h⟩
  | 34, _, hi => cases hi; exact ⟨_, rfl, fun h => h⟩
  | 35, _, hi => cases hi; exact ⟨_, rfl, fun h => h⟩
  | 36, _, hi => cases hi; exact ⟨_, rfl, fun h => h⟩
  | 37, _, hi => cases hi; exact ⟨_, rfl, fun h => h⟩
  | 38, _, hi => cases hi; exact ⟨_, rfl, fun h => h⟩
  | 39, _, hi => cases hi; exact ⟨_, rfl, fun h => h⟩
  | 40, _, hi => cases hi; exact ⟨_, rfl, fun h => h⟩
  | 41, _, hi => cases hi; exact ⟨_, rfl, fun h => h⟩
  | 42, _, hi => cases hi; exact ⟨_, rfl, fun h => h⟩
  | 43, _, hi => cases hi; exact ⟨_, rfl, fun h => h⟩
  | 44, _, hi => cases hi; exact ⟨_, rfl, fun h => h⟩
  | 45, _, hi => cases hi; exact ⟨_, rfl, fun h => h⟩
  | 46, _, hi => cases hi; exact ⟨_, rfl, fun h => h⟩
  | 47, _, hi => cases hi; exact ⟨_, rfl, fun h => h⟩
  | i + 48, h, _ => omega
theorem st_W {D : va_G} {cI cL c8 c6 : ClassId} {h0 : Nat} {w : va_W} {H : Heap} {A : Nat → Prop} (hΦ : fN10 cI cL c8 c6 h0 w) (hP : va_P D vwCl w H) (hD : va_D A w) (k50 k51 : Nat → Nat) (t52 : Nat) :
    ∃ ad : Nat → Nat → Nat, ad 50 = k50 ∧ ad 51 = k51 ∧ ad 52 0 = t52 ∧ ad 10 0 = h0 ∧ va_P D vwCl (pcX D ad (ciX cI cL c8 c6)) H ∧ va_D A (pcX D ad (ciX cI cL c8 c6)) := by
  obtain ⟨q1, q2, q3, q4, q5, q6, q7, q8, q9, q10, q11, q12, q13, q14, q15, q16, q17, q18, q19, q20, q21, q22, q23, q24, q25, q26, q27, q28, q29, q30, q31, q32, q33, q34, q35, q36, q37, q38, q39, q40, q41, q42, q43, q44, q45, q46, q47, rfl⟩ := hΦ
  refine ⟨adX (h0 :: q1 :: q2 :: q3 :: q4 :: q5 :: q6 :: q7 :: q8 :: q9 :: q10 :: q11 :: q12 :: q13 :: q14 :: q15 :: q16 :: q17 :: q18 :: q19 :: q20 :: q21 :: q22 :: q23 :: q24 :: q25 :: q26 :: q27 :: q28 :: q29 :: q30 :: q31 :: q32 :: q33 :: q34 :: q35 :: q36 :: q37 :: q38 :: q39 :: q40 :: q41 :: q42 :: q43 :: q44 :: q45 :: q46 :: q47 :: []) k50 k51 t52, rfl, rfl, rfl, rfl, ?_⟩
  have key : ∀ (i : Nat) (r : Nat × va_E), (pcX D (adX (h0 :: q1 :: q2 :: q3 :: q4 :: q5 :: q6 :: q7 :: q8 :: q9 :: q10 :: q11 :: q12 :: q13 :: q14 :: q15 :: q16 :: q17 :: q18 :: q19 :: q20 :: q21 :: q22 :: q23 :: q24 :: q25 :: q26 :: q27 :: q28 :: q29 :: q30 :: q31 :: q32 :: q33 :: q34 :: q35 :: q36 :: q37 :: q38 :: q39 :: q40 :: q41 :: q42 :: q43 :: q44 :: q45 :: q46 :: q47 :: []) k50 k51 t52) (ciX cI cL c8 c6))[i]? = some r → ∃ x : va_E, ((h0, .inr (10, [.ref q1, .ref q14, .ref q16, .ref q18, .ref q23, .ref q32, .ref q34, .ref q35, .ref q36, .ref q38, .ref q41, .int 0, .int 0])) :: (q1, .inr (4, [.ref q2, .ref q7, .int 0, .int 0, .int 0, .int 0, .int 0, .int 0, .int 0, .int 0, .int 0])) :: (q2, .inr (7, [.ref q3, .int 0, .ref q4, .ref q5, .ref q6, .int 0])) :: (q3, .inl (cI, 400, .inl (fun _ => 0))) :: (q4, .inl (cI, 401, .inl (fun _ => 0))) :: (q5, .inl (cI, 401, .inl (fun _ => 0))) :: (q6, .inl (cI, 401, .inl (fun _ => 0))) :: (q7, .inr (5, [.ref q8, .ref q9, .ref q10, .ref q11, .ref q12, .ref q13, .int 0, .int 100, .int 0])) :: (q8, .inl (cI, 8, .inl (fun _ => 0))) :: (q9, .inl (cI, 24, .inl (fun _ => 0))) :: (q10, .inl (cI, 24, .inl (fun _ => 0))) :: (q11, .inl (cI, 25, .inl (fun _ => 0))) :: (q12, .inl (cI, 75, .inl (fun _ => 0))) :: (q13, .inl (cI, 75, .inl (fun _ => 0))) :: (q14, .inr (8, [.ref q15, .int 0, .int 0])) :: (q15, .inl (cI, 400, .inl (fun _ => 0))) :: (q16, .inr (8, [.ref q17, .int 0, .int 0])) :: (q17, .inl (cI, 400, .inl (fun _ => 0))) :: (q18, .inl (c8, 2, .inr (.inr (.inr (.inr (va_up (va_up (fun _ => none) 0 (some q19)) 1 (some q21))))))) :: (q19, .inr (8, [.ref q20, .int 0, .int 0])) :: (q20, .inl (cI, 400, .inl (fun _ => 0))) :: (q21, .inr (8, [.ref q22, .int 0, .int 0])) :: (q22, .inl (cI, 400, .inl (fun _ => 0))) :: (q23, .inl (c6, 4, .inr (.inr (.inr (.inr (va_up (va_up (va_up (va_up (fun _ => none) 0 (some q24)) 1 (some q26)) 2 (some q28)) 3 (some q30))))))) :: (q24, .inr (6, [.ref q25, .int 0, .int (-1)])) :: (q25, .inl (cI, 40, .inl (fun _ => 0))) :: (q26, .inr (6, [.ref q27, .int 0, .int (-1)])) :: (q27, .inl (cI, 40, .inl (fun _ => 0))) :: (q28, .inr (6, [.ref q29, .int 0, .int (-1)])) :: (q29, .inl (cI, 40, .inl (fun _ => 0))) :: (q30, .inr (6, [.ref q31, .int 0, .int (-1)])) :: (q31, .inl (cI, 40, .inl (fun _ => 0))) :: (q32, .inr (9, [.ref q33, .int 0, .int 0, .int 0, .int 0, .int 0])) :: (q33, .inl (cI, 3, .inl (fun _ => 0))) :: (q34, .inr (3, [.int 0, .int 0, .int 0, .int 0, .int 0, .int 0])) :: (q35, .inr (2, [.int 0, .int 0, .int 0, .int 0, .int 0])) :: (q36, .inr (0, [.ref q37, .int 0, .int 0, .int 0, .int 0, .int 0])) :: (q37, .inl (cI, 25, .inl (fun _ => 0))) :: (q38, .inr (1, [.ref q39, .ref q40, .int 0, .int 0, .int 0])) :: (q39, .inl (cI, 256, .inl (fun _ => 0))) :: (q40, .inl (cL, 1024, .inr (.inl (fun _ => 0)))) :: (q41, .inr (5, [.ref q42, .ref q43, .ref q44, .ref q45, .ref q46, .ref q47, .int 0, .int 100, .int 0])) :: (q42, .inl (cI, 8, .inl (fun _ => 0))) :: (q43, .inl (cI, 24, .inl (fun _ => 0))) :: (q44, .inl (cI, 24, .inl (fun _ => 0))) :: (q45, .inl (cI, 25, .inl (fun _ => 0))) :: (q46, .inl (cI, 75, .inl (fun _ => 0))) :: (q47, .inl (cI, 75, .inl (fun _ => 0))) :: [])[i]? = some (r.1, x) ∧ (va_at D vwCl (r.1, x) H → va_at D vwCl r H) := by
    intro i r hr
    cases hq : (plc.take 48)[i]? with
    | none => rw [pcX, List.getElem?_map, hq] at hr; cases hr
    | some q =>
      rw [pcX, List.getElem?_map, hq] at hr
      cases hr
      exact at_X hq
  refine ⟨fun i r hr => ?_, fun i j r1 r2 h1 h2 e => ?_, fun i r hr => ?_⟩
  · obtain ⟨x, g1, g2⟩ := key i r hr
    exact g2 (hP i _ g1)
  · obtain ⟨x, g1, -⟩ := key i r1 h1
    obtain ⟨y, g2, -⟩ := key j r2 h2
    exact hD.1 i j _ _ g1 g2 e
  · obtain ⟨x, g1, -⟩ := key i r hr
    exact hD.2 i (r.1, x) g1

theorem nb_on : ∀ w ∈ nb_, w.onTables = true := fun w hw => by
  have h := (List.mem_filter.mp hw).2
  cases w <;> first | rfl | cases h
section ST
variable {s : State} {args : Array Value}
theorem st_K (htb : ∀ w ∈ tb_, w.before args s = true) : ∃ (D : va_G) (cI cL : ClassId), va_K D vwCl (t2_ cI cL) s := by
  obtain ⟨c0, i0, h0⟩ := u_known htb okX0.2.1 (htb (.instantiable RX0 6) (tb_of (tk_2 _ (List.mem_of_getElem? (i := 32) rfl)) rfl))
  obtain ⟨c1, i1, h1⟩ := u_known htb okX1.2.1 (htb (.instantiable RX1 5) (tb_of (tk_2 _ (List.mem_of_getElem? (i := 61) rfl)) rfl))
  obtain ⟨c2, i2, h2⟩ := u_known htb okX2.2.1 (htb (.instantiable RX2 5) (tb_of (tk_2 _ (List.mem_of_getElem? (i := 5) rfl)) rfl))
  obtain ⟨c3, i3, h3⟩ := u_known htb okX3.2.1 (htb (.instantiable RX3 6) (tb_of (tk_1 _ (List.mem_of_getElem? (i := 214) rfl)) rfl))
  obtain ⟨c4, i4, h4⟩ := u_known htb okX4.2.1 (htb (.instantiable RX4 11) (tb_of (tk_1 _ (List.mem_of_getElem? (i := 29) rfl)) rfl))
  obtain ⟨c5, i5, h5⟩ := u_known htb okX5.2.1 (htb (.instantiable RX5 9) (tb_of (tk_1 _ (List.mem_of_getElem? (i := 66) rfl)) rfl))
  obtain ⟨c6, i6, h6⟩ := u_known htb okX6.2.1 (htb (.instantiable RX6 3) (tb_of (tk_1 _ (List.mem_of_getElem? (i := 168) rfl)) rfl))
  obtain ⟨c7, i7, h7⟩ := u_known htb okX7.2.1 (htb (.instantiable RX7 6) (tb_of (tk_1 _ (List.mem_of_getElem? (i := 35) rfl)) rfl))
  obtain ⟨c8, i8, h8⟩ := u_known htb okX8.2.1 (htb (.instantiable RX8 3) (tb_of (tk_1 _ (List.mem_of_getElem? (i := 145) rfl)) rfl))
  obtain ⟨c9, i9, h9⟩ := u_known htb okX9.2.1 (htb (.instantiable RX9 6) (tb_of (tk_1 _ (List.mem_of_getElem? (i := 185) rfl)) rfl))
  obtain ⟨c10, i10, h10⟩ := u_known htb okX10.2.1 (htb (.instantiable RX10 13) (tb_of (tk_1 _ (List.mem_of_getElem? (i := 21) rfl)) rfl))
  obtain ⟨c11, i11, h11⟩ := u_known htb okX11.2.1 (htb (.instantiable RX11 34) (tb_of (tk_5 _ (List.mem_of_getElem? (i := 32) rfl)) rfl))
  obtain ⟨cI, kI, pI, a1, a2, a3⟩ := Cond.arrayClass_spec (htb _ ac_int)
  obtain ⟨cL, kL, pL, b1, b2, b3⟩ := Cond.arrayClass_spec (htb _ ac_long)
  refine ⟨(fun k => (c0 :: c1 :: c2 :: c3 :: c4 :: c5 :: c6 :: c7 :: c8 :: c9 :: c10 :: c11 :: []).getD k c0, fun k => (i0 :: i1 :: i2 :: i3 :: i4 :: i5 :: i6 :: i7 :: i8 :: i9 :: i10 :: i11 :: []).getD k i0), cI, cL, fun c q hq => ?_, fun k q hk => ?_⟩
  · have hc : c < 12 := (List.getElem?_eq_some_iff.mp hq).1
    match c, hc, hq with
    | 0, _, hq => cases hq; exact h0
    | 1, _, hq => cases hq; exact h1
    | 2, _, hq => cases hq; exact h2
    | 3, _, hq => cases hq; exact h3
    | 4, _, hq => cases hq; exact h4
    | 5, _, hq => cases hq; exact h5
    | 6, _, hq => cases hq; exact h6
    | 7, _, hq => cases hq; exact h7
    | 8, _, hq => cases hq; exact h8
    | 9, _, hq => cases hq; exact h9
    | 10, _, hq => cases hq; exact h10
    | 11, _, hq => cases hq; exact h11
    | c + 12, h, _ => omega
  · have hc : k < 2 := (List.getElem?_eq_some_iff.mp hk).1
    match k, hc, hk with
    | 0, _, hk => cases hk; exact ⟨fun n z => ⟨fun k h => (by cases h), kI, a2, pI, a3⟩, a1⟩
    | 1, _, hk => cases hk; exact ⟨fun n z => ⟨fun k h => (by cases h), kL, b2, pL, b3⟩, b1⟩
    | k + 2, h, _ => omega
abbrev ks_ (i : Nat) : Term := .string RX7 (kst.getD i (0, "")).1
def fq_ : List Cond := flatC (Cond.and given_1 narrow_1)
theorem fq_ex : ∀ i, i < 14 → Cond.exactly (ks_ i) "java/lang/String" ∈ fq_ := by decide +kernel
theorem fq_co : ∀ i, i < 14 → Cond.eq (.field (ks_ i) "java/lang/String" "coder" "B") (.int 0) ∈ fq_ := by decide +kernel
theorem fq_ar : ∀ i, i < 14 → Cond.arrayOf (.field (ks_ i) "java/lang/String" "value" "[B") .byte ∈ fq_ := by decide +kernel
theorem fq_le : ∀ i, i < 14 → Cond.eq (.length (.field (ks_ i) "java/lang/String" "value" "[B")) (.int (Int32.ofNat (kln.getD i 0))) ∈ fq_ := by decide +kernel
theorem fq_el : ∀ i, i < 14 → ∀ j, j < kln.getD i 0 → Cond.eq (.elem (.field (ks_ i) "java/lang/String" "value" "[B") (.int (Int32.ofNat j))) (.int ((kbt.getD i []).getD j 0)) ∈ fq_ := by decide +kernel
theorem fq_ne : ∀ i, i < 14 → ∀ j, j < 14 → i < j → Cond.not (Cond.eq (ks_ i) (ks_ j)) ∈ fq_ := by decide +kernel
theorem fq_cs : Cond.eq (.static "java/lang/String" "COMPACT_STRINGS" "Z") (.int 1) ∈ fq_ := by decide +kernel
theorem fq_sf : Cond.isRef (.static "jdk/internal/util/Preconditions" "SIOOBE_FORMATTER" "Ljava/util/function/BiFunction;") ∈ fq_ := by decide +kernel
theorem fq_ln : ∀ i, i < 14 → kln.getD i 0 < 2 ^ 31 := by decide +kernel
theorem tb_sr : ∀ i, i < 14 → Cond.stringRef RX7 (kst.getD i (0, "")).1 (kst.getD i (0, "")).2 ∈ lw_tbl := by decide +kernel
theorem st_S (hts : ∀ w ∈ lw_tbl, w.before args s = true) (hgv : (Cond.and given_1 narrow_1).before args s = true) : ∃ (k50 k51 : Nat → Nat) (t52 : Nat), ∀ ad : Nat → Nat → Nat, ad 50 = k50 → ad 51 = k51 → ad 52 0 = t52 → sgB ad (fun q => s.heap.size ≤ q) s s.heap := by
  have hf : ∀ w ∈ fq_, w.before args s = true := flat_of_before _ hgv
  have hA : ∀ a : Nat, a < s.heap.size → ¬ (fun q : Nat => s.heap.size ≤ q) a := fun a h1 h2 => absurd h1 (Nat.not_lt.mpr h2)
  obtain ⟨k50, k51, hk, hev⟩ := vk_Sof (args := args) (s := s) (N := 14) (tm := ks_) (len := kln) (byt := kbt) (A := fun q => s.heap.size ≤ q) fq_ln (fun i h => hf _ (fq_ex i h)) (fun i h => hf _ (fq_co i h)) (fun i h => hf _ (fq_ar i h)) (fun i h => hf _ (fq_le i h)) (fun i h j hj => hf _ (fq_el i h j hj)) (fun i j hi hj hij => by
    rcases Nat.lt_or_gt_of_ne hij with h | h
    · exact Or.inl (hf _ (fq_ne i hi j hj h))
    · exact Or.inr (hf _ (fq_ne j hj i hi h))) hA
  have hZ := va_Zof (A := fun q => s.heap.size ≤ q) (hts (.laysStatic "java/lang/String" "COMPACT_STRINGS" "Z") (by decide +kernel)) (hts (.initialized "java/lang/String") (by decide +kernel)) (va_eqt (hf _ fq_cs)) hA
  have hq := va_Zqof (A := fun q => s.heap.size ≤ q) (hts (.laysStatic "jdk/internal/util/Preconditions" "SIOOBE_FORMATTER" "Ljava/util/function/BiFunction;") (by decide +kernel)) (hts (.initialized "jdk/internal/util/Preconditions") (by decide +kernel)) (hf _ fq_sf) hA
  have hR : ∀ (i : Nat) (q : Nat × String), kst[i]? = some q → vk_R RX7 q.1 q.2 (k50 i) s := by
    intro i q hi
    have h14 : i < 14 := (List.getElem?_eq_some_iff.mp hi).1
    have e : kst.getD i (0, "") = q := by rw [List.getD_eq_getElem?_getD, hi]; rfl
    have h1 := hts _ (tb_sr i h14)
    have h2 := hev i h14
    unfold ks_ at h2
    rw [e] at h1 h2
    exact vk_R.of h1 h2
  rcases hq with h | ⟨t, h⟩
  · refine ⟨k50, k51, 0, fun ad e0 e1 e2 => ⟨by rw [e0, e1]; exact hk, by rw [e0]; exact hR, hZ, vN, Or.inl rfl, h⟩⟩
  · refine ⟨k50, k51, t, fun ad e0 e1 e2 => ⟨by rw [e0, e1]; exact hk, by rw [e0]; exact hR, hZ, vR 52 0, Or.inr rfl, ?_⟩⟩
    show va_Z _ _ _ (.ref (ad 52 0)) _ _ _
    rw [e2]; exact h
theorem sgB_w {ad : Nat → Nat → Nat} {A : Nat → Prop} {U : State} {H H1 : Heap} (hW : s.WarmedH U.vm) (hk : ∀ a : Nat, a < H.size → ¬ A a → H1[a]? = H[a]?) (h : sgB ad A s H) : sgB ad A U H1 := by
  obtain ⟨h1, h2, h3, v, h4, h5⟩ := h
  exact ⟨(vk_S.moved hW.alike h1).kept hk, fun i q hq => vk_R.warm hW (h2 i q hq), (va_Z.moved hW.alike h3).kept hk, v, h4, (va_Z.moved hW.alike h5).kept hk⟩
theorem fbA {as : List Value} {D : va_G} {cI cL : ClassId} {sz : Nat} {w : va_W} : FrameBlind (va_Pc as (fun U => pN D cI cL sz w U ∧ aoN U)) :=
  fun a U g mk q => by
    obtain ⟨q0, ⟨q1, qP, qK, qD⟩, q2, q3, q4⟩ := q
    have hal : U.vm.Alike (U.calling g mk a).vm := Vm.Alike.refl U.vm
    exact ⟨q0, ⟨q1, qP, va_K.moved hal qK, qD⟩, fun w hw => nb_same (s := U) (U := U.calling g mk a) hw rfl (q2 w hw), va_AO.moved hal q3, va_AO.moved hal q4⟩
theorem fbM {as : List Value} {D : va_G} {ad : Nat → Nat → Nat} {ci : Nat → ClassId} {h1 sz z0 : Nat} : FrameBlind (va_Pc as (pM D ad ci h1 sz z0)) :=
  fun a U g mk q => by
    obtain ⟨q0, q1, qP, qK, qD, qn, ⟨g1, g2, g3, v, g4, g5⟩, qz⟩ := q
    have hal : U.vm.Alike (U.calling g mk a).vm := Vm.Alike.refl U.vm
    exact ⟨q0, q1, qP, va_K.moved hal qK, qD, fun w hw => nb_same (s := U) (U := U.calling g mk a) hw rfl (qn w hw), ⟨vk_S.moved hal g1, fun i q hq => vk_R.same (u := U) (U := U.calling g mk a) rfl (g2 i q hq), va_Z.moved hal g3, v, g4, va_Z.moved hal g5⟩, qz⟩
theorem rot_ {α : Type} (l : List α) (x : α) : (l.length :: List.range l.length).map (fun i => (l ++ [x])[i]?) = (x :: l).map some := by
  refine List.ext_getElem? (fun i => ?_)
  cases i with
  | zero => simp
  | succ i =>
    simp only [List.map_cons, List.getElem?_cons_succ, List.getElem?_map]
    by_cases h : i < l.length
    · rw [List.getElem?_range h, Option.map_some, List.getElem?_append_left h, List.getElem?_eq_getElem h]; rfl
    · rw [List.getElem?_eq_none (by simpa using h), List.getElem?_eq_none (by simpa using h)]; rfl
theorem rot_nd : va_nd (48 :: List.range 48) = true := by decide +kernel
end ST
theorem at_s0 {D : va_G} {ad : Nat → Nat → Nat} {ci : Nat → ClassId} {h1 : Nat} {A : Nat → Prop} {H : Heap} {x : va_E} (hP : va_P D vwCl (pcX D ad ci ++ [(h1, x)]) H) (hD : va_D A (pcX D ad ci ++ [(h1, x)])) : va_P D vwCl ((h1, x) :: pcX D ad ci) H ∧ va_D A ((h1, x) :: pcX D ad ci) := by
  have hlen : (pcX D ad ci).length = 48 := by unfold pcX; rw [List.length_map]; rfl
  have hr := rot_ (pcX D ad ci) (h1, x)
  rw [hlen] at hr
  refine ⟨fun k q hq => ?_, hD.sub (48 :: List.range 48) rot_nd hr⟩
  cases k with
  | zero => cases hq; exact hP 48 _ (by rw [List.getElem?_append_right (by rw [hlen]; exact Nat.le_refl _), hlen]; rfl)
  | succ k =>
    rw [List.getElem?_cons_succ] at hq
    exact hP k q (by rw [List.getElem?_append_left (List.getElem?_eq_some_iff.mp hq).1]; exact hq)

/-! THE CLAIM OUT OF ONE WALK OF THE LAW'S BODY. Your part is whole_start (and what it stands on); all else here is the same for every law, but numbers. -/
def R_law : String := "EightWiresLaw"
def lw_P (b : Addr) (xs : List Int32) (args : Array Value) (s : State) : Prop := args = #[.ref b] ∧ s.IntsAt b xs ∧ xs.length ≤ 2560 ∧ (Jvm.Cond.and given_1 narrow_1).before args s = true
def lw_Q (_ : Array Value) (s : State) (o : Outcome) (t : State) : Prop := o = .returned (some (.int 1)) ∧ Framed s o t [] 60 7914
def lw_Z (below : List Frame) (a : Array Value) (s : State) : State → Prop := fun t => ∃ o, t.status = .running ∧ Ended t below o ∧ lw_Q a s o t
/-- the law's own end, with 1 on the stack, nothing written that was there before, its room as the claim has it -/
theorem lw_ret {p : Program} {l : Launch} {e : Env} {s : State} {m : MethodId} {below : List Frame} {meth : Method} {c : Code} {b : Nat} (hx : p.tables.exec = Jvm.exec) (hb : c.code = code) (hr : meth.sig.returnType = ret) (hlocks : meth.locks = false) {pc : Nat} {H : Heap} {ls : Array Slot} (hdg : decode code pc = .ok (.ireturn, 1)) : W p l e room_1 s m #[Value.ref b] below meth c H [] 60 7914 (lw_Z below #[Value.ref b] s) (F0 m pc ls [.int 1]) := by
  intro T hT X
  obtain ⟨fs, hret, hrun, hended, hW, hframe⟩ := X.leave (v := some (.int 1)) (hlocks := hlocks) (fun h => by rw [hr] at h; cases h)
  have hmeth' : T.vm.method? m = some meth := X.method'
  refine ⟨T.setFrames fs, ?_, .returned (some (.int 1)), hrun, hended, rfl, ⟨_, rfl⟩, hW, hframe⟩
  jvm_step X.here [X.here.top, hx, hb, hdg, hmeth', hr, ret, narrow_b1]
  (try refine ⟨rfl, ?_⟩); (try refine ⟨rfl, ?_⟩)
  first | (intro acts; rw [hret _ acts rfl rfl rfl]) | rw [hret _ _ rfl rfl rfl]
  exact Steps.refl _
/-- what holds at the law's entry: the machine, the code, the tables' words (any of lw_tbl by 'hts w (by decide +kernel)'), the script of L ints xs at the cell b, what the Statement gives of the start (any of its parts by flat_of_before) -/
def lw_At (p : Program) (s : State) (m : MethodId) (meth : Method) (c : Code) (b L : Nat) (xs : Nat → Int32) : Prop :=
  p.tables.exec = Jvm.exec ∧ c.code = code ∧ meth.sig.returnType = ret ∧ c.maxLocals = 4 ∧ s.vm.findClass R_law = some m.cls ∧ (∀ w ∈ lw_tbl, w.before #[Value.ref b] s = true) ∧ va_X b L xs s s.heap ∧ b < s.heap.size ∧ meth.locks = false ∧ (Jvm.Cond.and given_1 narrow_1).before #[Value.ref b] s = true

set_option maxHeartbeats 4000000 in
theorem whole_start {p : Program} {e : Env} {s : State} {m : MethodId} {below : List Frame} {meth : Method} {c : Code} (l : Launch) (hflags : l.flags = flags0) {b L : Nat} {xs : Nat → Int32} (hL : L ≤ 2560) (C0 : lw_At p s m meth c b L xs) : W p l e room_1 s m #[Value.ref b] below meth c s.heap [] 0 0 (lw_Z below #[Value.ref b] s) (entryFrame m ([Value.ref b] : List Value).toArray 4) := by
  obtain ⟨hx, hb, hr, hml, hown, hts, hX, hbl, hlocks, hgv⟩ := C0
  have hown : s.vm.findClass RL = some m.cls := hown
  have htb : ∀ w ∈ tb_, w.before #[Value.ref b] s = true := fun w hw => hts w (List.mem_filter.mp hw).1
  have hnb : ∀ w ∈ nb_, va_Nw w s := fun w hw => va_Nw.of (nb_on w hw) (hts w (List.mem_filter.mp hw).1)
  have hao8 : va_AO RX8 s := va_AO.of (A := #[Value.ref b]) (hts (.arrayOver (.object RX8)) (tk_1 _ (List.mem_of_getElem? (i := 165) rfl)))
  have hao6 : va_AO RX6 s := va_AO.of (A := #[Value.ref b]) (hts (.arrayOver (.object RX6)) (tk_1 _ (List.mem_of_getElem? (i := 167) rfl)))
  obtain ⟨D, cI, cL, hK⟩ := st_K htb
  obtain ⟨k50, k51, t52, hsg⟩ := st_S hts hgv
  have hA : ∀ q : Nat, s.heap.size ≤ q → (fun q : Nat => s.heap.size ≤ q) q := fun _ h => h
  have hl := lv_entry ([Value.ref b]) (n := 4) (Nat.le_of_ble_eq_true rfl)
  rw [lg_entry_eq]
  generalize (lg_sl ([Value.ref b]) ++ List.replicate (4 - (lg_sl ([Value.ref b])).length) Slot.unset).toArray = ls at hl ⊢
  have hl : lv_has ls 4 [(0, .ref b)] := hl
  have hS : vs_ s s.heap [] := va_S.rf
  have hP0 : va_P D vwCl [] s.heap := fun k q h => by cases h
  have hD0 : va_D (fun q : Nat => s.heap.size ≤ q) [] := ⟨(fun i j p q h => by cases h), (fun k q h => by cases h)⟩
  refine va_new (ci := 10) (fs := [.null, .null, .null, .null, .null, .null, .null, .null, .null, .null, .null, .int 0, .int 0]) (C := RX10) (T := TX10) (N := 13) (ws := []) hx hb htb okX10.2.1 tyX10 okX10.2.2.1 hown (htb (.classLink RL 7 RX10) (tb_of (tk_1 _ (List.mem_of_getElem? (i := 20) rfl)) rfl)) (htb (.instantiable RX10 13) (tb_of (tk_1 _ (List.mem_of_getElem? (i := 21) rfl)) rfl)) (htb _ iniX10) hK hP0 hD0 hS hA rfl (by decide +kernel) (Nat.le_of_ble_eq_true rfl) (Nat.le_of_ble_eq_true rfl) dL_law_0 (fun h0 H hP hD hS => ?_)
  refine lv_dup hx hb dL_law_3 rfl ?_
  have hP : va_P D vwCl [(h0, .inr (10, [.null, .null, .null, .null, .null, .null, .null, .null, .null, .null, .null, .int 0, .int 0]))] H := hP
  have hD : va_D (fun q : Nat => s.heap.size ≤ q) [(h0, .inr (10, [.null, .null, .null, .null, .null, .null, .null, .null, .null, .null, .null, .int 0, .int 0]))] := hD
  have hFc := va_free (wc := [(h0, .inr (10, [.null, .null, .null, .null, .null, .null, .null, .null, .null, .null, .null, .int 0, .int 0]))]) hD hS hA [0] rfl
  refine va_callv (va_runI (As := []) (rest := [.ref h0]) (Ts := tb_) ⟨hx, hb, hml, hown, htb⟩ (kN10 l D cI cL h0 H.size) (cwI 0 htb (wl_good mX10_init okX10_init.1) rfl rfl rfl (htb _ okX10_init.2.1) (htb _ ml_L_9) (htb (.instanceMethod yX10_init) (tb_of (tk_1 _ (List.mem_of_getElem? (i := 23) rfl)) rfl)) rfl okX10_init.2.2.1 ⟨Nat.le_of_ble_eq_true rfl, Nat.le_of_ble_eq_true rfl⟩) ⟨fbA, fun U hU hW => ⟨rfl, ⟨by rw [hU], by rw [hU]; exact hP, va_K.moved hW.alike hK, hD.weaken (fun _ _ _ _ => trivial)⟩, fun w hw => nb_warm hw hW (hnb w hw), va_AO.moved hW.alike hao8, va_AO.moved hW.alike hao6⟩⟩ rfl rfl hl.1 rfl (lv_room (Nat.le_of_ble_eq_true rfl)) dL_law_4 ⟨Nat.le_of_ble_eq_true rfl, Nat.le_of_ble_eq_true rfl⟩) hS (fun q _ h => hFc q h) hFc (fun u t H1 locs1 ht hvm _ hB hz1 hk1 hS1 => ?_)
  obtain ⟨c8, c6, w, hΦ, hP1, hK1, hD1⟩ := hB
  rw [ht] at hP1
  have hK4 := va_K.moved hvm.symm hK1
  obtain ⟨ad, e50, e51, e52, e10, hP2, hD2⟩ := st_W hΦ hP1 (hD1.weaken (fun _ _ _ h => hFc _ h)) k50 k51 t52
  have hsg := hsg ad e50 e51 e52
  generalize hci : ciX cI cL c8 c6 = ci at hP2 hD2
  have hK4 : va_K D vwCl (t4_ ci) s := by rw [← hci]; exact hK4
  clear hP hD hFc hS hz1 hk1 hΦ hP1 hD1 hK1
  refine lv_astore_n hx hb dL_law_7 rfl hl (by decide) rfl (fun lc hl => ?_)
  refine va_new (ci := 11) (fs := [.null, .null, .null, .int 0, .null, .null, .int 0, .null, .int 0, .int 0, .int 0, .int 0, .int 0, .int 0, .int 0, .int 0, .int 0, .int 0, .int 0, .int 0, .null, .int 0, .int 0, .int 0, .int 0, .int 0, .null, .int 0, .int 0, .int 0, .null, .null, .null, .int 0]) (C := RX11) (T := TX11) (N := 34) hx hb htb okX11.2.1 tyX11 okX11.2.2.1 hown (htb (.classLink RL 10 RX11) (tb_of (tk_5 _ (List.mem_of_getElem? (i := 31) rfl)) rfl)) (htb (.instantiable RX11 34) (tb_of (tk_5 _ (List.mem_of_getElem? (i := 32) rfl)) rfl)) (htb _ iniX11) hK4 hP2 hD2 hS1 hA rfl (by decide +kernel) (Nat.le_of_ble_eq_true rfl) (Nat.le_of_ble_eq_true rfl) dL_law_8 (fun h1 H3 hP3 hD3 hS3 => ?_)
  refine lv_dup hx hb dL_law_11 rfl ?_
  obtain ⟨hP4, hD4⟩ := at_s0 hP3 hD3
  have hP4 : va_P D vwCl (w11_ D ad ci h1) H3 := hP4
  have hD4 : va_D (fun q : Nat => s.heap.size ≤ q) (w11_ D ad ci h1) := hD4
  have hFc : ∀ q, va_A (w11_ D ad ci h1) H3.size q → s.heap.size ≤ q := fun q h => by
    rcases h with ⟨k, x, h⟩ | h
    · exact hD4.2 k _ h
    · exact Nat.le_trans hS3.1 h
  refine va_callv (va_runI (As := []) (rest := [.ref h1]) (Ts := tb_) ⟨hx, hb, hml, hown, htb⟩ (kN11 l D ad ci h1 H3.size s.heap.size) (cwI 0 htb (wl_good mX11_init okX11_init.1) rfl rfl rfl (htb _ okX11_init.2.1) (htb _ ml_L_12) (htb (.instanceMethod yX11_init) (tb_of (tk_5 _ (List.mem_of_getElem? (i := 34) rfl)) rfl)) rfl okX11_init.2.2.1 ⟨Nat.le_of_ble_eq_true rfl, Nat.le_of_ble_eq_true rfl⟩) ⟨fbM, fun U hU hW => ⟨rfl, by rw [hU], by rw [hU]; exact hP4, va_K.moved hW.alike hK4, hD4, fun w hw => nb_warm hw hW (hnb w hw), by rw [hU]; exact sgB_w hW (fun a h1 h2 => hS3.2.1 a h1 h2) hsg, hS3.1⟩⟩ rfl rfl hl.1 rfl (lv_room (Nat.le_of_ble_eq_true rfl)) dL_law_12 ⟨Nat.le_of_ble_eq_true rfl, Nat.le_of_ble_eq_true rfl⟩) hS3 (fun q _ h => hFc q h) hFc (fun u t H4 locs4 ht hvm _ hB hz1 hk1 hS4 => ?_)
  obtain ⟨a, S, hI, hP5, hdj, haw⟩ := hB
  rw [ht] at hP5
  refine lv_astore_n hx hb dL_law_15 rfl hl (by decide) rfl (fun lc hl => ?_)
  refine lv_iconst hx hb dL_law_16 (v := 0) (by decide) ?_
  refine lv_istore_n hx hb dL_law_17 rfl hl (by decide) rfl (fun lc hl => ?_)
  have hAw : ∀ q, aw_ (D, adM ad h1 a, ci) q → s.heap.size ≤ q := fun q h => hFc q (haw q h)
  have C : lc_ p s m c b L xs (D, adM ad h1 a, ci) := ⟨hx, hb, hml, hown, htb, hdj, ⟨hK4, hnb, sg_ofB hsg rfl rfl rfl hAw⟩, hX, hbl, hAw, hL⟩
  have hl : lh_ (D, adM ad h1 a, ci) b 0 lc := by rw [← e10] at hl; exact hl
  refine lw_loop C (fun H locs lc hS => ?_) 513 0 S H4 locs4 lc (by omega) (by omega) hI hP5 hS4 hl
  refine lv_iconst hx hb dL_law_1459 (v := 1) (by decide) ?_
  refine va_forget hS.2.2 ?_
  exact lw_ret hx hb hr hlocks dL_law_1460
set_option maxHeartbeats 4000000 in
theorem lw_walk (l : Launch) (hflags : l.flags = flags0) (b : Addr) (xs : List Int32) : MetFree l x (headSpec (Jvm.Cond.code x code maxLocals ret :: tables_1) room_1) (lw_P b xs) (fun _ _ _ _ _ => True) lw_Q := by
  refine MetFree.of_bodyS (code := code) (maxLocals := maxLocals) (ret := ret) (by decide) ?_ ?_
  · intro args s m h hn
    obtain ⟨meth, c, h1, h2, h3, h4, h5, h6, -, -⟩ := Cond.code_spec hn (atoms_spec (ws := Jvm.Cond.code x code maxLocals ret :: tables_1) h _ List.mem_cons_self)
    exact ⟨meth, c, h1, h2, h3, h4, h5, h6⟩
  · intro p e s m args below meth c s₁ B hml0 hP _
    obtain ⟨rfl, hx, hbd, hgv⟩ := hP
    obtain ⟨scr, harrAt, hlist, hof, hsmall⟩ := hx
    obtain ⟨hcb, hkn, -, -⟩ := State.arrayAt?_spec harrAt
    have hown : s.vm.findClass R_law = some m.cls := findClass_of_methodNamed B.named
    have hts0 : ∀ c ∈ (Jvm.Cond.code x code maxLocals ret :: tables_1), c.before #[Value.ref b] s = true := atoms_spec (ws := Jvm.Cond.code x code maxLocals ret :: tables_1) B.pre
    have hts : ∀ w ∈ lw_tbl, w.before #[Value.ref b] s = true := k2_hts_sels lw_privs (fun w hw => hts0 w (List.mem_cons_of_mem _ hw)) lw_privs_ok
    have hml : c.maxLocals = 4 := B.maxLocals_eq (hts0 _ List.mem_cons_self)
    have X₀ : Stand p l e room_1 s m #[Value.ref b] below meth c s₁ [] 0 0 := Stand.of_body B
    have hh0 : s₁.heap = s.heap := by rw [B.state]; rfl
    have hsz : scr.slots.size = xs.length := by rw [← Array.length_toList, hlist, List.length_map]
    have hval : ∀ j : Nat, j < xs.length → scr.slots[j]? = some (.int (xs.getD j 0)) := fun j hj => by
      rw [← Array.getElem?_toList, hlist]
      simp [hj]
    have hbl : b < s.heap.size := (Array.getElem?_eq_some_iff.mp hcb).1
    have hX : va_X b xs.length (fun j => xs.getD j 0) s s.heap := ⟨scr, hcb, hof, hkn, hsz, hval⟩
    have K : W p l e room_1 s m #[Value.ref b] below meth c s₁.heap [] 0 0 (lw_Z below #[Value.ref b] s) (entryFrame m ([Value.ref b] : List Value).toArray 4) := by
      rw [hh0]
      exact whole_start l hflags hbd ⟨B.exec, B.bytes, B.returns, hml, hown, hts, hX, hbl, B.notSynchronized, hgv⟩
    obtain ⟨t, a1, o, b1, b2, b3⟩ := K s₁ rfl X₀
    exact ⟨t, o, a1, b1, b2, b3⟩
theorem lw_pre_spec {args : Array Value} {s : State} (h : (Jvm.Cond.and given_1 narrow_1).before args s = true) (hr : rest_1_c.before args s = true) : ∃ (b : Addr) (xs : List Int32), lw_P b xs args s := by
  have hs := flat_of_before _ h
  have hq := flat_of_before _ hr
  have hc : (Cond.count 1).before args s = true := hs _ (by decide +kernel)
  have harr : (Cond.arrayOf (.arg 0) .int).before args s = true := hs _ (by decide +kernel)
  have hle : (Cond.le (.length (.arg 0)) (.int 2560)).before args s = true := hs _ (by decide +kernel)
  have hlen : (Cond.isInt (.length (.arg 0))).before args s = true := hq _ (by decide +kernel)
  have hall : (Cond.all (.arg 0) (.isInt (.elem (.arg 0) (.index 0)))).before args s = true := hq _ (by decide +kernel)
  obtain ⟨b, xs, hb, hx⟩ := State.ints_of_pre rfl harr hlen hall
  have hsm : xs.length < 2 ^ 31 := hx.choose_spec.2.2.2
  have hev : (Term.length (.arg 0)).eval args s none [] s = some (.int xs.length.toInt32) := hx.length_eval hb
  have hv := Cond.le_ints hev (show (Term.int 2560).eval args s none [] s = some (.int 2560) from rfl)
  have hd : xs.length.toInt32 ≤ 2560 := by
    simpa [Cond.before, Cond.holds, hv] using hle
  have hN : xs.length ≤ 2560 := (Int32.ofNat_le_ofNat hsm (by decide)).mp (show Int32.ofNat xs.length ≤ Int32.ofNat 2560 from hd)
  exact ⟨b, xs, Cond.one_arg hc (show args[0]? = some (.ref b) from hb), hx, hN, h⟩
theorem lw_comes (l : Launch) (hflags : l.flags = flags0) : Comes l x (Jvm.Cond.code x code maxLocals ret :: tables_1) room_1 (fun tb e args s => Calls_1 tb e args s ∧ rest_1 tb e args s ∧ Pre_1 tb e args s)
    (fun _ _ args s o t => lw_Q args s o t) := by
  intro p e ha hc hk s m args below hf hfit hheap happ hpre
  obtain ⟨b, xs, hP⟩ := lw_pre_spec hpre.2.2 hpre.2.1
  obtain ⟨k, o, h1, h2, h3, hQ⟩ := lw_walk l hflags b xs p e ha hc hk s m args below hf ((Spec.applies_iff_loose hf).mp happ).1 hP trivial
  exact ⟨k, o, h1, h2, h3, hQ⟩
theorem lw_frame {s t : State} {o : Outcome} {args : Array Value} (h : Framed s o t [] 60 7914) :
    Framed s o t (fieldLocs frame_1_writes args s ++ arrayLocs frame_1_arrays args s ++ staticLocs frame_1_statics s) 60 7914 := h
theorem lw_limb (L : Cond) (hL : ∀ (args : Array Value) (s t : State), L.after args s (.returned (some (.int 1))) t = true) :
    ArmFor flags0 classFile x code maxLocals ret World_1 tables_1 room_1 Calls_1 rest_1 Pre_1
      (fun tb e a s o t => postC L tb e a s o t ∧ Framed s o t (fieldLocs frame_1_writes a s ++ arrayLocs frame_1_arrays a s ++ staticLocs frame_1_statics s) 60 7914) := by
  intro l hflags _ _ p e ha hc hk s m args below hf hfit hheap happ hpre
  obtain ⟨k, o, h1, h2, h3, rfl, hF⟩ := lw_comes l hflags p e ha hc hk s m args below hf hfit hheap happ hpre
  exact ⟨k, _, h1, h2, h3, hL args s _, lw_frame hF⟩
theorem i_vc : Claimed_1_1 ∧ Claimed_1_2 := ⟨lw_limb limb_1_1 (fun args s t => by simp [limb_1_1, Cond.after, Cond.holds, Cond.value]), lw_limb limb_1_2 (fun args s t => Cond.after_iff.mpr (by
  first | (rw [show limb_1_2 = Cond.eq .result (.int 1) from rfl, Cond.eq_ints (x := 1) (y := 1) rfl rfl]; simp; done) | (simp [limb_1_2, Cond.value, Term.eval]; done)))⟩
