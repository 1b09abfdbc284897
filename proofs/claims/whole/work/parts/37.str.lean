/-! ===== the String constants: their fields ===== -/
section SR
variable {d pc : Nat} {md : md_T} {ls : List (Option av_T)} {st : List av_T} {S : hs_T} {Q : Option av_T → hs_T → Prop}
theorem Ev.getKv {i j : Nat} (hj : j < 14) (hl : Cond.fieldLink md.1.cls i "java/lang/String" "value" "[B" ∈ tb_) (hd : decode md.2.1 pc = .ok (.getfield i, 3)) (kk : Ev d md (pc + 3) ls (vR 51 j :: st) S Q) : Ev d md pc ls (vR 50 j :: st) S Q := by
  intro G p l e s m args below meth c H locs lc B hP hS hr
  have hE := B.2.2.2.2.2.2.2.2.2.2.1
  exact vk_getf B.1 B.2.1 (hE.1 j hj).2.2.1 hS B.2.2.2.2.1 (B.2.2.2.2.2.1 _ hl) (fun _ h => h) hd (kk G p l e s m args below meth c H locs lc B hP hS hr)
theorem Ev.getKc {i j : Nat} (hj : j < 14) (hl : Cond.fieldLink md.1.cls i "java/lang/String" "coder" "B" ∈ tb_) (hd : decode md.2.1 pc = .ok (.getfield i, 3)) (kk : Ev d md (pc + 3) ls (vI 0 :: st) S Q) : Ev d md pc ls (vR 50 j :: st) S Q := by
  intro G p l e s m args below meth c H locs lc B hP hS hr
  have hE := B.2.2.2.2.2.2.2.2.2.2.1
  exact vk_getf B.1 B.2.1 (hE.1 j hj).2.1 hS B.2.2.2.2.1 (B.2.2.2.2.2.1 _ hl) (fun _ h => h) hd (kk G p l e s m args below meth c H locs lc B hP hS hr)
theorem Ev.lenK {j : Nat} (hj : j < 14) (hd : decode md.2.1 pc = .ok (.arraylength, 1)) (kk : Ev d md (pc + 1) ls (vI (nI (kln.getD j 0)) :: st) S Q) : Ev d md pc ls (vR 51 j :: st) S Q := by
  intro G p l e s m args below meth c H locs lc B hP hS hr
  have hE := B.2.2.2.2.2.2.2.2.2.2.1
  exact va_tlen B.1 B.2.1 (hE.1 j hj).2.2.2 hS rfl hd (kk G p l e s m args below meth c H locs lc B hP hS hr)
theorem Ev.balK {j : Nat} {i : Int32} (hj : j < 14) (hin : vp_in i (kln.getD j 0)) (hd : decode md.2.1 pc = .ok (.baload, 1)) (kk : Ev d md (pc + 1) ls (vI ((kbt.getD j []).getD i.toNatClampNeg 0) :: st) S Q) : Ev d md pc ls (vI i :: vR 51 j :: st) S Q := by
  intro G p l e s m args below meth c H locs lc B hP hS hr
  have hE := B.2.2.2.2.2.2.2.2.2.2.1
  exact va_tb B.1 B.2.1 (hE.1 j hj).2.2.2 hS hin rfl hd (kk G p l e s m args below meth c H locs lc B hP hS hr)
theorem Ev.getsC {i : Nat} (hl : Cond.fieldLink md.1.cls i "java/lang/String" "COMPACT_STRINGS" "Z" ∈ tb_) (hd : decode md.2.1 pc = .ok (.getstatic i, 3)) (kk : Ev d md (pc + 3) ls (vI 1 :: st) S Q) : Ev d md pc ls st S Q := by
  intro G p l e s m args below meth c H locs lc B hP hS hr
  have hE := B.2.2.2.2.2.2.2.2.2.2.2.2.1
  exact va_gets B.1 B.2.1 hE hS B.2.2.2.2.1 (B.2.2.2.2.2.1 _ hl) (fun _ h => h) hd (kk G p l e s m args below meth c H locs lc B hP hS hr)
end SR
