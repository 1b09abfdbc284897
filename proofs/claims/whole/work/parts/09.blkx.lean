/-! EightWires$Bytes.clear()V -/
theorem bkX0_clear_0 {d : Nat} {S : hs_T} {Q : Option av_T → hs_T → Prop} (hq : Q none (sk_ (sk_ (sk_ (sk_ (sk_ S 0 0 (upd (S.1 0 0) 1 0)) 0 0 (upd ((sk_ S 0 0 (upd (S.1 0 0) 1 0)).1 0 0) 2 0)) 0 0 (upd ((sk_ (sk_ S 0 0 (upd (S.1 0 0) 1 0)) 0 0 (upd ((sk_ S 0 0 (upd (S.1 0 0) 1 0)).1 0 0) 2 0)).1 0 0) 3 0)) 0 0 (upd ((sk_ (sk_ (sk_ S 0 0 (upd (S.1 0 0) 1 0)) 0 0 (upd ((sk_ S 0 0 (upd (S.1 0 0) 1 0)).1 0 0) 2 0)) 0 0 (upd ((sk_ (sk_ S 0 0 (upd (S.1 0 0) 1 0)) 0 0 (upd ((sk_ S 0 0 (upd (S.1 0 0) 1 0)).1 0 0) 2 0)).1 0 0) 3 0)).1 0 0) 4 0)) 0 0 (upd ((sk_ (sk_ (sk_ (sk_ S 0 0 (upd (S.1 0 0) 1 0)) 0 0 (upd ((sk_ S 0 0 (upd (S.1 0 0) 1 0)).1 0 0) 2 0)) 0 0 (upd ((sk_ (sk_ S 0 0 (upd (S.1 0 0) 1 0)) 0 0 (upd ((sk_ S 0 0 (upd (S.1 0 0) 1 0)).1 0 0) 2 0)).1 0 0) 3 0)) 0 0 (upd ((sk_ (sk_ (sk_ S 0 0 (upd (S.1 0 0) 1 0)) 0 0 (upd ((sk_ S 0 0 (upd (S.1 0 0) 1 0)).1 0 0) 2 0)) 0 0 (upd ((sk_ (sk_ S 0 0 (upd (S.1 0 0) 1 0)) 0 0 (upd ((sk_ S 0 0 (upd (S.1 0 0) 1 0)).1 0 0) 2 0)).1 0 0) 3 0)).1 0 0) 4 0)).1 0 0) 5 0))) : Ev d mX0_clear 0 [some (vR 0 0)] [] S Q := by
  refine Ev.aload_n dX0_clear_0 rfl rfl ?_
  refine Ev.iconst (v := 0) dX0_clear_1 (by decide) ?_
  refine Ev.put okX0 (by decide) fl_X0_15 pz_0_0 (by decide) rfl rfl rfl rfl dX0_clear_2 ?_
  refine Ev.aload_n dX0_clear_5 rfl rfl ?_
  refine Ev.iconst (v := 0) dX0_clear_6 (by decide) ?_
  refine Ev.put okX0 (by decide) fl_X0_19 pz_0_0 (by decide) rfl rfl rfl rfl dX0_clear_7 ?_
  refine Ev.aload_n dX0_clear_10 rfl rfl ?_
  refine Ev.iconst (v := 0) dX0_clear_11 (by decide) ?_
  refine Ev.put okX0 (by decide) fl_X0_22 pz_0_0 (by decide) rfl rfl rfl rfl dX0_clear_12 ?_
  refine Ev.aload_n dX0_clear_15 rfl rfl ?_
  refine Ev.iconst (v := 0) dX0_clear_16 (by decide) ?_
  refine Ev.put okX0 (by decide) fl_X0_25 pz_0_0 (by decide) rfl rfl rfl rfl dX0_clear_17 ?_
  refine Ev.aload_n dX0_clear_20 rfl rfl ?_
  refine Ev.iconst (v := 0) dX0_clear_21 (by decide) ?_
  refine Ev.put okX0 (by decide) fl_X0_28 pz_0_0 (by decide) rfl rfl rfl rfl dX0_clear_22 ?_
  exact Ev.vret dX0_clear_25 rfl hq
/-! EightWires$Bytes.add(I)V -/
theorem bkX0_add_0 {d : Nat} {S : hs_T} {Q : Option av_T → hs_T → Prop} {x1 : Int32} (kt : 25 ≤ (S.1 0 0 1) → Ev d mX0_add 32 [some (vR 0 0), some (vI x1)] [] S Q) (kf : ¬ 25 ≤ (S.1 0 0 1) → Ev d mX0_add 12 [some (vR 0 0), some (vI x1)] [] S Q) : Ev d mX0_add 0 [some (vR 0 0), some (vI x1)] [] S Q := by
  refine Ev.aload_n dX0_add_0 rfl rfl ?_
  refine Ev.get (v := vI (S.1 0 0 1)) okX0 (by decide) fl_X0_15 pz_0_0 (ff_0_1 _ _) dX0_add_1 ?_
  refine Ev.aload_n dX0_add_4 rfl rfl ?_
  refine Ev.get (v := vR 100 0) okX0 (by decide) fl_X0_9 pz_0_0 (ff_0_0 _ _) dX0_add_5 ?_
  refine Ev.alen (v := 25) pz_100_0 (by decide) rfl (by decide) rfl dX0_add_8 ?_
  exact Ev.icmp_ge (tgt := 32) dX0_add_9 (by decide) kt kf
theorem bkX0_add_12 {d : Nat} {S : hs_T} {Q : Option av_T → hs_T → Prop} {x1 : Int32} (hi21 : vp_in (S.1 0 0 1) 25) (kn : Ev d mX0_add 32 [some (vR 0 0), some (vI x1)] [] (sk_ (sk_ S 100 0 (upd (S.1 100 0) ((S.1 0 0 1).toNatClampNeg) x1)) 0 0 (upd ((sk_ S 100 0 (upd (S.1 100 0) ((S.1 0 0 1).toNatClampNeg) x1)).1 0 0) 1 (((sk_ S 100 0 (upd (S.1 100 0) ((S.1 0 0 1).toNatClampNeg) x1)).1 0 0 1) + 1))) Q) : Ev d mX0_add 12 [some (vR 0 0), some (vI x1)] [] S Q := by
  refine Ev.aload_n dX0_add_12 rfl rfl ?_
  refine Ev.get (v := vR 100 0) okX0 (by decide) fl_X0_9 pz_0_0 (ff_0_0 _ _) dX0_add_13 ?_
  refine Ev.aload_n dX0_add_16 rfl rfl ?_
  refine Ev.get (v := vI (S.1 0 0 1)) okX0 (by decide) fl_X0_15 pz_0_0 (ff_0_1 _ _) dX0_add_17 ?_
  refine Ev.iload_n dX0_add_20 rfl rfl ?_
  refine Ev.iastoreA (a := (S.1 0 0 1).toNatClampNeg) pz_100_0 (by decide) ak_100 hi21 rfl rfl dX0_add_21 ?_
  refine Ev.aload_n dX0_add_22 rfl rfl ?_
  refine Ev.dup dX0_add_23 rfl ?_
  refine Ev.get (v := vI ((sk_ S 100 0 (upd (S.1 100 0) ((S.1 0 0 1).toNatClampNeg) x1)).1 0 0 1)) okX0 (by decide) fl_X0_15 pz_0_0 (ff_0_1 _ _) dX0_add_24 ?_
  refine Ev.iconst (v := 1) dX0_add_27 (by decide) ?_
  refine Ev.iadd dX0_add_28 ?_
  refine Ev.put okX0 (by decide) fl_X0_15 pz_0_0 (by decide) rfl rfl rfl rfl dX0_add_29 ?_
  exact kn
theorem bkX0_add_32 {d : Nat} {S : hs_T} {Q : Option av_T → hs_T → Prop} {x1 : Int32} (hq : Q none S) : Ev d mX0_add 32 [some (vR 0 0), some (vI x1)] [] S Q := by
  exact Ev.vret dX0_add_32 rfl hq
/-! EightWires$Bytes.value(I)I -/
theorem bkX0_value_0 {d : Nat} {S : hs_T} {Q : Option av_T → hs_T → Prop} {x1 : Int32} (kt : x1 < 0 → Ev d mX0_value 21 [some (vR 0 0), some (vI x1)] [] S Q) (kf : ¬ x1 < 0 → Ev d mX0_value 4 [some (vR 0 0), some (vI x1)] [] S Q) : Ev d mX0_value 0 [some (vR 0 0), some (vI x1)] [] S Q := by
  refine Ev.iload_n dX0_value_0 rfl rfl ?_
  exact Ev.if_lt (tgt := 21) dX0_value_1 (by decide) kt kf
theorem bkX0_value_4 {d : Nat} {S : hs_T} {Q : Option av_T → hs_T → Prop} {x1 : Int32} (kt : (S.1 0 0 1) ≤ x1 → Ev d mX0_value 21 [some (vR 0 0), some (vI x1)] [] S Q) (kf : ¬ (S.1 0 0 1) ≤ x1 → Ev d mX0_value 12 [some (vR 0 0), some (vI x1)] [] S Q) : Ev d mX0_value 4 [some (vR 0 0), some (vI x1)] [] S Q := by
  refine Ev.iload_n dX0_value_4 rfl rfl ?_
  refine Ev.aload_n dX0_value_5 rfl rfl ?_
  refine Ev.get (v := vI (S.1 0 0 1)) okX0 (by decide) fl_X0_15 pz_0_0 (ff_0_1 _ _) dX0_value_6 ?_
  exact Ev.icmp_ge (tgt := 21) dX0_value_9 (by decide) kt kf
theorem bkX0_value_12 {d : Nat} {S : hs_T} {Q : Option av_T → hs_T → Prop} {x1 : Int32} (hi17 : vp_in x1 25) (kn : Ev d mX0_value 22 [some (vR 0 0), some (vI x1)] [vI (S.1 100 0 x1.toNatClampNeg)] S Q) : Ev d mX0_value 12 [some (vR 0 0), some (vI x1)] [] S Q := by
  refine Ev.aload_n dX0_value_12 rfl rfl ?_
  refine Ev.get (v := vR 100 0) okX0 (by decide) fl_X0_9 pz_0_0 (ff_0_0 _ _) dX0_value_13 ?_
  refine Ev.iload_n dX0_value_16 rfl rfl ?_
  refine Ev.ialoadA (a := x1.toNatClampNeg) pz_100_0 (by decide) ak_100 hi17 rfl dX0_value_17 ?_
  refine Ev.goto (tgt := 22) dX0_value_18 (by decide) ?_
  exact kn
theorem bkX0_value_21 {d : Nat} {S : hs_T} {Q : Option av_T → hs_T → Prop} {x1 : Int32} (kn : Ev d mX0_value 22 [some (vR 0 0), some (vI x1)] [vI (-1)] S Q) : Ev d mX0_value 21 [some (vR 0 0), some (vI x1)] [] S Q := by
  refine Ev.iconst (v := (-1)) dX0_value_21 (by decide) ?_
  exact kn
theorem bkX0_value_22 {d : Nat} {S : hs_T} {Q : Option av_T → hs_T → Prop} {x1 y0 : Int32} (hq : Q (some (vI y0)) S) : Ev d mX0_value 22 [some (vR 0 0), some (vI x1)] [vI y0] S Q := by
  exact Ev.iret dX0_value_22 rfl rfl hq
/-! EightWires$Bytes.gather(LEightWires$Trace;III)V -/
theorem bkX0_gather_0 {d : Nat} {S : hs_T} {Q : Option av_T → hs_T → Prop} {P : hs_T → Prop} {x2 x3 x4 : Int32} {j1 : Nat} {o5 o6 : Option av_T} (hC : Cv d mX0_clear [vR 0 0] S P) (kk : ∀ S', P S' → Ev (d + 1) mX0_gather 4 [some (vR 0 0), some (vR 8 j1), some (vI x2), some (vI x3), some (vI x4), o5, o6] [] S' Q) : Ev (d + 1) mX0_gather 0 [some (vR 0 0), some (vR 8 j1), some (vI x2), some (vI x3), some (vI x4), o5, o6] [] S Q := by
  refine Ev.aload_n dX0_gather_0 rfl rfl ?_
  exact Ev.callV (as := []) (rest := []) okX0_clear in_X0_clear ml_X0_31 rfl (Nat.le_of_ble_eq_true rfl) pz_0_0 (by decide) rfl rfl dX0_gather_1 hC (fun r S' h => by obtain ⟨rfl, h⟩ := h; exact kk S' h)
theorem bkX0_gather_4 {d : Nat} {S : hs_T} {Q : Option av_T → hs_T → Prop} {x2 x3 x4 : Int32} {j1 : Nat} {o5 o6 : Option av_T} (kn : Ev d mX0_gather 10 [some (vR 0 0), some (vR 8 j1), some (vI x2), some (vI x3), some (vI x4), some (vI 0), some (vI 0)] [] S Q) : Ev d mX0_gather 4 [some (vR 0 0), some (vR 8 j1), some (vI x2), some (vI x3), some (vI x4), o5, o6] [] S Q := by
  refine Ev.iconst (v := 0) dX0_gather_4 (by decide) ?_
  refine Ev.istore (ls' := [some (vR 0 0), some (vR 8 j1), some (vI x2), some (vI x3), some (vI x4), some (vI 0), o6]) dX0_gather_5 (by decide) rfl ?_
  refine Ev.iconst (v := 0) dX0_gather_7 (by decide) ?_
  refine Ev.istore (ls' := [some (vR 0 0), some (vR 8 j1), some (vI x2), some (vI x3), some (vI x4), some (vI 0), some (vI 0)]) dX0_gather_8 (by decide) rfl ?_
  exact kn
theorem bkX0_gather_10 {d : Nat} {S : hs_T} {Q : Option av_T → hs_T → Prop} {x2 x3 x4 x5 x6 : Int32} {j1 : Nat} (hjj1 : j1 < 4) (kt : (S.1 8 j1 1) ≤ x6 → Ev d mX0_gather 133 [some (vR 0 0), some (vR 8 j1), some (vI x2), some (vI x3), some (vI x4), some (vI x5), some (vI x6)] [] S Q) (kf : ¬ (S.1 8 j1 1) ≤ x6 → Ev d mX0_gather 19 [some (vR 0 0), some (vR 8 j1), some (vI x2), some (vI x3), some (vI x4), some (vI x5), some (vI x6)] [] S Q) : Ev d mX0_gather 10 [some (vR 0 0), some (vR 8 j1), some (vI x2), some (vI x3), some (vI x4), some (vI x5), some (vI x6)] [] S Q := by
  refine Ev.iload dX0_gather_10 rfl ?_
  refine Ev.aload_n dX0_gather_12 rfl rfl ?_
  refine Ev.get (v := vI (S.1 8 j1 1)) okX8 (by decide) fl_X0_34 (pl8 hjj1) (ff_8_1 _ _) dX0_gather_13 ?_
  exact Ev.icmp_ge (tgt := 133) dX0_gather_16 (by decide) kt kf
theorem bkX0_gather_19 {d : Nat} {S : hs_T} {Q : Option av_T → hs_T → Prop} {P : Int32 → hs_T → Prop} {x2 x3 x4 x5 x6 : Int32} {j1 : Nat} (hjj1 : j1 < 4) (hC : Ci d mX8_high [vR 8 j1, vI x4, vI x6] S P) (kk : ∀ v S', P v S' → Ev (d + 1) mX0_gather 27 [some (vR 0 0), some (vR 8 j1), some (vI x2), some (vI x3), some (vI x4), some (vI x5), some (vI x6)] [vI v] S' Q) : Ev (d + 1) mX0_gather 19 [some (vR 0 0), some (vR 8 j1), some (vI x2), some (vI x3), some (vI x4), some (vI x5), some (vI x6)] [] S Q := by
  refine Ev.aload_n dX0_gather_19 rfl rfl ?_
  refine Ev.iload dX0_gather_20 rfl ?_
  refine Ev.iload dX0_gather_22 rfl ?_
  exact Ev.callV (as := [vI x4, vI x6]) (rest := []) okX8_high in_X8_high ml_X0_37 rfl (Nat.le_of_ble_eq_true rfl) (pl8 hjj1) (by decide) rfl rfl dX0_gather_24 hC (fun r S' h => by obtain ⟨v, rfl, h⟩ := h; exact kk v S' h)
theorem bkX0_gather_27 {d : Nat} {S : hs_T} {Q : Option av_T → hs_T → Prop} {x2 x3 x4 x5 x6 y0 : Int32} {j1 : Nat} (kt : y0 = 0 → Ev d mX0_gather 51 [some (vR 0 0), some (vR 8 j1), some (vI x2), some (vI x3), some (vI x4), some (vI x5), some (vI x6)] [] S Q) (kf : ¬ y0 = 0 → Ev d mX0_gather 30 [some (vR 0 0), some (vR 8 j1), some (vI x2), some (vI x3), some (vI x4), some (vI x5), some (vI x6)] [] S Q) : Ev d mX0_gather 27 [some (vR 0 0), some (vR 8 j1), some (vI x2), some (vI x3), some (vI x4), some (vI x5), some (vI x6)] [vI y0] S Q := by
  exact Ev.if_eq (tgt := 51) dX0_gather_27 (by decide) kt kf
theorem bkX0_gather_30 {d : Nat} {S : hs_T} {Q : Option av_T → hs_T → Prop} {x2 x3 x4 x5 x6 : Int32} {j1 : Nat} (kn : Ev d mX0_gather 97 [some (vR 0 0), some (vR 8 j1), some (vI x2), some (vI x3), some (vI x4), some (vI x5), some (vI x6)] [] (sk_ (sk_ S 0 0 (upd (S.1 0 0) 4 ((S.1 0 0 4) + (S.1 0 0 5)))) 0 0 (upd ((sk_ S 0 0 (upd (S.1 0 0) 4 ((S.1 0 0 4) + (S.1 0 0 5)))).1 0 0) 5 0)) Q) : Ev d mX0_gather 30 [some (vR 0 0), some (vR 8 j1), some (vI x2), some (vI x3), some (vI x4), some (vI x5), some (vI x6)] [] S Q := by
  refine Ev.aload_n dX0_gather_30 rfl rfl ?_
  refine Ev.dup dX0_gather_31 rfl ?_
  refine Ev.get (v := vI (S.1 0 0 4)) okX0 (by decide) fl_X0_25 pz_0_0 (ff_0_4 _ _) dX0_gather_32 ?_
  refine Ev.aload_n dX0_gather_35 rfl rfl ?_
  refine Ev.get (v := vI (S.1 0 0 5)) okX0 (by decide) fl_X0_28 pz_0_0 (ff_0_5 _ _) dX0_gather_36 ?_
  refine Ev.iadd dX0_gather_39 ?_
  refine Ev.put okX0 (by decide) fl_X0_25 pz_0_0 (by decide) rfl rfl rfl rfl dX0_gather_40 ?_
  refine Ev.aload_n dX0_gather_43 rfl rfl ?_
  refine Ev.iconst (v := 0) dX0_gather_44 (by decide) ?_
  refine Ev.put okX0 (by decide) fl_X0_28 pz_0_0 (by decide) rfl rfl rfl rfl dX0_gather_45 ?_
  refine Ev.goto (tgt := 97) dX0_gather_48 (by decide) ?_
  exact kn
theorem bkX0_gather_51 {d : Nat} {S : hs_T} {Q : Option av_T → hs_T → Prop} {P : Int32 → hs_T → Prop} {x2 x3 x4 x5 x6 : Int32} {j1 : Nat} (hjj1 : j1 < 4) (hC : Ci d mX8_rises [vR 8 j1, vI x2, vI x6] S P) (kk : ∀ v S', P v S' → Ev (d + 1) mX0_gather 58 [some (vR 0 0), some (vR 8 j1), some (vI x2), some (vI x3), some (vI x4), some (vI x5), some (vI x6)] [vI v] S' Q) : Ev (d + 1) mX0_gather 51 [some (vR 0 0), some (vR 8 j1), some (vI x2), some (vI x3), some (vI x4), some (vI x5), some (vI x6)] [] S Q := by
  refine Ev.aload_n dX0_gather_51 rfl rfl ?_
  refine Ev.iload_n dX0_gather_52 rfl rfl ?_
  refine Ev.iload dX0_gather_53 rfl ?_
  exact Ev.callV (as := [vI x2, vI x6]) (rest := []) okX8_rises in_X8_rises ml_X0_41 rfl (Nat.le_of_ble_eq_true rfl) (pl8 hjj1) (by decide) rfl rfl dX0_gather_55 hC (fun r S' h => by obtain ⟨v, rfl, h⟩ := h; exact kk v S' h)
theorem bkX0_gather_58 {d : Nat} {S : hs_T} {Q : Option av_T → hs_T → Prop} {x2 x3 x4 x5 x6 y0 : Int32} {j1 : Nat} (kt : y0 = 0 → Ev d mX0_gather 97 [some (vR 0 0), some (vR 8 j1), some (vI x2), some (vI x3), some (vI x4), some (vI x5), some (vI x6)] [] S Q) (kf : ¬ y0 = 0 → Ev d mX0_gather 61 [some (vR 0 0), some (vR 8 j1), some (vI x2), some (vI x3), some (vI x4), some (vI x5), some (vI x6)] [] S Q) : Ev d mX0_gather 58 [some (vR 0 0), some (vR 8 j1), some (vI x2), some (vI x3), some (vI x4), some (vI x5), some (vI x6)] [vI y0] S Q := by
  exact Ev.if_eq (tgt := 97) dX0_gather_58 (by decide) kt kf
theorem bkX0_gather_61 {d : Nat} {S : hs_T} {Q : Option av_T → hs_T → Prop} {P : Int32 → hs_T → Prop} {x2 x3 x4 x5 x6 : Int32} {j1 : Nat} (hjj1 : j1 < 4) (hC : Ci d mX8_high [vR 8 j1, vI x3, vI x6] S P) (kk : ∀ v S', P v S' → Ev (d + 1) mX0_gather 76 [some (vR 0 0), some (vR 8 j1), some (vI x2), some (vI x3), some (vI x4), some (vI x5), some (vI x6)] [vI v, vI ((x5 <<< (1 &&& 31)) &&& 255)] S' Q) : Ev (d + 1) mX0_gather 61 [some (vR 0 0), some (vR 8 j1), some (vI x2), some (vI x3), some (vI x4), some (vI x5), some (vI x6)] [] S Q := by
  refine Ev.iload dX0_gather_61 rfl ?_
  refine Ev.iconst (v := 1) dX0_gather_63 (by decide) ?_
  refine Ev.ishl dX0_gather_64 ?_
  refine Ev.sipush (v := 255) dX0_gather_65 (by decide) ?_
  refine Ev.iand dX0_gather_68 ?_
  refine Ev.aload_n dX0_gather_69 rfl rfl ?_
  refine Ev.iload_n dX0_gather_70 rfl rfl ?_
  refine Ev.iload dX0_gather_71 rfl ?_
  exact Ev.callV (as := [vI x3, vI x6]) (rest := [vI ((x5 <<< (1 &&& 31)) &&& 255)]) okX8_high in_X8_high ml_X0_37 rfl (Nat.le_of_ble_eq_true rfl) (pl8 hjj1) (by decide) rfl rfl dX0_gather_73 hC (fun r S' h => by obtain ⟨v, rfl, h⟩ := h; exact kk v S' h)
theorem bkX0_gather_76 {d : Nat} {S : hs_T} {Q : Option av_T → hs_T → Prop} {x2 x3 x4 x5 x6 y0 y1 : Int32} {j1 : Nat} (kt : y0 = 0 → Ev d mX0_gather 83 [some (vR 0 0), some (vR 8 j1), some (vI x2), some (vI x3), some (vI x4), some (vI x5), some (vI x6)] [vI y1] S Q) (kf : ¬ y0 = 0 → Ev d mX0_gather 79 [some (vR 0 0), some (vR 8 j1), some (vI x2), some (vI x3), some (vI x4), some (vI x5), some (vI x6)] [vI y1] S Q) : Ev d mX0_gather 76 [some (vR 0 0), some (vR 8 j1), some (vI x2), some (vI x3), some (vI x4), some (vI x5), some (vI x6)] [vI y0, vI y1] S Q := by
  exact Ev.if_eq (tgt := 83) dX0_gather_76 (by decide) kt kf
theorem bkX0_gather_79 {d : Nat} {S : hs_T} {Q : Option av_T → hs_T → Prop} {x2 x3 x4 x5 x6 y0 : Int32} {j1 : Nat} (kn : Ev d mX0_gather 84 [some (vR 0 0), some (vR 8 j1), some (vI x2), some (vI x3), some (vI x4), some (vI x5), some (vI x6)] [vI 1, vI y0] S Q) : Ev d mX0_gather 79 [some (vR 0 0), some (vR 8 j1), some (vI x2), some (vI x3), some (vI x4), some (vI x5), some (vI x6)] [vI y0] S Q := by
  refine Ev.iconst (v := 1) dX0_gather_79 (by decide) ?_
  refine Ev.goto (tgt := 84) dX0_gather_80 (by decide) ?_
  exact kn
theorem bkX0_gather_83 {d : Nat} {S : hs_T} {Q : Option av_T → hs_T → Prop} {x2 x3 x4 x5 x6 y0 : Int32} {j1 : Nat} (kn : Ev d mX0_gather 84 [some (vR 0 0), some (vR 8 j1), some (vI x2), some (vI x3), some (vI x4), some (vI x5), some (vI x6)] [vI 0, vI y0] S Q) : Ev d mX0_gather 83 [some (vR 0 0), some (vR 8 j1), some (vI x2), some (vI x3), some (vI x4), some (vI x5), some (vI x6)] [vI y0] S Q := by
  refine Ev.iconst (v := 0) dX0_gather_83 (by decide) ?_
  exact kn
theorem bkX0_gather_84 {d : Nat} {S : hs_T} {Q : Option av_T → hs_T → Prop} {x2 x3 x4 x5 x6 y0 y1 : Int32} {j1 : Nat} (kn : Ev d mX0_gather 97 [some (vR 0 0), some (vR 8 j1), some (vI x2), some (vI x3), some (vI x4), some (vI (y1 ||| y0)), some (vI x6)] [] (sk_ S 0 0 (upd (S.1 0 0) 5 ((S.1 0 0 5) + 1))) Q) : Ev d mX0_gather 84 [some (vR 0 0), some (vR 8 j1), some (vI x2), some (vI x3), some (vI x4), some (vI x5), some (vI x6)] [vI y0, vI y1] S Q := by
  refine Ev.ior dX0_gather_84 ?_
  refine Ev.istore (ls' := [some (vR 0 0), some (vR 8 j1), some (vI x2), some (vI x3), some (vI x4), some (vI (y1 ||| y0)), some (vI x6)]) dX0_gather_85 (by decide) rfl ?_
  refine Ev.aload_n dX0_gather_87 rfl rfl ?_
  refine Ev.dup dX0_gather_88 rfl ?_
  refine Ev.get (v := vI (S.1 0 0 5)) okX0 (by decide) fl_X0_28 pz_0_0 (ff_0_5 _ _) dX0_gather_89 ?_
  refine Ev.iconst (v := 1) dX0_gather_92 (by decide) ?_
  refine Ev.iadd dX0_gather_93 ?_
  refine Ev.put okX0 (by decide) fl_X0_28 pz_0_0 (by decide) rfl rfl rfl rfl dX0_gather_94 ?_
  exact kn
theorem bkX0_gather_97 {d : Nat} {S : hs_T} {Q : Option av_T → hs_T → Prop} {x2 x3 x4 x5 x6 : Int32} {j1 : Nat} (kt : ¬ (S.1 0 0 5) = 8 → Ev d mX0_gather 127 [some (vR 0 0), some (vR 8 j1), some (vI x2), some (vI x3), some (vI x4), some (vI x5), some (vI x6)] [] S Q) (kf : (S.1 0 0 5) = 8 → Ev d mX0_gather 106 [some (vR 0 0), some (vR 8 j1), some (vI x2), some (vI x3), some (vI x4), some (vI x5), some (vI x6)] [] S Q) : Ev d mX0_gather 97 [some (vR 0 0), some (vR 8 j1), some (vI x2), some (vI x3), some (vI x4), some (vI x5), some (vI x6)] [] S Q := by
  refine Ev.aload_n dX0_gather_97 rfl rfl ?_
  refine Ev.get (v := vI (S.1 0 0 5)) okX0 (by decide) fl_X0_28 pz_0_0 (ff_0_5 _ _) dX0_gather_98 ?_
  refine Ev.bipush (v := 8) dX0_gather_101 (by decide) ?_
  exact Ev.icmp_ne (tgt := 127) dX0_gather_103 (by decide) kt kf
theorem bkX0_gather_106 {d : Nat} {S : hs_T} {Q : Option av_T → hs_T → Prop} {P : hs_T → Prop} {x2 x3 x4 x5 x6 : Int32} {j1 : Nat} (hC : Cv d mX0_add [vR 0 0, vI x5] S P) (kk : ∀ S', P S' → Ev (d + 1) mX0_gather 112 [some (vR 0 0), some (vR 8 j1), some (vI x2), some (vI x3), some (vI x4), some (vI x5), some (vI x6)] [] S' Q) : Ev (d + 1) mX0_gather 106 [some (vR 0 0), some (vR 8 j1), some (vI x2), some (vI x3), some (vI x4), some (vI x5), some (vI x6)] [] S Q := by
  refine Ev.aload_n dX0_gather_106 rfl rfl ?_
  refine Ev.iload dX0_gather_107 rfl ?_
  exact Ev.callV (as := [vI x5]) (rest := []) okX0_add in_X0_add ml_X0_44 rfl (Nat.le_of_ble_eq_true rfl) pz_0_0 (by decide) rfl rfl dX0_gather_109 hC (fun r S' h => by obtain ⟨rfl, h⟩ := h; exact kk S' h)
theorem bkX0_gather_112 {d : Nat} {S : hs_T} {Q : Option av_T → hs_T → Prop} {x2 x3 x4 x5 x6 : Int32} {j1 : Nat} (kn : Ev d mX0_gather 127 [some (vR 0 0), some (vR 8 j1), some (vI x2), some (vI x3), some (vI x4), some (vI x5), some (vI x6)] [] (sk_ (sk_ S 0 0 (upd (S.1 0 0) 2 ((S.1 0 0 2) + 1))) 0 0 (upd ((sk_ S 0 0 (upd (S.1 0 0) 2 ((S.1 0 0 2) + 1))).1 0 0) 5 0)) Q) : Ev d mX0_gather 112 [some (vR 0 0), some (vR 8 j1), some (vI x2), some (vI x3), some (vI x4), some (vI x5), some (vI x6)] [] S Q := by
  refine Ev.aload_n dX0_gather_112 rfl rfl ?_
  refine Ev.dup dX0_gather_113 rfl ?_
  refine Ev.get (v := vI (S.1 0 0 2)) okX0 (by decide) fl_X0_19 pz_0_0 (ff_0_2 _ _) dX0_gather_114 ?_
  refine Ev.iconst (v := 1) dX0_gather_117 (by decide) ?_
  refine Ev.iadd dX0_gather_118 ?_
  refine Ev.put okX0 (by decide) fl_X0_19 pz_0_0 (by decide) rfl rfl rfl rfl dX0_gather_119 ?_
  refine Ev.aload_n dX0_gather_122 rfl rfl ?_
  refine Ev.iconst (v := 0) dX0_gather_123 (by decide) ?_
  refine Ev.put okX0 (by decide) fl_X0_28 pz_0_0 (by decide) rfl rfl rfl rfl dX0_gather_124 ?_
  exact kn
theorem bkX0_gather_127 {d : Nat} {S : hs_T} {Q : Option av_T → hs_T → Prop} {x2 x3 x4 x5 x6 : Int32} {j1 : Nat} (kn : Ev d mX0_gather 10 [some (vR 0 0), some (vR 8 j1), some (vI x2), some (vI x3), some (vI x4), some (vI x5), some (vI (x6 + 1))] [] S Q) : Ev d mX0_gather 127 [some (vR 0 0), some (vR 8 j1), some (vI x2), some (vI x3), some (vI x4), some (vI x5), some (vI x6)] [] S Q := by
  refine Ev.iinc (v := (x6 + 1)) (ls' := [some (vR 0 0), some (vR 8 j1), some (vI x2), some (vI x3), some (vI x4), some (vI x5), some (vI (x6 + 1))]) dX0_gather_127 rfl rfl (by decide) rfl ?_
  refine Ev.goto (tgt := 10) dX0_gather_130 (by decide) ?_
  exact kn
theorem bkX0_gather_133 {d : Nat} {S : hs_T} {Q : Option av_T → hs_T → Prop} {x2 x3 x4 x5 x6 : Int32} {j1 : Nat} (hq : Q none S) : Ev d mX0_gather 133 [some (vR 0 0), some (vR 8 j1), some (vI x2), some (vI x3), some (vI x4), some (vI x5), some (vI x6)] [] S Q := by
  exact Ev.vret dX0_gather_133 rfl hq
/-! EightWires$Bytes.listen(LEightWires$Trace;II)V -/
theorem bkX0_listen_0 {d : Nat} {S : hs_T} {Q : Option av_T → hs_T → Prop} {P : hs_T → Prop} {x2 x3 : Int32} {j1 : Nat} {o4 o5 : Option av_T} (hC : Cv d mX0_clear [vR 0 0] S P) (kk : ∀ S', P S' → Ev (d + 1) mX0_listen 4 [some (vR 0 0), some (vR 8 j1), some (vI x2), some (vI x3), o4, o5] [] S' Q) : Ev (d + 1) mX0_listen 0 [some (vR 0 0), some (vR 8 j1), some (vI x2), some (vI x3), o4, o5] [] S Q := by
  refine Ev.aload_n dX0_listen_0 rfl rfl ?_
  exact Ev.callV (as := []) (rest := []) okX0_clear in_X0_clear ml_X0_31 rfl (Nat.le_of_ble_eq_true rfl) pz_0_0 (by decide) rfl rfl dX0_listen_1 hC (fun r S' h => by obtain ⟨rfl, h⟩ := h; exact kk S' h)
theorem bkX0_listen_4 {d : Nat} {S : hs_T} {Q : Option av_T → hs_T → Prop} {x2 x3 : Int32} {j1 : Nat} {o4 o5 : Option av_T} (kn : Ev d mX0_listen 17 [some (vR 0 0), some (vR 8 j1), some (vI x2), some (vI x3), some (vI ((9 * x3) + (x3 / 2))), some (vI 0)] [] S Q) : Ev d mX0_listen 4 [some (vR 0 0), some (vR 8 j1), some (vI x2), some (vI x3), o4, o5] [] S Q := by
  refine Ev.bipush (v := 9) dX0_listen_4 (by decide) ?_
  refine Ev.iload_n dX0_listen_6 rfl rfl ?_
  refine Ev.imul dX0_listen_7 ?_
  refine Ev.iload_n dX0_listen_8 rfl rfl ?_
  refine Ev.iconst (v := 2) dX0_listen_9 (by decide) ?_
  refine Ev.idiv dX0_listen_10 (by decide) ?_
  refine Ev.iadd dX0_listen_11 ?_
  refine Ev.istore (ls' := [some (vR 0 0), some (vR 8 j1), some (vI x2), some (vI x3), some (vI ((9 * x3) + (x3 / 2))), o5]) dX0_listen_12 (by decide) rfl ?_
  refine Ev.iconst (v := 0) dX0_listen_14 (by decide) ?_
  refine Ev.istore (ls' := [some (vR 0 0), some (vR 8 j1), some (vI x2), some (vI x3), some (vI ((9 * x3) + (x3 / 2))), some (vI 0)]) dX0_listen_15 (by decide) rfl ?_
  exact kn
theorem bkX0_listen_17 {d : Nat} {S : hs_T} {Q : Option av_T → hs_T → Prop} {x2 x3 x4 x5 : Int32} {j1 : Nat} (hjj1 : j1 < 4) (kt : (S.1 8 j1 1) ≤ (x5 + x4) → Ev d mX0_listen 81 [some (vR 0 0), some (vR 8 j1), some (vI x2), some (vI x3), some (vI x4), some (vI x5)] [] S Q) (kf : ¬ (S.1 8 j1 1) ≤ (x5 + x4) → Ev d mX0_listen 29 [some (vR 0 0), some (vR 8 j1), some (vI x2), some (vI x3), some (vI x4), some (vI x5)] [] S Q) : Ev d mX0_listen 17 [some (vR 0 0), some (vR 8 j1), some (vI x2), some (vI x3), some (vI x4), some (vI x5)] [] S Q := by
  refine Ev.iload dX0_listen_17 rfl ?_
  refine Ev.iload dX0_listen_19 rfl ?_
  refine Ev.iadd dX0_listen_21 ?_
  refine Ev.aload_n dX0_listen_22 rfl rfl ?_
  refine Ev.get (v := vI (S.1 8 j1 1)) okX8 (by decide) fl_X0_34 (pl8 hjj1) (ff_8_1 _ _) dX0_listen_23 ?_
  exact Ev.icmp_ge (tgt := 81) dX0_listen_26 (by decide) kt kf
theorem bkX0_listen_29 {d : Nat} {S : hs_T} {Q : Option av_T → hs_T → Prop} {x2 x3 x4 x5 : Int32} {j1 : Nat} (kt : ¬ x5 = 0 → Ev d mX0_listen 46 [some (vR 0 0), some (vR 8 j1), some (vI x2), some (vI x3), some (vI x4), some (vI x5)] [] S Q) (kf : x5 = 0 → Ev d mX0_listen 34 [some (vR 0 0), some (vR 8 j1), some (vI x2), some (vI x3), some (vI x4), some (vI x5)] [] S Q) : Ev d mX0_listen 29 [some (vR 0 0), some (vR 8 j1), some (vI x2), some (vI x3), some (vI x4), some (vI x5)] [] S Q := by
  refine Ev.iload dX0_listen_29 rfl ?_
  exact Ev.if_ne (tgt := 46) dX0_listen_31 (by decide) kt kf
theorem bkX0_listen_34 {d : Nat} {S : hs_T} {Q : Option av_T → hs_T → Prop} {P : Int32 → hs_T → Prop} {x2 x3 x4 x5 : Int32} {j1 : Nat} (hjj1 : j1 < 4) (hC : Ci d mX8_high [vR 8 j1, vI x2, vI 0] S P) (kk : ∀ v S', P v S' → Ev (d + 1) mX0_listen 40 [some (vR 0 0), some (vR 8 j1), some (vI x2), some (vI x3), some (vI x4), some (vI x5)] [vI v] S' Q) : Ev (d + 1) mX0_listen 34 [some (vR 0 0), some (vR 8 j1), some (vI x2), some (vI x3), some (vI x4), some (vI x5)] [] S Q := by
  refine Ev.aload_n dX0_listen_34 rfl rfl ?_
  refine Ev.iload_n dX0_listen_35 rfl rfl ?_
  refine Ev.iconst (v := 0) dX0_listen_36 (by decide) ?_
  exact Ev.callV (as := [vI x2, vI 0]) (rest := []) okX8_high in_X8_high ml_X0_37 rfl (Nat.le_of_ble_eq_true rfl) (pl8 hjj1) (by decide) rfl rfl dX0_listen_37 hC (fun r S' h => by obtain ⟨v, rfl, h⟩ := h; exact kk v S' h)
theorem bkX0_listen_40 {d : Nat} {S : hs_T} {Q : Option av_T → hs_T → Prop} {x2 x3 x4 x5 y0 : Int32} {j1 : Nat} (kt : y0 = 0 → Ev d mX0_listen 59 [some (vR 0 0), some (vR 8 j1), some (vI x2), some (vI x3), some (vI x4), some (vI x5)] [] S Q) (kf : ¬ y0 = 0 → Ev d mX0_listen 43 [some (vR 0 0), some (vR 8 j1), some (vI x2), some (vI x3), some (vI x4), some (vI x5)] [] S Q) : Ev d mX0_listen 40 [some (vR 0 0), some (vR 8 j1), some (vI x2), some (vI x3), some (vI x4), some (vI x5)] [vI y0] S Q := by
  exact Ev.if_eq (tgt := 59) dX0_listen_40 (by decide) kt kf
theorem bkX0_listen_43 {d : Nat} {S : hs_T} {Q : Option av_T → hs_T → Prop} {x2 x3 x4 x5 : Int32} {j1 : Nat} (kn : Ev d mX0_listen 75 [some (vR 0 0), some (vR 8 j1), some (vI x2), some (vI x3), some (vI x4), some (vI x5)] [] S Q) : Ev d mX0_listen 43 [some (vR 0 0), some (vR 8 j1), some (vI x2), some (vI x3), some (vI x4), some (vI x5)] [] S Q := by
  refine Ev.goto (tgt := 75) dX0_listen_43 (by decide) ?_
  exact kn
theorem bkX0_listen_46 {d : Nat} {S : hs_T} {Q : Option av_T → hs_T → Prop} {P : Int32 → hs_T → Prop} {x2 x3 x4 x5 : Int32} {j1 : Nat} (hjj1 : j1 < 4) (hC : Ci d mX8_falls [vR 8 j1, vI x2, vI x5] S P) (kk : ∀ v S', P v S' → Ev (d + 1) mX0_listen 53 [some (vR 0 0), some (vR 8 j1), some (vI x2), some (vI x3), some (vI x4), some (vI x5)] [vI v] S' Q) : Ev (d + 1) mX0_listen 46 [some (vR 0 0), some (vR 8 j1), some (vI x2), some (vI x3), some (vI x4), some (vI x5)] [] S Q := by
  refine Ev.aload_n dX0_listen_46 rfl rfl ?_
  refine Ev.iload_n dX0_listen_47 rfl rfl ?_
  refine Ev.iload dX0_listen_48 rfl ?_
  exact Ev.callV (as := [vI x2, vI x5]) (rest := []) okX8_falls in_X8_falls ml_X0_48 rfl (Nat.le_of_ble_eq_true rfl) (pl8 hjj1) (by decide) rfl rfl dX0_listen_50 hC (fun r S' h => by obtain ⟨v, rfl, h⟩ := h; exact kk v S' h)
theorem bkX0_listen_53 {d : Nat} {S : hs_T} {Q : Option av_T → hs_T → Prop} {x2 x3 x4 x5 y0 : Int32} {j1 : Nat} (kt : ¬ y0 = 0 → Ev d mX0_listen 59 [some (vR 0 0), some (vR 8 j1), some (vI x2), some (vI x3), some (vI x4), some (vI x5)] [] S Q) (kf : y0 = 0 → Ev d mX0_listen 56 [some (vR 0 0), some (vR 8 j1), some (vI x2), some (vI x3), some (vI x4), some (vI x5)] [] S Q) : Ev d mX0_listen 53 [some (vR 0 0), some (vR 8 j1), some (vI x2), some (vI x3), some (vI x4), some (vI x5)] [vI y0] S Q := by
  exact Ev.if_ne (tgt := 59) dX0_listen_53 (by decide) kt kf
theorem bkX0_listen_56 {d : Nat} {S : hs_T} {Q : Option av_T → hs_T → Prop} {x2 x3 x4 x5 : Int32} {j1 : Nat} (kn : Ev d mX0_listen 75 [some (vR 0 0), some (vR 8 j1), some (vI x2), some (vI x3), some (vI x4), some (vI x5)] [] S Q) : Ev d mX0_listen 56 [some (vR 0 0), some (vR 8 j1), some (vI x2), some (vI x3), some (vI x4), some (vI x5)] [] S Q := by
  refine Ev.goto (tgt := 75) dX0_listen_56 (by decide) ?_
  exact kn
theorem bkX0_listen_59 {d : Nat} {S : hs_T} {Q : Option av_T → hs_T → Prop} {P : hs_T → Prop} {x2 x3 x4 x5 : Int32} {j1 : Nat} (hC : Cv d mX0_takeFrame [vR 0 0, vR 8 j1, vI x2, vI x3, vI x5] S P) (kk : ∀ S', P S' → Ev (d + 1) mX0_listen 68 [some (vR 0 0), some (vR 8 j1), some (vI x2), some (vI x3), some (vI x4), some (vI x5)] [] S' Q) : Ev (d + 1) mX0_listen 59 [some (vR 0 0), some (vR 8 j1), some (vI x2), some (vI x3), some (vI x4), some (vI x5)] [] S Q := by
  refine Ev.aload_n dX0_listen_59 rfl rfl ?_
  refine Ev.aload_n dX0_listen_60 rfl rfl ?_
  refine Ev.iload_n dX0_listen_61 rfl rfl ?_
  refine Ev.iload_n dX0_listen_62 rfl rfl ?_
  refine Ev.iload dX0_listen_63 rfl ?_
  exact Ev.callV (as := [vR 8 j1, vI x2, vI x3, vI x5]) (rest := []) okX0_takeFrame in_X0_takeFrame ml_X0_51 rfl (Nat.le_of_ble_eq_true rfl) pz_0_0 (by decide) rfl rfl dX0_listen_65 hC (fun r S' h => by obtain ⟨rfl, h⟩ := h; exact kk S' h)
theorem bkX0_listen_68 {d : Nat} {S : hs_T} {Q : Option av_T → hs_T → Prop} {x2 x3 x4 x5 : Int32} {j1 : Nat} (kn : Ev d mX0_listen 75 [some (vR 0 0), some (vR 8 j1), some (vI x2), some (vI x3), some (vI x4), some (vI (x5 + x4))] [] S Q) : Ev d mX0_listen 68 [some (vR 0 0), some (vR 8 j1), some (vI x2), some (vI x3), some (vI x4), some (vI x5)] [] S Q := by
  refine Ev.iload dX0_listen_68 rfl ?_
  refine Ev.iload dX0_listen_70 rfl ?_
  refine Ev.iadd dX0_listen_72 ?_
  refine Ev.istore (ls' := [some (vR 0 0), some (vR 8 j1), some (vI x2), some (vI x3), some (vI x4), some (vI (x5 + x4))]) dX0_listen_73 (by decide) rfl ?_
  exact kn
theorem bkX0_listen_75 {d : Nat} {S : hs_T} {Q : Option av_T → hs_T → Prop} {x2 x3 x4 x5 : Int32} {j1 : Nat} (kn : Ev d mX0_listen 17 [some (vR 0 0), some (vR 8 j1), some (vI x2), some (vI x3), some (vI x4), some (vI (x5 + 1))] [] S Q) : Ev d mX0_listen 75 [some (vR 0 0), some (vR 8 j1), some (vI x2), some (vI x3), some (vI x4), some (vI x5)] [] S Q := by
  refine Ev.iinc (v := (x5 + 1)) (ls' := [some (vR 0 0), some (vR 8 j1), some (vI x2), some (vI x3), some (vI x4), some (vI (x5 + 1))]) dX0_listen_75 rfl rfl (by decide) rfl ?_
  refine Ev.goto (tgt := 17) dX0_listen_78 (by decide) ?_
  exact kn
theorem bkX0_listen_81 {d : Nat} {S : hs_T} {Q : Option av_T → hs_T → Prop} {x2 x3 x4 x5 : Int32} {j1 : Nat} (hq : Q none S) : Ev d mX0_listen 81 [some (vR 0 0), some (vR 8 j1), some (vI x2), some (vI x3), some (vI x4), some (vI x5)] [] S Q := by
  exact Ev.vret dX0_listen_81 rfl hq
/-! EightWires$Bytes.takeFrame(LEightWires$Trace;III)V -/
theorem bkX0_takeFrame_0 {d : Nat} {S : hs_T} {Q : Option av_T → hs_T → Prop} {P : Int32 → hs_T → Prop} {x2 x3 x4 : Int32} {j1 : Nat} {o5 o6 o7 : Option av_T} (hjj1 : j1 < 4) (hC : Ci d mX8_high [vR 8 j1, vI x2, vI ((x4 + (9 * x3)) + (x3 / 2))] S P) (kk : ∀ v S', P v S' → Ev (d + 1) mX0_takeFrame 20 [some (vR 0 0), some (vR 8 j1), some (vI x2), some (vI x3), some (vI x4), some (vI (x3 / 2)), o6, o7] [vI v] S' Q) : Ev (d + 1) mX0_takeFrame 0 [some (vR 0 0), some (vR 8 j1), some (vI x2), some (vI x3), some (vI x4), o5, o6, o7] [] S Q := by
  refine Ev.iload_n dX0_takeFrame_0 rfl rfl ?_
  refine Ev.iconst (v := 2) dX0_takeFrame_1 (by decide) ?_
  refine Ev.idiv dX0_takeFrame_2 (by decide) ?_
  refine Ev.istore (ls' := [some (vR 0 0), some (vR 8 j1), some (vI x2), some (vI x3), some (vI x4), some (vI (x3 / 2)), o6, o7]) dX0_takeFrame_3 (by decide) rfl ?_
  refine Ev.aload_n dX0_takeFrame_5 rfl rfl ?_
  refine Ev.iload_n dX0_takeFrame_6 rfl rfl ?_
  refine Ev.iload dX0_takeFrame_7 rfl ?_
  refine Ev.bipush (v := 9) dX0_takeFrame_9 (by decide) ?_
  refine Ev.iload_n dX0_takeFrame_11 rfl rfl ?_
  refine Ev.imul dX0_takeFrame_12 ?_
  refine Ev.iadd dX0_takeFrame_13 ?_
  refine Ev.iload dX0_takeFrame_14 rfl ?_
  refine Ev.iadd dX0_takeFrame_16 ?_
  exact Ev.callV (as := [vI x2, vI ((x4 + (9 * x3)) + (x3 / 2))]) (rest := []) okX8_high in_X8_high ml_X0_37 rfl (Nat.le_of_ble_eq_true rfl) (pl8 hjj1) (by decide) rfl rfl dX0_takeFrame_17 hC (fun r S' h => by obtain ⟨v, rfl, h⟩ := h; exact kk v S' h)
theorem bkX0_takeFrame_20 {d : Nat} {S : hs_T} {Q : Option av_T → hs_T → Prop} {x2 x3 x4 x5 y0 : Int32} {j1 : Nat} {o6 o7 : Option av_T} (kt : ¬ y0 = 0 → Ev d mX0_takeFrame 40 [some (vR 0 0), some (vR 8 j1), some (vI x2), some (vI x3), some (vI x4), some (vI x5), o6, o7] [] S Q) (kf : y0 = 0 → Ev d mX0_takeFrame 23 [some (vR 0 0), some (vR 8 j1), some (vI x2), some (vI x3), some (vI x4), some (vI x5), o6, o7] [] S Q) : Ev d mX0_takeFrame 20 [some (vR 0 0), some (vR 8 j1), some (vI x2), some (vI x3), some (vI x4), some (vI x5), o6, o7] [vI y0] S Q := by
  exact Ev.if_ne (tgt := 40) dX0_takeFrame_20 (by decide) kt kf
theorem bkX0_takeFrame_23 {d : Nat} {S : hs_T} {Q : Option av_T → hs_T → Prop} {P : hs_T → Prop} {x2 x3 x4 x5 : Int32} {j1 : Nat} {o6 o7 : Option av_T} (hC : Cv d mX0_add [vR 0 0, vI (-5)] (sk_ S 0 0 (upd (S.1 0 0) 3 ((S.1 0 0 3) + 1))) P) (kk : ∀ S', P S' → Ev (d + 1) mX0_takeFrame 39 [some (vR 0 0), some (vR 8 j1), some (vI x2), some (vI x3), some (vI x4), some (vI x5), o6, o7] [] S' Q) : Ev (d + 1) mX0_takeFrame 23 [some (vR 0 0), some (vR 8 j1), some (vI x2), some (vI x3), some (vI x4), some (vI x5), o6, o7] [] S Q := by
  refine Ev.aload_n dX0_takeFrame_23 rfl rfl ?_
  refine Ev.dup dX0_takeFrame_24 rfl ?_
  refine Ev.get (v := vI (S.1 0 0 3)) okX0 (by decide) fl_X0_22 pz_0_0 (ff_0_3 _ _) dX0_takeFrame_25 ?_
  refine Ev.iconst (v := 1) dX0_takeFrame_28 (by decide) ?_
  refine Ev.iadd dX0_takeFrame_29 ?_
  refine Ev.put okX0 (by decide) fl_X0_22 pz_0_0 (by decide) rfl rfl rfl rfl dX0_takeFrame_30 ?_
  refine Ev.aload_n dX0_takeFrame_33 rfl rfl ?_
  refine Ev.bipush (v := (-5)) dX0_takeFrame_34 (by decide) ?_
  exact Ev.callV (as := [vI (-5)]) (rest := []) okX0_add in_X0_add ml_X0_44 rfl (Nat.le_of_ble_eq_true rfl) pz_0_0 (by decide) rfl rfl dX0_takeFrame_36 hC (fun r S' h => by obtain ⟨rfl, h⟩ := h; exact kk S' h)
theorem bkX0_takeFrame_39 {d : Nat} {S : hs_T} {Q : Option av_T → hs_T → Prop} {x2 x3 x4 x5 : Int32} {j1 : Nat} {o6 o7 : Option av_T} (hq : Q none S) : Ev d mX0_takeFrame 39 [some (vR 0 0), some (vR 8 j1), some (vI x2), some (vI x3), some (vI x4), some (vI x5), o6, o7] [] S Q := by
  exact Ev.vret dX0_takeFrame_39 rfl hq
theorem bkX0_takeFrame_40 {d : Nat} {S : hs_T} {Q : Option av_T → hs_T → Prop} {x2 x3 x4 x5 : Int32} {j1 : Nat} {o6 o7 : Option av_T} (kn : Ev d mX0_takeFrame 46 [some (vR 0 0), some (vR 8 j1), some (vI x2), some (vI x3), some (vI x4), some (vI x5), some (vI 0), some (vI 0)] [] S Q) : Ev d mX0_takeFrame 40 [some (vR 0 0), some (vR 8 j1), some (vI x2), some (vI x3), some (vI x4), some (vI x5), o6, o7] [] S Q := by
  refine Ev.iconst (v := 0) dX0_takeFrame_40 (by decide) ?_
  refine Ev.istore (ls' := [some (vR 0 0), some (vR 8 j1), some (vI x2), some (vI x3), some (vI x4), some (vI x5), some (vI 0), o7]) dX0_takeFrame_41 (by decide) rfl ?_
  refine Ev.iconst (v := 0) dX0_takeFrame_43 (by decide) ?_
  refine Ev.istore (ls' := [some (vR 0 0), some (vR 8 j1), some (vI x2), some (vI x3), some (vI x4), some (vI x5), some (vI 0), some (vI 0)]) dX0_takeFrame_44 (by decide) rfl ?_
  exact kn
theorem bkX0_takeFrame_46 {d : Nat} {S : hs_T} {Q : Option av_T → hs_T → Prop} {x2 x3 x4 x5 x6 x7 : Int32} {j1 : Nat} (kt : 8 ≤ x7 → Ev d mX0_takeFrame 92 [some (vR 0 0), some (vR 8 j1), some (vI x2), some (vI x3), some (vI x4), some (vI x5), some (vI x6), some (vI x7)] [] S Q) (kf : ¬ 8 ≤ x7 → Ev d mX0_takeFrame 53 [some (vR 0 0), some (vR 8 j1), some (vI x2), some (vI x3), some (vI x4), some (vI x5), some (vI x6), some (vI x7)] [] S Q) : Ev d mX0_takeFrame 46 [some (vR 0 0), some (vR 8 j1), some (vI x2), some (vI x3), some (vI x4), some (vI x5), some (vI x6), some (vI x7)] [] S Q := by
  refine Ev.iload dX0_takeFrame_46 rfl ?_
  refine Ev.bipush (v := 8) dX0_takeFrame_48 (by decide) ?_
  exact Ev.icmp_ge (tgt := 92) dX0_takeFrame_50 (by decide) kt kf
theorem bkX0_takeFrame_53 {d : Nat} {S : hs_T} {Q : Option av_T → hs_T → Prop} {P : Int32 → hs_T → Prop} {x2 x3 x4 x5 x6 x7 : Int32} {j1 : Nat} (hjj1 : j1 < 4) (hC : Ci d mX8_high [vR 8 j1, vI x2, vI ((x4 + ((x7 + 1) * x3)) + x5)] S P) (kk : ∀ v S', P v S' → Ev (d + 1) mX0_takeFrame 72 [some (vR 0 0), some (vR 8 j1), some (vI x2), some (vI x3), some (vI x4), some (vI x5), some (vI x6), some (vI x7)] [vI v, vI x6] S' Q) : Ev (d + 1) mX0_takeFrame 53 [some (vR 0 0), some (vR 8 j1), some (vI x2), some (vI x3), some (vI x4), some (vI x5), some (vI x6), some (vI x7)] [] S Q := by
  refine Ev.iload dX0_takeFrame_53 rfl ?_
  refine Ev.aload_n dX0_takeFrame_55 rfl rfl ?_
  refine Ev.iload_n dX0_takeFrame_56 rfl rfl ?_
  refine Ev.iload dX0_takeFrame_57 rfl ?_
  refine Ev.iload dX0_takeFrame_59 rfl ?_
  refine Ev.iconst (v := 1) dX0_takeFrame_61 (by decide) ?_
  refine Ev.iadd dX0_takeFrame_62 ?_
  refine Ev.iload_n dX0_takeFrame_63 rfl rfl ?_
  refine Ev.imul dX0_takeFrame_64 ?_
  refine Ev.iadd dX0_takeFrame_65 ?_
  refine Ev.iload dX0_takeFrame_66 rfl ?_
  refine Ev.iadd dX0_takeFrame_68 ?_
  exact Ev.callV (as := [vI x2, vI ((x4 + ((x7 + 1) * x3)) + x5)]) (rest := [vI x6]) okX8_high in_X8_high ml_X0_37 rfl (Nat.le_of_ble_eq_true rfl) (pl8 hjj1) (by decide) rfl rfl dX0_takeFrame_69 hC (fun r S' h => by obtain ⟨v, rfl, h⟩ := h; exact kk v S' h)
theorem bkX0_takeFrame_72 {d : Nat} {S : hs_T} {Q : Option av_T → hs_T → Prop} {x2 x3 x4 x5 x6 x7 y0 y1 : Int32} {j1 : Nat} (kt : y0 = 0 → Ev d mX0_takeFrame 82 [some (vR 0 0), some (vR 8 j1), some (vI x2), some (vI x3), some (vI x4), some (vI x5), some (vI x6), some (vI x7)] [vI y1] S Q) (kf : ¬ y0 = 0 → Ev d mX0_takeFrame 75 [some (vR 0 0), some (vR 8 j1), some (vI x2), some (vI x3), some (vI x4), some (vI x5), some (vI x6), some (vI x7)] [vI y1] S Q) : Ev d mX0_takeFrame 72 [some (vR 0 0), some (vR 8 j1), some (vI x2), some (vI x3), some (vI x4), some (vI x5), some (vI x6), some (vI x7)] [vI y0, vI y1] S Q := by
  exact Ev.if_eq (tgt := 82) dX0_takeFrame_72 (by decide) kt kf
theorem bkX0_takeFrame_75 {d : Nat} {S : hs_T} {Q : Option av_T → hs_T → Prop} {x2 x3 x4 x5 x6 x7 y0 : Int32} {j1 : Nat} (kn : Ev d mX0_takeFrame 83 [some (vR 0 0), some (vR 8 j1), some (vI x2), some (vI x3), some (vI x4), some (vI x5), some (vI x6), some (vI x7)] [vI (1 <<< (x7 &&& 31)), vI y0] S Q) : Ev d mX0_takeFrame 75 [some (vR 0 0), some (vR 8 j1), some (vI x2), some (vI x3), some (vI x4), some (vI x5), some (vI x6), some (vI x7)] [vI y0] S Q := by
  refine Ev.iconst (v := 1) dX0_takeFrame_75 (by decide) ?_
  refine Ev.iload dX0_takeFrame_76 rfl ?_
  refine Ev.ishl dX0_takeFrame_78 ?_
  refine Ev.goto (tgt := 83) dX0_takeFrame_79 (by decide) ?_
  exact kn
theorem bkX0_takeFrame_82 {d : Nat} {S : hs_T} {Q : Option av_T → hs_T → Prop} {x2 x3 x4 x5 x6 x7 y0 : Int32} {j1 : Nat} (kn : Ev d mX0_takeFrame 83 [some (vR 0 0), some (vR 8 j1), some (vI x2), some (vI x3), some (vI x4), some (vI x5), some (vI x6), some (vI x7)] [vI 0, vI y0] S Q) : Ev d mX0_takeFrame 82 [some (vR 0 0), some (vR 8 j1), some (vI x2), some (vI x3), some (vI x4), some (vI x5), some (vI x6), some (vI x7)] [vI y0] S Q := by
  refine Ev.iconst (v := 0) dX0_takeFrame_82 (by decide) ?_
  exact kn
theorem bkX0_takeFrame_83 {d : Nat} {S : hs_T} {Q : Option av_T → hs_T → Prop} {x2 x3 x4 x5 x6 x7 y0 y1 : Int32} {j1 : Nat} (kn : Ev d mX0_takeFrame 46 [some (vR 0 0), some (vR 8 j1), some (vI x2), some (vI x3), some (vI x4), some (vI x5), some (vI (y1 ||| y0)), some (vI (x7 + 1))] [] S Q) : Ev d mX0_takeFrame 83 [some (vR 0 0), some (vR 8 j1), some (vI x2), some (vI x3), some (vI x4), some (vI x5), some (vI x6), some (vI x7)] [vI y0, vI y1] S Q := by
  refine Ev.ior dX0_takeFrame_83 ?_
  refine Ev.istore (ls' := [some (vR 0 0), some (vR 8 j1), some (vI x2), some (vI x3), some (vI x4), some (vI x5), some (vI (y1 ||| y0)), some (vI x7)]) dX0_takeFrame_84 (by decide) rfl ?_
  refine Ev.iinc (v := (x7 + 1)) (ls' := [some (vR 0 0), some (vR 8 j1), some (vI x2), some (vI x3), some (vI x4), some (vI x5), some (vI (y1 ||| y0)), some (vI (x7 + 1))]) dX0_takeFrame_86 rfl rfl (by decide) rfl ?_
  refine Ev.goto (tgt := 46) dX0_takeFrame_89 (by decide) ?_
  exact kn
theorem bkX0_takeFrame_92 {d : Nat} {S : hs_T} {Q : Option av_T → hs_T → Prop} {P : hs_T → Prop} {x2 x3 x4 x5 x6 x7 : Int32} {j1 : Nat} (hC : Cv d mX0_add [vR 0 0, vI x6] (sk_ S 0 0 (upd (S.1 0 0) 2 ((S.1 0 0 2) + 1))) P) (kk : ∀ S', P S' → Ev (d + 1) mX0_takeFrame 108 [some (vR 0 0), some (vR 8 j1), some (vI x2), some (vI x3), some (vI x4), some (vI x5), some (vI x6), some (vI x7)] [] S' Q) : Ev (d + 1) mX0_takeFrame 92 [some (vR 0 0), some (vR 8 j1), some (vI x2), some (vI x3), some (vI x4), some (vI x5), some (vI x6), some (vI x7)] [] S Q := by
  refine Ev.aload_n dX0_takeFrame_92 rfl rfl ?_
  refine Ev.dup dX0_takeFrame_93 rfl ?_
  refine Ev.get (v := vI (S.1 0 0 2)) okX0 (by decide) fl_X0_19 pz_0_0 (ff_0_2 _ _) dX0_takeFrame_94 ?_
  refine Ev.iconst (v := 1) dX0_takeFrame_97 (by decide) ?_
  refine Ev.iadd dX0_takeFrame_98 ?_
  refine Ev.put okX0 (by decide) fl_X0_19 pz_0_0 (by decide) rfl rfl rfl rfl dX0_takeFrame_99 ?_
  refine Ev.aload_n dX0_takeFrame_102 rfl rfl ?_
  refine Ev.iload dX0_takeFrame_103 rfl ?_
  exact Ev.callV (as := [vI x6]) (rest := []) okX0_add in_X0_add ml_X0_44 rfl (Nat.le_of_ble_eq_true rfl) pz_0_0 (by decide) rfl rfl dX0_takeFrame_105 hC (fun r S' h => by obtain ⟨rfl, h⟩ := h; exact kk S' h)
theorem bkX0_takeFrame_108 {d : Nat} {S : hs_T} {Q : Option av_T → hs_T → Prop} {x2 x3 x4 x5 x6 x7 : Int32} {j1 : Nat} (hq : Q none S) : Ev d mX0_takeFrame 108 [some (vR 0 0), some (vR 8 j1), some (vI x2), some (vI x3), some (vI x4), some (vI x5), some (vI x6), some (vI x7)] [] S Q := by
  exact Ev.vret dX0_takeFrame_108 rfl hq
/-! EightWires$Census.tally(LEightWires$Trace;)V -/
theorem bkX1_tally_0 {d : Nat} {S : hs_T} {Q : Option av_T → hs_T → Prop} {P : hs_T → Prop} {j1 : Nat} {o2 : Option av_T} (hC : Cv d mJ7_fill_53178 [vR 200 0, vI 0] S P) (kk : ∀ S', P S' → Ev (d + 1) mX1_tally 8 [some (vR 1 0), some (vR 8 j1), o2] [] S' Q) : Ev (d + 1) mX1_tally 0 [some (vR 1 0), some (vR 8 j1), o2] [] S Q := by
  refine Ev.aload_n dX1_tally_0 rfl rfl ?_
  refine Ev.get (v := vR 200 0) okX1 (by decide) fl_X1_9 pz_1_0 (ff_1_0 _ _) dX1_tally_1 ?_
  refine Ev.iconst (v := 0) dX1_tally_4 (by decide) ?_
  exact Ev.callS (as := [vR 200 0, vI 0]) (rest := []) okJ7_fill_53178 stJ7_fill_53178 ml_X1_19 rfl (Nat.le_of_ble_eq_true rfl) rfl dX1_tally_5 hC (fun r S' h => by obtain ⟨rfl, h⟩ := h; exact kk S' h)
theorem bkX1_tally_8 {d : Nat} {S : hs_T} {Q : Option av_T → hs_T → Prop} {j1 : Nat} {o2 : Option av_T} (kn : Ev d mX1_tally 10 [some (vR 1 0), some (vR 8 j1), some (vI 0)] [] S Q) : Ev d mX1_tally 8 [some (vR 1 0), some (vR 8 j1), o2] [] S Q := by
  refine Ev.iconst (v := 0) dX1_tally_8 (by decide) ?_
  refine Ev.istore_n (ls' := [some (vR 1 0), some (vR 8 j1), some (vI 0)]) dX1_tally_9 rfl (by decide) rfl ?_
  exact kn
theorem bkX1_tally_10 {d : Nat} {S : hs_T} {Q : Option av_T → hs_T → Prop} {x2 : Int32} {j1 : Nat} (hjj1 : j1 < 4) (kt : (S.1 8 j1 1) ≤ x2 → Ev d mX1_tally 42 [some (vR 1 0), some (vR 8 j1), some (vI x2)] [] S Q) (kf : ¬ (S.1 8 j1 1) ≤ x2 → Ev d mX1_tally 18 [some (vR 1 0), some (vR 8 j1), some (vI x2)] [] S Q) : Ev d mX1_tally 10 [some (vR 1 0), some (vR 8 j1), some (vI x2)] [] S Q := by
  refine Ev.iload_n dX1_tally_10 rfl rfl ?_
  refine Ev.aload_n dX1_tally_11 rfl rfl ?_
  refine Ev.get (v := vI (S.1 8 j1 1)) okX8 (by decide) fl_X1_25 (pl8 hjj1) (ff_8_1 _ _) dX1_tally_12 ?_
  exact Ev.icmp_ge (tgt := 42) dX1_tally_15 (by decide) kt kf
theorem bkX1_tally_18 {d : Nat} {S : hs_T} {Q : Option av_T → hs_T → Prop} {P : Int32 → hs_T → Prop} {x2 : Int32} {j1 : Nat} (hjj1 : j1 < 4) (hC : Ci d mX8_sample [vR 8 j1, vI x2] S P) (kk : ∀ v S', P v S' → Ev (d + 1) mX1_tally 27 [some (vR 1 0), some (vR 8 j1), some (vI x2)] [vI v, vR 200 0] S' Q) : Ev (d + 1) mX1_tally 18 [some (vR 1 0), some (vR 8 j1), some (vI x2)] [] S Q := by
  refine Ev.aload_n dX1_tally_18 rfl rfl ?_
  refine Ev.get (v := vR 200 0) okX1 (by decide) fl_X1_9 pz_1_0 (ff_1_0 _ _) dX1_tally_19 ?_
  refine Ev.aload_n dX1_tally_22 rfl rfl ?_
  refine Ev.iload_n dX1_tally_23 rfl rfl ?_
  exact Ev.callV (as := [vI x2]) (rest := [vR 200 0]) okX8_sample in_X8_sample ml_X1_31 rfl (Nat.le_of_ble_eq_true rfl) (pl8 hjj1) (by decide) rfl rfl dX1_tally_24 hC (fun r S' h => by obtain ⟨v, rfl, h⟩ := h; exact kk v S' h)
theorem bkX1_tally_27 {d : Nat} {S : hs_T} {Q : Option av_T → hs_T → Prop} {x2 y0 : Int32} {j1 : Nat} (hi32 : vp_in (y0 &&& 255) 256) (kn : Ev d mX1_tally 10 [some (vR 1 0), some (vR 8 j1), some (vI (x2 + 1))] [] (sk_ S 200 0 (upd (S.1 200 0) ((y0 &&& 255).toNatClampNeg) ((S.1 200 0 (y0 &&& 255).toNatClampNeg) + 1))) Q) : Ev d mX1_tally 27 [some (vR 1 0), some (vR 8 j1), some (vI x2)] [vI y0, vR 200 0] S Q := by
  refine Ev.sipush (v := 255) dX1_tally_27 (by decide) ?_
  refine Ev.iand dX1_tally_30 ?_
  refine Ev.dup2 dX1_tally_31 rfl rfl ?_
  refine Ev.ialoadA (a := (y0 &&& 255).toNatClampNeg) pz_200_0 (by decide) ak_200 hi32 rfl dX1_tally_32 ?_
  refine Ev.iconst (v := 1) dX1_tally_33 (by decide) ?_
  refine Ev.iadd dX1_tally_34 ?_
  refine Ev.iastoreA (a := (y0 &&& 255).toNatClampNeg) pz_200_0 (by decide) ak_200 hi32 rfl rfl dX1_tally_35 ?_
  refine Ev.iinc (v := (x2 + 1)) (ls' := [some (vR 1 0), some (vR 8 j1), some (vI (x2 + 1))]) dX1_tally_36 rfl rfl (by decide) rfl ?_
  refine Ev.goto (tgt := 10) dX1_tally_39 (by decide) ?_
  exact kn
theorem bkX1_tally_42 {d : Nat} {S : hs_T} {Q : Option av_T → hs_T → Prop} {x2 : Int32} {j1 : Nat} (kn : Ev d mX1_tally 60 [some (vR 1 0), some (vR 8 j1), some (vI 0)] [] (sk_ (sk_ (sk_ S 1 0 (upd (S.1 1 0) 2 0)) 1 0 (upd ((sk_ S 1 0 (upd (S.1 1 0) 2 0)).1 1 0) 3 (-4))) 1 0 (upd ((sk_ (sk_ S 1 0 (upd (S.1 1 0) 2 0)) 1 0 (upd ((sk_ S 1 0 (upd (S.1 1 0) 2 0)).1 1 0) 3 (-4))).1 1 0) 4 0)) Q) : Ev d mX1_tally 42 [some (vR 1 0), some (vR 8 j1), some (vI x2)] [] S Q := by
  refine Ev.aload_n dX1_tally_42 rfl rfl ?_
  refine Ev.iconst (v := 0) dX1_tally_43 (by decide) ?_
  refine Ev.put okX1 (by decide) fl_X1_35 pz_1_0 (by decide) rfl rfl rfl rfl dX1_tally_44 ?_
  refine Ev.aload_n dX1_tally_47 rfl rfl ?_
  refine Ev.bipush (v := (-4)) dX1_tally_48 (by decide) ?_
  refine Ev.put okX1 (by decide) fl_X1_38 pz_1_0 (by decide) rfl rfl rfl rfl dX1_tally_50 ?_
  refine Ev.aload_n dX1_tally_53 rfl rfl ?_
  refine Ev.iconst (v := 0) dX1_tally_54 (by decide) ?_
  refine Ev.put okX1 (by decide) fl_X1_41 pz_1_0 (by decide) rfl rfl rfl rfl dX1_tally_55 ?_
  refine Ev.iconst (v := 0) dX1_tally_58 (by decide) ?_
  refine Ev.istore_n (ls' := [some (vR 1 0), some (vR 8 j1), some (vI 0)]) dX1_tally_59 rfl (by decide) rfl ?_
  exact kn
theorem bkX1_tally_60 {d : Nat} {S : hs_T} {Q : Option av_T → hs_T → Prop} {x2 : Int32} {j1 : Nat} (kt : 256 ≤ x2 → Ev d mX1_tally 126 [some (vR 1 0), some (vR 8 j1), some (vI x2)] [] S Q) (kf : ¬ 256 ≤ x2 → Ev d mX1_tally 69 [some (vR 1 0), some (vR 8 j1), some (vI x2)] [] S Q) : Ev d mX1_tally 60 [some (vR 1 0), some (vR 8 j1), some (vI x2)] [] S Q := by
  refine Ev.iload_n dX1_tally_60 rfl rfl ?_
  refine Ev.aload_n dX1_tally_61 rfl rfl ?_
  refine Ev.get (v := vR 200 0) okX1 (by decide) fl_X1_9 pz_1_0 (ff_1_0 _ _) dX1_tally_62 ?_
  refine Ev.alen (v := 256) pz_200_0 (by decide) rfl (by decide) rfl dX1_tally_65 ?_
  exact Ev.icmp_ge (tgt := 126) dX1_tally_66 (by decide) kt kf
theorem bkX1_tally_69 {d : Nat} {S : hs_T} {Q : Option av_T → hs_T → Prop} {x2 : Int32} {j1 : Nat} (hi79 : vp_in x2 256) (kt : (S.1 200 0 x2.toNatClampNeg) ≤ 0 → Ev d mX1_tally 87 [some (vR 1 0), some (vR 8 j1), some (vI x2)] [vI (S.1 1 0 2), vR 1 0] S Q) (kf : ¬ (S.1 200 0 x2.toNatClampNeg) ≤ 0 → Ev d mX1_tally 83 [some (vR 1 0), some (vR 8 j1), some (vI x2)] [vI (S.1 1 0 2), vR 1 0] S Q) : Ev d mX1_tally 69 [some (vR 1 0), some (vR 8 j1), some (vI x2)] [] S Q := by
  refine Ev.aload_n dX1_tally_69 rfl rfl ?_
  refine Ev.dup dX1_tally_70 rfl ?_
  refine Ev.get (v := vI (S.1 1 0 2)) okX1 (by decide) fl_X1_35 pz_1_0 (ff_1_2 _ _) dX1_tally_71 ?_
  refine Ev.aload_n dX1_tally_74 rfl rfl ?_
  refine Ev.get (v := vR 200 0) okX1 (by decide) fl_X1_9 pz_1_0 (ff_1_0 _ _) dX1_tally_75 ?_
  refine Ev.iload_n dX1_tally_78 rfl rfl ?_
  refine Ev.ialoadA (a := x2.toNatClampNeg) pz_200_0 (by decide) ak_200 hi79 rfl dX1_tally_79 ?_
  exact Ev.if_le (tgt := 87) dX1_tally_80 (by decide) kt kf
theorem bkX1_tally_83 {d : Nat} {S : hs_T} {Q : Option av_T → hs_T → Prop} {x2 y0 : Int32} {j1 : Nat} (kn : Ev d mX1_tally 88 [some (vR 1 0), some (vR 8 j1), some (vI x2)] [vI 1, vI y0, vR 1 0] S Q) : Ev d mX1_tally 83 [some (vR 1 0), some (vR 8 j1), some (vI x2)] [vI y0, vR 1 0] S Q := by
  refine Ev.iconst (v := 1) dX1_tally_83 (by decide) ?_
  refine Ev.goto (tgt := 88) dX1_tally_84 (by decide) ?_
  exact kn
theorem bkX1_tally_87 {d : Nat} {S : hs_T} {Q : Option av_T → hs_T → Prop} {x2 y0 : Int32} {j1 : Nat} (kn : Ev d mX1_tally 88 [some (vR 1 0), some (vR 8 j1), some (vI x2)] [vI 0, vI y0, vR 1 0] S Q) : Ev d mX1_tally 87 [some (vR 1 0), some (vR 8 j1), some (vI x2)] [vI y0, vR 1 0] S Q := by
  refine Ev.iconst (v := 0) dX1_tally_87 (by decide) ?_
  exact kn
theorem bkX1_tally_88 {d : Nat} {S : hs_T} {Q : Option av_T → hs_T → Prop} {x2 y0 y1 : Int32} {j1 : Nat} (hi97 : vp_in x2 256) (kt : ((sk_ S 1 0 (upd (S.1 1 0) 2 (y1 + y0))).1 200 0 x2.toNatClampNeg) ≤ ((sk_ S 1 0 (upd (S.1 1 0) 2 (y1 + y0))).1 1 0 4) → Ev d mX1_tally 120 [some (vR 1 0), some (vR 8 j1), some (vI x2)] [] (sk_ S 1 0 (upd (S.1 1 0) 2 (y1 + y0))) Q) (kf : ¬ ((sk_ S 1 0 (upd (S.1 1 0) 2 (y1 + y0))).1 200 0 x2.toNatClampNeg) ≤ ((sk_ S 1 0 (upd (S.1 1 0) 2 (y1 + y0))).1 1 0 4) → Ev d mX1_tally 105 [some (vR 1 0), some (vR 8 j1), some (vI x2)] [] (sk_ S 1 0 (upd (S.1 1 0) 2 (y1 + y0))) Q) : Ev d mX1_tally 88 [some (vR 1 0), some (vR 8 j1), some (vI x2)] [vI y0, vI y1, vR 1 0] S Q := by
  refine Ev.iadd dX1_tally_88 ?_
  refine Ev.put okX1 (by decide) fl_X1_35 pz_1_0 (by decide) rfl rfl rfl rfl dX1_tally_89 ?_
  refine Ev.aload_n dX1_tally_92 rfl rfl ?_
  refine Ev.get (v := vR 200 0) okX1 (by decide) fl_X1_9 pz_1_0 (ff_1_0 _ _) dX1_tally_93 ?_
  refine Ev.iload_n dX1_tally_96 rfl rfl ?_
  refine Ev.ialoadA (a := x2.toNatClampNeg) pz_200_0 (by decide) ak_200 hi97 rfl dX1_tally_97 ?_
  refine Ev.aload_n dX1_tally_98 rfl rfl ?_
  refine Ev.get (v := vI ((sk_ S 1 0 (upd (S.1 1 0) 2 (y1 + y0))).1 1 0 4)) okX1 (by decide) fl_X1_41 pz_1_0 (ff_1_4 _ _) dX1_tally_99 ?_
  exact Ev.icmp_le (tgt := 120) dX1_tally_102 (by decide) kt kf
theorem bkX1_tally_105 {d : Nat} {S : hs_T} {Q : Option av_T → hs_T → Prop} {x2 : Int32} {j1 : Nat} (hi111 : vp_in x2 256) (kn : Ev d mX1_tally 120 [some (vR 1 0), some (vR 8 j1), some (vI x2)] [] (sk_ (sk_ S 1 0 (upd (S.1 1 0) 4 (S.1 200 0 x2.toNatClampNeg))) 1 0 (upd ((sk_ S 1 0 (upd (S.1 1 0) 4 (S.1 200 0 x2.toNatClampNeg))).1 1 0) 3 x2)) Q) : Ev d mX1_tally 105 [some (vR 1 0), some (vR 8 j1), some (vI x2)] [] S Q := by
  refine Ev.aload_n dX1_tally_105 rfl rfl ?_
  refine Ev.aload_n dX1_tally_106 rfl rfl ?_
  refine Ev.get (v := vR 200 0) okX1 (by decide) fl_X1_9 pz_1_0 (ff_1_0 _ _) dX1_tally_107 ?_
  refine Ev.iload_n dX1_tally_110 rfl rfl ?_
  refine Ev.ialoadA (a := x2.toNatClampNeg) pz_200_0 (by decide) ak_200 hi111 rfl dX1_tally_111 ?_
  refine Ev.put okX1 (by decide) fl_X1_41 pz_1_0 (by decide) rfl rfl rfl rfl dX1_tally_112 ?_
  refine Ev.aload_n dX1_tally_115 rfl rfl ?_
  refine Ev.iload_n dX1_tally_116 rfl rfl ?_
  refine Ev.put okX1 (by decide) fl_X1_38 pz_1_0 (by decide) rfl rfl rfl rfl dX1_tally_117 ?_
  exact kn
theorem bkX1_tally_120 {d : Nat} {S : hs_T} {Q : Option av_T → hs_T → Prop} {x2 : Int32} {j1 : Nat} (kn : Ev d mX1_tally 60 [some (vR 1 0), some (vR 8 j1), some (vI (x2 + 1))] [] S Q) : Ev d mX1_tally 120 [some (vR 1 0), some (vR 8 j1), some (vI x2)] [] S Q := by
  refine Ev.iinc (v := (x2 + 1)) (ls' := [some (vR 1 0), some (vR 8 j1), some (vI (x2 + 1))]) dX1_tally_120 rfl rfl (by decide) rfl ?_
  refine Ev.goto (tgt := 60) dX1_tally_123 (by decide) ?_
  exact kn
theorem bkX1_tally_126 {d : Nat} {S : hs_T} {Q : Option av_T → hs_T → Prop} {x2 : Int32} {j1 : Nat} (hq : Q none S) : Ev d mX1_tally 126 [some (vR 1 0), some (vR 8 j1), some (vI x2)] [] S Q := by
  exact Ev.vret dX1_tally_126 rfl hq
/-! EightWires$Census.unlikePairs(LEightWires$Trace;)I -/
theorem bkX1_unlikePairs_0 {d : Nat} {S : hs_T} {Q : Option av_T → hs_T → Prop} {P : hs_T → Prop} {j1 : Nat} {o2 o3 o4 : Option av_T} (hC : Cv d mJ7_fill_d0a16 [vR 201 0, vJ 0] S P) (kk : ∀ S', P S' → Ev (d + 1) mX1_unlikePairs 8 [some (vR 1 0), some (vR 8 j1), o2, o3, o4] [] S' Q) : Ev (d + 1) mX1_unlikePairs 0 [some (vR 1 0), some (vR 8 j1), o2, o3, o4] [] S Q := by
  refine Ev.aload_n dX1_unlikePairs_0 rfl rfl ?_
  refine Ev.get (v := vR 201 0) okX1 (by decide) fl_X1_15 pz_1_0 (ff_1_1 _ _) dX1_unlikePairs_1 ?_
  refine Ev.lconst (v := 0) dX1_unlikePairs_4 (by decide) ?_
  exact Ev.callS (as := [vR 201 0, vJ 0]) (rest := []) okJ7_fill_d0a16 stJ7_fill_d0a16 ml_X1_44 rfl (Nat.le_of_ble_eq_true rfl) rfl dX1_unlikePairs_5 hC (fun r S' h => by obtain ⟨rfl, h⟩ := h; exact kk S' h)
theorem bkX1_unlikePairs_8 {d : Nat} {S : hs_T} {Q : Option av_T → hs_T → Prop} {j1 : Nat} {o2 o3 o4 : Option av_T} (kn : Ev d mX1_unlikePairs 12 [some (vR 1 0), some (vR 8 j1), some (vI 0), some (vI 1), o4] [] S Q) : Ev d mX1_unlikePairs 8 [some (vR 1 0), some (vR 8 j1), o2, o3, o4] [] S Q := by
  refine Ev.iconst (v := 0) dX1_unlikePairs_8 (by decide) ?_
  refine Ev.istore_n (ls' := [some (vR 1 0), some (vR 8 j1), some (vI 0), o3, o4]) dX1_unlikePairs_9 rfl (by decide) rfl ?_
  refine Ev.iconst (v := 1) dX1_unlikePairs_10 (by decide) ?_
  refine Ev.istore_n (ls' := [some (vR 1 0), some (vR 8 j1), some (vI 0), some (vI 1), o4]) dX1_unlikePairs_11 rfl (by decide) rfl ?_
  exact kn
theorem bkX1_unlikePairs_12 {d : Nat} {S : hs_T} {Q : Option av_T → hs_T → Prop} {x2 x3 : Int32} {j1 : Nat} {o4 : Option av_T} (hjj1 : j1 < 4) (kt : (S.1 8 j1 1) ≤ x3 → Ev d mX1_unlikePairs 106 [some (vR 1 0), some (vR 8 j1), some (vI x2), some (vI x3), o4] [] S Q) (kf : ¬ (S.1 8 j1 1) ≤ x3 → Ev d mX1_unlikePairs 20 [some (vR 1 0), some (vR 8 j1), some (vI x2), some (vI x3), o4] [] S Q) : Ev d mX1_unlikePairs 12 [some (vR 1 0), some (vR 8 j1), some (vI x2), some (vI x3), o4] [] S Q := by
  refine Ev.iload_n dX1_unlikePairs_12 rfl rfl ?_
  refine Ev.aload_n dX1_unlikePairs_13 rfl rfl ?_
  refine Ev.get (v := vI (S.1 8 j1 1)) okX8 (by decide) fl_X1_25 (pl8 hjj1) (ff_8_1 _ _) dX1_unlikePairs_14 ?_
  exact Ev.icmp_ge (tgt := 106) dX1_unlikePairs_17 (by decide) kt kf
theorem bkX1_unlikePairs_20 {d : Nat} {S : hs_T} {Q : Option av_T → hs_T → Prop} {P : Int32 → hs_T → Prop} {x2 x3 : Int32} {j1 : Nat} {o4 : Option av_T} (hjj1 : j1 < 4) (hC : Ci d mX8_sample [vR 8 j1, vI (x3 - 1)] S P) (kk : ∀ v S', P v S' → Ev (d + 1) mX1_unlikePairs 27 [some (vR 1 0), some (vR 8 j1), some (vI x2), some (vI x3), o4] [vI v] S' Q) : Ev (d + 1) mX1_unlikePairs 20 [some (vR 1 0), some (vR 8 j1), some (vI x2), some (vI x3), o4] [] S Q := by
  refine Ev.aload_n dX1_unlikePairs_20 rfl rfl ?_
  refine Ev.iload_n dX1_unlikePairs_21 rfl rfl ?_
  refine Ev.iconst (v := 1) dX1_unlikePairs_22 (by decide) ?_
  refine Ev.isub dX1_unlikePairs_23 ?_
  exact Ev.callV (as := [vI (x3 - 1)]) (rest := []) okX8_sample in_X8_sample ml_X1_31 rfl (Nat.le_of_ble_eq_true rfl) (pl8 hjj1) (by decide) rfl rfl dX1_unlikePairs_24 hC (fun r S' h => by obtain ⟨v, rfl, h⟩ := h; exact kk v S' h)
theorem bkX1_unlikePairs_27 {d : Nat} {S : hs_T} {Q : Option av_T → hs_T → Prop} {P : Int32 → hs_T → Prop} {x2 x3 y0 : Int32} {j1 : Nat} {o4 : Option av_T} (hjj1 : j1 < 4) (hC : Ci d mX8_sample [vR 8 j1, vI x3] S P) (kk : ∀ v S', P v S' → Ev (d + 1) mX1_unlikePairs 39 [some (vR 1 0), some (vR 8 j1), some (vI x2), some (vI x3), o4] [vI v, vI ((y0 &&& 255) <<< (8 &&& 31))] S' Q) : Ev (d + 1) mX1_unlikePairs 27 [some (vR 1 0), some (vR 8 j1), some (vI x2), some (vI x3), o4] [vI y0] S Q := by
  refine Ev.sipush (v := 255) dX1_unlikePairs_27 (by decide) ?_
  refine Ev.iand dX1_unlikePairs_30 ?_
  refine Ev.bipush (v := 8) dX1_unlikePairs_31 (by decide) ?_
  refine Ev.ishl dX1_unlikePairs_33 ?_
  refine Ev.aload_n dX1_unlikePairs_34 rfl rfl ?_
  refine Ev.iload_n dX1_unlikePairs_35 rfl rfl ?_
  exact Ev.callV (as := [vI x3]) (rest := [vI ((y0 &&& 255) <<< (8 &&& 31))]) okX8_sample in_X8_sample ml_X1_31 rfl (Nat.le_of_ble_eq_true rfl) (pl8 hjj1) (by decide) rfl rfl dX1_unlikePairs_36 hC (fun r S' h => by obtain ⟨v, rfl, h⟩ := h; exact kk v S' h)
theorem bkX1_unlikePairs_39 {d : Nat} {S : hs_T} {Q : Option av_T → hs_T → Prop} {P : Int32 → hs_T → Prop} {x2 x3 y0 y1 : Int32} {j1 : Nat} {o4 : Option av_T} (hjj1 : j1 < 4) (hC : Ci d mX8_beginsRun [vR 8 j1, vI x3] S P) (kk : ∀ v S', P v S' → Ev (d + 1) mX1_unlikePairs 51 [some (vR 1 0), some (vR 8 j1), some (vI x2), some (vI x3), some (vI (y1 ||| (y0 &&& 255)))] [vI v] S' Q) : Ev (d + 1) mX1_unlikePairs 39 [some (vR 1 0), some (vR 8 j1), some (vI x2), some (vI x3), o4] [vI y0, vI y1] S Q := by
  refine Ev.sipush (v := 255) dX1_unlikePairs_39 (by decide) ?_
  refine Ev.iand dX1_unlikePairs_42 ?_
  refine Ev.ior dX1_unlikePairs_43 ?_
  refine Ev.istore (ls' := [some (vR 1 0), some (vR 8 j1), some (vI x2), some (vI x3), some (vI (y1 ||| (y0 &&& 255)))]) dX1_unlikePairs_44 (by decide) rfl ?_
  refine Ev.aload_n dX1_unlikePairs_46 rfl rfl ?_
  refine Ev.iload_n dX1_unlikePairs_47 rfl rfl ?_
  exact Ev.callV (as := [vI x3]) (rest := []) okX8_beginsRun in_X8_beginsRun ml_X1_47 rfl (Nat.le_of_ble_eq_true rfl) (pl8 hjj1) (by decide) rfl rfl dX1_unlikePairs_48 hC (fun r S' h => by obtain ⟨v, rfl, h⟩ := h; exact kk v S' h)
theorem bkX1_unlikePairs_51 {d : Nat} {S : hs_T} {Q : Option av_T → hs_T → Prop} {x2 x3 x4 y0 : Int32} {j1 : Nat} (kt : y0 = 0 → Ev d mX1_unlikePairs 100 [some (vR 1 0), some (vR 8 j1), some (vI x2), some (vI x3), some (vI x4)] [] S Q) (kf : ¬ y0 = 0 → Ev d mX1_unlikePairs 54 [some (vR 1 0), some (vR 8 j1), some (vI x2), some (vI x3), some (vI x4)] [] S Q) : Ev d mX1_unlikePairs 51 [some (vR 1 0), some (vR 8 j1), some (vI x2), some (vI x3), some (vI x4)] [vI y0] S Q := by
  exact Ev.if_eq (tgt := 100) dX1_unlikePairs_51 (by decide) kt kf
theorem bkX1_unlikePairs_54 {d : Nat} {S : hs_T} {Q : Option av_T → hs_T → Prop} {x2 x3 x4 : Int32} {j1 : Nat} (hi63 : vp_in (x4 >>> (6 &&& 31)) 1024) (kt : ¬ (lg_cmp (((S.2.1 (x4 >>> (6 &&& 31)).toNatClampNeg) >>> ((x4 &&& 63).toInt64 &&& 63)) &&& 1) 0) = 0 → Ev d mX1_unlikePairs 100 [some (vR 1 0), some (vR 8 j1), some (vI x2), some (vI x3), some (vI x4)] [] S Q) (kf : (lg_cmp (((S.2.1 (x4 >>> (6 &&& 31)).toNatClampNeg) >>> ((x4 &&& 63).toInt64 &&& 63)) &&& 1) 0) = 0 → Ev d mX1_unlikePairs 77 [some (vR 1 0), some (vR 8 j1), some (vI x2), some (vI x3), some (vI x4)] [] S Q) : Ev d mX1_unlikePairs 54 [some (vR 1 0), some (vR 8 j1), some (vI x2), some (vI x3), some (vI x4)] [] S Q := by
  refine Ev.aload_n dX1_unlikePairs_54 rfl rfl ?_
  refine Ev.get (v := vR 201 0) okX1 (by decide) fl_X1_15 pz_1_0 (ff_1_1 _ _) dX1_unlikePairs_55 ?_
  refine Ev.iload dX1_unlikePairs_58 rfl ?_
  refine Ev.bipush (v := 6) dX1_unlikePairs_60 (by decide) ?_
  refine Ev.ishr dX1_unlikePairs_62 ?_
  refine Ev.laload pz_201_0 (by decide) ak_201 hi63 dX1_unlikePairs_63 ?_
  refine Ev.iload dX1_unlikePairs_64 rfl ?_
  refine Ev.bipush (v := 63) dX1_unlikePairs_66 (by decide) ?_
  refine Ev.iand dX1_unlikePairs_68 ?_
  refine Ev.lshr dX1_unlikePairs_69 ?_
  refine Ev.lconst (v := 1) dX1_unlikePairs_70 (by decide) ?_
  refine Ev.land dX1_unlikePairs_71 ?_
  refine Ev.lconst (v := 0) dX1_unlikePairs_72 (by decide) ?_
  refine Ev.lcmp dX1_unlikePairs_73 ?_
  exact Ev.if_ne (tgt := 100) dX1_unlikePairs_74 (by decide) kt kf
theorem bkX1_unlikePairs_77 {d : Nat} {S : hs_T} {Q : Option av_T → hs_T → Prop} {x2 x3 x4 : Int32} {j1 : Nat} (hi87 : vp_in (x4 >>> (6 &&& 31)) 1024) (kn : Ev d mX1_unlikePairs 100 [some (vR 1 0), some (vR 8 j1), some (vI (x2 + 1)), some (vI x3), some (vI x4)] [] (sl_ S (vp_updL S.2.1 ((x4 >>> (6 &&& 31)).toNatClampNeg) ((S.2.1 (x4 >>> (6 &&& 31)).toNatClampNeg) ||| (1 <<< ((x4 &&& 63).toInt64 &&& 63))))) Q) : Ev d mX1_unlikePairs 77 [some (vR 1 0), some (vR 8 j1), some (vI x2), some (vI x3), some (vI x4)] [] S Q := by
  refine Ev.aload_n dX1_unlikePairs_77 rfl rfl ?_
  refine Ev.get (v := vR 201 0) okX1 (by decide) fl_X1_15 pz_1_0 (ff_1_1 _ _) dX1_unlikePairs_78 ?_
  refine Ev.iload dX1_unlikePairs_81 rfl ?_
  refine Ev.bipush (v := 6) dX1_unlikePairs_83 (by decide) ?_
  refine Ev.ishr dX1_unlikePairs_85 ?_
  refine Ev.dup2 dX1_unlikePairs_86 rfl rfl ?_
  refine Ev.laload pz_201_0 (by decide) ak_201 hi87 dX1_unlikePairs_87 ?_
  refine Ev.lconst (v := 1) dX1_unlikePairs_88 (by decide) ?_
  refine Ev.iload dX1_unlikePairs_89 rfl ?_
  refine Ev.bipush (v := 63) dX1_unlikePairs_91 (by decide) ?_
  refine Ev.iand dX1_unlikePairs_93 ?_
  refine Ev.lshl dX1_unlikePairs_94 ?_
  refine Ev.lor dX1_unlikePairs_95 ?_
  refine Ev.lastore ak_201 hi87 rfl dX1_unlikePairs_96 ?_
  refine Ev.iinc (v := (x2 + 1)) (ls' := [some (vR 1 0), some (vR 8 j1), some (vI (x2 + 1)), some (vI x3), some (vI x4)]) dX1_unlikePairs_97 rfl rfl (by decide) rfl ?_
  exact kn
theorem bkX1_unlikePairs_100 {d : Nat} {S : hs_T} {Q : Option av_T → hs_T → Prop} {x2 x3 x4 : Int32} {j1 : Nat} (kn : Ev d mX1_unlikePairs 12 [some (vR 1 0), some (vR 8 j1), some (vI x2), some (vI (x3 + 1)), some (vI x4)] [] S Q) : Ev d mX1_unlikePairs 100 [some (vR 1 0), some (vR 8 j1), some (vI x2), some (vI x3), some (vI x4)] [] S Q := by
  refine Ev.iinc (v := (x3 + 1)) (ls' := [some (vR 1 0), some (vR 8 j1), some (vI x2), some (vI (x3 + 1)), some (vI x4)]) dX1_unlikePairs_100 rfl rfl (by decide) rfl ?_
  refine Ev.goto (tgt := 12) dX1_unlikePairs_103 (by decide) ?_
  exact kn
theorem bkX1_unlikePairs_106 {d : Nat} {S : hs_T} {Q : Option av_T → hs_T → Prop} {x2 x3 : Int32} {j1 : Nat} {o4 : Option av_T} (hq : Q (some (vI x2)) S) : Ev d mX1_unlikePairs 106 [some (vR 1 0), some (vR 8 j1), some (vI x2), some (vI x3), o4] [] S Q := by
  refine Ev.iload_n dX1_unlikePairs_106 rfl rfl ?_
  exact Ev.iret dX1_unlikePairs_107 rfl rfl hq
/-! EightWires$Gaps.measure(LEightWires$Trace;IIII)V -/
theorem bkX2_measure_0 {d : Nat} {S : hs_T} {Q : Option av_T → hs_T → Prop} {x2 x3 x4 x5 : Int32} {j1 : Nat} {o6 o7 o8 o9 o10 : Option av_T} (kn : Ev d mX2_measure 39 [some (vR 2 0), some (vR 8 j1), some (vI x2), some (vI x3), some (vI x4), some (vI x5), some (vI (-4)), some (vI 0), some (vI 1), o9, o10] [] (sk_ (sk_ (sk_ (sk_ (sk_ S 2 0 (upd (S.1 2 0) 0 (-4))) 2 0 (upd ((sk_ S 2 0 (upd (S.1 2 0) 0 (-4))).1 2 0) 1 (-4))) 2 0 (upd ((sk_ (sk_ S 2 0 (upd (S.1 2 0) 0 (-4))) 2 0 (upd ((sk_ S 2 0 (upd (S.1 2 0) 0 (-4))).1 2 0) 1 (-4))).1 2 0) 2 (-4))) 2 0 (upd ((sk_ (sk_ (sk_ S 2 0 (upd (S.1 2 0) 0 (-4))) 2 0 (upd ((sk_ S 2 0 (upd (S.1 2 0) 0 (-4))).1 2 0) 1 (-4))) 2 0 (upd ((sk_ (sk_ S 2 0 (upd (S.1 2 0) 0 (-4))) 2 0 (upd ((sk_ S 2 0 (upd (S.1 2 0) 0 (-4))).1 2 0) 1 (-4))).1 2 0) 2 (-4))).1 2 0) 3 (-4))) 2 0 (upd ((sk_ (sk_ (sk_ (sk_ S 2 0 (upd (S.1 2 0) 0 (-4))) 2 0 (upd ((sk_ S 2 0 (upd (S.1 2 0) 0 (-4))).1 2 0) 1 (-4))) 2 0 (upd ((sk_ (sk_ S 2 0 (upd (S.1 2 0) 0 (-4))) 2 0 (upd ((sk_ S 2 0 (upd (S.1 2 0) 0 (-4))).1 2 0) 1 (-4))).1 2 0) 2 (-4))) 2 0 (upd ((sk_ (sk_ (sk_ S 2 0 (upd (S.1 2 0) 0 (-4))) 2 0 (upd ((sk_ S 2 0 (upd (S.1 2 0) 0 (-4))).1 2 0) 1 (-4))) 2 0 (upd ((sk_ (sk_ S 2 0 (upd (S.1 2 0) 0 (-4))) 2 0 (upd ((sk_ S 2 0 (upd (S.1 2 0) 0 (-4))).1 2 0) 1 (-4))).1 2 0) 2 (-4))).1 2 0) 3 (-4))).1 2 0) 4 0)) Q) : Ev d mX2_measure 0 [some (vR 2 0), some (vR 8 j1), some (vI x2), some (vI x3), some (vI x4), some (vI x5), o6, o7, o8, o9, o10] [] S Q := by
  refine Ev.aload_n dX2_measure_0 rfl rfl ?_
  refine Ev.bipush (v := (-4)) dX2_measure_1 (by decide) ?_
  refine Ev.put okX2 (by decide) fl_X2_9 pz_2_0 (by decide) rfl rfl rfl rfl dX2_measure_3 ?_
  refine Ev.aload_n dX2_measure_6 rfl rfl ?_
  refine Ev.bipush (v := (-4)) dX2_measure_7 (by decide) ?_
  refine Ev.put okX2 (by decide) fl_X2_15 pz_2_0 (by decide) rfl rfl rfl rfl dX2_measure_9 ?_
  refine Ev.aload_n dX2_measure_12 rfl rfl ?_
  refine Ev.bipush (v := (-4)) dX2_measure_13 (by decide) ?_
  refine Ev.put okX2 (by decide) fl_X2_18 pz_2_0 (by decide) rfl rfl rfl rfl dX2_measure_15 ?_
  refine Ev.aload_n dX2_measure_18 rfl rfl ?_
  refine Ev.bipush (v := (-4)) dX2_measure_19 (by decide) ?_
  refine Ev.put okX2 (by decide) fl_X2_21 pz_2_0 (by decide) rfl rfl rfl rfl dX2_measure_21 ?_
  refine Ev.aload_n dX2_measure_24 rfl rfl ?_
  refine Ev.iconst (v := 0) dX2_measure_25 (by decide) ?_
  refine Ev.put okX2 (by decide) fl_X2_24 pz_2_0 (by decide) rfl rfl rfl rfl dX2_measure_26 ?_
  refine Ev.bipush (v := (-4)) dX2_measure_29 (by decide) ?_
  refine Ev.istore (ls' := [some (vR 2 0), some (vR 8 j1), some (vI x2), some (vI x3), some (vI x4), some (vI x5), some (vI (-4)), o7, o8, o9, o10]) dX2_measure_31 (by decide) rfl ?_
  refine Ev.iconst (v := 0) dX2_measure_33 (by decide) ?_
  refine Ev.istore (ls' := [some (vR 2 0), some (vR 8 j1), some (vI x2), some (vI x3), some (vI x4), some (vI x5), some (vI (-4)), some (vI 0), o8, o9, o10]) dX2_measure_34 (by decide) rfl ?_
  refine Ev.iconst (v := 1) dX2_measure_36 (by decide) ?_
  refine Ev.istore (ls' := [some (vR 2 0), some (vR 8 j1), some (vI x2), some (vI x3), some (vI x4), some (vI x5), some (vI (-4)), some (vI 0), some (vI 1), o9, o10]) dX2_measure_37 (by decide) rfl ?_
  exact kn
theorem bkX2_measure_39 {d : Nat} {S : hs_T} {Q : Option av_T → hs_T → Prop} {x2 x3 x4 x5 x6 x7 x8 : Int32} {j1 : Nat} {o9 o10 : Option av_T} (hjj1 : j1 < 4) (kt : (S.1 8 j1 1) ≤ x8 → Ev d mX2_measure 192 [some (vR 2 0), some (vR 8 j1), some (vI x2), some (vI x3), some (vI x4), some (vI x5), some (vI x6), some (vI x7), some (vI x8), o9, o10] [] S Q) (kf : ¬ (S.1 8 j1 1) ≤ x8 → Ev d mX2_measure 48 [some (vR 2 0), some (vR 8 j1), some (vI x2), some (vI x3), some (vI x4), some (vI x5), some (vI x6), some (vI x7), some (vI x8), o9, o10] [] S Q) : Ev d mX2_measure 39 [some (vR 2 0), some (vR 8 j1), some (vI x2), some (vI x3), some (vI x4), some (vI x5), some (vI x6), some (vI x7), some (vI x8), o9, o10] [] S Q := by
  refine Ev.iload dX2_measure_39 rfl ?_
  refine Ev.aload_n dX2_measure_41 rfl rfl ?_
  refine Ev.get (v := vI (S.1 8 j1 1)) okX8 (by decide) fl_X2_27 (pl8 hjj1) (ff_8_1 _ _) dX2_measure_42 ?_
  exact Ev.icmp_ge (tgt := 192) dX2_measure_45 (by decide) kt kf
theorem bkX2_measure_48 {d : Nat} {S : hs_T} {Q : Option av_T → hs_T → Prop} {P : Int32 → hs_T → Prop} {x2 x3 x4 x5 x6 x7 x8 : Int32} {j1 : Nat} {o9 o10 : Option av_T} (hjj1 : j1 < 4) (hC : Ci d mX8_changes [vR 8 j1, vI x3, vI x8] S P) (kk : ∀ v S', P v S' → Ev (d + 1) mX2_measure 55 [some (vR 2 0), some (vR 8 j1), some (vI x2), some (vI x3), some (vI x4), some (vI x5), some (vI x6), some (vI x7), some (vI x8), o9, o10] [vI v] S' Q) : Ev (d + 1) mX2_measure 48 [some (vR 2 0), some (vR 8 j1), some (vI x2), some (vI x3), some (vI x4), some (vI x5), some (vI x6), some (vI x7), some (vI x8), o9, o10] [] S Q := by
  refine Ev.aload_n dX2_measure_48 rfl rfl ?_
  refine Ev.iload_n dX2_measure_49 rfl rfl ?_
  refine Ev.iload dX2_measure_50 rfl ?_
  exact Ev.callV (as := [vI x3, vI x8]) (rest := []) okX8_changes in_X8_changes ml_X2_32 rfl (Nat.le_of_ble_eq_true rfl) (pl8 hjj1) (by decide) rfl rfl dX2_measure_52 hC (fun r S' h => by obtain ⟨v, rfl, h⟩ := h; exact kk v S' h)
theorem bkX2_measure_55 {d : Nat} {S : hs_T} {Q : Option av_T → hs_T → Prop} {x2 x3 x4 x5 x6 x7 x8 y0 : Int32} {j1 : Nat} {o9 o10 : Option av_T} (kt : y0 = 0 → Ev d mX2_measure 63 [some (vR 2 0), some (vR 8 j1), some (vI x2), some (vI x3), some (vI x4), some (vI x5), some (vI x6), some (vI x7), some (vI x8), o9, o10] [] S Q) (kf : ¬ y0 = 0 → Ev d mX2_measure 58 [some (vR 2 0), some (vR 8 j1), some (vI x2), some (vI x3), some (vI x4), some (vI x5), some (vI x6), some (vI x7), some (vI x8), o9, o10] [] S Q) : Ev d mX2_measure 55 [some (vR 2 0), some (vR 8 j1), some (vI x2), some (vI x3), some (vI x4), some (vI x5), some (vI x6), some (vI x7), some (vI x8), o9, o10] [vI y0] S Q := by
  exact Ev.if_eq (tgt := 63) dX2_measure_55 (by decide) kt kf
theorem bkX2_measure_58 {d : Nat} {S : hs_T} {Q : Option av_T → hs_T → Prop} {x2 x3 x4 x5 x6 x7 x8 : Int32} {j1 : Nat} {o9 o10 : Option av_T} (kn : Ev d mX2_measure 65 [some (vR 2 0), some (vR 8 j1), some (vI x2), some (vI x3), some (vI x4), some (vI x5), some (vI x6), some (vI x7), some (vI x8), o9, o10] [vI x8] S Q) : Ev d mX2_measure 58 [some (vR 2 0), some (vR 8 j1), some (vI x2), some (vI x3), some (vI x4), some (vI x5), some (vI x6), some (vI x7), some (vI x8), o9, o10] [] S Q := by
  refine Ev.iload dX2_measure_58 rfl ?_
  refine Ev.goto (tgt := 65) dX2_measure_60 (by decide) ?_
  exact kn
theorem bkX2_measure_63 {d : Nat} {S : hs_T} {Q : Option av_T → hs_T → Prop} {x2 x3 x4 x5 x6 x7 x8 : Int32} {j1 : Nat} {o9 o10 : Option av_T} (kn : Ev d mX2_measure 65 [some (vR 2 0), some (vR 8 j1), some (vI x2), some (vI x3), some (vI x4), some (vI x5), some (vI x6), some (vI x7), some (vI x8), o9, o10] [vI x6] S Q) : Ev d mX2_measure 63 [some (vR 2 0), some (vR 8 j1), some (vI x2), some (vI x3), some (vI x4), some (vI x5), some (vI x6), some (vI x7), some (vI x8), o9, o10] [] S Q := by
  refine Ev.iload dX2_measure_63 rfl ?_
  exact kn
theorem bkX2_measure_65 {d : Nat} {S : hs_T} {Q : Option av_T → hs_T → Prop} {x2 x3 x4 x5 x6 x7 x8 y0 : Int32} {j1 : Nat} {o9 o10 : Option av_T} (kt : x7 ≤ x8 → Ev d mX2_measure 79 [some (vR 2 0), some (vR 8 j1), some (vI x2), some (vI x3), some (vI x4), some (vI x5), some (vI y0), some (vI x7), some (vI x8), o9, o10] [] S Q) (kf : ¬ x7 ≤ x8 → Ev d mX2_measure 74 [some (vR 2 0), some (vR 8 j1), some (vI x2), some (vI x3), some (vI x4), some (vI x5), some (vI y0), some (vI x7), some (vI x8), o9, o10] [] S Q) : Ev d mX2_measure 65 [some (vR 2 0), some (vR 8 j1), some (vI x2), some (vI x3), some (vI x4), some (vI x5), some (vI x6), some (vI x7), some (vI x8), o9, o10] [vI y0] S Q := by
  refine Ev.istore (ls' := [some (vR 2 0), some (vR 8 j1), some (vI x2), some (vI x3), some (vI x4), some (vI x5), some (vI y0), some (vI x7), some (vI x8), o9, o10]) dX2_measure_65 (by decide) rfl ?_
  refine Ev.iload dX2_measure_67 rfl ?_
  refine Ev.iload dX2_measure_69 rfl ?_
  exact Ev.icmp_le (tgt := 79) dX2_measure_71 (by decide) kt kf
theorem bkX2_measure_74 {d : Nat} {S : hs_T} {Q : Option av_T → hs_T → Prop} {x2 x3 x4 x5 x6 x7 x8 : Int32} {j1 : Nat} {o9 o10 : Option av_T} (kn : Ev d mX2_measure 88 [some (vR 2 0), some (vR 8 j1), some (vI x2), some (vI x3), some (vI x4), some (vI x5), some (vI x6), some (vI x7), some (vI x8), o9, o10] [vI x7] S Q) : Ev d mX2_measure 74 [some (vR 2 0), some (vR 8 j1), some (vI x2), some (vI x3), some (vI x4), some (vI x5), some (vI x6), some (vI x7), some (vI x8), o9, o10] [] S Q := by
  refine Ev.iload dX2_measure_74 rfl ?_
  refine Ev.goto (tgt := 88) dX2_measure_76 (by decide) ?_
  exact kn
theorem bkX2_measure_79 {d : Nat} {S : hs_T} {Q : Option av_T → hs_T → Prop} {P : Int32 → hs_T → Prop} {x2 x3 x4 x5 x6 x7 x8 : Int32} {j1 : Nat} {o9 o10 : Option av_T} (hC : Ci d mX2_firstChange [vR 8 j1, vI x3, vI (x8 + 1)] S P) (kk : ∀ v S', P v S' → Ev (d + 1) mX2_measure 88 [some (vR 2 0), some (vR 8 j1), some (vI x2), some (vI x3), some (vI x4), some (vI x5), some (vI x6), some (vI x7), some (vI x8), o9, o10] [vI v] S' Q) : Ev (d + 1) mX2_measure 79 [some (vR 2 0), some (vR 8 j1), some (vI x2), some (vI x3), some (vI x4), some (vI x5), some (vI x6), some (vI x7), some (vI x8), o9, o10] [] S Q := by
  refine Ev.aload_n dX2_measure_79 rfl rfl ?_
  refine Ev.iload_n dX2_measure_80 rfl rfl ?_
  refine Ev.iload dX2_measure_81 rfl ?_
  refine Ev.iconst (v := 1) dX2_measure_83 (by decide) ?_
  refine Ev.iadd dX2_measure_84 ?_
  exact Ev.callS (as := [vR 8 j1, vI x3, vI (x8 + 1)]) (rest := []) okX2_firstChange stX2_firstChange ml_X2_36 rfl (Nat.le_of_ble_eq_true rfl) rfl dX2_measure_85 hC (fun r S' h => by obtain ⟨v, rfl, h⟩ := h; exact kk v S' h)
theorem bkX2_measure_88 {d : Nat} {S : hs_T} {Q : Option av_T → hs_T → Prop} {P : Int32 → hs_T → Prop} {x2 x3 x4 x5 x6 x7 x8 y0 : Int32} {j1 : Nat} {o9 o10 : Option av_T} (hjj1 : j1 < 4) (hC : Ci d mX8_rises [vR 8 j1, vI x2, vI x8] S P) (kk : ∀ v S', P v S' → Ev (d + 1) mX2_measure 97 [some (vR 2 0), some (vR 8 j1), some (vI x2), some (vI x3), some (vI x4), some (vI x5), some (vI x6), some (vI y0), some (vI x8), o9, o10] [vI v] S' Q) : Ev (d + 1) mX2_measure 88 [some (vR 2 0), some (vR 8 j1), some (vI x2), some (vI x3), some (vI x4), some (vI x5), some (vI x6), some (vI x7), some (vI x8), o9, o10] [vI y0] S Q := by
  refine Ev.istore (ls' := [some (vR 2 0), some (vR 8 j1), some (vI x2), some (vI x3), some (vI x4), some (vI x5), some (vI x6), some (vI y0), some (vI x8), o9, o10]) dX2_measure_88 (by decide) rfl ?_
  refine Ev.aload_n dX2_measure_90 rfl rfl ?_
  refine Ev.iload_n dX2_measure_91 rfl rfl ?_
  refine Ev.iload dX2_measure_92 rfl ?_
  exact Ev.callV (as := [vI x2, vI x8]) (rest := []) okX8_rises in_X8_rises ml_X2_40 rfl (Nat.le_of_ble_eq_true rfl) (pl8 hjj1) (by decide) rfl rfl dX2_measure_94 hC (fun r S' h => by obtain ⟨v, rfl, h⟩ := h; exact kk v S' h)
theorem bkX2_measure_97 {d : Nat} {S : hs_T} {Q : Option av_T → hs_T → Prop} {x2 x3 x4 x5 x6 x7 x8 y0 : Int32} {j1 : Nat} {o9 o10 : Option av_T} (kt : y0 = 0 → Ev d mX2_measure 186 [some (vR 2 0), some (vR 8 j1), some (vI x2), some (vI x3), some (vI x4), some (vI x5), some (vI x6), some (vI x7), some (vI x8), o9, o10] [] S Q) (kf : ¬ y0 = 0 → Ev d mX2_measure 100 [some (vR 2 0), some (vR 8 j1), some (vI x2), some (vI x3), some (vI x4), some (vI x5), some (vI x6), some (vI x7), some (vI x8), o9, o10] [] S Q) : Ev d mX2_measure 97 [some (vR 2 0), some (vR 8 j1), some (vI x2), some (vI x3), some (vI x4), some (vI x5), some (vI x6), some (vI x7), some (vI x8), o9, o10] [vI y0] S Q := by
  exact Ev.if_eq (tgt := 186) dX2_measure_97 (by decide) kt kf
theorem bkX2_measure_100 {d : Nat} {S : hs_T} {Q : Option av_T → hs_T → Prop} {x2 x3 x4 x5 x6 x7 x8 : Int32} {j1 : Nat} {o9 o10 : Option av_T} (kt : 0 ≤ x6 → Ev d mX2_measure 110 [some (vR 2 0), some (vR 8 j1), some (vI x2), some (vI x3), some (vI x4), some (vI x5), some (vI x6), some (vI x7), some (vI x8), o9, o10] [] S Q) (kf : ¬ 0 ≤ x6 → Ev d mX2_measure 105 [some (vR 2 0), some (vR 8 j1), some (vI x2), some (vI x3), some (vI x4), some (vI x5), some (vI x6), some (vI x7), some (vI x8), o9, o10] [] S Q) : Ev d mX2_measure 100 [some (vR 2 0), some (vR 8 j1), some (vI x2), some (vI x3), some (vI x4), some (vI x5), some (vI x6), some (vI x7), some (vI x8), o9, o10] [] S Q := by
  refine Ev.iload dX2_measure_100 rfl ?_
  exact Ev.if_ge (tgt := 110) dX2_measure_102 (by decide) kt kf
theorem bkX2_measure_105 {d : Nat} {S : hs_T} {Q : Option av_T → hs_T → Prop} {x2 x3 x4 x5 x6 x7 x8 : Int32} {j1 : Nat} {o9 o10 : Option av_T} (kn : Ev d mX2_measure 115 [some (vR 2 0), some (vR 8 j1), some (vI x2), some (vI x3), some (vI x4), some (vI x5), some (vI x6), some (vI x7), some (vI x8), o9, o10] [vI (-4)] S Q) : Ev d mX2_measure 105 [some (vR 2 0), some (vR 8 j1), some (vI x2), some (vI x3), some (vI x4), some (vI x5), some (vI x6), some (vI x7), some (vI x8), o9, o10] [] S Q := by
  refine Ev.bipush (v := (-4)) dX2_measure_105 (by decide) ?_
  refine Ev.goto (tgt := 115) dX2_measure_107 (by decide) ?_
  exact kn
theorem bkX2_measure_110 {d : Nat} {S : hs_T} {Q : Option av_T → hs_T → Prop} {x2 x3 x4 x5 x6 x7 x8 : Int32} {j1 : Nat} {o9 o10 : Option av_T} (kn : Ev d mX2_measure 115 [some (vR 2 0), some (vR 8 j1), some (vI x2), some (vI x3), some (vI x4), some (vI x5), some (vI x6), some (vI x7), some (vI x8), o9, o10] [vI (x8 - x6)] S Q) : Ev d mX2_measure 110 [some (vR 2 0), some (vR 8 j1), some (vI x2), some (vI x3), some (vI x4), some (vI x5), some (vI x6), some (vI x7), some (vI x8), o9, o10] [] S Q := by
  refine Ev.iload dX2_measure_110 rfl ?_
  refine Ev.iload dX2_measure_112 rfl ?_
  refine Ev.isub dX2_measure_114 ?_
  exact kn
theorem bkX2_measure_115 {d : Nat} {S : hs_T} {Q : Option av_T → hs_T → Prop} {x2 x3 x4 x5 x6 x7 x8 y0 : Int32} {j1 : Nat} {o9 o10 : Option av_T} (hjj1 : j1 < 4) (kt : (S.1 8 j1 1) ≤ x7 → Ev d mX2_measure 134 [some (vR 2 0), some (vR 8 j1), some (vI x2), some (vI x3), some (vI x4), some (vI x5), some (vI x6), some (vI x7), some (vI x8), some (vI y0), o10] [] S Q) (kf : ¬ (S.1 8 j1 1) ≤ x7 → Ev d mX2_measure 126 [some (vR 2 0), some (vR 8 j1), some (vI x2), some (vI x3), some (vI x4), some (vI x5), some (vI x6), some (vI x7), some (vI x8), some (vI y0), o10] [] S Q) : Ev d mX2_measure 115 [some (vR 2 0), some (vR 8 j1), some (vI x2), some (vI x3), some (vI x4), some (vI x5), some (vI x6), some (vI x7), some (vI x8), o9, o10] [vI y0] S Q := by
  refine Ev.istore (ls' := [some (vR 2 0), some (vR 8 j1), some (vI x2), some (vI x3), some (vI x4), some (vI x5), some (vI x6), some (vI x7), some (vI x8), some (vI y0), o10]) dX2_measure_115 (by decide) rfl ?_
  refine Ev.iload dX2_measure_117 rfl ?_
  refine Ev.aload_n dX2_measure_119 rfl rfl ?_
  refine Ev.get (v := vI (S.1 8 j1 1)) okX8 (by decide) fl_X2_27 (pl8 hjj1) (ff_8_1 _ _) dX2_measure_120 ?_
  exact Ev.icmp_ge (tgt := 134) dX2_measure_123 (by decide) kt kf
theorem bkX2_measure_126 {d : Nat} {S : hs_T} {Q : Option av_T → hs_T → Prop} {x2 x3 x4 x5 x6 x7 x8 x9 : Int32} {j1 : Nat} {o10 : Option av_T} (kn : Ev d mX2_measure 136 [some (vR 2 0), some (vR 8 j1), some (vI x2), some (vI x3), some (vI x4), some (vI x5), some (vI x6), some (vI x7), some (vI x8), some (vI x9), o10] [vI (x7 - x8)] S Q) : Ev d mX2_measure 126 [some (vR 2 0), some (vR 8 j1), some (vI x2), some (vI x3), some (vI x4), some (vI x5), some (vI x6), some (vI x7), some (vI x8), some (vI x9), o10] [] S Q := by
  refine Ev.iload dX2_measure_126 rfl ?_
  refine Ev.iload dX2_measure_128 rfl ?_
  refine Ev.isub dX2_measure_130 ?_
  refine Ev.goto (tgt := 136) dX2_measure_131 (by decide) ?_
  exact kn
theorem bkX2_measure_134 {d : Nat} {S : hs_T} {Q : Option av_T → hs_T → Prop} {x2 x3 x4 x5 x6 x7 x8 x9 : Int32} {j1 : Nat} {o10 : Option av_T} (kn : Ev d mX2_measure 136 [some (vR 2 0), some (vR 8 j1), some (vI x2), some (vI x3), some (vI x4), some (vI x5), some (vI x6), some (vI x7), some (vI x8), some (vI x9), o10] [vI (-4)] S Q) : Ev d mX2_measure 134 [some (vR 2 0), some (vR 8 j1), some (vI x2), some (vI x3), some (vI x4), some (vI x5), some (vI x6), some (vI x7), some (vI x8), some (vI x9), o10] [] S Q := by
  refine Ev.bipush (v := (-4)) dX2_measure_134 (by decide) ?_
  exact kn
theorem bkX2_measure_136 {d : Nat} {S : hs_T} {Q : Option av_T → hs_T → Prop} {P : hs_T → Prop} {x2 x3 x4 x5 x6 x7 x8 x9 y0 : Int32} {j1 : Nat} {o10 : Option av_T} (hC : Cv d mX2_note [vR 2 0, vI x8, vI x9, vI y0] S P) (kk : ∀ S', P S' → Ev (d + 1) mX2_measure 148 [some (vR 2 0), some (vR 8 j1), some (vI x2), some (vI x3), some (vI x4), some (vI x5), some (vI x6), some (vI x7), some (vI x8), some (vI x9), some (vI y0)] [] S' Q) : Ev (d + 1) mX2_measure 136 [some (vR 2 0), some (vR 8 j1), some (vI x2), some (vI x3), some (vI x4), some (vI x5), some (vI x6), some (vI x7), some (vI x8), some (vI x9), o10] [vI y0] S Q := by
  refine Ev.istore (ls' := [some (vR 2 0), some (vR 8 j1), some (vI x2), some (vI x3), some (vI x4), some (vI x5), some (vI x6), some (vI x7), some (vI x8), some (vI x9), some (vI y0)]) dX2_measure_136 (by decide) rfl ?_
  refine Ev.aload_n dX2_measure_138 rfl rfl ?_
  refine Ev.iload dX2_measure_139 rfl ?_
  refine Ev.iload dX2_measure_141 rfl ?_
  refine Ev.iload dX2_measure_143 rfl ?_
  exact Ev.callV (as := [vI x8, vI x9, vI y0]) (rest := []) okX2_note in_X2_note ml_X2_43 rfl (Nat.le_of_ble_eq_true rfl) pz_2_0 (by decide) rfl rfl dX2_measure_145 hC (fun r S' h => by obtain ⟨rfl, h⟩ := h; exact kk S' h)
theorem bkX2_measure_148 {d : Nat} {S : hs_T} {Q : Option av_T → hs_T → Prop} {x2 x3 x4 x5 x6 x7 x8 x9 x10 : Int32} {j1 : Nat} (kt : x9 < 0 → Ev d mX2_measure 165 [some (vR 2 0), some (vR 8 j1), some (vI x2), some (vI x3), some (vI x4), some (vI x5), some (vI x6), some (vI x7), some (vI x8), some (vI x9), some (vI x10)] [vI (S.1 2 0 4), vR 2 0] S Q) (kf : ¬ x9 < 0 → Ev d mX2_measure 158 [some (vR 2 0), some (vR 8 j1), some (vI x2), some (vI x3), some (vI x4), some (vI x5), some (vI x6), some (vI x7), some (vI x8), some (vI x9), some (vI x10)] [vI (S.1 2 0 4), vR 2 0] S Q) : Ev d mX2_measure 148 [some (vR 2 0), some (vR 8 j1), some (vI x2), some (vI x3), some (vI x4), some (vI x5), some (vI x6), some (vI x7), some (vI x8), some (vI x9), some (vI x10)] [] S Q := by
  refine Ev.aload_n dX2_measure_148 rfl rfl ?_
  refine Ev.dup dX2_measure_149 rfl ?_
  refine Ev.get (v := vI (S.1 2 0 4)) okX2 (by decide) fl_X2_24 pz_2_0 (ff_2_4 _ _) dX2_measure_150 ?_
  refine Ev.iload dX2_measure_153 rfl ?_
  exact Ev.if_lt (tgt := 165) dX2_measure_155 (by decide) kt kf
theorem bkX2_measure_158 {d : Nat} {S : hs_T} {Q : Option av_T → hs_T → Prop} {x2 x3 x4 x5 x6 x7 x8 x9 x10 y0 : Int32} {j1 : Nat} (kt : x9 < x4 → Ev d mX2_measure 177 [some (vR 2 0), some (vR 8 j1), some (vI x2), some (vI x3), some (vI x4), some (vI x5), some (vI x6), some (vI x7), some (vI x8), some (vI x9), some (vI x10)] [vI y0, vR 2 0] S Q) (kf : ¬ x9 < x4 → Ev d mX2_measure 165 [some (vR 2 0), some (vR 8 j1), some (vI x2), some (vI x3), some (vI x4), some (vI x5), some (vI x6), some (vI x7), some (vI x8), some (vI x9), some (vI x10)] [vI y0, vR 2 0] S Q) : Ev d mX2_measure 158 [some (vR 2 0), some (vR 8 j1), some (vI x2), some (vI x3), some (vI x4), some (vI x5), some (vI x6), some (vI x7), some (vI x8), some (vI x9), some (vI x10)] [vI y0, vR 2 0] S Q := by
  refine Ev.iload dX2_measure_158 rfl ?_
  refine Ev.iload dX2_measure_160 rfl ?_
  exact Ev.icmp_lt (tgt := 177) dX2_measure_162 (by decide) kt kf
theorem bkX2_measure_165 {d : Nat} {S : hs_T} {Q : Option av_T → hs_T → Prop} {x2 x3 x4 x5 x6 x7 x8 x9 x10 y0 : Int32} {j1 : Nat} (kt : x10 < 0 → Ev d mX2_measure 181 [some (vR 2 0), some (vR 8 j1), some (vI x2), some (vI x3), some (vI x4), some (vI x5), some (vI x6), some (vI x7), some (vI x8), some (vI x9), some (vI x10)] [vI y0, vR 2 0] S Q) (kf : ¬ x10 < 0 → Ev d mX2_measure 170 [some (vR 2 0), some (vR 8 j1), some (vI x2), some (vI x3), some (vI x4), some (vI x5), some (vI x6), some (vI x7), some (vI x8), some (vI x9), some (vI x10)] [vI y0, vR 2 0] S Q) : Ev d mX2_measure 165 [some (vR 2 0), some (vR 8 j1), some (vI x2), some (vI x3), some (vI x4), some (vI x5), some (vI x6), some (vI x7), some (vI x8), some (vI x9), some (vI x10)] [vI y0, vR 2 0] S Q := by
  refine Ev.iload dX2_measure_165 rfl ?_
  exact Ev.if_lt (tgt := 181) dX2_measure_167 (by decide) kt kf
theorem bkX2_measure_170 {d : Nat} {S : hs_T} {Q : Option av_T → hs_T → Prop} {x2 x3 x4 x5 x6 x7 x8 x9 x10 y0 : Int32} {j1 : Nat} (kt : x5 ≤ x10 → Ev d mX2_measure 181 [some (vR 2 0), some (vR 8 j1), some (vI x2), some (vI x3), some (vI x4), some (vI x5), some (vI x6), some (vI x7), some (vI x8), some (vI x9), some (vI x10)] [vI y0, vR 2 0] S Q) (kf : ¬ x5 ≤ x10 → Ev d mX2_measure 177 [some (vR 2 0), some (vR 8 j1), some (vI x2), some (vI x3), some (vI x4), some (vI x5), some (vI x6), some (vI x7), some (vI x8), some (vI x9), some (vI x10)] [vI y0, vR 2 0] S Q) : Ev d mX2_measure 170 [some (vR 2 0), some (vR 8 j1), some (vI x2), some (vI x3), some (vI x4), some (vI x5), some (vI x6), some (vI x7), some (vI x8), some (vI x9), some (vI x10)] [vI y0, vR 2 0] S Q := by
  refine Ev.iload dX2_measure_170 rfl ?_
  refine Ev.iload dX2_measure_172 rfl ?_
  exact Ev.icmp_ge (tgt := 181) dX2_measure_174 (by decide) kt kf
theorem bkX2_measure_177 {d : Nat} {S : hs_T} {Q : Option av_T → hs_T → Prop} {x2 x3 x4 x5 x6 x7 x8 x9 x10 y0 : Int32} {j1 : Nat} (kn : Ev d mX2_measure 182 [some (vR 2 0), some (vR 8 j1), some (vI x2), some (vI x3), some (vI x4), some (vI x5), some (vI x6), some (vI x7), some (vI x8), some (vI x9), some (vI x10)] [vI 1, vI y0, vR 2 0] S Q) : Ev d mX2_measure 177 [some (vR 2 0), some (vR 8 j1), some (vI x2), some (vI x3), some (vI x4), some (vI x5), some (vI x6), some (vI x7), some (vI x8), some (vI x9), some (vI x10)] [vI y0, vR 2 0] S Q := by
  refine Ev.iconst (v := 1) dX2_measure_177 (by decide) ?_
  refine Ev.goto (tgt := 182) dX2_measure_178 (by decide) ?_
  exact kn
theorem bkX2_measure_181 {d : Nat} {S : hs_T} {Q : Option av_T → hs_T → Prop} {x2 x3 x4 x5 x6 x7 x8 x9 x10 y0 : Int32} {j1 : Nat} (kn : Ev d mX2_measure 182 [some (vR 2 0), some (vR 8 j1), some (vI x2), some (vI x3), some (vI x4), some (vI x5), some (vI x6), some (vI x7), some (vI x8), some (vI x9), some (vI x10)] [vI 0, vI y0, vR 2 0] S Q) : Ev d mX2_measure 181 [some (vR 2 0), some (vR 8 j1), some (vI x2), some (vI x3), some (vI x4), some (vI x5), some (vI x6), some (vI x7), some (vI x8), some (vI x9), some (vI x10)] [vI y0, vR 2 0] S Q := by
  refine Ev.iconst (v := 0) dX2_measure_181 (by decide) ?_
  exact kn
theorem bkX2_measure_182 {d : Nat} {S : hs_T} {Q : Option av_T → hs_T → Prop} {x2 x3 x4 x5 x6 x7 x8 x9 x10 y0 y1 : Int32} {j1 : Nat} (kn : Ev d mX2_measure 186 [some (vR 2 0), some (vR 8 j1), some (vI x2), some (vI x3), some (vI x4), some (vI x5), some (vI x6), some (vI x7), some (vI x8), some (vI x9), some (vI x10)] [] (sk_ S 2 0 (upd (S.1 2 0) 4 (y1 + y0))) Q) : Ev d mX2_measure 182 [some (vR 2 0), some (vR 8 j1), some (vI x2), some (vI x3), some (vI x4), some (vI x5), some (vI x6), some (vI x7), some (vI x8), some (vI x9), some (vI x10)] [vI y0, vI y1, vR 2 0] S Q := by
  refine Ev.iadd dX2_measure_182 ?_
  refine Ev.put okX2 (by decide) fl_X2_24 pz_2_0 (by decide) rfl rfl rfl rfl dX2_measure_183 ?_
  exact kn
theorem bkX2_measure_186 {d : Nat} {S : hs_T} {Q : Option av_T → hs_T → Prop} {x2 x3 x4 x5 x6 x7 x8 : Int32} {j1 : Nat} {o9 o10 : Option av_T} (kn : Ev d mX2_measure 39 [some (vR 2 0), some (vR 8 j1), some (vI x2), some (vI x3), some (vI x4), some (vI x5), some (vI x6), some (vI x7), some (vI (x8 + 1)), o9, o10] [] S Q) : Ev d mX2_measure 186 [some (vR 2 0), some (vR 8 j1), some (vI x2), some (vI x3), some (vI x4), some (vI x5), some (vI x6), some (vI x7), some (vI x8), o9, o10] [] S Q := by
  refine Ev.iinc (v := (x8 + 1)) (ls' := [some (vR 2 0), some (vR 8 j1), some (vI x2), some (vI x3), some (vI x4), some (vI x5), some (vI x6), some (vI x7), some (vI (x8 + 1)), o9, o10]) dX2_measure_186 rfl rfl (by decide) rfl ?_
  refine Ev.goto (tgt := 39) dX2_measure_189 (by decide) ?_
  exact kn
theorem bkX2_measure_192 {d : Nat} {S : hs_T} {Q : Option av_T → hs_T → Prop} {x2 x3 x4 x5 x6 x7 x8 : Int32} {j1 : Nat} {o9 o10 : Option av_T} (hq : Q none S) : Ev d mX2_measure 192 [some (vR 2 0), some (vR 8 j1), some (vI x2), some (vI x3), some (vI x4), some (vI x5), some (vI x6), some (vI x7), some (vI x8), o9, o10] [] S Q := by
  exact Ev.vret dX2_measure_192 rfl hq
/-! EightWires$Gaps.note(III)V -/
theorem bkX2_note_0 {d : Nat} {S : hs_T} {Q : Option av_T → hs_T → Prop} {x1 x2 x3 : Int32} (kt : x2 < 0 → Ev d mX2_note 29 [some (vR 2 0), some (vI x1), some (vI x2), some (vI x3)] [] S Q) (kf : ¬ x2 < 0 → Ev d mX2_note 4 [some (vR 2 0), some (vI x1), some (vI x2), some (vI x3)] [] S Q) : Ev d mX2_note 0 [some (vR 2 0), some (vI x1), some (vI x2), some (vI x3)] [] S Q := by
  refine Ev.iload_n dX2_note_0 rfl rfl ?_
  exact Ev.if_lt (tgt := 29) dX2_note_1 (by decide) kt kf
theorem bkX2_note_4 {d : Nat} {S : hs_T} {Q : Option av_T → hs_T → Prop} {x1 x2 x3 : Int32} (kt : (S.1 2 0 0) < 0 → Ev d mX2_note 19 [some (vR 2 0), some (vI x1), some (vI x2), some (vI x3)] [] S Q) (kf : ¬ (S.1 2 0 0) < 0 → Ev d mX2_note 11 [some (vR 2 0), some (vI x1), some (vI x2), some (vI x3)] [] S Q) : Ev d mX2_note 4 [some (vR 2 0), some (vI x1), some (vI x2), some (vI x3)] [] S Q := by
  refine Ev.aload_n dX2_note_4 rfl rfl ?_
  refine Ev.get (v := vI (S.1 2 0 0)) okX2 (by decide) fl_X2_9 pz_2_0 (ff_2_0 _ _) dX2_note_5 ?_
  exact Ev.if_lt (tgt := 19) dX2_note_8 (by decide) kt kf
theorem bkX2_note_11 {d : Nat} {S : hs_T} {Q : Option av_T → hs_T → Prop} {x1 x2 x3 : Int32} (kt : (S.1 2 0 0) ≤ x2 → Ev d mX2_note 29 [some (vR 2 0), some (vI x1), some (vI x2), some (vI x3)] [] S Q) (kf : ¬ (S.1 2 0 0) ≤ x2 → Ev d mX2_note 19 [some (vR 2 0), some (vI x1), some (vI x2), some (vI x3)] [] S Q) : Ev d mX2_note 11 [some (vR 2 0), some (vI x1), some (vI x2), some (vI x3)] [] S Q := by
  refine Ev.iload_n dX2_note_11 rfl rfl ?_
  refine Ev.aload_n dX2_note_12 rfl rfl ?_
  refine Ev.get (v := vI (S.1 2 0 0)) okX2 (by decide) fl_X2_9 pz_2_0 (ff_2_0 _ _) dX2_note_13 ?_
  exact Ev.icmp_ge (tgt := 29) dX2_note_16 (by decide) kt kf
theorem bkX2_note_19 {d : Nat} {S : hs_T} {Q : Option av_T → hs_T → Prop} {x1 x2 x3 : Int32} (kn : Ev d mX2_note 29 [some (vR 2 0), some (vI x1), some (vI x2), some (vI x3)] [] (sk_ (sk_ S 2 0 (upd (S.1 2 0) 0 x2)) 2 0 (upd ((sk_ S 2 0 (upd (S.1 2 0) 0 x2)).1 2 0) 1 x1)) Q) : Ev d mX2_note 19 [some (vR 2 0), some (vI x1), some (vI x2), some (vI x3)] [] S Q := by
  refine Ev.aload_n dX2_note_19 rfl rfl ?_
  refine Ev.iload_n dX2_note_20 rfl rfl ?_
  refine Ev.put okX2 (by decide) fl_X2_9 pz_2_0 (by decide) rfl rfl rfl rfl dX2_note_21 ?_
  refine Ev.aload_n dX2_note_24 rfl rfl ?_
  refine Ev.iload_n dX2_note_25 rfl rfl ?_
  refine Ev.put okX2 (by decide) fl_X2_15 pz_2_0 (by decide) rfl rfl rfl rfl dX2_note_26 ?_
  exact kn
theorem bkX2_note_29 {d : Nat} {S : hs_T} {Q : Option av_T → hs_T → Prop} {x1 x2 x3 : Int32} (kt : x3 < 0 → Ev d mX2_note 58 [some (vR 2 0), some (vI x1), some (vI x2), some (vI x3)] [] S Q) (kf : ¬ x3 < 0 → Ev d mX2_note 33 [some (vR 2 0), some (vI x1), some (vI x2), some (vI x3)] [] S Q) : Ev d mX2_note 29 [some (vR 2 0), some (vI x1), some (vI x2), some (vI x3)] [] S Q := by
  refine Ev.iload_n dX2_note_29 rfl rfl ?_
  exact Ev.if_lt (tgt := 58) dX2_note_30 (by decide) kt kf
theorem bkX2_note_33 {d : Nat} {S : hs_T} {Q : Option av_T → hs_T → Prop} {x1 x2 x3 : Int32} (kt : (S.1 2 0 2) < 0 → Ev d mX2_note 48 [some (vR 2 0), some (vI x1), some (vI x2), some (vI x3)] [] S Q) (kf : ¬ (S.1 2 0 2) < 0 → Ev d mX2_note 40 [some (vR 2 0), some (vI x1), some (vI x2), some (vI x3)] [] S Q) : Ev d mX2_note 33 [some (vR 2 0), some (vI x1), some (vI x2), some (vI x3)] [] S Q := by
  refine Ev.aload_n dX2_note_33 rfl rfl ?_
  refine Ev.get (v := vI (S.1 2 0 2)) okX2 (by decide) fl_X2_18 pz_2_0 (ff_2_2 _ _) dX2_note_34 ?_
  exact Ev.if_lt (tgt := 48) dX2_note_37 (by decide) kt kf
theorem bkX2_note_40 {d : Nat} {S : hs_T} {Q : Option av_T → hs_T → Prop} {x1 x2 x3 : Int32} (kt : (S.1 2 0 2) ≤ x3 → Ev d mX2_note 58 [some (vR 2 0), some (vI x1), some (vI x2), some (vI x3)] [] S Q) (kf : ¬ (S.1 2 0 2) ≤ x3 → Ev d mX2_note 48 [some (vR 2 0), some (vI x1), some (vI x2), some (vI x3)] [] S Q) : Ev d mX2_note 40 [some (vR 2 0), some (vI x1), some (vI x2), some (vI x3)] [] S Q := by
  refine Ev.iload_n dX2_note_40 rfl rfl ?_
  refine Ev.aload_n dX2_note_41 rfl rfl ?_
  refine Ev.get (v := vI (S.1 2 0 2)) okX2 (by decide) fl_X2_18 pz_2_0 (ff_2_2 _ _) dX2_note_42 ?_
  exact Ev.icmp_ge (tgt := 58) dX2_note_45 (by decide) kt kf
theorem bkX2_note_48 {d : Nat} {S : hs_T} {Q : Option av_T → hs_T → Prop} {x1 x2 x3 : Int32} (kn : Ev d mX2_note 58 [some (vR 2 0), some (vI x1), some (vI x2), some (vI x3)] [] (sk_ (sk_ S 2 0 (upd (S.1 2 0) 2 x3)) 2 0 (upd ((sk_ S 2 0 (upd (S.1 2 0) 2 x3)).1 2 0) 3 x1)) Q) : Ev d mX2_note 48 [some (vR 2 0), some (vI x1), some (vI x2), some (vI x3)] [] S Q := by
  refine Ev.aload_n dX2_note_48 rfl rfl ?_
  refine Ev.iload_n dX2_note_49 rfl rfl ?_
  refine Ev.put okX2 (by decide) fl_X2_18 pz_2_0 (by decide) rfl rfl rfl rfl dX2_note_50 ?_
  refine Ev.aload_n dX2_note_53 rfl rfl ?_
  refine Ev.iload_n dX2_note_54 rfl rfl ?_
  refine Ev.put okX2 (by decide) fl_X2_21 pz_2_0 (by decide) rfl rfl rfl rfl dX2_note_55 ?_
  exact kn
theorem bkX2_note_58 {d : Nat} {S : hs_T} {Q : Option av_T → hs_T → Prop} {x1 x2 x3 : Int32} (hq : Q none S) : Ev d mX2_note 58 [some (vR 2 0), some (vI x1), some (vI x2), some (vI x3)] [] S Q := by
  exact Ev.vret dX2_note_58 rfl hq
/-! EightWires$Gaps.firstChange(LEightWires$Trace;II)I -/
theorem bkX2_firstChange_0 {d : Nat} {S : hs_T} {Q : Option av_T → hs_T → Prop} {x1 x2 : Int32} {j0 : Nat} {o3 : Option av_T} (kn : Ev d mX2_firstChange 2 [some (vR 8 j0), some (vI x1), some (vI x2), some (vI x2)] [] S Q) : Ev d mX2_firstChange 0 [some (vR 8 j0), some (vI x1), some (vI x2), o3] [] S Q := by
  refine Ev.iload_n dX2_firstChange_0 rfl rfl ?_
  refine Ev.istore_n (ls' := [some (vR 8 j0), some (vI x1), some (vI x2), some (vI x2)]) dX2_firstChange_1 rfl (by decide) rfl ?_
  exact kn
theorem bkX2_firstChange_2 {d : Nat} {S : hs_T} {Q : Option av_T → hs_T → Prop} {x1 x2 x3 : Int32} {j0 : Nat} (hjj0 : j0 < 4) (kt : (S.1 8 j0 1) ≤ x3 → Ev d mX2_firstChange 27 [some (vR 8 j0), some (vI x1), some (vI x2), some (vI x3)] [] S Q) (kf : ¬ (S.1 8 j0 1) ≤ x3 → Ev d mX2_firstChange 10 [some (vR 8 j0), some (vI x1), some (vI x2), some (vI x3)] [] S Q) : Ev d mX2_firstChange 2 [some (vR 8 j0), some (vI x1), some (vI x2), some (vI x3)] [] S Q := by
  refine Ev.iload_n dX2_firstChange_2 rfl rfl ?_
  refine Ev.aload_n dX2_firstChange_3 rfl rfl ?_
  refine Ev.get (v := vI (S.1 8 j0 1)) okX8 (by decide) fl_X2_27 (pl8 hjj0) (ff_8_1 _ _) dX2_firstChange_4 ?_
  exact Ev.icmp_ge (tgt := 27) dX2_firstChange_7 (by decide) kt kf
theorem bkX2_firstChange_10 {d : Nat} {S : hs_T} {Q : Option av_T → hs_T → Prop} {P : Int32 → hs_T → Prop} {x1 x2 x3 : Int32} {j0 : Nat} (hjj0 : j0 < 4) (hC : Ci d mX8_changes [vR 8 j0, vI x1, vI x3] S P) (kk : ∀ v S', P v S' → Ev (d + 1) mX2_firstChange 16 [some (vR 8 j0), some (vI x1), some (vI x2), some (vI x3)] [vI v] S' Q) : Ev (d + 1) mX2_firstChange 10 [some (vR 8 j0), some (vI x1), some (vI x2), some (vI x3)] [] S Q := by
  refine Ev.aload_n dX2_firstChange_10 rfl rfl ?_
  refine Ev.iload_n dX2_firstChange_11 rfl rfl ?_
  refine Ev.iload_n dX2_firstChange_12 rfl rfl ?_
  exact Ev.callV (as := [vI x1, vI x3]) (rest := []) okX8_changes in_X8_changes ml_X2_32 rfl (Nat.le_of_ble_eq_true rfl) (pl8 hjj0) (by decide) rfl rfl dX2_firstChange_13 hC (fun r S' h => by obtain ⟨v, rfl, h⟩ := h; exact kk v S' h)
theorem bkX2_firstChange_16 {d : Nat} {S : hs_T} {Q : Option av_T → hs_T → Prop} {x1 x2 x3 y0 : Int32} {j0 : Nat} (kt : y0 = 0 → Ev d mX2_firstChange 21 [some (vR 8 j0), some (vI x1), some (vI x2), some (vI x3)] [] S Q) (kf : ¬ y0 = 0 → Ev d mX2_firstChange 19 [some (vR 8 j0), some (vI x1), some (vI x2), some (vI x3)] [] S Q) : Ev d mX2_firstChange 16 [some (vR 8 j0), some (vI x1), some (vI x2), some (vI x3)] [vI y0] S Q := by
  exact Ev.if_eq (tgt := 21) dX2_firstChange_16 (by decide) kt kf
theorem bkX2_firstChange_19 {d : Nat} {S : hs_T} {Q : Option av_T → hs_T → Prop} {x1 x2 x3 : Int32} {j0 : Nat} (hq : Q (some (vI x3)) S) : Ev d mX2_firstChange 19 [some (vR 8 j0), some (vI x1), some (vI x2), some (vI x3)] [] S Q := by
  refine Ev.iload_n dX2_firstChange_19 rfl rfl ?_
  exact Ev.iret dX2_firstChange_20 rfl rfl hq
theorem bkX2_firstChange_21 {d : Nat} {S : hs_T} {Q : Option av_T → hs_T → Prop} {x1 x2 x3 : Int32} {j0 : Nat} (kn : Ev d mX2_firstChange 2 [some (vR 8 j0), some (vI x1), some (vI x2), some (vI (x3 + 1))] [] S Q) : Ev d mX2_firstChange 21 [some (vR 8 j0), some (vI x1), some (vI x2), some (vI x3)] [] S Q := by
  refine Ev.iinc (v := (x3 + 1)) (ls' := [some (vR 8 j0), some (vI x1), some (vI x2), some (vI (x3 + 1))]) dX2_firstChange_21 rfl rfl (by decide) rfl ?_
  refine Ev.goto (tgt := 2) dX2_firstChange_24 (by decide) ?_
  exact kn
theorem bkX2_firstChange_27 {d : Nat} {S : hs_T} {Q : Option av_T → hs_T → Prop} {x1 x2 x3 : Int32} {j0 : Nat} (hjj0 : j0 < 4) (hq : Q (some (vI (S.1 8 j0 1))) S) : Ev d mX2_firstChange 27 [some (vR 8 j0), some (vI x1), some (vI x2), some (vI x3)] [] S Q := by
  refine Ev.aload_n dX2_firstChange_27 rfl rfl ?_
  refine Ev.get (v := vI (S.1 8 j0 1)) okX8 (by decide) fl_X2_27 (pl8 hjj0) (ff_8_1 _ _) dX2_firstChange_28 ?_
  exact Ev.iret dX2_firstChange_31 rfl rfl hq
/-! EightWires$Pulses.measure(LEightWires$Trace;III)V -/
theorem bkX3_measure_0 {d : Nat} {S : hs_T} {Q : Option av_T → hs_T → Prop} {x2 x3 x4 : Int32} {j1 : Nat} {o5 o6 : Option av_T} (kn : Ev d mX3_measure 40 [some (vR 3 0), some (vR 8 j1), some (vI x2), some (vI x3), some (vI x4), some (vI 0), some (vI 1)] [] (sk_ (sk_ (sk_ (sk_ (sk_ (sk_ S 3 0 (upd (S.1 3 0) 0 0)) 3 0 (upd ((sk_ S 3 0 (upd (S.1 3 0) 0 0)).1 3 0) 5 0)) 3 0 (upd ((sk_ (sk_ S 3 0 (upd (S.1 3 0) 0 0)) 3 0 (upd ((sk_ S 3 0 (upd (S.1 3 0) 0 0)).1 3 0) 5 0)).1 3 0) 1 (-4))) 3 0 (upd ((sk_ (sk_ (sk_ S 3 0 (upd (S.1 3 0) 0 0)) 3 0 (upd ((sk_ S 3 0 (upd (S.1 3 0) 0 0)).1 3 0) 5 0)) 3 0 (upd ((sk_ (sk_ S 3 0 (upd (S.1 3 0) 0 0)) 3 0 (upd ((sk_ S 3 0 (upd (S.1 3 0) 0 0)).1 3 0) 5 0)).1 3 0) 1 (-4))).1 3 0) 2 (-4))) 3 0 (upd ((sk_ (sk_ (sk_ (sk_ S 3 0 (upd (S.1 3 0) 0 0)) 3 0 (upd ((sk_ S 3 0 (upd (S.1 3 0) 0 0)).1 3 0) 5 0)) 3 0 (upd ((sk_ (sk_ S 3 0 (upd (S.1 3 0) 0 0)) 3 0 (upd ((sk_ S 3 0 (upd (S.1 3 0) 0 0)).1 3 0) 5 0)).1 3 0) 1 (-4))) 3 0 (upd ((sk_ (sk_ (sk_ S 3 0 (upd (S.1 3 0) 0 0)) 3 0 (upd ((sk_ S 3 0 (upd (S.1 3 0) 0 0)).1 3 0) 5 0)) 3 0 (upd ((sk_ (sk_ S 3 0 (upd (S.1 3 0) 0 0)) 3 0 (upd ((sk_ S 3 0 (upd (S.1 3 0) 0 0)).1 3 0) 5 0)).1 3 0) 1 (-4))).1 3 0) 2 (-4))).1 3 0) 3 (-4))) 3 0 (upd ((sk_ (sk_ (sk_ (sk_ (sk_ S 3 0 (upd (S.1 3 0) 0 0)) 3 0 (upd ((sk_ S 3 0 (upd (S.1 3 0) 0 0)).1 3 0) 5 0)) 3 0 (upd ((sk_ (sk_ S 3 0 (upd (S.1 3 0) 0 0)) 3 0 (upd ((sk_ S 3 0 (upd (S.1 3 0) 0 0)).1 3 0) 5 0)).1 3 0) 1 (-4))) 3 0 (upd ((sk_ (sk_ (sk_ S 3 0 (upd (S.1 3 0) 0 0)) 3 0 (upd ((sk_ S 3 0 (upd (S.1 3 0) 0 0)).1 3 0) 5 0)) 3 0 (upd ((sk_ (sk_ S 3 0 (upd (S.1 3 0) 0 0)) 3 0 (upd ((sk_ S 3 0 (upd (S.1 3 0) 0 0)).1 3 0) 5 0)).1 3 0) 1 (-4))).1 3 0) 2 (-4))) 3 0 (upd ((sk_ (sk_ (sk_ (sk_ S 3 0 (upd (S.1 3 0) 0 0)) 3 0 (upd ((sk_ S 3 0 (upd (S.1 3 0) 0 0)).1 3 0) 5 0)) 3 0 (upd ((sk_ (sk_ S 3 0 (upd (S.1 3 0) 0 0)) 3 0 (upd ((sk_ S 3 0 (upd (S.1 3 0) 0 0)).1 3 0) 5 0)).1 3 0) 1 (-4))) 3 0 (upd ((sk_ (sk_ (sk_ S 3 0 (upd (S.1 3 0) 0 0)) 3 0 (upd ((sk_ S 3 0 (upd (S.1 3 0) 0 0)).1 3 0) 5 0)) 3 0 (upd ((sk_ (sk_ S 3 0 (upd (S.1 3 0) 0 0)) 3 0 (upd ((sk_ S 3 0 (upd (S.1 3 0) 0 0)).1 3 0) 5 0)).1 3 0) 1 (-4))).1 3 0) 2 (-4))).1 3 0) 3 (-4))).1 3 0) 4 (-4))) Q) : Ev d mX3_measure 0 [some (vR 3 0), some (vR 8 j1), some (vI x2), some (vI x3), some (vI x4), o5, o6] [] S Q := by
  refine Ev.aload_n dX3_measure_0 rfl rfl ?_
  refine Ev.iconst (v := 0) dX3_measure_1 (by decide) ?_
  refine Ev.put okX3 (by decide) fl_X3_9 pz_3_0 (by decide) rfl rfl rfl rfl dX3_measure_2 ?_
  refine Ev.aload_n dX3_measure_5 rfl rfl ?_
  refine Ev.iconst (v := 0) dX3_measure_6 (by decide) ?_
  refine Ev.put okX3 (by decide) fl_X3_15 pz_3_0 (by decide) rfl rfl rfl rfl dX3_measure_7 ?_
  refine Ev.aload_n dX3_measure_10 rfl rfl ?_
  refine Ev.bipush (v := (-4)) dX3_measure_11 (by decide) ?_
  refine Ev.put okX3 (by decide) fl_X3_18 pz_3_0 (by decide) rfl rfl rfl rfl dX3_measure_13 ?_
  refine Ev.aload_n dX3_measure_16 rfl rfl ?_
  refine Ev.bipush (v := (-4)) dX3_measure_17 (by decide) ?_
  refine Ev.put okX3 (by decide) fl_X3_21 pz_3_0 (by decide) rfl rfl rfl rfl dX3_measure_19 ?_
  refine Ev.aload_n dX3_measure_22 rfl rfl ?_
  refine Ev.bipush (v := (-4)) dX3_measure_23 (by decide) ?_
  refine Ev.put okX3 (by decide) fl_X3_24 pz_3_0 (by decide) rfl rfl rfl rfl dX3_measure_25 ?_
  refine Ev.aload_n dX3_measure_28 rfl rfl ?_
  refine Ev.bipush (v := (-4)) dX3_measure_29 (by decide) ?_
  refine Ev.put okX3 (by decide) fl_X3_27 pz_3_0 (by decide) rfl rfl rfl rfl dX3_measure_31 ?_
  refine Ev.iconst (v := 0) dX3_measure_34 (by decide) ?_
  refine Ev.istore (ls' := [some (vR 3 0), some (vR 8 j1), some (vI x2), some (vI x3), some (vI x4), some (vI 0), o6]) dX3_measure_35 (by decide) rfl ?_
  refine Ev.iconst (v := 1) dX3_measure_37 (by decide) ?_
  refine Ev.istore (ls' := [some (vR 3 0), some (vR 8 j1), some (vI x2), some (vI x3), some (vI x4), some (vI 0), some (vI 1)]) dX3_measure_38 (by decide) rfl ?_
  exact kn
theorem bkX3_measure_40 {d : Nat} {S : hs_T} {Q : Option av_T → hs_T → Prop} {x2 x3 x4 x5 x6 : Int32} {j1 : Nat} (hjj1 : j1 < 4) (kt : (S.1 8 j1 1) ≤ x6 → Ev d mX3_measure 115 [some (vR 3 0), some (vR 8 j1), some (vI x2), some (vI x3), some (vI x4), some (vI x5), some (vI x6)] [] S Q) (kf : ¬ (S.1 8 j1 1) ≤ x6 → Ev d mX3_measure 49 [some (vR 3 0), some (vR 8 j1), some (vI x2), some (vI x3), some (vI x4), some (vI x5), some (vI x6)] [] S Q) : Ev d mX3_measure 40 [some (vR 3 0), some (vR 8 j1), some (vI x2), some (vI x3), some (vI x4), some (vI x5), some (vI x6)] [] S Q := by
  refine Ev.iload dX3_measure_40 rfl ?_
  refine Ev.aload_n dX3_measure_42 rfl rfl ?_
  refine Ev.get (v := vI (S.1 8 j1 1)) okX8 (by decide) fl_X3_30 (pl8 hjj1) (ff_8_1 _ _) dX3_measure_43 ?_
  exact Ev.icmp_ge (tgt := 115) dX3_measure_46 (by decide) kt kf
theorem bkX3_measure_49 {d : Nat} {S : hs_T} {Q : Option av_T → hs_T → Prop} {P : Int32 → hs_T → Prop} {x2 x3 x4 x5 x6 : Int32} {j1 : Nat} (hjj1 : j1 < 4) (hC : Ci d mX8_changes [vR 8 j1, vI x2, vI x6] S P) (kk : ∀ v S', P v S' → Ev (d + 1) mX3_measure 56 [some (vR 3 0), some (vR 8 j1), some (vI x2), some (vI x3), some (vI x4), some (vI x5), some (vI x6)] [vI v] S' Q) : Ev (d + 1) mX3_measure 49 [some (vR 3 0), some (vR 8 j1), some (vI x2), some (vI x3), some (vI x4), some (vI x5), some (vI x6)] [] S Q := by
  refine Ev.aload_n dX3_measure_49 rfl rfl ?_
  refine Ev.iload_n dX3_measure_50 rfl rfl ?_
  refine Ev.iload dX3_measure_51 rfl ?_
  exact Ev.callV (as := [vI x2, vI x6]) (rest := []) okX8_changes in_X8_changes ml_X3_35 rfl (Nat.le_of_ble_eq_true rfl) (pl8 hjj1) (by decide) rfl rfl dX3_measure_53 hC (fun r S' h => by obtain ⟨v, rfl, h⟩ := h; exact kk v S' h)
theorem bkX3_measure_56 {d : Nat} {S : hs_T} {Q : Option av_T → hs_T → Prop} {x2 x3 x4 x5 x6 y0 : Int32} {j1 : Nat} (kt : ¬ y0 = 0 → Ev d mX3_measure 62 [some (vR 3 0), some (vR 8 j1), some (vI x2), some (vI x3), some (vI x4), some (vI x5), some (vI x6)] [] S Q) (kf : y0 = 0 → Ev d mX3_measure 59 [some (vR 3 0), some (vR 8 j1), some (vI x2), some (vI x3), some (vI x4), some (vI x5), some (vI x6)] [] S Q) : Ev d mX3_measure 56 [some (vR 3 0), some (vR 8 j1), some (vI x2), some (vI x3), some (vI x4), some (vI x5), some (vI x6)] [vI y0] S Q := by
  exact Ev.if_ne (tgt := 62) dX3_measure_56 (by decide) kt kf
theorem bkX3_measure_59 {d : Nat} {S : hs_T} {Q : Option av_T → hs_T → Prop} {x2 x3 x4 x5 x6 : Int32} {j1 : Nat} (kn : Ev d mX3_measure 109 [some (vR 3 0), some (vR 8 j1), some (vI x2), some (vI x3), some (vI x4), some (vI x5), some (vI x6)] [] S Q) : Ev d mX3_measure 59 [some (vR 3 0), some (vR 8 j1), some (vI x2), some (vI x3), some (vI x4), some (vI x5), some (vI x6)] [] S Q := by
  refine Ev.goto (tgt := 109) dX3_measure_59 (by decide) ?_
  exact kn
theorem bkX3_measure_62 {d : Nat} {S : hs_T} {Q : Option av_T → hs_T → Prop} {x2 x3 x4 x5 x6 : Int32} {j1 : Nat} (kt : x5 ≤ 0 → Ev d mX3_measure 105 [some (vR 3 0), some (vR 8 j1), some (vI x2), some (vI x3), some (vI x4), some (vI x5), some (vI x6)] [] S Q) (kf : ¬ x5 ≤ 0 → Ev d mX3_measure 67 [some (vR 3 0), some (vR 8 j1), some (vI x2), some (vI x3), some (vI x4), some (vI x5), some (vI x6)] [] S Q) : Ev d mX3_measure 62 [some (vR 3 0), some (vR 8 j1), some (vI x2), some (vI x3), some (vI x4), some (vI x5), some (vI x6)] [] S Q := by
  refine Ev.iload dX3_measure_62 rfl ?_
  exact Ev.if_le (tgt := 105) dX3_measure_64 (by decide) kt kf
theorem bkX3_measure_67 {d : Nat} {S : hs_T} {Q : Option av_T → hs_T → Prop} {x2 x3 x4 x5 x6 : Int32} {j1 : Nat} (kt : x3 = (-1) → Ev d mX3_measure 92 [some (vR 3 0), some (vR 8 j1), some (vI x2), some (vI x3), some (vI x4), some (vI x5), some (vI x6)] [] S Q) (kf : ¬ x3 = (-1) → Ev d mX3_measure 72 [some (vR 3 0), some (vR 8 j1), some (vI x2), some (vI x3), some (vI x4), some (vI x5), some (vI x6)] [] S Q) : Ev d mX3_measure 67 [some (vR 3 0), some (vR 8 j1), some (vI x2), some (vI x3), some (vI x4), some (vI x5), some (vI x6)] [] S Q := by
  refine Ev.iload_n dX3_measure_67 rfl rfl ?_
  refine Ev.iconst (v := (-1)) dX3_measure_68 (by decide) ?_
  exact Ev.icmp_eq (tgt := 92) dX3_measure_69 (by decide) kt kf
theorem bkX3_measure_72 {d : Nat} {S : hs_T} {Q : Option av_T → hs_T → Prop} {P : Int32 → hs_T → Prop} {x2 x3 x4 x5 x6 : Int32} {j1 : Nat} (hjj1 : j1 < 4) (hC : Ci d mX8_high [vR 8 j1, vI x2, vI x5] S P) (kk : ∀ v S', P v S' → Ev (d + 1) mX3_measure 79 [some (vR 3 0), some (vR 8 j1), some (vI x2), some (vI x3), some (vI x4), some (vI x5), some (vI x6)] [vI v] S' Q) : Ev (d + 1) mX3_measure 72 [some (vR 3 0), some (vR 8 j1), some (vI x2), some (vI x3), some (vI x4), some (vI x5), some (vI x6)] [] S Q := by
  refine Ev.aload_n dX3_measure_72 rfl rfl ?_
  refine Ev.iload_n dX3_measure_73 rfl rfl ?_
  refine Ev.iload dX3_measure_74 rfl ?_
  exact Ev.callV (as := [vI x2, vI x5]) (rest := []) okX8_high in_X8_high ml_X3_39 rfl (Nat.le_of_ble_eq_true rfl) (pl8 hjj1) (by decide) rfl rfl dX3_measure_76 hC (fun r S' h => by obtain ⟨v, rfl, h⟩ := h; exact kk v S' h)
theorem bkX3_measure_79 {d : Nat} {S : hs_T} {Q : Option av_T → hs_T → Prop} {x2 x3 x4 x5 x6 y0 : Int32} {j1 : Nat} (kt : ¬ x3 = 1 → Ev d mX3_measure 88 [some (vR 3 0), some (vR 8 j1), some (vI x2), some (vI x3), some (vI x4), some (vI x5), some (vI x6)] [vI y0] S Q) (kf : x3 = 1 → Ev d mX3_measure 84 [some (vR 3 0), some (vR 8 j1), some (vI x2), some (vI x3), some (vI x4), some (vI x5), some (vI x6)] [vI y0] S Q) : Ev d mX3_measure 79 [some (vR 3 0), some (vR 8 j1), some (vI x2), some (vI x3), some (vI x4), some (vI x5), some (vI x6)] [vI y0] S Q := by
  refine Ev.iload_n dX3_measure_79 rfl rfl ?_
  refine Ev.iconst (v := 1) dX3_measure_80 (by decide) ?_
  exact Ev.icmp_ne (tgt := 88) dX3_measure_81 (by decide) kt kf
theorem bkX3_measure_84 {d : Nat} {S : hs_T} {Q : Option av_T → hs_T → Prop} {x2 x3 x4 x5 x6 y0 : Int32} {j1 : Nat} (kn : Ev d mX3_measure 89 [some (vR 3 0), some (vR 8 j1), some (vI x2), some (vI x3), some (vI x4), some (vI x5), some (vI x6)] [vI 1, vI y0] S Q) : Ev d mX3_measure 84 [some (vR 3 0), some (vR 8 j1), some (vI x2), some (vI x3), some (vI x4), some (vI x5), some (vI x6)] [vI y0] S Q := by
  refine Ev.iconst (v := 1) dX3_measure_84 (by decide) ?_
  refine Ev.goto (tgt := 89) dX3_measure_85 (by decide) ?_
  exact kn
theorem bkX3_measure_88 {d : Nat} {S : hs_T} {Q : Option av_T → hs_T → Prop} {x2 x3 x4 x5 x6 y0 : Int32} {j1 : Nat} (kn : Ev d mX3_measure 89 [some (vR 3 0), some (vR 8 j1), some (vI x2), some (vI x3), some (vI x4), some (vI x5), some (vI x6)] [vI 0, vI y0] S Q) : Ev d mX3_measure 88 [some (vR 3 0), some (vR 8 j1), some (vI x2), some (vI x3), some (vI x4), some (vI x5), some (vI x6)] [vI y0] S Q := by
  refine Ev.iconst (v := 0) dX3_measure_88 (by decide) ?_
  exact kn
theorem bkX3_measure_89 {d : Nat} {S : hs_T} {Q : Option av_T → hs_T → Prop} {x2 x3 x4 x5 x6 y0 y1 : Int32} {j1 : Nat} (kt : ¬ y1 = y0 → Ev d mX3_measure 105 [some (vR 3 0), some (vR 8 j1), some (vI x2), some (vI x3), some (vI x4), some (vI x5), some (vI x6)] [] S Q) (kf : y1 = y0 → Ev d mX3_measure 92 [some (vR 3 0), some (vR 8 j1), some (vI x2), some (vI x3), some (vI x4), some (vI x5), some (vI x6)] [] S Q) : Ev d mX3_measure 89 [some (vR 3 0), some (vR 8 j1), some (vI x2), some (vI x3), some (vI x4), some (vI x5), some (vI x6)] [vI y0, vI y1] S Q := by
  exact Ev.icmp_ne (tgt := 105) dX3_measure_89 (by decide) kt kf
theorem bkX3_measure_92 {d : Nat} {S : hs_T} {Q : Option av_T → hs_T → Prop} {P : hs_T → Prop} {x2 x3 x4 x5 x6 : Int32} {j1 : Nat} (hC : Cv d mX3_note [vR 3 0, vI x5, vI (x6 - x5), vI x4] S P) (kk : ∀ S', P S' → Ev (d + 1) mX3_measure 105 [some (vR 3 0), some (vR 8 j1), some (vI x2), some (vI x3), some (vI x4), some (vI x5), some (vI x6)] [] S' Q) : Ev (d + 1) mX3_measure 92 [some (vR 3 0), some (vR 8 j1), some (vI x2), some (vI x3), some (vI x4), some (vI x5), some (vI x6)] [] S Q := by
  refine Ev.aload_n dX3_measure_92 rfl rfl ?_
  refine Ev.iload dX3_measure_93 rfl ?_
  refine Ev.iload dX3_measure_95 rfl ?_
  refine Ev.iload dX3_measure_97 rfl ?_
  refine Ev.isub dX3_measure_99 ?_
  refine Ev.iload dX3_measure_100 rfl ?_
  exact Ev.callV (as := [vI x5, vI (x6 - x5), vI x4]) (rest := []) okX3_note in_X3_note ml_X3_42 rfl (Nat.le_of_ble_eq_true rfl) pz_3_0 (by decide) rfl rfl dX3_measure_102 hC (fun r S' h => by obtain ⟨rfl, h⟩ := h; exact kk S' h)
theorem bkX3_measure_105 {d : Nat} {S : hs_T} {Q : Option av_T → hs_T → Prop} {x2 x3 x4 x5 x6 : Int32} {j1 : Nat} (kn : Ev d mX3_measure 109 [some (vR 3 0), some (vR 8 j1), some (vI x2), some (vI x3), some (vI x4), some (vI x6), some (vI x6)] [] S Q) : Ev d mX3_measure 105 [some (vR 3 0), some (vR 8 j1), some (vI x2), some (vI x3), some (vI x4), some (vI x5), some (vI x6)] [] S Q := by
  refine Ev.iload dX3_measure_105 rfl ?_
  refine Ev.istore (ls' := [some (vR 3 0), some (vR 8 j1), some (vI x2), some (vI x3), some (vI x4), some (vI x6), some (vI x6)]) dX3_measure_107 (by decide) rfl ?_
  exact kn
theorem bkX3_measure_109 {d : Nat} {S : hs_T} {Q : Option av_T → hs_T → Prop} {x2 x3 x4 x5 x6 : Int32} {j1 : Nat} (kn : Ev d mX3_measure 40 [some (vR 3 0), some (vR 8 j1), some (vI x2), some (vI x3), some (vI x4), some (vI x5), some (vI (x6 + 1))] [] S Q) : Ev d mX3_measure 109 [some (vR 3 0), some (vR 8 j1), some (vI x2), some (vI x3), some (vI x4), some (vI x5), some (vI x6)] [] S Q := by
  refine Ev.iinc (v := (x6 + 1)) (ls' := [some (vR 3 0), some (vR 8 j1), some (vI x2), some (vI x3), some (vI x4), some (vI x5), some (vI (x6 + 1))]) dX3_measure_109 rfl rfl (by decide) rfl ?_
  refine Ev.goto (tgt := 40) dX3_measure_112 (by decide) ?_
  exact kn
theorem bkX3_measure_115 {d : Nat} {S : hs_T} {Q : Option av_T → hs_T → Prop} {x2 x3 x4 x5 x6 : Int32} {j1 : Nat} (hq : Q none S) : Ev d mX3_measure 115 [some (vR 3 0), some (vR 8 j1), some (vI x2), some (vI x3), some (vI x4), some (vI x5), some (vI x6)] [] S Q := by
  exact Ev.vret dX3_measure_115 rfl hq
/-! EightWires$Pulses.note(III)V -/
theorem bkX3_note_0 {d : Nat} {S : hs_T} {Q : Option av_T → hs_T → Prop} {x1 x2 x3 : Int32} (kt : (S.1 3 0 0) = 0 → Ev d mX3_note 15 [some (vR 3 0), some (vI x1), some (vI x2), some (vI x3)] [] S Q) (kf : ¬ (S.1 3 0 0) = 0 → Ev d mX3_note 7 [some (vR 3 0), some (vI x1), some (vI x2), some (vI x3)] [] S Q) : Ev d mX3_note 0 [some (vR 3 0), some (vI x1), some (vI x2), some (vI x3)] [] S Q := by
  refine Ev.aload_n dX3_note_0 rfl rfl ?_
  refine Ev.get (v := vI (S.1 3 0 0)) okX3 (by decide) fl_X3_9 pz_3_0 (ff_3_0 _ _) dX3_note_1 ?_
  exact Ev.if_eq (tgt := 15) dX3_note_4 (by decide) kt kf
theorem bkX3_note_7 {d : Nat} {S : hs_T} {Q : Option av_T → hs_T → Prop} {x1 x2 x3 : Int32} (kt : (S.1 3 0 1) ≤ x2 → Ev d mX3_note 25 [some (vR 3 0), some (vI x1), some (vI x2), some (vI x3)] [] S Q) (kf : ¬ (S.1 3 0 1) ≤ x2 → Ev d mX3_note 15 [some (vR 3 0), some (vI x1), some (vI x2), some (vI x3)] [] S Q) : Ev d mX3_note 7 [some (vR 3 0), some (vI x1), some (vI x2), some (vI x3)] [] S Q := by
  refine Ev.iload_n dX3_note_7 rfl rfl ?_
  refine Ev.aload_n dX3_note_8 rfl rfl ?_
  refine Ev.get (v := vI (S.1 3 0 1)) okX3 (by decide) fl_X3_18 pz_3_0 (ff_3_1 _ _) dX3_note_9 ?_
  exact Ev.icmp_ge (tgt := 25) dX3_note_12 (by decide) kt kf
theorem bkX3_note_15 {d : Nat} {S : hs_T} {Q : Option av_T → hs_T → Prop} {x1 x2 x3 : Int32} (kn : Ev d mX3_note 25 [some (vR 3 0), some (vI x1), some (vI x2), some (vI x3)] [] (sk_ (sk_ S 3 0 (upd (S.1 3 0) 1 x2)) 3 0 (upd ((sk_ S 3 0 (upd (S.1 3 0) 1 x2)).1 3 0) 2 x1)) Q) : Ev d mX3_note 15 [some (vR 3 0), some (vI x1), some (vI x2), some (vI x3)] [] S Q := by
  refine Ev.aload_n dX3_note_15 rfl rfl ?_
  refine Ev.iload_n dX3_note_16 rfl rfl ?_
  refine Ev.put okX3 (by decide) fl_X3_18 pz_3_0 (by decide) rfl rfl rfl rfl dX3_note_17 ?_
  refine Ev.aload_n dX3_note_20 rfl rfl ?_
  refine Ev.iload_n dX3_note_21 rfl rfl ?_
  refine Ev.put okX3 (by decide) fl_X3_21 pz_3_0 (by decide) rfl rfl rfl rfl dX3_note_22 ?_
  exact kn
theorem bkX3_note_25 {d : Nat} {S : hs_T} {Q : Option av_T → hs_T → Prop} {x1 x2 x3 : Int32} (kt : (S.1 3 0 0) = 0 → Ev d mX3_note 40 [some (vR 3 0), some (vI x1), some (vI x2), some (vI x3)] [] S Q) (kf : ¬ (S.1 3 0 0) = 0 → Ev d mX3_note 32 [some (vR 3 0), some (vI x1), some (vI x2), some (vI x3)] [] S Q) : Ev d mX3_note 25 [some (vR 3 0), some (vI x1), some (vI x2), some (vI x3)] [] S Q := by
  refine Ev.aload_n dX3_note_25 rfl rfl ?_
  refine Ev.get (v := vI (S.1 3 0 0)) okX3 (by decide) fl_X3_9 pz_3_0 (ff_3_0 _ _) dX3_note_26 ?_
  exact Ev.if_eq (tgt := 40) dX3_note_29 (by decide) kt kf
theorem bkX3_note_32 {d : Nat} {S : hs_T} {Q : Option av_T → hs_T → Prop} {x1 x2 x3 : Int32} (kt : x2 ≤ (S.1 3 0 3) → Ev d mX3_note 50 [some (vR 3 0), some (vI x1), some (vI x2), some (vI x3)] [] S Q) (kf : ¬ x2 ≤ (S.1 3 0 3) → Ev d mX3_note 40 [some (vR 3 0), some (vI x1), some (vI x2), some (vI x3)] [] S Q) : Ev d mX3_note 32 [some (vR 3 0), some (vI x1), some (vI x2), some (vI x3)] [] S Q := by
  refine Ev.iload_n dX3_note_32 rfl rfl ?_
  refine Ev.aload_n dX3_note_33 rfl rfl ?_
  refine Ev.get (v := vI (S.1 3 0 3)) okX3 (by decide) fl_X3_24 pz_3_0 (ff_3_3 _ _) dX3_note_34 ?_
  exact Ev.icmp_le (tgt := 50) dX3_note_37 (by decide) kt kf
theorem bkX3_note_40 {d : Nat} {S : hs_T} {Q : Option av_T → hs_T → Prop} {x1 x2 x3 : Int32} (kn : Ev d mX3_note 50 [some (vR 3 0), some (vI x1), some (vI x2), some (vI x3)] [] (sk_ (sk_ S 3 0 (upd (S.1 3 0) 3 x2)) 3 0 (upd ((sk_ S 3 0 (upd (S.1 3 0) 3 x2)).1 3 0) 4 x1)) Q) : Ev d mX3_note 40 [some (vR 3 0), some (vI x1), some (vI x2), some (vI x3)] [] S Q := by
  refine Ev.aload_n dX3_note_40 rfl rfl ?_
  refine Ev.iload_n dX3_note_41 rfl rfl ?_
  refine Ev.put okX3 (by decide) fl_X3_24 pz_3_0 (by decide) rfl rfl rfl rfl dX3_note_42 ?_
  refine Ev.aload_n dX3_note_45 rfl rfl ?_
  refine Ev.iload_n dX3_note_46 rfl rfl ?_
  refine Ev.put okX3 (by decide) fl_X3_27 pz_3_0 (by decide) rfl rfl rfl rfl dX3_note_47 ?_
  exact kn
theorem bkX3_note_50 {d : Nat} {S : hs_T} {Q : Option av_T → hs_T → Prop} {x1 x2 x3 : Int32} (kt : x3 ≤ x2 → Ev d mX3_note 74 [some (vR 3 0), some (vI x1), some (vI x2), some (vI x3)] [vI ((sk_ S 3 0 (upd (S.1 3 0) 0 ((S.1 3 0 0) + 1))).1 3 0 5), vR 3 0] (sk_ S 3 0 (upd (S.1 3 0) 0 ((S.1 3 0 0) + 1))) Q) (kf : ¬ x3 ≤ x2 → Ev d mX3_note 70 [some (vR 3 0), some (vI x1), some (vI x2), some (vI x3)] [vI ((sk_ S 3 0 (upd (S.1 3 0) 0 ((S.1 3 0 0) + 1))).1 3 0 5), vR 3 0] (sk_ S 3 0 (upd (S.1 3 0) 0 ((S.1 3 0 0) + 1))) Q) : Ev d mX3_note 50 [some (vR 3 0), some (vI x1), some (vI x2), some (vI x3)] [] S Q := by
  refine Ev.aload_n dX3_note_50 rfl rfl ?_
  refine Ev.dup dX3_note_51 rfl ?_
  refine Ev.get (v := vI (S.1 3 0 0)) okX3 (by decide) fl_X3_9 pz_3_0 (ff_3_0 _ _) dX3_note_52 ?_
  refine Ev.iconst (v := 1) dX3_note_55 (by decide) ?_
  refine Ev.iadd dX3_note_56 ?_
  refine Ev.put okX3 (by decide) fl_X3_9 pz_3_0 (by decide) rfl rfl rfl rfl dX3_note_57 ?_
  refine Ev.aload_n dX3_note_60 rfl rfl ?_
  refine Ev.dup dX3_note_61 rfl ?_
  refine Ev.get (v := vI ((sk_ S 3 0 (upd (S.1 3 0) 0 ((S.1 3 0 0) + 1))).1 3 0 5)) okX3 (by decide) fl_X3_15 pz_3_0 (ff_3_5 _ _) dX3_note_62 ?_
  refine Ev.iload_n dX3_note_65 rfl rfl ?_
  refine Ev.iload_n dX3_note_66 rfl rfl ?_
  exact Ev.icmp_ge (tgt := 74) dX3_note_67 (by decide) kt kf
theorem bkX3_note_70 {d : Nat} {S : hs_T} {Q : Option av_T → hs_T → Prop} {x1 x2 x3 y0 : Int32} (kn : Ev d mX3_note 75 [some (vR 3 0), some (vI x1), some (vI x2), some (vI x3)] [vI 1, vI y0, vR 3 0] S Q) : Ev d mX3_note 70 [some (vR 3 0), some (vI x1), some (vI x2), some (vI x3)] [vI y0, vR 3 0] S Q := by
  refine Ev.iconst (v := 1) dX3_note_70 (by decide) ?_
  refine Ev.goto (tgt := 75) dX3_note_71 (by decide) ?_
  exact kn
theorem bkX3_note_74 {d : Nat} {S : hs_T} {Q : Option av_T → hs_T → Prop} {x1 x2 x3 y0 : Int32} (kn : Ev d mX3_note 75 [some (vR 3 0), some (vI x1), some (vI x2), some (vI x3)] [vI 0, vI y0, vR 3 0] S Q) : Ev d mX3_note 74 [some (vR 3 0), some (vI x1), some (vI x2), some (vI x3)] [vI y0, vR 3 0] S Q := by
  refine Ev.iconst (v := 0) dX3_note_74 (by decide) ?_
  exact kn
theorem bkX3_note_75 {d : Nat} {S : hs_T} {Q : Option av_T → hs_T → Prop} {x1 x2 x3 y0 y1 : Int32} (hq : Q none (sk_ S 3 0 (upd (S.1 3 0) 5 (y1 + y0)))) : Ev d mX3_note 75 [some (vR 3 0), some (vI x1), some (vI x2), some (vI x3)] [vI y0, vI y1, vR 3 0] S Q := by
  refine Ev.iadd dX3_note_75 ?_
  refine Ev.put okX3 (by decide) fl_X3_15 pz_3_0 (by decide) rfl rfl rfl rfl dX3_note_76 ?_
  exact Ev.vret dX3_note_79 rfl hq
/-! EightWires$Reader.readAll()V -/
theorem bkX4_readAll_0 {d : Nat} {S : hs_T} {Q : Option av_T → hs_T → Prop} {P : hs_T → Prop} {o1 : Option av_T} (hC : Cv d mX4_begin [vR 4 0] S P) (kk : ∀ S', P S' → Ev (d + 1) mX4_readAll 4 [some (vR 4 0), o1] [] S' Q) : Ev (d + 1) mX4_readAll 0 [some (vR 4 0), o1] [] S Q := by
  refine Ev.aload_n dX4_readAll_0 rfl rfl ?_
  exact Ev.callV (as := []) (rest := []) okX4_begin in_X4_begin ml_X4_25 rfl (Nat.le_of_ble_eq_true rfl) pz_4_0 (by decide) rfl rfl dX4_readAll_1 hC (fun r S' h => by obtain ⟨rfl, h⟩ := h; exact kk S' h)
theorem bkX4_readAll_4 {d : Nat} {S : hs_T} {Q : Option av_T → hs_T → Prop} {o1 : Option av_T} (kn : Ev d mX4_readAll 6 [some (vR 4 0), some (vI 0)] [] S Q) : Ev d mX4_readAll 4 [some (vR 4 0), o1] [] S Q := by
  refine Ev.iconst (v := 0) dX4_readAll_4 (by decide) ?_
  refine Ev.istore_n (ls' := [some (vR 4 0), some (vI 0)]) dX4_readAll_5 rfl (by decide) rfl ?_
  exact kn
theorem bkX4_readAll_6 {d : Nat} {S : hs_T} {Q : Option av_T → hs_T → Prop} {x1 : Int32} (kt : 400 ≤ x1 → Ev d mX4_readAll 111 [some (vR 4 0), some (vI x1)] [] S Q) (kf : ¬ 400 ≤ x1 → Ev d mX4_readAll 13 [some (vR 4 0), some (vI x1)] [] S Q) : Ev d mX4_readAll 6 [some (vR 4 0), some (vI x1)] [] S Q := by
  refine Ev.iload_n dX4_readAll_6 rfl rfl ?_
  refine Ev.sipush (v := 400) dX4_readAll_7 (by decide) ?_
  exact Ev.icmp_ge (tgt := 111) dX4_readAll_10 (by decide) kt kf
theorem bkX4_readAll_13 {d : Nat} {S : hs_T} {Q : Option av_T → hs_T → Prop} {x1 : Int32} (kt : ¬ (S.1 4 0 8) = 0 → Ev d mX4_readAll 111 [some (vR 4 0), some (vI x1)] [] S Q) (kf : (S.1 4 0 8) = 0 → Ev d mX4_readAll 20 [some (vR 4 0), some (vI x1)] [] S Q) : Ev d mX4_readAll 13 [some (vR 4 0), some (vI x1)] [] S Q := by
  refine Ev.aload_n dX4_readAll_13 rfl rfl ?_
  refine Ev.get (v := vI (S.1 4 0 8)) okX4 (by decide) fl_X4_28 pz_4_0 (ff_4_8 _ _) dX4_readAll_14 ?_
  exact Ev.if_ne (tgt := 111) dX4_readAll_17 (by decide) kt kf
theorem bkX4_readAll_20 {d : Nat} {S : hs_T} {Q : Option av_T → hs_T → Prop} {x1 : Int32} (kt : (S.1 4 0 3) = 0 → Ev d mX4_readAll 111 [some (vR 4 0), some (vI x1)] [] S Q) (kf : ¬ (S.1 4 0 3) = 0 → Ev d mX4_readAll 27 [some (vR 4 0), some (vI x1)] [] S Q) : Ev d mX4_readAll 20 [some (vR 4 0), some (vI x1)] [] S Q := by
  refine Ev.aload_n dX4_readAll_20 rfl rfl ?_
  refine Ev.get (v := vI (S.1 4 0 3)) okX4 (by decide) fl_X4_32 pz_4_0 (ff_4_3 _ _) dX4_readAll_21 ?_
  exact Ev.if_eq (tgt := 111) dX4_readAll_24 (by decide) kt kf
theorem bkX4_readAll_27 {d : Nat} {S : hs_T} {Q : Option av_T → hs_T → Prop} {x1 : Int32} (k0 : ((sk_ S 4 0 (upd (S.1 4 0) 10 ((S.1 4 0 10) + 1))).1 4 0 3) = 4 → Ev d mX4_readAll 72 [some (vR 4 0), some (vI x1)] [] (sk_ S 4 0 (upd (S.1 4 0) 10 ((S.1 4 0 10) + 1))) Q) (k1 : ((sk_ S 4 0 (upd (S.1 4 0) 10 ((S.1 4 0 10) + 1))).1 4 0 3) = 5 → Ev d mX4_readAll 79 [some (vR 4 0), some (vI x1)] [] (sk_ S 4 0 (upd (S.1 4 0) 10 ((S.1 4 0 10) + 1))) Q) (k2 : ((sk_ S 4 0 (upd (S.1 4 0) 10 ((S.1 4 0 10) + 1))).1 4 0 3) = 6 → Ev d mX4_readAll 86 [some (vR 4 0), some (vI x1)] [] (sk_ S 4 0 (upd (S.1 4 0) 10 ((S.1 4 0 10) + 1))) Q) (k3 : ((sk_ S 4 0 (upd (S.1 4 0) 10 ((S.1 4 0 10) + 1))).1 4 0 3) = 7 → Ev d mX4_readAll 93 [some (vR 4 0), some (vI x1)] [] (sk_ S 4 0 (upd (S.1 4 0) 10 ((S.1 4 0 10) + 1))) Q) (kd : ¬ ((sk_ S 4 0 (upd (S.1 4 0) 10 ((S.1 4 0 10) + 1))).1 4 0 3) = 4 → ¬ ((sk_ S 4 0 (upd (S.1 4 0) 10 ((S.1 4 0 10) + 1))).1 4 0 3) = 5 → ¬ ((sk_ S 4 0 (upd (S.1 4 0) 10 ((S.1 4 0 10) + 1))).1 4 0 3) = 6 → ¬ ((sk_ S 4 0 (upd (S.1 4 0) 10 ((S.1 4 0 10) + 1))).1 4 0 3) = 7 → Ev d mX4_readAll 100 [some (vR 4 0), some (vI x1)] [] (sk_ S 4 0 (upd (S.1 4 0) 10 ((S.1 4 0 10) + 1))) Q) : Ev d mX4_readAll 27 [some (vR 4 0), some (vI x1)] [] S Q := by
  refine Ev.aload_n dX4_readAll_27 rfl rfl ?_
  refine Ev.dup dX4_readAll_28 rfl ?_
  refine Ev.get (v := vI (S.1 4 0 10)) okX4 (by decide) fl_X4_35 pz_4_0 (ff_4_10 _ _) dX4_readAll_29 ?_
  refine Ev.iconst (v := 1) dX4_readAll_32 (by decide) ?_
  refine Ev.iadd dX4_readAll_33 ?_
  refine Ev.put okX4 (by decide) fl_X4_35 pz_4_0 (by decide) rfl rfl rfl rfl dX4_readAll_34 ?_
  refine Ev.aload_n dX4_readAll_37 rfl rfl ?_
  refine Ev.get (v := vI ((sk_ S 4 0 (upd (S.1 4 0) 10 ((S.1 4 0 10) + 1))).1 4 0 3)) okX4 (by decide) fl_X4_32 pz_4_0 (ff_4_3 _ _) dX4_readAll_38 ?_
  by_cases hc0 : ((sk_ S 4 0 (upd (S.1 4 0) 10 ((S.1 4 0 10) + 1))).1 4 0 3) = 4
  · exact Ev.tableIn (off := 31) (tgt := 72) dX4_readAll_41 (by rw [hc0]; decide) (by rw [hc0]; decide) (by rw [hc0]; rfl) (by decide) (k0 hc0)
  by_cases hc1 : ((sk_ S 4 0 (upd (S.1 4 0) 10 ((S.1 4 0 10) + 1))).1 4 0 3) = 5
  · exact Ev.tableIn (off := 38) (tgt := 79) dX4_readAll_41 (by rw [hc1]; decide) (by rw [hc1]; decide) (by rw [hc1]; rfl) (by decide) (k1 hc1)
  by_cases hc2 : ((sk_ S 4 0 (upd (S.1 4 0) 10 ((S.1 4 0 10) + 1))).1 4 0 3) = 6
  · exact Ev.tableIn (off := 45) (tgt := 86) dX4_readAll_41 (by rw [hc2]; decide) (by rw [hc2]; decide) (by rw [hc2]; rfl) (by decide) (k2 hc2)
  by_cases hc3 : ((sk_ S 4 0 (upd (S.1 4 0) 10 ((S.1 4 0 10) + 1))).1 4 0 3) = 7
  · exact Ev.tableIn (off := 52) (tgt := 93) dX4_readAll_41 (by rw [hc3]; decide) (by rw [hc3]; decide) (by rw [hc3]; rfl) (by decide) (k3 hc3)
  refine Ev.tableOut (tgt := 100) dX4_readAll_41 (tw_out (fun c h1 h2 => ?_)) (by decide) (kd hc0 hc1 hc2 hc3)
  have hcs : c = 4 ∨ c = 5 ∨ c = 6 ∨ c = 7 := by omega
  rcases hcs with rfl | rfl | rfl | rfl
  · exact fun z => hc0 (Int32.toInt_inj.mp (z.trans (by decide)))
  · exact fun z => hc1 (Int32.toInt_inj.mp (z.trans (by decide)))
  · exact fun z => hc2 (Int32.toInt_inj.mp (z.trans (by decide)))
  · exact fun z => hc3 (Int32.toInt_inj.mp (z.trans (by decide)))
theorem bkX4_readAll_72 {d : Nat} {S : hs_T} {Q : Option av_T → hs_T → Prop} {P : hs_T → Prop} {x1 : Int32} (hC : Cv d mX4_readState [vR 4 0] S P) (kk : ∀ S', P S' → Ev (d + 1) mX4_readAll 76 [some (vR 4 0), some (vI x1)] [] S' Q) : Ev (d + 1) mX4_readAll 72 [some (vR 4 0), some (vI x1)] [] S Q := by
  refine Ev.aload_n dX4_readAll_72 rfl rfl ?_
  exact Ev.callV (as := []) (rest := []) okX4_readState in_X4_readState ml_X4_38 rfl (Nat.le_of_ble_eq_true rfl) pz_4_0 (by decide) rfl rfl dX4_readAll_73 hC (fun r S' h => by obtain ⟨rfl, h⟩ := h; exact kk S' h)
theorem bkX4_readAll_76 {d : Nat} {S : hs_T} {Q : Option av_T → hs_T → Prop} {x1 : Int32} (kn : Ev d mX4_readAll 105 [some (vR 4 0), some (vI x1)] [] S Q) : Ev d mX4_readAll 76 [some (vR 4 0), some (vI x1)] [] S Q := by
  refine Ev.goto (tgt := 105) dX4_readAll_76 (by decide) ?_
  exact kn
theorem bkX4_readAll_79 {d : Nat} {S : hs_T} {Q : Option av_T → hs_T → Prop} {P : hs_T → Prop} {x1 : Int32} (hC : Cv d mX4_readKeep [vR 4 0] S P) (kk : ∀ S', P S' → Ev (d + 1) mX4_readAll 83 [some (vR 4 0), some (vI x1)] [] S' Q) : Ev (d + 1) mX4_readAll 79 [some (vR 4 0), some (vI x1)] [] S Q := by
  refine Ev.aload_n dX4_readAll_79 rfl rfl ?_
  exact Ev.callV (as := []) (rest := []) okX4_readKeep in_X4_readKeep ml_X4_41 rfl (Nat.le_of_ble_eq_true rfl) pz_4_0 (by decide) rfl rfl dX4_readAll_80 hC (fun r S' h => by obtain ⟨rfl, h⟩ := h; exact kk S' h)
theorem bkX4_readAll_83 {d : Nat} {S : hs_T} {Q : Option av_T → hs_T → Prop} {x1 : Int32} (kn : Ev d mX4_readAll 105 [some (vR 4 0), some (vI x1)] [] S Q) : Ev d mX4_readAll 83 [some (vR 4 0), some (vI x1)] [] S Q := by
  refine Ev.goto (tgt := 105) dX4_readAll_83 (by decide) ?_
  exact kn
theorem bkX4_readAll_86 {d : Nat} {S : hs_T} {Q : Option av_T → hs_T → Prop} {P : hs_T → Prop} {x1 : Int32} (hC : Cv d mX4_readDepth [vR 4 0] S P) (kk : ∀ S', P S' → Ev (d + 1) mX4_readAll 90 [some (vR 4 0), some (vI x1)] [] S' Q) : Ev (d + 1) mX4_readAll 86 [some (vR 4 0), some (vI x1)] [] S Q := by
  refine Ev.aload_n dX4_readAll_86 rfl rfl ?_
  exact Ev.callV (as := []) (rest := []) okX4_readDepth in_X4_readDepth ml_X4_44 rfl (Nat.le_of_ble_eq_true rfl) pz_4_0 (by decide) rfl rfl dX4_readAll_87 hC (fun r S' h => by obtain ⟨rfl, h⟩ := h; exact kk S' h)
theorem bkX4_readAll_90 {d : Nat} {S : hs_T} {Q : Option av_T → hs_T → Prop} {x1 : Int32} (kn : Ev d mX4_readAll 105 [some (vR 4 0), some (vI x1)] [] S Q) : Ev d mX4_readAll 90 [some (vR 4 0), some (vI x1)] [] S Q := by
  refine Ev.goto (tgt := 105) dX4_readAll_90 (by decide) ?_
  exact kn
theorem bkX4_readAll_93 {d : Nat} {S : hs_T} {Q : Option av_T → hs_T → Prop} {P : hs_T → Prop} {x1 : Int32} (hC : Cv d mX4_readAhead [vR 4 0] S P) (kk : ∀ S', P S' → Ev (d + 1) mX4_readAll 97 [some (vR 4 0), some (vI x1)] [] S' Q) : Ev (d + 1) mX4_readAll 93 [some (vR 4 0), some (vI x1)] [] S Q := by
  refine Ev.aload_n dX4_readAll_93 rfl rfl ?_
  exact Ev.callV (as := []) (rest := []) okX4_readAhead in_X4_readAhead ml_X4_47 rfl (Nat.le_of_ble_eq_true rfl) pz_4_0 (by decide) rfl rfl dX4_readAll_94 hC (fun r S' h => by obtain ⟨rfl, h⟩ := h; exact kk S' h)
theorem bkX4_readAll_97 {d : Nat} {S : hs_T} {Q : Option av_T → hs_T → Prop} {x1 : Int32} (kn : Ev d mX4_readAll 105 [some (vR 4 0), some (vI x1)] [] S Q) : Ev d mX4_readAll 97 [some (vR 4 0), some (vI x1)] [] S Q := by
  refine Ev.goto (tgt := 105) dX4_readAll_97 (by decide) ?_
  exact kn
theorem bkX4_readAll_100 {d : Nat} {S : hs_T} {Q : Option av_T → hs_T → Prop} {P : hs_T → Prop} {x1 : Int32} (hC : Cv d mX4_refuse [vR 4 0, vI 2] S P) (kk : ∀ S', P S' → Ev (d + 1) mX4_readAll 105 [some (vR 4 0), some (vI x1)] [] S' Q) : Ev (d + 1) mX4_readAll 100 [some (vR 4 0), some (vI x1)] [] S Q := by
  refine Ev.aload_n dX4_readAll_100 rfl rfl ?_
  refine Ev.iconst (v := 2) dX4_readAll_101 (by decide) ?_
  exact Ev.callV (as := [vI 2]) (rest := []) okX4_refuse in_X4_refuse ml_X4_50 rfl (Nat.le_of_ble_eq_true rfl) pz_4_0 (by decide) rfl rfl dX4_readAll_102 hC (fun r S' h => by obtain ⟨rfl, h⟩ := h; exact kk S' h)
theorem bkX4_readAll_105 {d : Nat} {S : hs_T} {Q : Option av_T → hs_T → Prop} {x1 : Int32} (kn : Ev d mX4_readAll 6 [some (vR 4 0), some (vI (x1 + 1))] [] S Q) : Ev d mX4_readAll 105 [some (vR 4 0), some (vI x1)] [] S Q := by
  refine Ev.iinc (v := (x1 + 1)) (ls' := [some (vR 4 0), some (vI (x1 + 1))]) dX4_readAll_105 rfl rfl (by decide) rfl ?_
  refine Ev.goto (tgt := 6) dX4_readAll_108 (by decide) ?_
  exact kn
theorem bkX4_readAll_111 {d : Nat} {S : hs_T} {Q : Option av_T → hs_T → Prop} {P : Int32 → hs_T → Prop} {x1 : Int32} (hjS221 : (S.2.2 1) < 2) (hC : Ci d mX5_leadsNowhere [vR 5 (S.2.2 1)] S P) (kk : ∀ v S', P v S' → Ev (d + 1) mX4_readAll 118 [some (vR 4 0), some (vI x1)] [vI v] S' Q) : Ev (d + 1) mX4_readAll 111 [some (vR 4 0), some (vI x1)] [] S Q := by
  refine Ev.aload_n dX4_readAll_111 rfl rfl ?_
  refine Ev.get (v := vR 5 (S.2.2 1)) okX4 (by decide) fl_X4_21 pz_4_0 (ff_4_1 _ _) dX4_readAll_112 ?_
  exact Ev.callV (as := []) (rest := []) okX5_leadsNowhere in_X5_leadsNowhere ml_X4_54 rfl (Nat.le_of_ble_eq_true rfl) (pl5 hjS221) (by decide) rfl rfl dX4_readAll_115 hC (fun r S' h => by obtain ⟨v, rfl, h⟩ := h; exact kk v S' h)
theorem bkX4_readAll_118 {d : Nat} {S : hs_T} {Q : Option av_T → hs_T → Prop} {x1 y0 : Int32} (kt : ¬ y0 = 0 → Ev d mX4_readAll 138 [some (vR 4 0), some (vI x1)] [] S Q) (kf : y0 = 0 → Ev d mX4_readAll 121 [some (vR 4 0), some (vI x1)] [] S Q) : Ev d mX4_readAll 118 [some (vR 4 0), some (vI x1)] [vI y0] S Q := by
  exact Ev.if_ne (tgt := 138) dX4_readAll_118 (by decide) kt kf
theorem bkX4_readAll_121 {d : Nat} {S : hs_T} {Q : Option av_T → hs_T → Prop} {x1 : Int32} (hjS221 : (S.2.2 1) < 2) (kt : (S.1 5 (S.2.2 1) 8) < (S.1 5 (S.2.2 1) 7) → Ev d mX4_readAll 144 [some (vR 4 0), some (vI x1)] [] S Q) (kf : ¬ (S.1 5 (S.2.2 1) 8) < (S.1 5 (S.2.2 1) 7) → Ev d mX4_readAll 138 [some (vR 4 0), some (vI x1)] [] S Q) : Ev d mX4_readAll 121 [some (vR 4 0), some (vI x1)] [] S Q := by
  refine Ev.aload_n dX4_readAll_121 rfl rfl ?_
  refine Ev.get (v := vR 5 (S.2.2 1)) okX4 (by decide) fl_X4_21 pz_4_0 (ff_4_1 _ _) dX4_readAll_122 ?_
  refine Ev.get (v := vI (S.1 5 (S.2.2 1) 8)) okX5 (by decide) fl_X4_58 (pl5 hjS221) (ff_5_8 _ _) dX4_readAll_125 ?_
  refine Ev.aload_n dX4_readAll_128 rfl rfl ?_
  refine Ev.get (v := vR 5 (S.2.2 1)) okX4 (by decide) fl_X4_21 pz_4_0 (ff_4_1 _ _) dX4_readAll_129 ?_
  refine Ev.get (v := vI (S.1 5 (S.2.2 1) 7)) okX5 (by decide) fl_X4_61 (pl5 hjS221) (ff_5_7 _ _) dX4_readAll_132 ?_
  exact Ev.icmp_lt (tgt := 144) dX4_readAll_135 (by decide) kt kf
theorem bkX4_readAll_138 {d : Nat} {S : hs_T} {Q : Option av_T → hs_T → Prop} {P : hs_T → Prop} {x1 : Int32} (hC : Cv d mX4_refuse [vR 4 0, vI 6] S P) (kk : ∀ S', P S' → Ev (d + 1) mX4_readAll 144 [some (vR 4 0), some (vI x1)] [] S' Q) : Ev (d + 1) mX4_readAll 138 [some (vR 4 0), some (vI x1)] [] S Q := by
  refine Ev.aload_n dX4_readAll_138 rfl rfl ?_
  refine Ev.bipush (v := 6) dX4_readAll_139 (by decide) ?_
  exact Ev.callV (as := [vI 6]) (rest := []) okX4_refuse in_X4_refuse ml_X4_50 rfl (Nat.le_of_ble_eq_true rfl) pz_4_0 (by decide) rfl rfl dX4_readAll_141 hC (fun r S' h => by obtain ⟨rfl, h⟩ := h; exact kk S' h)
theorem bkX4_readAll_144 {d : Nat} {S : hs_T} {Q : Option av_T → hs_T → Prop} {x1 : Int32} (hq : Q none S) : Ev d mX4_readAll 144 [some (vR 4 0), some (vI x1)] [] S Q := by
  exact Ev.vret dX4_readAll_144 rfl hq
/-! EightWires$Reader.exchange(LEightWires$Rules;)LEightWires$Rules; -/
theorem bkX4_exchange_0 {d : Nat} {S : hs_T} {Q : Option av_T → hs_T → Prop} {j1 : Nat} {o2 : Option av_T} (hq : Q (some (vR 5 (S.2.2 1))) (sd_ S 1 j1)) : Ev d mX4_exchange 0 [some (vR 4 0), some (vR 5 j1), o2] [] S Q := by
  refine Ev.aload_n dX4_exchange_0 rfl rfl ?_
  refine Ev.get (v := vR 5 (S.2.2 1)) okX4 (by decide) fl_X4_21 pz_4_0 (ff_4_1 _ _) dX4_exchange_1 ?_
  refine Ev.astore_n (ls' := [some (vR 4 0), some (vR 5 j1), some (vR 5 (S.2.2 1))]) dX4_exchange_4 rfl (by decide) rfl ?_
  refine Ev.aload_n dX4_exchange_5 rfl rfl ?_
  refine Ev.aload_n dX4_exchange_6 rfl rfl ?_
  refine Ev.putD okX4 (by decide) fl_X4_21 pz_4_0 rfl pu_1 pj_4 rfl rfl rfl dX4_exchange_7 ?_
  refine Ev.aload_n dX4_exchange_10 rfl rfl ?_
  exact Ev.aret dX4_exchange_11 rfl hq
/-! EightWires$Reader.begin()V -/
theorem bkX4_begin_0 {d : Nat} {S : hs_T} {Q : Option av_T → hs_T → Prop} {P : hs_T → Prop} (hjS221 : (S.2.2 1) < 2) (hC : Cv d mX5_forget [vR 5 (S.2.2 1)] S P) (kk : ∀ S', P S' → Ev (d + 1) mX4_begin 7 [some (vR 4 0)] [] S' Q) : Ev (d + 1) mX4_begin 0 [some (vR 4 0)] [] S Q := by
  refine Ev.aload_n dX4_begin_0 rfl rfl ?_
  refine Ev.get (v := vR 5 (S.2.2 1)) okX4 (by decide) fl_X4_21 pz_4_0 (ff_4_1 _ _) dX4_begin_1 ?_
  exact Ev.callV (as := []) (rest := []) okX5_forget in_X5_forget ml_X4_64 rfl (Nat.le_of_ble_eq_true rfl) (pl5 hjS221) (by decide) rfl rfl dX4_begin_4 hC (fun r S' h => by obtain ⟨rfl, h⟩ := h; exact kk S' h)
theorem bkX4_begin_7 {d : Nat} {S : hs_T} {Q : Option av_T → hs_T → Prop} {P : hs_T → Prop} (hC : Cv d mX4_advance [vR 4 0] (sk_ (sk_ (sk_ (sk_ (sk_ (sk_ S 4 0 (upd (S.1 4 0) 6 0)) 4 0 (upd ((sk_ S 4 0 (upd (S.1 4 0) 6 0)).1 4 0) 7 0)) 4 0 (upd ((sk_ (sk_ S 4 0 (upd (S.1 4 0) 6 0)) 4 0 (upd ((sk_ S 4 0 (upd (S.1 4 0) 6 0)).1 4 0) 7 0)).1 4 0) 8 0)) 4 0 (upd ((sk_ (sk_ (sk_ S 4 0 (upd (S.1 4 0) 6 0)) 4 0 (upd ((sk_ S 4 0 (upd (S.1 4 0) 6 0)).1 4 0) 7 0)) 4 0 (upd ((sk_ (sk_ S 4 0 (upd (S.1 4 0) 6 0)) 4 0 (upd ((sk_ S 4 0 (upd (S.1 4 0) 6 0)).1 4 0) 7 0)).1 4 0) 8 0)).1 4 0) 9 0)) 4 0 (upd ((sk_ (sk_ (sk_ (sk_ S 4 0 (upd (S.1 4 0) 6 0)) 4 0 (upd ((sk_ S 4 0 (upd (S.1 4 0) 6 0)).1 4 0) 7 0)) 4 0 (upd ((sk_ (sk_ S 4 0 (upd (S.1 4 0) 6 0)) 4 0 (upd ((sk_ S 4 0 (upd (S.1 4 0) 6 0)).1 4 0) 7 0)).1 4 0) 8 0)) 4 0 (upd ((sk_ (sk_ (sk_ S 4 0 (upd (S.1 4 0) 6 0)) 4 0 (upd ((sk_ S 4 0 (upd (S.1 4 0) 6 0)).1 4 0) 7 0)) 4 0 (upd ((sk_ (sk_ S 4 0 (upd (S.1 4 0) 6 0)) 4 0 (upd ((sk_ S 4 0 (upd (S.1 4 0) 6 0)).1 4 0) 7 0)).1 4 0) 8 0)).1 4 0) 9 0)).1 4 0) 10 0)) 4 0 (upd ((sk_ (sk_ (sk_ (sk_ (sk_ S 4 0 (upd (S.1 4 0) 6 0)) 4 0 (upd ((sk_ S 4 0 (upd (S.1 4 0) 6 0)).1 4 0) 7 0)) 4 0 (upd ((sk_ (sk_ S 4 0 (upd (S.1 4 0) 6 0)) 4 0 (upd ((sk_ S 4 0 (upd (S.1 4 0) 6 0)).1 4 0) 7 0)).1 4 0) 8 0)) 4 0 (upd ((sk_ (sk_ (sk_ S 4 0 (upd (S.1 4 0) 6 0)) 4 0 (upd ((sk_ S 4 0 (upd (S.1 4 0) 6 0)).1 4 0) 7 0)) 4 0 (upd ((sk_ (sk_ S 4 0 (upd (S.1 4 0) 6 0)) 4 0 (upd ((sk_ S 4 0 (upd (S.1 4 0) 6 0)).1 4 0) 7 0)).1 4 0) 8 0)).1 4 0) 9 0)) 4 0 (upd ((sk_ (sk_ (sk_ (sk_ S 4 0 (upd (S.1 4 0) 6 0)) 4 0 (upd ((sk_ S 4 0 (upd (S.1 4 0) 6 0)).1 4 0) 7 0)) 4 0 (upd ((sk_ (sk_ S 4 0 (upd (S.1 4 0) 6 0)) 4 0 (upd ((sk_ S 4 0 (upd (S.1 4 0) 6 0)).1 4 0) 7 0)).1 4 0) 8 0)) 4 0 (upd ((sk_ (sk_ (sk_ S 4 0 (upd (S.1 4 0) 6 0)) 4 0 (upd ((sk_ S 4 0 (upd (S.1 4 0) 6 0)).1 4 0) 7 0)) 4 0 (upd ((sk_ (sk_ S 4 0 (upd (S.1 4 0) 6 0)) 4 0 (upd ((sk_ S 4 0 (upd (S.1 4 0) 6 0)).1 4 0) 7 0)).1 4 0) 8 0)).1 4 0) 9 0)).1 4 0) 10 0)).1 4 0) 2 (-1))) P) (kk : ∀ S', P S' → Ev (d + 1) mX4_begin 41 [some (vR 4 0)] [] S' Q) : Ev (d + 1) mX4_begin 7 [some (vR 4 0)] [] S Q := by
  refine Ev.aload_n dX4_begin_7 rfl rfl ?_
  refine Ev.iconst (v := 0) dX4_begin_8 (by decide) ?_
  refine Ev.put okX4 (by decide) fl_X4_67 pz_4_0 (by decide) rfl (by decide) (by decide) rfl dX4_begin_9 ?_
  refine Ev.aload_n dX4_begin_12 rfl rfl ?_
  refine Ev.iconst (v := 0) dX4_begin_13 (by decide) ?_
  refine Ev.put okX4 (by decide) fl_X4_71 pz_4_0 (by decide) rfl (by decide) (by decide) rfl dX4_begin_14 ?_
  refine Ev.aload_n dX4_begin_17 rfl rfl ?_
  refine Ev.iconst (v := 0) dX4_begin_18 (by decide) ?_
  refine Ev.put okX4 (by decide) fl_X4_28 pz_4_0 (by decide) rfl rfl rfl rfl dX4_begin_19 ?_
  refine Ev.aload_n dX4_begin_22 rfl rfl ?_
  refine Ev.iconst (v := 0) dX4_begin_23 (by decide) ?_
  refine Ev.put okX4 (by decide) fl_X4_74 pz_4_0 (by decide) rfl rfl rfl rfl dX4_begin_24 ?_
  refine Ev.aload_n dX4_begin_27 rfl rfl ?_
  refine Ev.iconst (v := 0) dX4_begin_28 (by decide) ?_
  refine Ev.put okX4 (by decide) fl_X4_35 pz_4_0 (by decide) rfl rfl rfl rfl dX4_begin_29 ?_
  refine Ev.aload_n dX4_begin_32 rfl rfl ?_
  refine Ev.iconst (v := (-1)) dX4_begin_33 (by decide) ?_
  refine Ev.put okX4 (by decide) fl_X4_77 pz_4_0 (by decide) rfl rfl rfl rfl dX4_begin_34 ?_
  refine Ev.aload_n dX4_begin_37 rfl rfl ?_
  exact Ev.callV (as := []) (rest := []) okX4_advance in_X4_advance ml_X4_80 rfl (Nat.le_of_ble_eq_true rfl) pz_4_0 (by decide) rfl rfl dX4_begin_38 hC (fun r S' h => by obtain ⟨rfl, h⟩ := h; exact kk S' h)
theorem bkX4_begin_41 {d : Nat} {S : hs_T} {Q : Option av_T → hs_T → Prop} (hq : Q none S) : Ev d mX4_begin 41 [some (vR 4 0)] [] S Q := by
  exact Ev.vret dX4_begin_41 rfl hq
/-! EightWires$Reader.readState()V -/
theorem bkX4_readState_0 {d : Nat} {S : hs_T} {Q : Option av_T → hs_T → Prop} {o1 o2 : Option av_T} (hjS221 : (S.2.2 1) < 2) (kt : (S.1 5 (S.2.2 1) 6) < 8 → Ev d mX4_readState 20 [some (vR 4 0), some (vI (S.1 5 (S.2.2 1) 6)), o2] [] S Q) (kf : ¬ (S.1 5 (S.2.2 1) 6) < 8 → Ev d mX4_readState 14 [some (vR 4 0), some (vI (S.1 5 (S.2.2 1) 6)), o2] [] S Q) : Ev d mX4_readState 0 [some (vR 4 0), o1, o2] [] S Q := by
  refine Ev.aload_n dX4_readState_0 rfl rfl ?_
  refine Ev.get (v := vR 5 (S.2.2 1)) okX4 (by decide) fl_X4_21 pz_4_0 (ff_4_1 _ _) dX4_readState_1 ?_
  refine Ev.get (v := vI (S.1 5 (S.2.2 1) 6)) okX5 (by decide) fl_X4_83 (pl5 hjS221) (ff_5_6 _ _) dX4_readState_4 ?_
  refine Ev.istore_n (ls' := [some (vR 4 0), some (vI (S.1 5 (S.2.2 1) 6)), o2]) dX4_readState_7 rfl (by decide) rfl ?_
  refine Ev.iload_n dX4_readState_8 rfl rfl ?_
  refine Ev.bipush (v := 8) dX4_readState_9 (by decide) ?_
  exact Ev.icmp_lt (tgt := 20) dX4_readState_11 (by decide) kt kf
theorem bkX4_readState_14 {d : Nat} {S : hs_T} {Q : Option av_T → hs_T → Prop} {P : hs_T → Prop} {x1 : Int32} {o2 : Option av_T} (hC : Cv d mX4_refuse [vR 4 0, vI 5] S P) (kk : ∀ S', P S' → Ev (d + 1) mX4_readState 19 [some (vR 4 0), some (vI x1), o2] [] S' Q) : Ev (d + 1) mX4_readState 14 [some (vR 4 0), some (vI x1), o2] [] S Q := by
  refine Ev.aload_n dX4_readState_14 rfl rfl ?_
  refine Ev.iconst (v := 5) dX4_readState_15 (by decide) ?_
  exact Ev.callV (as := [vI 5]) (rest := []) okX4_refuse in_X4_refuse ml_X4_50 rfl (Nat.le_of_ble_eq_true rfl) pz_4_0 (by decide) rfl rfl dX4_readState_16 hC (fun r S' h => by obtain ⟨rfl, h⟩ := h; exact kk S' h)
theorem bkX4_readState_19 {d : Nat} {S : hs_T} {Q : Option av_T → hs_T → Prop} {x1 : Int32} {o2 : Option av_T} (hq : Q none S) : Ev d mX4_readState 19 [some (vR 4 0), some (vI x1), o2] [] S Q := by
  exact Ev.vret dX4_readState_19 rfl hq
theorem bkX4_readState_20 {d : Nat} {S : hs_T} {Q : Option av_T → hs_T → Prop} {x1 : Int32} {o2 : Option av_T} (hjS221 : (S.2.2 1) < 2) (kn : Ev d mX4_readState 32 [some (vR 4 0), some (vI x1), some (vI 0)] [] (sk_ S 5 (S.2.2 1) (upd (S.1 5 (S.2.2 1)) 6 (x1 + 1))) Q) : Ev d mX4_readState 20 [some (vR 4 0), some (vI x1), o2] [] S Q := by
  refine Ev.aload_n dX4_readState_20 rfl rfl ?_
  refine Ev.get (v := vR 5 (S.2.2 1)) okX4 (by decide) fl_X4_21 pz_4_0 (ff_4_1 _ _) dX4_readState_21 ?_
  refine Ev.iload_n dX4_readState_24 rfl rfl ?_
  refine Ev.iconst (v := 1) dX4_readState_25 (by decide) ?_
  refine Ev.iadd dX4_readState_26 ?_
  refine Ev.put okX5 (by decide) fl_X4_83 (pl5 hjS221) (by decide) rfl rfl rfl rfl dX4_readState_27 ?_
  refine Ev.iconst (v := 0) dX4_readState_30 (by decide) ?_
  refine Ev.istore_n (ls' := [some (vR 4 0), some (vI x1), some (vI 0)]) dX4_readState_31 rfl (by decide) rfl ?_
  exact kn
theorem bkX4_readState_32 {d : Nat} {S : hs_T} {Q : Option av_T → hs_T → Prop} {x1 x2 : Int32} (kt : 3 ≤ x2 → Ev d mX4_readState 69 [some (vR 4 0), some (vI x1), some (vI x2)] [] S Q) (kf : ¬ 3 ≤ x2 → Ev d mX4_readState 37 [some (vR 4 0), some (vI x1), some (vI x2)] [] S Q) : Ev d mX4_readState 32 [some (vR 4 0), some (vI x1), some (vI x2)] [] S Q := by
  refine Ev.iload_n dX4_readState_32 rfl rfl ?_
  refine Ev.iconst (v := 3) dX4_readState_33 (by decide) ?_
  exact Ev.icmp_ge (tgt := 69) dX4_readState_34 (by decide) kt kf
theorem bkX4_readState_37 {d : Nat} {S : hs_T} {Q : Option av_T → hs_T → Prop} {P : hs_T → Prop} {x1 x2 : Int32} (hC : Cv d mX4_advance [vR 4 0] S P) (kk : ∀ S', P S' → Ev (d + 1) mX4_readState 41 [some (vR 4 0), some (vI x1), some (vI x2)] [] S' Q) : Ev (d + 1) mX4_readState 37 [some (vR 4 0), some (vI x1), some (vI x2)] [] S Q := by
  refine Ev.aload_n dX4_readState_37 rfl rfl ?_
  exact Ev.callV (as := []) (rest := []) okX4_advance in_X4_advance ml_X4_80 rfl (Nat.le_of_ble_eq_true rfl) pz_4_0 (by decide) rfl rfl dX4_readState_38 hC (fun r S' h => by obtain ⟨rfl, h⟩ := h; exact kk S' h)
theorem bkX4_readState_41 {d : Nat} {S : hs_T} {Q : Option av_T → hs_T → Prop} {P : hs_T → Prop} {x1 x2 : Int32} (hC : Cv d mX4_readBranch [vR 4 0, vI x1, vI x2] S P) (kk : ∀ S', P S' → Ev (d + 1) mX4_readState 47 [some (vR 4 0), some (vI x1), some (vI x2)] [] S' Q) : Ev (d + 1) mX4_readState 41 [some (vR 4 0), some (vI x1), some (vI x2)] [] S Q := by
  refine Ev.aload_n dX4_readState_41 rfl rfl ?_
  refine Ev.iload_n dX4_readState_42 rfl rfl ?_
  refine Ev.iload_n dX4_readState_43 rfl rfl ?_
  exact Ev.callV (as := [vI x1, vI x2]) (rest := []) okX4_readBranch in_X4_readBranch ml_X4_86 rfl (Nat.le_of_ble_eq_true rfl) pz_4_0 (by decide) rfl rfl dX4_readState_44 hC (fun r S' h => by obtain ⟨rfl, h⟩ := h; exact kk S' h)
theorem bkX4_readState_47 {d : Nat} {S : hs_T} {Q : Option av_T → hs_T → Prop} {x1 x2 : Int32} (kt : (S.1 4 0 3) = 124 → Ev d mX4_readState 63 [some (vR 4 0), some (vI x1), some (vI x2)] [] S Q) (kf : ¬ (S.1 4 0 3) = 124 → Ev d mX4_readState 56 [some (vR 4 0), some (vI x1), some (vI x2)] [] S Q) : Ev d mX4_readState 47 [some (vR 4 0), some (vI x1), some (vI x2)] [] S Q := by
  refine Ev.aload_n dX4_readState_47 rfl rfl ?_
  refine Ev.get (v := vI (S.1 4 0 3)) okX4 (by decide) fl_X4_32 pz_4_0 (ff_4_3 _ _) dX4_readState_48 ?_
  refine Ev.bipush (v := 124) dX4_readState_51 (by decide) ?_
  exact Ev.icmp_eq (tgt := 63) dX4_readState_53 (by decide) kt kf
theorem bkX4_readState_56 {d : Nat} {S : hs_T} {Q : Option av_T → hs_T → Prop} {P : hs_T → Prop} {x1 x2 : Int32} (hC : Cv d mX4_take [vR 4 0, vI 59] S P) (kk : ∀ S', P S' → Ev (d + 1) mX4_readState 62 [some (vR 4 0), some (vI x1), some (vI x2)] [] S' Q) : Ev (d + 1) mX4_readState 56 [some (vR 4 0), some (vI x1), some (vI x2)] [] S Q := by
  refine Ev.aload_n dX4_readState_56 rfl rfl ?_
  refine Ev.bipush (v := 59) dX4_readState_57 (by decide) ?_
  exact Ev.callV (as := [vI 59]) (rest := []) okX4_take in_X4_take ml_X4_90 rfl (Nat.le_of_ble_eq_true rfl) pz_4_0 (by decide) rfl rfl dX4_readState_59 hC (fun r S' h => by obtain ⟨rfl, h⟩ := h; exact kk S' h)
theorem bkX4_readState_62 {d : Nat} {S : hs_T} {Q : Option av_T → hs_T → Prop} {x1 x2 : Int32} (hq : Q none S) : Ev d mX4_readState 62 [some (vR 4 0), some (vI x1), some (vI x2)] [] S Q := by
  exact Ev.vret dX4_readState_62 rfl hq
theorem bkX4_readState_63 {d : Nat} {S : hs_T} {Q : Option av_T → hs_T → Prop} {x1 x2 : Int32} (kn : Ev d mX4_readState 32 [some (vR 4 0), some (vI x1), some (vI (x2 + 1))] [] S Q) : Ev d mX4_readState 63 [some (vR 4 0), some (vI x1), some (vI x2)] [] S Q := by
  refine Ev.iinc (v := (x2 + 1)) (ls' := [some (vR 4 0), some (vI x1), some (vI (x2 + 1))]) dX4_readState_63 rfl rfl (by decide) rfl ?_
  refine Ev.goto (tgt := 32) dX4_readState_66 (by decide) ?_
  exact kn
theorem bkX4_readState_69 {d : Nat} {S : hs_T} {Q : Option av_T → hs_T → Prop} {P : hs_T → Prop} {x1 x2 : Int32} (hC : Cv d mX4_refuse [vR 4 0, vI 5] S P) (kk : ∀ S', P S' → Ev (d + 1) mX4_readState 74 [some (vR 4 0), some (vI x1), some (vI x2)] [] S' Q) : Ev (d + 1) mX4_readState 69 [some (vR 4 0), some (vI x1), some (vI x2)] [] S Q := by
  refine Ev.aload_n dX4_readState_69 rfl rfl ?_
  refine Ev.iconst (v := 5) dX4_readState_70 (by decide) ?_
  exact Ev.callV (as := [vI 5]) (rest := []) okX4_refuse in_X4_refuse ml_X4_50 rfl (Nat.le_of_ble_eq_true rfl) pz_4_0 (by decide) rfl rfl dX4_readState_71 hC (fun r S' h => by obtain ⟨rfl, h⟩ := h; exact kk S' h)
theorem bkX4_readState_74 {d : Nat} {S : hs_T} {Q : Option av_T → hs_T → Prop} {x1 x2 : Int32} (hq : Q none S) : Ev d mX4_readState 74 [some (vR 4 0), some (vI x1), some (vI x2)] [] S Q := by
  exact Ev.vret dX4_readState_74 rfl hq
/-! EightWires$Reader.readBranch(II)V -/
theorem bkX4_readBranch_0 {d : Nat} {S : hs_T} {Q : Option av_T → hs_T → Prop} {P : hs_T → Prop} {x1 x2 : Int32} {o3 o4 : Option av_T} (hC : Cv d mX4_readCondition [vR 4 0, vI ((x1 * 3) + x2)] S P) (kk : ∀ S', P S' → Ev (d + 1) mX4_readBranch 9 [some (vR 4 0), some (vI x1), some (vI x2), o3, o4] [] S' Q) : Ev (d + 1) mX4_readBranch 0 [some (vR 4 0), some (vI x1), some (vI x2), o3, o4] [] S Q := by
  refine Ev.aload_n dX4_readBranch_0 rfl rfl ?_
  refine Ev.iload_n dX4_readBranch_1 rfl rfl ?_
  refine Ev.iconst (v := 3) dX4_readBranch_2 (by decide) ?_
  refine Ev.imul dX4_readBranch_3 ?_
  refine Ev.iload_n dX4_readBranch_4 rfl rfl ?_
  refine Ev.iadd dX4_readBranch_5 ?_
  exact Ev.callV (as := [vI ((x1 * 3) + x2)]) (rest := []) okX4_readCondition in_X4_readCondition ml_X4_93 rfl (Nat.le_of_ble_eq_true rfl) pz_4_0 (by decide) rfl rfl dX4_readBranch_6 hC (fun r S' h => by obtain ⟨rfl, h⟩ := h; exact kk S' h)
theorem bkX4_readBranch_9 {d : Nat} {S : hs_T} {Q : Option av_T → hs_T → Prop} {x1 x2 : Int32} {o3 o4 : Option av_T} (kt : ¬ (S.1 4 0 3) = 8 → Ev d mX4_readBranch 32 [some (vR 4 0), some (vI x1), some (vI x2), some (vI 1), o4] [] S Q) (kf : (S.1 4 0 3) = 8 → Ev d mX4_readBranch 20 [some (vR 4 0), some (vI x1), some (vI x2), some (vI 1), o4] [] S Q) : Ev d mX4_readBranch 9 [some (vR 4 0), some (vI x1), some (vI x2), o3, o4] [] S Q := by
  refine Ev.iconst (v := 1) dX4_readBranch_9 (by decide) ?_
  refine Ev.istore_n (ls' := [some (vR 4 0), some (vI x1), some (vI x2), some (vI 1), o4]) dX4_readBranch_10 rfl (by decide) rfl ?_
  refine Ev.aload_n dX4_readBranch_11 rfl rfl ?_
  refine Ev.get (v := vI (S.1 4 0 3)) okX4 (by decide) fl_X4_32 pz_4_0 (ff_4_3 _ _) dX4_readBranch_12 ?_
  refine Ev.bipush (v := 8) dX4_readBranch_15 (by decide) ?_
  exact Ev.icmp_ne (tgt := 32) dX4_readBranch_17 (by decide) kt kf
theorem bkX4_readBranch_20 {d : Nat} {S : hs_T} {Q : Option av_T → hs_T → Prop} {P : hs_T → Prop} {x1 x2 x3 : Int32} {o4 : Option av_T} (hC : Cv d mX4_advance [vR 4 0] S P) (kk : ∀ S', P S' → Ev (d + 1) mX4_readBranch 24 [some (vR 4 0), some (vI x1), some (vI x2), some (vI x3), o4] [] S' Q) : Ev (d + 1) mX4_readBranch 20 [some (vR 4 0), some (vI x1), some (vI x2), some (vI x3), o4] [] S Q := by
  refine Ev.aload_n dX4_readBranch_20 rfl rfl ?_
  exact Ev.callV (as := []) (rest := []) okX4_advance in_X4_advance ml_X4_80 rfl (Nat.le_of_ble_eq_true rfl) pz_4_0 (by decide) rfl rfl dX4_readBranch_21 hC (fun r S' h => by obtain ⟨rfl, h⟩ := h; exact kk S' h)
theorem bkX4_readBranch_24 {d : Nat} {S : hs_T} {Q : Option av_T → hs_T → Prop} {P : Int32 → hs_T → Prop} {x1 x2 x3 : Int32} {o4 : Option av_T} (hC : Ci d mX4_takeNumber [vR 4 0, vI 1, vI 99] S P) (kk : ∀ v S', P v S' → Ev (d + 1) mX4_readBranch 31 [some (vR 4 0), some (vI x1), some (vI x2), some (vI x3), o4] [vI v] S' Q) : Ev (d + 1) mX4_readBranch 24 [some (vR 4 0), some (vI x1), some (vI x2), some (vI x3), o4] [] S Q := by
  refine Ev.aload_n dX4_readBranch_24 rfl rfl ?_
  refine Ev.iconst (v := 1) dX4_readBranch_25 (by decide) ?_
  refine Ev.bipush (v := 99) dX4_readBranch_26 (by decide) ?_
  exact Ev.callV (as := [vI 1, vI 99]) (rest := []) okX4_takeNumber in_X4_takeNumber ml_X4_96 rfl (Nat.le_of_ble_eq_true rfl) pz_4_0 (by decide) rfl rfl dX4_readBranch_28 hC (fun r S' h => by obtain ⟨v, rfl, h⟩ := h; exact kk v S' h)
theorem bkX4_readBranch_31 {d : Nat} {S : hs_T} {Q : Option av_T → hs_T → Prop} {x1 x2 x3 y0 : Int32} {o4 : Option av_T} (kn : Ev d mX4_readBranch 32 [some (vR 4 0), some (vI x1), some (vI x2), some (vI y0), o4] [] S Q) : Ev d mX4_readBranch 31 [some (vR 4 0), some (vI x1), some (vI x2), some (vI x3), o4] [vI y0] S Q := by
  refine Ev.istore_n (ls' := [some (vR 4 0), some (vI x1), some (vI x2), some (vI y0), o4]) dX4_readBranch_31 rfl (by decide) rfl ?_
  exact kn
theorem bkX4_readBranch_32 {d : Nat} {S : hs_T} {Q : Option av_T → hs_T → Prop} {P : hs_T → Prop} {x1 x2 x3 : Int32} {o4 : Option av_T} (hC : Cv d mX4_take [vR 4 0, vI 9] S P) (kk : ∀ S', P S' → Ev (d + 1) mX4_readBranch 38 [some (vR 4 0), some (vI x1), some (vI x2), some (vI x3), o4] [] S' Q) : Ev (d + 1) mX4_readBranch 32 [some (vR 4 0), some (vI x1), some (vI x2), some (vI x3), o4] [] S Q := by
  refine Ev.aload_n dX4_readBranch_32 rfl rfl ?_
  refine Ev.bipush (v := 9) dX4_readBranch_33 (by decide) ?_
  exact Ev.callV (as := [vI 9]) (rest := []) okX4_take in_X4_take ml_X4_90 rfl (Nat.le_of_ble_eq_true rfl) pz_4_0 (by decide) rfl rfl dX4_readBranch_35 hC (fun r S' h => by obtain ⟨rfl, h⟩ := h; exact kk S' h)
theorem bkX4_readBranch_38 {d : Nat} {S : hs_T} {Q : Option av_T → hs_T → Prop} {x1 x2 x3 : Int32} {o4 : Option av_T} (kt : ¬ (S.1 4 0 3) = 10 → Ev d mX4_readBranch 58 [some (vR 4 0), some (vI x1), some (vI x2), some (vI x3), some (vI 8)] [] S Q) (kf : (S.1 4 0 3) = 10 → Ev d mX4_readBranch 51 [some (vR 4 0), some (vI x1), some (vI x2), some (vI x3), some (vI 8)] [] S Q) : Ev d mX4_readBranch 38 [some (vR 4 0), some (vI x1), some (vI x2), some (vI x3), o4] [] S Q := by
  refine Ev.bipush (v := 8) dX4_readBranch_38 (by decide) ?_
  refine Ev.istore (ls' := [some (vR 4 0), some (vI x1), some (vI x2), some (vI x3), some (vI 8)]) dX4_readBranch_40 (by decide) rfl ?_
  refine Ev.aload_n dX4_readBranch_42 rfl rfl ?_
  refine Ev.get (v := vI (S.1 4 0 3)) okX4 (by decide) fl_X4_32 pz_4_0 (ff_4_3 _ _) dX4_readBranch_43 ?_
  refine Ev.bipush (v := 10) dX4_readBranch_46 (by decide) ?_
  exact Ev.icmp_ne (tgt := 58) dX4_readBranch_48 (by decide) kt kf
theorem bkX4_readBranch_51 {d : Nat} {S : hs_T} {Q : Option av_T → hs_T → Prop} {P : hs_T → Prop} {x1 x2 x3 x4 : Int32} (hC : Cv d mX4_advance [vR 4 0] S P) (kk : ∀ S', P S' → Ev (d + 1) mX4_readBranch 55 [some (vR 4 0), some (vI x1), some (vI x2), some (vI x3), some (vI x4)] [] S' Q) : Ev (d + 1) mX4_readBranch 51 [some (vR 4 0), some (vI x1), some (vI x2), some (vI x3), some (vI x4)] [] S Q := by
  refine Ev.aload_n dX4_readBranch_51 rfl rfl ?_
  exact Ev.callV (as := []) (rest := []) okX4_advance in_X4_advance ml_X4_80 rfl (Nat.le_of_ble_eq_true rfl) pz_4_0 (by decide) rfl rfl dX4_readBranch_52 hC (fun r S' h => by obtain ⟨rfl, h⟩ := h; exact kk S' h)
theorem bkX4_readBranch_55 {d : Nat} {S : hs_T} {Q : Option av_T → hs_T → Prop} {x1 x2 x3 x4 : Int32} (kn : Ev d mX4_readBranch 67 [some (vR 4 0), some (vI x1), some (vI x2), some (vI x3), some (vI x4)] [] S Q) : Ev d mX4_readBranch 55 [some (vR 4 0), some (vI x1), some (vI x2), some (vI x3), some (vI x4)] [] S Q := by
  refine Ev.goto (tgt := 67) dX4_readBranch_55 (by decide) ?_
  exact kn
theorem bkX4_readBranch_58 {d : Nat} {S : hs_T} {Q : Option av_T → hs_T → Prop} {P : Int32 → hs_T → Prop} {x1 x2 x3 x4 : Int32} (hC : Ci d mX4_takeNumber [vR 4 0, vI 0, vI 7] S P) (kk : ∀ v S', P v S' → Ev (d + 1) mX4_readBranch 65 [some (vR 4 0), some (vI x1), some (vI x2), some (vI x3), some (vI x4)] [vI v] S' Q) : Ev (d + 1) mX4_readBranch 58 [some (vR 4 0), some (vI x1), some (vI x2), some (vI x3), some (vI x4)] [] S Q := by
  refine Ev.aload_n dX4_readBranch_58 rfl rfl ?_
  refine Ev.iconst (v := 0) dX4_readBranch_59 (by decide) ?_
  refine Ev.bipush (v := 7) dX4_readBranch_60 (by decide) ?_
  exact Ev.callV (as := [vI 0, vI 7]) (rest := []) okX4_takeNumber in_X4_takeNumber ml_X4_96 rfl (Nat.le_of_ble_eq_true rfl) pz_4_0 (by decide) rfl rfl dX4_readBranch_62 hC (fun r S' h => by obtain ⟨v, rfl, h⟩ := h; exact kk v S' h)
theorem bkX4_readBranch_65 {d : Nat} {S : hs_T} {Q : Option av_T → hs_T → Prop} {x1 x2 x3 x4 y0 : Int32} (kn : Ev d mX4_readBranch 67 [some (vR 4 0), some (vI x1), some (vI x2), some (vI x3), some (vI y0)] [] S Q) : Ev d mX4_readBranch 65 [some (vR 4 0), some (vI x1), some (vI x2), some (vI x3), some (vI x4)] [vI y0] S Q := by
  refine Ev.istore (ls' := [some (vR 4 0), some (vI x1), some (vI x2), some (vI x3), some (vI y0)]) dX4_readBranch_65 (by decide) rfl ?_
  exact kn
theorem bkX4_readBranch_67 {d : Nat} {S : hs_T} {Q : Option av_T → hs_T → Prop} {P : hs_T → Prop} {x1 x2 x3 x4 : Int32} (hjS221 : (S.2.2 1) < 2) (hC : Cv d mX5_addBranch [vR 5 (S.2.2 1), vI x1, vI x2, vI x3, vI x4] S P) (kk : ∀ S', P S' → Ev (d + 1) mX4_readBranch 79 [some (vR 4 0), some (vI x1), some (vI x2), some (vI x3), some (vI x4)] [] S' Q) : Ev (d + 1) mX4_readBranch 67 [some (vR 4 0), some (vI x1), some (vI x2), some (vI x3), some (vI x4)] [] S Q := by
  refine Ev.aload_n dX4_readBranch_67 rfl rfl ?_
  refine Ev.get (v := vR 5 (S.2.2 1)) okX4 (by decide) fl_X4_21 pz_4_0 (ff_4_1 _ _) dX4_readBranch_68 ?_
  refine Ev.iload_n dX4_readBranch_71 rfl rfl ?_
  refine Ev.iload_n dX4_readBranch_72 rfl rfl ?_
  refine Ev.iload_n dX4_readBranch_73 rfl rfl ?_
  refine Ev.iload dX4_readBranch_74 rfl ?_
  exact Ev.callV (as := [vI x1, vI x2, vI x3, vI x4]) (rest := []) okX5_addBranch in_X5_addBranch ml_X4_100 rfl (Nat.le_of_ble_eq_true rfl) (pl5 hjS221) (by decide) rfl rfl dX4_readBranch_76 hC (fun r S' h => by obtain ⟨rfl, h⟩ := h; exact kk S' h)
theorem bkX4_readBranch_79 {d : Nat} {S : hs_T} {Q : Option av_T → hs_T → Prop} {x1 x2 x3 x4 : Int32} (hq : Q none S) : Ev d mX4_readBranch 79 [some (vR 4 0), some (vI x1), some (vI x2), some (vI x3), some (vI x4)] [] S Q := by
  exact Ev.vret dX4_readBranch_79 rfl hq
/-! EightWires$Reader.readKeep()V -/
theorem bkX4_readKeep_0 {d : Nat} {S : hs_T} {Q : Option av_T → hs_T → Prop} {P : Int32 → hs_T → Prop} (hjS221 : (S.2.2 1) < 2) (hC : Ci d mX5_termCount [vR 5 (S.2.2 1), vI 24] S P) (kk : ∀ v S', P v S' → Ev (d + 1) mX4_readKeep 9 [some (vR 4 0)] [vI v] S' Q) : Ev (d + 1) mX4_readKeep 0 [some (vR 4 0)] [] S Q := by
  refine Ev.aload_n dX4_readKeep_0 rfl rfl ?_
  refine Ev.get (v := vR 5 (S.2.2 1)) okX4 (by decide) fl_X4_21 pz_4_0 (ff_4_1 _ _) dX4_readKeep_1 ?_
  refine Ev.bipush (v := 24) dX4_readKeep_4 (by decide) ?_
  exact Ev.callV (as := [vI 24]) (rest := []) okX5_termCount in_X5_termCount ml_X4_104 rfl (Nat.le_of_ble_eq_true rfl) (pl5 hjS221) (by decide) rfl rfl dX4_readKeep_6 hC (fun r S' h => by obtain ⟨v, rfl, h⟩ := h; exact kk v S' h)
theorem bkX4_readKeep_9 {d : Nat} {S : hs_T} {Q : Option av_T → hs_T → Prop} {y0 : Int32} (kt : y0 ≤ 0 → Ev d mX4_readKeep 18 [some (vR 4 0)] [] S Q) (kf : ¬ y0 ≤ 0 → Ev d mX4_readKeep 12 [some (vR 4 0)] [] S Q) : Ev d mX4_readKeep 9 [some (vR 4 0)] [vI y0] S Q := by
  exact Ev.if_le (tgt := 18) dX4_readKeep_9 (by decide) kt kf
theorem bkX4_readKeep_12 {d : Nat} {S : hs_T} {Q : Option av_T → hs_T → Prop} {P : hs_T → Prop} (hC : Cv d mX4_refuse [vR 4 0, vI 4] S P) (kk : ∀ S', P S' → Ev (d + 1) mX4_readKeep 17 [some (vR 4 0)] [] S' Q) : Ev (d + 1) mX4_readKeep 12 [some (vR 4 0)] [] S Q := by
  refine Ev.aload_n dX4_readKeep_12 rfl rfl ?_
  refine Ev.iconst (v := 4) dX4_readKeep_13 (by decide) ?_
  exact Ev.callV (as := [vI 4]) (rest := []) okX4_refuse in_X4_refuse ml_X4_50 rfl (Nat.le_of_ble_eq_true rfl) pz_4_0 (by decide) rfl rfl dX4_readKeep_14 hC (fun r S' h => by obtain ⟨rfl, h⟩ := h; exact kk S' h)
theorem bkX4_readKeep_17 {d : Nat} {S : hs_T} {Q : Option av_T → hs_T → Prop} (hq : Q none S) : Ev d mX4_readKeep 17 [some (vR 4 0)] [] S Q := by
  exact Ev.vret dX4_readKeep_17 rfl hq
theorem bkX4_readKeep_18 {d : Nat} {S : hs_T} {Q : Option av_T → hs_T → Prop} {P : hs_T → Prop} (hC : Cv d mX4_advance [vR 4 0] S P) (kk : ∀ S', P S' → Ev (d + 1) mX4_readKeep 22 [some (vR 4 0)] [] S' Q) : Ev (d + 1) mX4_readKeep 18 [some (vR 4 0)] [] S Q := by
  refine Ev.aload_n dX4_readKeep_18 rfl rfl ?_
  exact Ev.callV (as := []) (rest := []) okX4_advance in_X4_advance ml_X4_80 rfl (Nat.le_of_ble_eq_true rfl) pz_4_0 (by decide) rfl rfl dX4_readKeep_19 hC (fun r S' h => by obtain ⟨rfl, h⟩ := h; exact kk S' h)
theorem bkX4_readKeep_22 {d : Nat} {S : hs_T} {Q : Option av_T → hs_T → Prop} {P : hs_T → Prop} (hC : Cv d mX4_readCondition [vR 4 0, vI 24] S P) (kk : ∀ S', P S' → Ev (d + 1) mX4_readKeep 28 [some (vR 4 0)] [] S' Q) : Ev (d + 1) mX4_readKeep 22 [some (vR 4 0)] [] S Q := by
  refine Ev.aload_n dX4_readKeep_22 rfl rfl ?_
  refine Ev.bipush (v := 24) dX4_readKeep_23 (by decide) ?_
  exact Ev.callV (as := [vI 24]) (rest := []) okX4_readCondition in_X4_readCondition ml_X4_93 rfl (Nat.le_of_ble_eq_true rfl) pz_4_0 (by decide) rfl rfl dX4_readKeep_25 hC (fun r S' h => by obtain ⟨rfl, h⟩ := h; exact kk S' h)
theorem bkX4_readKeep_28 {d : Nat} {S : hs_T} {Q : Option av_T → hs_T → Prop} {P : hs_T → Prop} (hC : Cv d mX4_take [vR 4 0, vI 59] S P) (kk : ∀ S', P S' → Ev (d + 1) mX4_readKeep 34 [some (vR 4 0)] [] S' Q) : Ev (d + 1) mX4_readKeep 28 [some (vR 4 0)] [] S Q := by
  refine Ev.aload_n dX4_readKeep_28 rfl rfl ?_
  refine Ev.bipush (v := 59) dX4_readKeep_29 (by decide) ?_
  exact Ev.callV (as := [vI 59]) (rest := []) okX4_take in_X4_take ml_X4_90 rfl (Nat.le_of_ble_eq_true rfl) pz_4_0 (by decide) rfl rfl dX4_readKeep_31 hC (fun r S' h => by obtain ⟨rfl, h⟩ := h; exact kk S' h)
theorem bkX4_readKeep_34 {d : Nat} {S : hs_T} {Q : Option av_T → hs_T → Prop} (hq : Q none S) : Ev d mX4_readKeep 34 [some (vR 4 0)] [] S Q := by
  exact Ev.vret dX4_readKeep_34 rfl hq
/-! EightWires$Reader.readDepth()V -/
theorem bkX4_readDepth_0 {d : Nat} {S : hs_T} {Q : Option av_T → hs_T → Prop} (kt : (S.1 4 0 6) = 0 → Ev d mX4_readDepth 13 [some (vR 4 0)] [] S Q) (kf : ¬ (S.1 4 0 6) = 0 → Ev d mX4_readDepth 7 [some (vR 4 0)] [] S Q) : Ev d mX4_readDepth 0 [some (vR 4 0)] [] S Q := by
  refine Ev.aload_n dX4_readDepth_0 rfl rfl ?_
  refine Ev.get (v := vI (S.1 4 0 6)) okX4 (by decide) fl_X4_67 pz_4_0 (ff_4_6 _ _) dX4_readDepth_1 ?_
  exact Ev.if_eq (tgt := 13) dX4_readDepth_4 (by decide) kt kf
theorem bkX4_readDepth_7 {d : Nat} {S : hs_T} {Q : Option av_T → hs_T → Prop} {P : hs_T → Prop} (hC : Cv d mX4_refuse [vR 4 0, vI 4] S P) (kk : ∀ S', P S' → Ev (d + 1) mX4_readDepth 12 [some (vR 4 0)] [] S' Q) : Ev (d + 1) mX4_readDepth 7 [some (vR 4 0)] [] S Q := by
  refine Ev.aload_n dX4_readDepth_7 rfl rfl ?_
  refine Ev.iconst (v := 4) dX4_readDepth_8 (by decide) ?_
  exact Ev.callV (as := [vI 4]) (rest := []) okX4_refuse in_X4_refuse ml_X4_50 rfl (Nat.le_of_ble_eq_true rfl) pz_4_0 (by decide) rfl rfl dX4_readDepth_9 hC (fun r S' h => by obtain ⟨rfl, h⟩ := h; exact kk S' h)
theorem bkX4_readDepth_12 {d : Nat} {S : hs_T} {Q : Option av_T → hs_T → Prop} (hq : Q none S) : Ev d mX4_readDepth 12 [some (vR 4 0)] [] S Q := by
  exact Ev.vret dX4_readDepth_12 rfl hq
theorem bkX4_readDepth_13 {d : Nat} {S : hs_T} {Q : Option av_T → hs_T → Prop} {P : hs_T → Prop} (hC : Cv d mX4_advance [vR 4 0] (sk_ S 4 0 (upd (S.1 4 0) 6 1)) P) (kk : ∀ S', P S' → Ev (d + 1) mX4_readDepth 22 [some (vR 4 0)] [] S' Q) : Ev (d + 1) mX4_readDepth 13 [some (vR 4 0)] [] S Q := by
  refine Ev.aload_n dX4_readDepth_13 rfl rfl ?_
  refine Ev.iconst (v := 1) dX4_readDepth_14 (by decide) ?_
  refine Ev.put okX4 (by decide) fl_X4_67 pz_4_0 (by decide) rfl (by decide) (by decide) rfl dX4_readDepth_15 ?_
  refine Ev.aload_n dX4_readDepth_18 rfl rfl ?_
  exact Ev.callV (as := []) (rest := []) okX4_advance in_X4_advance ml_X4_80 rfl (Nat.le_of_ble_eq_true rfl) pz_4_0 (by decide) rfl rfl dX4_readDepth_19 hC (fun r S' h => by obtain ⟨rfl, h⟩ := h; exact kk S' h)
theorem bkX4_readDepth_22 {d : Nat} {S : hs_T} {Q : Option av_T → hs_T → Prop} {P : Int32 → hs_T → Prop} (hC : Ci d mX4_takeNumber [vR 4 0, vI 1, vI 400] S P) (kk : ∀ v S', P v S' → Ev (d + 1) mX4_readDepth 34 [some (vR 4 0)] [vI v, vR 5 (S.2.2 1)] S' Q) : Ev (d + 1) mX4_readDepth 22 [some (vR 4 0)] [] S Q := by
  refine Ev.aload_n dX4_readDepth_22 rfl rfl ?_
  refine Ev.get (v := vR 5 (S.2.2 1)) okX4 (by decide) fl_X4_21 pz_4_0 (ff_4_1 _ _) dX4_readDepth_23 ?_
  refine Ev.aload_n dX4_readDepth_26 rfl rfl ?_
  refine Ev.iconst (v := 1) dX4_readDepth_27 (by decide) ?_
  refine Ev.sipush (v := 400) dX4_readDepth_28 (by decide) ?_
  exact Ev.callV (as := [vI 1, vI 400]) (rest := [vR 5 (S.2.2 1)]) okX4_takeNumber in_X4_takeNumber ml_X4_96 rfl (Nat.le_of_ble_eq_true rfl) pz_4_0 (by decide) rfl rfl dX4_readDepth_31 hC (fun r S' h => by obtain ⟨v, rfl, h⟩ := h; exact kk v S' h)
theorem bkX4_readDepth_34 {d : Nat} {S : hs_T} {Q : Option av_T → hs_T → Prop} {P : hs_T → Prop} {y0 : Int32} {i1 : Nat} (hji1 : i1 < 2) (hC : Cv d mX4_take [vR 4 0, vI 59] (sk_ S 5 i1 (upd (S.1 5 i1) 7 y0)) P) (kk : ∀ S', P S' → Ev (d + 1) mX4_readDepth 43 [some (vR 4 0)] [] S' Q) : Ev (d + 1) mX4_readDepth 34 [some (vR 4 0)] [vI y0, vR 5 i1] S Q := by
  refine Ev.put okX5 (by decide) fl_X4_61 (pl5 hji1) (by decide) rfl rfl rfl rfl dX4_readDepth_34 ?_
  refine Ev.aload_n dX4_readDepth_37 rfl rfl ?_
  refine Ev.bipush (v := 59) dX4_readDepth_38 (by decide) ?_
  exact Ev.callV (as := [vI 59]) (rest := []) okX4_take in_X4_take ml_X4_90 rfl (Nat.le_of_ble_eq_true rfl) pz_4_0 (by decide) rfl rfl dX4_readDepth_40 hC (fun r S' h => by obtain ⟨rfl, h⟩ := h; exact kk S' h)
theorem bkX4_readDepth_43 {d : Nat} {S : hs_T} {Q : Option av_T → hs_T → Prop} (hq : Q none S) : Ev d mX4_readDepth 43 [some (vR 4 0)] [] S Q := by
  exact Ev.vret dX4_readDepth_43 rfl hq
/-! EightWires$Reader.readAhead()V -/
theorem bkX4_readAhead_0 {d : Nat} {S : hs_T} {Q : Option av_T → hs_T → Prop} (kt : (S.1 4 0 7) = 0 → Ev d mX4_readAhead 13 [some (vR 4 0)] [] S Q) (kf : ¬ (S.1 4 0 7) = 0 → Ev d mX4_readAhead 7 [some (vR 4 0)] [] S Q) : Ev d mX4_readAhead 0 [some (vR 4 0)] [] S Q := by
  refine Ev.aload_n dX4_readAhead_0 rfl rfl ?_
  refine Ev.get (v := vI (S.1 4 0 7)) okX4 (by decide) fl_X4_71 pz_4_0 (ff_4_7 _ _) dX4_readAhead_1 ?_
  exact Ev.if_eq (tgt := 13) dX4_readAhead_4 (by decide) kt kf
theorem bkX4_readAhead_7 {d : Nat} {S : hs_T} {Q : Option av_T → hs_T → Prop} {P : hs_T → Prop} (hC : Cv d mX4_refuse [vR 4 0, vI 4] S P) (kk : ∀ S', P S' → Ev (d + 1) mX4_readAhead 12 [some (vR 4 0)] [] S' Q) : Ev (d + 1) mX4_readAhead 7 [some (vR 4 0)] [] S Q := by
  refine Ev.aload_n dX4_readAhead_7 rfl rfl ?_
  refine Ev.iconst (v := 4) dX4_readAhead_8 (by decide) ?_
  exact Ev.callV (as := [vI 4]) (rest := []) okX4_refuse in_X4_refuse ml_X4_50 rfl (Nat.le_of_ble_eq_true rfl) pz_4_0 (by decide) rfl rfl dX4_readAhead_9 hC (fun r S' h => by obtain ⟨rfl, h⟩ := h; exact kk S' h)
theorem bkX4_readAhead_12 {d : Nat} {S : hs_T} {Q : Option av_T → hs_T → Prop} (hq : Q none S) : Ev d mX4_readAhead 12 [some (vR 4 0)] [] S Q := by
  exact Ev.vret dX4_readAhead_12 rfl hq
theorem bkX4_readAhead_13 {d : Nat} {S : hs_T} {Q : Option av_T → hs_T → Prop} {P : hs_T → Prop} (hC : Cv d mX4_advance [vR 4 0] (sk_ S 4 0 (upd (S.1 4 0) 7 1)) P) (kk : ∀ S', P S' → Ev (d + 1) mX4_readAhead 22 [some (vR 4 0)] [] S' Q) : Ev (d + 1) mX4_readAhead 13 [some (vR 4 0)] [] S Q := by
  refine Ev.aload_n dX4_readAhead_13 rfl rfl ?_
  refine Ev.iconst (v := 1) dX4_readAhead_14 (by decide) ?_
  refine Ev.put okX4 (by decide) fl_X4_71 pz_4_0 (by decide) rfl (by decide) (by decide) rfl dX4_readAhead_15 ?_
  refine Ev.aload_n dX4_readAhead_18 rfl rfl ?_
  exact Ev.callV (as := []) (rest := []) okX4_advance in_X4_advance ml_X4_80 rfl (Nat.le_of_ble_eq_true rfl) pz_4_0 (by decide) rfl rfl dX4_readAhead_19 hC (fun r S' h => by obtain ⟨rfl, h⟩ := h; exact kk S' h)
theorem bkX4_readAhead_22 {d : Nat} {S : hs_T} {Q : Option av_T → hs_T → Prop} {P : Int32 → hs_T → Prop} (hC : Ci d mX4_takeNumber [vR 4 0, vI 0, vI 399] S P) (kk : ∀ v S', P v S' → Ev (d + 1) mX4_readAhead 34 [some (vR 4 0)] [vI v, vR 5 (S.2.2 1)] S' Q) : Ev (d + 1) mX4_readAhead 22 [some (vR 4 0)] [] S Q := by
  refine Ev.aload_n dX4_readAhead_22 rfl rfl ?_
  refine Ev.get (v := vR 5 (S.2.2 1)) okX4 (by decide) fl_X4_21 pz_4_0 (ff_4_1 _ _) dX4_readAhead_23 ?_
  refine Ev.aload_n dX4_readAhead_26 rfl rfl ?_
  refine Ev.iconst (v := 0) dX4_readAhead_27 (by decide) ?_
  refine Ev.sipush (v := 399) dX4_readAhead_28 (by decide) ?_
  exact Ev.callV (as := [vI 0, vI 399]) (rest := [vR 5 (S.2.2 1)]) okX4_takeNumber in_X4_takeNumber ml_X4_96 rfl (Nat.le_of_ble_eq_true rfl) pz_4_0 (by decide) rfl rfl dX4_readAhead_31 hC (fun r S' h => by obtain ⟨v, rfl, h⟩ := h; exact kk v S' h)
theorem bkX4_readAhead_34 {d : Nat} {S : hs_T} {Q : Option av_T → hs_T → Prop} {P : hs_T → Prop} {y0 : Int32} {i1 : Nat} (hji1 : i1 < 2) (hC : Cv d mX4_take [vR 4 0, vI 59] (sk_ S 5 i1 (upd (S.1 5 i1) 8 y0)) P) (kk : ∀ S', P S' → Ev (d + 1) mX4_readAhead 43 [some (vR 4 0)] [] S' Q) : Ev (d + 1) mX4_readAhead 34 [some (vR 4 0)] [vI y0, vR 5 i1] S Q := by
  refine Ev.put okX5 (by decide) fl_X4_58 (pl5 hji1) (by decide) rfl rfl rfl rfl dX4_readAhead_34 ?_
  refine Ev.aload_n dX4_readAhead_37 rfl rfl ?_
  refine Ev.bipush (v := 59) dX4_readAhead_38 (by decide) ?_
  exact Ev.callV (as := [vI 59]) (rest := []) okX4_take in_X4_take ml_X4_90 rfl (Nat.le_of_ble_eq_true rfl) pz_4_0 (by decide) rfl rfl dX4_readAhead_40 hC (fun r S' h => by obtain ⟨rfl, h⟩ := h; exact kk S' h)
theorem bkX4_readAhead_43 {d : Nat} {S : hs_T} {Q : Option av_T → hs_T → Prop} (hq : Q none S) : Ev d mX4_readAhead 43 [some (vR 4 0)] [] S Q := by
  exact Ev.vret dX4_readAhead_43 rfl hq
/-! EightWires$Reader.readCondition(I)V -/
theorem bkX4_readCondition_0 {d : Nat} {S : hs_T} {Q : Option av_T → hs_T → Prop} {x1 : Int32} {o2 o3 : Option av_T} (kn : Ev d mX4_readCondition 2 [some (vR 4 0), some (vI x1), some (vI 0), o3] [] S Q) : Ev d mX4_readCondition 0 [some (vR 4 0), some (vI x1), o2, o3] [] S Q := by
  refine Ev.iconst (v := 0) dX4_readCondition_0 (by decide) ?_
  refine Ev.istore_n (ls' := [some (vR 4 0), some (vI x1), some (vI 0), o3]) dX4_readCondition_1 rfl (by decide) rfl ?_
  exact kn
theorem bkX4_readCondition_2 {d : Nat} {S : hs_T} {Q : Option av_T → hs_T → Prop} {x1 x2 : Int32} {o3 : Option av_T} (kt : 3 ≤ x2 → Ev d mX4_readCondition 87 [some (vR 4 0), some (vI x1), some (vI x2), o3] [] S Q) (kf : ¬ 3 ≤ x2 → Ev d mX4_readCondition 7 [some (vR 4 0), some (vI x1), some (vI x2), o3] [] S Q) : Ev d mX4_readCondition 2 [some (vR 4 0), some (vI x1), some (vI x2), o3] [] S Q := by
  refine Ev.iload_n dX4_readCondition_2 rfl rfl ?_
  refine Ev.iconst (v := 3) dX4_readCondition_3 (by decide) ?_
  exact Ev.icmp_ge (tgt := 87) dX4_readCondition_4 (by decide) kt kf
theorem bkX4_readCondition_7 {d : Nat} {S : hs_T} {Q : Option av_T → hs_T → Prop} {x1 x2 : Int32} {o3 : Option av_T} (kt : x2 ≤ 0 → Ev d mX4_readCondition 15 [some (vR 4 0), some (vI x1), some (vI x2), o3] [] S Q) (kf : ¬ x2 ≤ 0 → Ev d mX4_readCondition 11 [some (vR 4 0), some (vI x1), some (vI x2), o3] [] S Q) : Ev d mX4_readCondition 7 [some (vR 4 0), some (vI x1), some (vI x2), o3] [] S Q := by
  refine Ev.iload_n dX4_readCondition_7 rfl rfl ?_
  exact Ev.if_le (tgt := 15) dX4_readCondition_8 (by decide) kt kf
theorem bkX4_readCondition_11 {d : Nat} {S : hs_T} {Q : Option av_T → hs_T → Prop} {P : hs_T → Prop} {x1 x2 : Int32} {o3 : Option av_T} (hC : Cv d mX4_advance [vR 4 0] S P) (kk : ∀ S', P S' → Ev (d + 1) mX4_readCondition 15 [some (vR 4 0), some (vI x1), some (vI x2), o3] [] S' Q) : Ev (d + 1) mX4_readCondition 11 [some (vR 4 0), some (vI x1), some (vI x2), o3] [] S Q := by
  refine Ev.aload_n dX4_readCondition_11 rfl rfl ?_
  exact Ev.callV (as := []) (rest := []) okX4_advance in_X4_advance ml_X4_80 rfl (Nat.le_of_ble_eq_true rfl) pz_4_0 (by decide) rfl rfl dX4_readCondition_12 hC (fun r S' h => by obtain ⟨rfl, h⟩ := h; exact kk S' h)
theorem bkX4_readCondition_15 {d : Nat} {S : hs_T} {Q : Option av_T → hs_T → Prop} {x1 x2 : Int32} {o3 : Option av_T} (kt : ((S.1 4 0 3) - 20) < 0 → Ev d mX4_readCondition 33 [some (vR 4 0), some (vI x1), some (vI x2), some (vI ((S.1 4 0 3) - 20))] [] S Q) (kf : ¬ ((S.1 4 0 3) - 20) < 0 → Ev d mX4_readCondition 27 [some (vR 4 0), some (vI x1), some (vI x2), some (vI ((S.1 4 0 3) - 20))] [] S Q) : Ev d mX4_readCondition 15 [some (vR 4 0), some (vI x1), some (vI x2), o3] [] S Q := by
  refine Ev.aload_n dX4_readCondition_15 rfl rfl ?_
  refine Ev.get (v := vI (S.1 4 0 3)) okX4 (by decide) fl_X4_32 pz_4_0 (ff_4_3 _ _) dX4_readCondition_16 ?_
  refine Ev.bipush (v := 20) dX4_readCondition_19 (by decide) ?_
  refine Ev.isub dX4_readCondition_21 ?_
  refine Ev.istore_n (ls' := [some (vR 4 0), some (vI x1), some (vI x2), some (vI ((S.1 4 0 3) - 20))]) dX4_readCondition_22 rfl (by decide) rfl ?_
  refine Ev.iload_n dX4_readCondition_23 rfl rfl ?_
  exact Ev.if_lt (tgt := 33) dX4_readCondition_24 (by decide) kt kf
theorem bkX4_readCondition_27 {d : Nat} {S : hs_T} {Q : Option av_T → hs_T → Prop} {x1 x2 x3 : Int32} (kt : x3 ≤ 6 → Ev d mX4_readCondition 39 [some (vR 4 0), some (vI x1), some (vI x2), some (vI x3)] [] S Q) (kf : ¬ x3 ≤ 6 → Ev d mX4_readCondition 33 [some (vR 4 0), some (vI x1), some (vI x2), some (vI x3)] [] S Q) : Ev d mX4_readCondition 27 [some (vR 4 0), some (vI x1), some (vI x2), some (vI x3)] [] S Q := by
  refine Ev.iload_n dX4_readCondition_27 rfl rfl ?_
  refine Ev.bipush (v := 6) dX4_readCondition_28 (by decide) ?_
  exact Ev.icmp_le (tgt := 39) dX4_readCondition_30 (by decide) kt kf
theorem bkX4_readCondition_33 {d : Nat} {S : hs_T} {Q : Option av_T → hs_T → Prop} {P : hs_T → Prop} {x1 x2 x3 : Int32} (hC : Cv d mX4_refuse [vR 4 0, vI 2] S P) (kk : ∀ S', P S' → Ev (d + 1) mX4_readCondition 38 [some (vR 4 0), some (vI x1), some (vI x2), some (vI x3)] [] S' Q) : Ev (d + 1) mX4_readCondition 33 [some (vR 4 0), some (vI x1), some (vI x2), some (vI x3)] [] S Q := by
  refine Ev.aload_n dX4_readCondition_33 rfl rfl ?_
  refine Ev.iconst (v := 2) dX4_readCondition_34 (by decide) ?_
  exact Ev.callV (as := [vI 2]) (rest := []) okX4_refuse in_X4_refuse ml_X4_50 rfl (Nat.le_of_ble_eq_true rfl) pz_4_0 (by decide) rfl rfl dX4_readCondition_35 hC (fun r S' h => by obtain ⟨rfl, h⟩ := h; exact kk S' h)
theorem bkX4_readCondition_38 {d : Nat} {S : hs_T} {Q : Option av_T → hs_T → Prop} {x1 x2 x3 : Int32} (hq : Q none S) : Ev d mX4_readCondition 38 [some (vR 4 0), some (vI x1), some (vI x2), some (vI x3)] [] S Q := by
  exact Ev.vret dX4_readCondition_38 rfl hq
theorem bkX4_readCondition_39 {d : Nat} {S : hs_T} {Q : Option av_T → hs_T → Prop} {P : hs_T → Prop} {x1 x2 x3 : Int32} (hC : Cv d mX4_advance [vR 4 0] S P) (kk : ∀ S', P S' → Ev (d + 1) mX4_readCondition 43 [some (vR 4 0), some (vI x1), some (vI x2), some (vI x3)] [] S' Q) : Ev (d + 1) mX4_readCondition 39 [some (vR 4 0), some (vI x1), some (vI x2), some (vI x3)] [] S Q := by
  refine Ev.aload_n dX4_readCondition_39 rfl rfl ?_
  exact Ev.callV (as := []) (rest := []) okX4_advance in_X4_advance ml_X4_80 rfl (Nat.le_of_ble_eq_true rfl) pz_4_0 (by decide) rfl rfl dX4_readCondition_40 hC (fun r S' h => by obtain ⟨rfl, h⟩ := h; exact kk S' h)
theorem bkX4_readCondition_43 {d : Nat} {S : hs_T} {Q : Option av_T → hs_T → Prop} {x1 x2 x3 : Int32} (kt : ¬ x3 = 6 → Ev d mX4_readCondition 60 [some (vR 4 0), some (vI x1), some (vI x2), some (vI x3)] [vR 4 0, vI x3, vI x1, vR 5 (S.2.2 1)] S Q) (kf : x3 = 6 → Ev d mX4_readCondition 56 [some (vR 4 0), some (vI x1), some (vI x2), some (vI x3)] [vR 4 0, vI x3, vI x1, vR 5 (S.2.2 1)] S Q) : Ev d mX4_readCondition 43 [some (vR 4 0), some (vI x1), some (vI x2), some (vI x3)] [] S Q := by
  refine Ev.aload_n dX4_readCondition_43 rfl rfl ?_
  refine Ev.get (v := vR 5 (S.2.2 1)) okX4 (by decide) fl_X4_21 pz_4_0 (ff_4_1 _ _) dX4_readCondition_44 ?_
  refine Ev.iload_n dX4_readCondition_47 rfl rfl ?_
  refine Ev.iload_n dX4_readCondition_48 rfl rfl ?_
  refine Ev.aload_n dX4_readCondition_49 rfl rfl ?_
  refine Ev.iload_n dX4_readCondition_50 rfl rfl ?_
  refine Ev.bipush (v := 6) dX4_readCondition_51 (by decide) ?_
  exact Ev.icmp_ne (tgt := 60) dX4_readCondition_53 (by decide) kt kf
theorem bkX4_readCondition_56 {d : Nat} {S : hs_T} {Q : Option av_T → hs_T → Prop} {x1 x2 x3 y1 y2 : Int32} {i3 : Nat} (kn : Ev d mX4_readCondition 61 [some (vR 4 0), some (vI x1), some (vI x2), some (vI x3)] [vI 1, vR 4 0, vI y1, vI y2, vR 5 i3] S Q) : Ev d mX4_readCondition 56 [some (vR 4 0), some (vI x1), some (vI x2), some (vI x3)] [vR 4 0, vI y1, vI y2, vR 5 i3] S Q := by
  refine Ev.iconst (v := 1) dX4_readCondition_56 (by decide) ?_
  refine Ev.goto (tgt := 61) dX4_readCondition_57 (by decide) ?_
  exact kn
theorem bkX4_readCondition_60 {d : Nat} {S : hs_T} {Q : Option av_T → hs_T → Prop} {x1 x2 x3 y1 y2 : Int32} {i3 : Nat} (kn : Ev d mX4_readCondition 61 [some (vR 4 0), some (vI x1), some (vI x2), some (vI x3)] [vI 0, vR 4 0, vI y1, vI y2, vR 5 i3] S Q) : Ev d mX4_readCondition 60 [some (vR 4 0), some (vI x1), some (vI x2), some (vI x3)] [vR 4 0, vI y1, vI y2, vR 5 i3] S Q := by
  refine Ev.iconst (v := 0) dX4_readCondition_60 (by decide) ?_
  exact kn
theorem bkX4_readCondition_61 {d : Nat} {S : hs_T} {Q : Option av_T → hs_T → Prop} {P : Int32 → hs_T → Prop} {x1 x2 x3 y0 y2 y3 : Int32} {i4 : Nat} (hC : Ci d mX4_greatestOf [vI x3] S P) (kk : ∀ v S', P v S' → Ev (d + 1) mX4_readCondition 65 [some (vR 4 0), some (vI x1), some (vI x2), some (vI x3)] [vI v, vI y0, vR 4 0, vI y2, vI y3, vR 5 i4] S' Q) : Ev (d + 1) mX4_readCondition 61 [some (vR 4 0), some (vI x1), some (vI x2), some (vI x3)] [vI y0, vR 4 0, vI y2, vI y3, vR 5 i4] S Q := by
  refine Ev.iload_n dX4_readCondition_61 rfl rfl ?_
  exact Ev.callS (as := [vI x3]) (rest := [vI y0, vR 4 0, vI y2, vI y3, vR 5 i4]) okX4_greatestOf stX4_greatestOf ml_X4_108 rfl (Nat.le_of_ble_eq_true rfl) rfl dX4_readCondition_62 hC (fun r S' h => by obtain ⟨v, rfl, h⟩ := h; exact kk v S' h)
theorem bkX4_readCondition_65 {d : Nat} {S : hs_T} {Q : Option av_T → hs_T → Prop} {P : Int32 → hs_T → Prop} {x1 x2 x3 y0 y1 y3 y4 : Int32} {i5 : Nat} (hC : Ci d mX4_takeNumber [vR 4 0, vI y1, vI y0] S P) (kk : ∀ v S', P v S' → Ev (d + 1) mX4_readCondition 68 [some (vR 4 0), some (vI x1), some (vI x2), some (vI x3)] [vI v, vI y3, vI y4, vR 5 i5] S' Q) : Ev (d + 1) mX4_readCondition 65 [some (vR 4 0), some (vI x1), some (vI x2), some (vI x3)] [vI y0, vI y1, vR 4 0, vI y3, vI y4, vR 5 i5] S Q := by
  exact Ev.callV (as := [vI y1, vI y0]) (rest := [vI y3, vI y4, vR 5 i5]) okX4_takeNumber in_X4_takeNumber ml_X4_96 rfl (Nat.le_of_ble_eq_true rfl) pz_4_0 (by decide) rfl rfl dX4_readCondition_65 hC (fun r S' h => by obtain ⟨v, rfl, h⟩ := h; exact kk v S' h)
theorem bkX4_readCondition_68 {d : Nat} {S : hs_T} {Q : Option av_T → hs_T → Prop} {P : hs_T → Prop} {x1 x2 x3 y0 y1 y2 : Int32} {i3 : Nat} (hji3 : i3 < 2) (hC : Cv d mX5_addTerm [vR 5 i3, vI y2, vI y1, vI y0] S P) (kk : ∀ S', P S' → Ev (d + 1) mX4_readCondition 71 [some (vR 4 0), some (vI x1), some (vI x2), some (vI x3)] [] S' Q) : Ev (d + 1) mX4_readCondition 68 [some (vR 4 0), some (vI x1), some (vI x2), some (vI x3)] [vI y0, vI y1, vI y2, vR 5 i3] S Q := by
  exact Ev.callV (as := [vI y2, vI y1, vI y0]) (rest := []) okX5_addTerm in_X5_addTerm ml_X4_111 rfl (Nat.le_of_ble_eq_true rfl) (pl5 hji3) (by decide) rfl rfl dX4_readCondition_68 hC (fun r S' h => by obtain ⟨rfl, h⟩ := h; exact kk S' h)
theorem bkX4_readCondition_71 {d : Nat} {S : hs_T} {Q : Option av_T → hs_T → Prop} {x1 x2 x3 : Int32} (kt : (S.1 4 0 3) = 38 → Ev d mX4_readCondition 81 [some (vR 4 0), some (vI x1), some (vI x2), some (vI x3)] [] S Q) (kf : ¬ (S.1 4 0 3) = 38 → Ev d mX4_readCondition 80 [some (vR 4 0), some (vI x1), some (vI x2), some (vI x3)] [] S Q) : Ev d mX4_readCondition 71 [some (vR 4 0), some (vI x1), some (vI x2), some (vI x3)] [] S Q := by
  refine Ev.aload_n dX4_readCondition_71 rfl rfl ?_
  refine Ev.get (v := vI (S.1 4 0 3)) okX4 (by decide) fl_X4_32 pz_4_0 (ff_4_3 _ _) dX4_readCondition_72 ?_
  refine Ev.bipush (v := 38) dX4_readCondition_75 (by decide) ?_
  exact Ev.icmp_eq (tgt := 81) dX4_readCondition_77 (by decide) kt kf
theorem bkX4_readCondition_80 {d : Nat} {S : hs_T} {Q : Option av_T → hs_T → Prop} {x1 x2 x3 : Int32} (hq : Q none S) : Ev d mX4_readCondition 80 [some (vR 4 0), some (vI x1), some (vI x2), some (vI x3)] [] S Q := by
  exact Ev.vret dX4_readCondition_80 rfl hq
theorem bkX4_readCondition_81 {d : Nat} {S : hs_T} {Q : Option av_T → hs_T → Prop} {x1 x2 x3 : Int32} (kn : Ev d mX4_readCondition 2 [some (vR 4 0), some (vI x1), some (vI (x2 + 1)), some (vI x3)] [] S Q) : Ev d mX4_readCondition 81 [some (vR 4 0), some (vI x1), some (vI x2), some (vI x3)] [] S Q := by
  refine Ev.iinc (v := (x2 + 1)) (ls' := [some (vR 4 0), some (vI x1), some (vI (x2 + 1)), some (vI x3)]) dX4_readCondition_81 rfl rfl (by decide) rfl ?_
  refine Ev.goto (tgt := 2) dX4_readCondition_84 (by decide) ?_
  exact kn
theorem bkX4_readCondition_87 {d : Nat} {S : hs_T} {Q : Option av_T → hs_T → Prop} {P : hs_T → Prop} {x1 x2 : Int32} {o3 : Option av_T} (hC : Cv d mX4_refuse [vR 4 0, vI 5] S P) (kk : ∀ S', P S' → Ev (d + 1) mX4_readCondition 92 [some (vR 4 0), some (vI x1), some (vI x2), o3] [] S' Q) : Ev (d + 1) mX4_readCondition 87 [some (vR 4 0), some (vI x1), some (vI x2), o3] [] S Q := by
  refine Ev.aload_n dX4_readCondition_87 rfl rfl ?_
  refine Ev.iconst (v := 5) dX4_readCondition_88 (by decide) ?_
  exact Ev.callV (as := [vI 5]) (rest := []) okX4_refuse in_X4_refuse ml_X4_50 rfl (Nat.le_of_ble_eq_true rfl) pz_4_0 (by decide) rfl rfl dX4_readCondition_89 hC (fun r S' h => by obtain ⟨rfl, h⟩ := h; exact kk S' h)
theorem bkX4_readCondition_92 {d : Nat} {S : hs_T} {Q : Option av_T → hs_T → Prop} {x1 x2 : Int32} {o3 : Option av_T} (hq : Q none S) : Ev d mX4_readCondition 92 [some (vR 4 0), some (vI x1), some (vI x2), o3] [] S Q := by
  exact Ev.vret dX4_readCondition_92 rfl hq
/-! EightWires$Reader.greatestOf(I)I -/
theorem bkX4_greatestOf_0 {d : Nat} {S : hs_T} {Q : Option av_T → hs_T → Prop} {x0 : Int32} (k0 : x0 = 4 → Ev d mX4_greatestOf 28 [some (vI x0)] [] S Q) (k1 : x0 = 5 → Ev d mX4_greatestOf 28 [some (vI x0)] [] S Q) (k2 : x0 = 6 → Ev d mX4_greatestOf 32 [some (vI x0)] [] S Q) (kd : ¬ x0 = 4 → ¬ x0 = 5 → ¬ x0 = 6 → Ev d mX4_greatestOf 36 [some (vI x0)] [] S Q) : Ev d mX4_greatestOf 0 [some (vI x0)] [] S Q := by
  refine Ev.iload_n dX4_greatestOf_0 rfl rfl ?_
  by_cases hc0 : x0 = 4
  · exact Ev.tableIn (off := 27) (tgt := 28) dX4_greatestOf_1 (by rw [hc0]; decide) (by rw [hc0]; decide) (by rw [hc0]; rfl) (by decide) (k0 hc0)
  by_cases hc1 : x0 = 5
  · exact Ev.tableIn (off := 27) (tgt := 28) dX4_greatestOf_1 (by rw [hc1]; decide) (by rw [hc1]; decide) (by rw [hc1]; rfl) (by decide) (k1 hc1)
  by_cases hc2 : x0 = 6
  · exact Ev.tableIn (off := 31) (tgt := 32) dX4_greatestOf_1 (by rw [hc2]; decide) (by rw [hc2]; decide) (by rw [hc2]; rfl) (by decide) (k2 hc2)
  refine Ev.tableOut (tgt := 36) dX4_greatestOf_1 (tw_out (fun c h1 h2 => ?_)) (by decide) (kd hc0 hc1 hc2)
  have hcs : c = 4 ∨ c = 5 ∨ c = 6 := by omega
  rcases hcs with rfl | rfl | rfl
  · exact fun z => hc0 (Int32.toInt_inj.mp (z.trans (by decide)))
  · exact fun z => hc1 (Int32.toInt_inj.mp (z.trans (by decide)))
  · exact fun z => hc2 (Int32.toInt_inj.mp (z.trans (by decide)))
theorem bkX4_greatestOf_28 {d : Nat} {S : hs_T} {Q : Option av_T → hs_T → Prop} {x0 : Int32} (hq : Q (some (vI 255)) S) : Ev d mX4_greatestOf 28 [some (vI x0)] [] S Q := by
  refine Ev.sipush (v := 255) dX4_greatestOf_28 (by decide) ?_
  exact Ev.iret dX4_greatestOf_31 rfl rfl hq
theorem bkX4_greatestOf_32 {d : Nat} {S : hs_T} {Q : Option av_T → hs_T → Prop} {x0 : Int32} (hq : Q (some (vI 999)) S) : Ev d mX4_greatestOf 32 [some (vI x0)] [] S Q := by
  refine Ev.sipush (v := 999) dX4_greatestOf_32 (by decide) ?_
  exact Ev.iret dX4_greatestOf_35 rfl rfl hq
theorem bkX4_greatestOf_36 {d : Nat} {S : hs_T} {Q : Option av_T → hs_T → Prop} {x0 : Int32} (hq : Q (some (vI 7)) S) : Ev d mX4_greatestOf 36 [some (vI x0)] [] S Q := by
  refine Ev.bipush (v := 7) dX4_greatestOf_36 (by decide) ?_
  exact Ev.iret dX4_greatestOf_38 rfl rfl hq
/-! EightWires$Reader.take(I)V -/
theorem bkX4_take_0 {d : Nat} {S : hs_T} {Q : Option av_T → hs_T → Prop} {x1 : Int32} (kt : ¬ (S.1 4 0 3) = x1 → Ev d mX4_take 15 [some (vR 4 0), some (vI x1)] [] S Q) (kf : (S.1 4 0 3) = x1 → Ev d mX4_take 8 [some (vR 4 0), some (vI x1)] [] S Q) : Ev d mX4_take 0 [some (vR 4 0), some (vI x1)] [] S Q := by
  refine Ev.aload_n dX4_take_0 rfl rfl ?_
  refine Ev.get (v := vI (S.1 4 0 3)) okX4 (by decide) fl_X4_32 pz_4_0 (ff_4_3 _ _) dX4_take_1 ?_
  refine Ev.iload_n dX4_take_4 rfl rfl ?_
  exact Ev.icmp_ne (tgt := 15) dX4_take_5 (by decide) kt kf
theorem bkX4_take_8 {d : Nat} {S : hs_T} {Q : Option av_T → hs_T → Prop} {P : hs_T → Prop} {x1 : Int32} (hC : Cv d mX4_advance [vR 4 0] S P) (kk : ∀ S', P S' → Ev (d + 1) mX4_take 12 [some (vR 4 0), some (vI x1)] [] S' Q) : Ev (d + 1) mX4_take 8 [some (vR 4 0), some (vI x1)] [] S Q := by
  refine Ev.aload_n dX4_take_8 rfl rfl ?_
  exact Ev.callV (as := []) (rest := []) okX4_advance in_X4_advance ml_X4_80 rfl (Nat.le_of_ble_eq_true rfl) pz_4_0 (by decide) rfl rfl dX4_take_9 hC (fun r S' h => by obtain ⟨rfl, h⟩ := h; exact kk S' h)
theorem bkX4_take_12 {d : Nat} {S : hs_T} {Q : Option av_T → hs_T → Prop} {x1 : Int32} (kn : Ev d mX4_take 20 [some (vR 4 0), some (vI x1)] [] S Q) : Ev d mX4_take 12 [some (vR 4 0), some (vI x1)] [] S Q := by
  refine Ev.goto (tgt := 20) dX4_take_12 (by decide) ?_
  exact kn
theorem bkX4_take_15 {d : Nat} {S : hs_T} {Q : Option av_T → hs_T → Prop} {P : hs_T → Prop} {x1 : Int32} (hC : Cv d mX4_refuse [vR 4 0, vI 2] S P) (kk : ∀ S', P S' → Ev (d + 1) mX4_take 20 [some (vR 4 0), some (vI x1)] [] S' Q) : Ev (d + 1) mX4_take 15 [some (vR 4 0), some (vI x1)] [] S Q := by
  refine Ev.aload_n dX4_take_15 rfl rfl ?_
  refine Ev.iconst (v := 2) dX4_take_16 (by decide) ?_
  exact Ev.callV (as := [vI 2]) (rest := []) okX4_refuse in_X4_refuse ml_X4_50 rfl (Nat.le_of_ble_eq_true rfl) pz_4_0 (by decide) rfl rfl dX4_take_17 hC (fun r S' h => by obtain ⟨rfl, h⟩ := h; exact kk S' h)
theorem bkX4_take_20 {d : Nat} {S : hs_T} {Q : Option av_T → hs_T → Prop} {x1 : Int32} (hq : Q none S) : Ev d mX4_take 20 [some (vR 4 0), some (vI x1)] [] S Q := by
  exact Ev.vret dX4_take_20 rfl hq
/-! EightWires$Reader.takeNumber(II)I -/
theorem bkX4_takeNumber_0 {d : Nat} {S : hs_T} {Q : Option av_T → hs_T → Prop} {x1 x2 : Int32} {o3 : Option av_T} (kt : (S.1 4 0 3) = 2 → Ev d mX4_takeNumber 15 [some (vR 4 0), some (vI x1), some (vI x2), o3] [] S Q) (kf : ¬ (S.1 4 0 3) = 2 → Ev d mX4_takeNumber 8 [some (vR 4 0), some (vI x1), some (vI x2), o3] [] S Q) : Ev d mX4_takeNumber 0 [some (vR 4 0), some (vI x1), some (vI x2), o3] [] S Q := by
  refine Ev.aload_n dX4_takeNumber_0 rfl rfl ?_
  refine Ev.get (v := vI (S.1 4 0 3)) okX4 (by decide) fl_X4_32 pz_4_0 (ff_4_3 _ _) dX4_takeNumber_1 ?_
  refine Ev.iconst (v := 2) dX4_takeNumber_4 (by decide) ?_
  exact Ev.icmp_eq (tgt := 15) dX4_takeNumber_5 (by decide) kt kf
theorem bkX4_takeNumber_8 {d : Nat} {S : hs_T} {Q : Option av_T → hs_T → Prop} {P : hs_T → Prop} {x1 x2 : Int32} {o3 : Option av_T} (hC : Cv d mX4_refuse [vR 4 0, vI 2] S P) (kk : ∀ S', P S' → Ev (d + 1) mX4_takeNumber 13 [some (vR 4 0), some (vI x1), some (vI x2), o3] [] S' Q) : Ev (d + 1) mX4_takeNumber 8 [some (vR 4 0), some (vI x1), some (vI x2), o3] [] S Q := by
  refine Ev.aload_n dX4_takeNumber_8 rfl rfl ?_
  refine Ev.iconst (v := 2) dX4_takeNumber_9 (by decide) ?_
  exact Ev.callV (as := [vI 2]) (rest := []) okX4_refuse in_X4_refuse ml_X4_50 rfl (Nat.le_of_ble_eq_true rfl) pz_4_0 (by decide) rfl rfl dX4_takeNumber_10 hC (fun r S' h => by obtain ⟨rfl, h⟩ := h; exact kk S' h)
theorem bkX4_takeNumber_13 {d : Nat} {S : hs_T} {Q : Option av_T → hs_T → Prop} {x1 x2 : Int32} {o3 : Option av_T} (hq : Q (some (vI 0)) S) : Ev d mX4_takeNumber 13 [some (vR 4 0), some (vI x1), some (vI x2), o3] [] S Q := by
  refine Ev.iconst (v := 0) dX4_takeNumber_13 (by decide) ?_
  exact Ev.iret dX4_takeNumber_14 rfl rfl hq
theorem bkX4_takeNumber_15 {d : Nat} {S : hs_T} {Q : Option av_T → hs_T → Prop} {x1 x2 : Int32} {o3 : Option av_T} (kt : (S.1 4 0 5) < x1 → Ev d mX4_takeNumber 31 [some (vR 4 0), some (vI x1), some (vI x2), o3] [] S Q) (kf : ¬ (S.1 4 0 5) < x1 → Ev d mX4_takeNumber 23 [some (vR 4 0), some (vI x1), some (vI x2), o3] [] S Q) : Ev d mX4_takeNumber 15 [some (vR 4 0), some (vI x1), some (vI x2), o3] [] S Q := by
  refine Ev.aload_n dX4_takeNumber_15 rfl rfl ?_
  refine Ev.get (v := vI (S.1 4 0 5)) okX4 (by decide) fl_X4_115 pz_4_0 (ff_4_5 _ _) dX4_takeNumber_16 ?_
  refine Ev.iload_n dX4_takeNumber_19 rfl rfl ?_
  exact Ev.icmp_lt (tgt := 31) dX4_takeNumber_20 (by decide) kt kf
theorem bkX4_takeNumber_23 {d : Nat} {S : hs_T} {Q : Option av_T → hs_T → Prop} {x1 x2 : Int32} {o3 : Option av_T} (kt : (S.1 4 0 5) ≤ x2 → Ev d mX4_takeNumber 38 [some (vR 4 0), some (vI x1), some (vI x2), o3] [] S Q) (kf : ¬ (S.1 4 0 5) ≤ x2 → Ev d mX4_takeNumber 31 [some (vR 4 0), some (vI x1), some (vI x2), o3] [] S Q) : Ev d mX4_takeNumber 23 [some (vR 4 0), some (vI x1), some (vI x2), o3] [] S Q := by
  refine Ev.aload_n dX4_takeNumber_23 rfl rfl ?_
  refine Ev.get (v := vI (S.1 4 0 5)) okX4 (by decide) fl_X4_115 pz_4_0 (ff_4_5 _ _) dX4_takeNumber_24 ?_
  refine Ev.iload_n dX4_takeNumber_27 rfl rfl ?_
  exact Ev.icmp_le (tgt := 38) dX4_takeNumber_28 (by decide) kt kf
theorem bkX4_takeNumber_31 {d : Nat} {S : hs_T} {Q : Option av_T → hs_T → Prop} {P : hs_T → Prop} {x1 x2 : Int32} {o3 : Option av_T} (hC : Cv d mX4_refuse [vR 4 0, vI 3] S P) (kk : ∀ S', P S' → Ev (d + 1) mX4_takeNumber 36 [some (vR 4 0), some (vI x1), some (vI x2), o3] [] S' Q) : Ev (d + 1) mX4_takeNumber 31 [some (vR 4 0), some (vI x1), some (vI x2), o3] [] S Q := by
  refine Ev.aload_n dX4_takeNumber_31 rfl rfl ?_
  refine Ev.iconst (v := 3) dX4_takeNumber_32 (by decide) ?_
  exact Ev.callV (as := [vI 3]) (rest := []) okX4_refuse in_X4_refuse ml_X4_50 rfl (Nat.le_of_ble_eq_true rfl) pz_4_0 (by decide) rfl rfl dX4_takeNumber_33 hC (fun r S' h => by obtain ⟨rfl, h⟩ := h; exact kk S' h)
theorem bkX4_takeNumber_36 {d : Nat} {S : hs_T} {Q : Option av_T → hs_T → Prop} {x1 x2 : Int32} {o3 : Option av_T} (hq : Q (some (vI 0)) S) : Ev d mX4_takeNumber 36 [some (vR 4 0), some (vI x1), some (vI x2), o3] [] S Q := by
  refine Ev.iconst (v := 0) dX4_takeNumber_36 (by decide) ?_
  exact Ev.iret dX4_takeNumber_37 rfl rfl hq
theorem bkX4_takeNumber_38 {d : Nat} {S : hs_T} {Q : Option av_T → hs_T → Prop} {P : hs_T → Prop} {x1 x2 : Int32} {o3 : Option av_T} (hC : Cv d mX4_advance [vR 4 0] S P) (kk : ∀ S', P S' → Ev (d + 1) mX4_takeNumber 47 [some (vR 4 0), some (vI x1), some (vI x2), some (vI (S.1 4 0 5))] [] S' Q) : Ev (d + 1) mX4_takeNumber 38 [some (vR 4 0), some (vI x1), some (vI x2), o3] [] S Q := by
  refine Ev.aload_n dX4_takeNumber_38 rfl rfl ?_
  refine Ev.get (v := vI (S.1 4 0 5)) okX4 (by decide) fl_X4_115 pz_4_0 (ff_4_5 _ _) dX4_takeNumber_39 ?_
  refine Ev.istore_n (ls' := [some (vR 4 0), some (vI x1), some (vI x2), some (vI (S.1 4 0 5))]) dX4_takeNumber_42 rfl (by decide) rfl ?_
  refine Ev.aload_n dX4_takeNumber_43 rfl rfl ?_
  exact Ev.callV (as := []) (rest := []) okX4_advance in_X4_advance ml_X4_80 rfl (Nat.le_of_ble_eq_true rfl) pz_4_0 (by decide) rfl rfl dX4_takeNumber_44 hC (fun r S' h => by obtain ⟨rfl, h⟩ := h; exact kk S' h)
theorem bkX4_takeNumber_47 {d : Nat} {S : hs_T} {Q : Option av_T → hs_T → Prop} {x1 x2 x3 : Int32} (hq : Q (some (vI x3)) S) : Ev d mX4_takeNumber 47 [some (vR 4 0), some (vI x1), some (vI x2), some (vI x3)] [] S Q := by
  refine Ev.iload_n dX4_takeNumber_47 rfl rfl ?_
  exact Ev.iret dX4_takeNumber_48 rfl rfl hq
/-! EightWires$Reader.advance()V -/
theorem bkX4_advance_0 {d : Nat} {S : hs_T} {Q : Option av_T → hs_T → Prop} (kt : ¬ ((sk_ S 4 0 (upd (S.1 4 0) 2 ((S.1 4 0 2) + 1))).1 4 0 8) = 0 → Ev d mX4_advance 79 [some (vR 4 0)] [] (sk_ S 4 0 (upd (S.1 4 0) 2 ((S.1 4 0 2) + 1))) Q) (kf : ((sk_ S 4 0 (upd (S.1 4 0) 2 ((S.1 4 0 2) + 1))).1 4 0 8) = 0 → Ev d mX4_advance 17 [some (vR 4 0)] [] (sk_ S 4 0 (upd (S.1 4 0) 2 ((S.1 4 0 2) + 1))) Q) : Ev d mX4_advance 0 [some (vR 4 0)] [] S Q := by
  refine Ev.aload_n dX4_advance_0 rfl rfl ?_
  refine Ev.dup dX4_advance_1 rfl ?_
  refine Ev.get (v := vI (S.1 4 0 2)) okX4 (by decide) fl_X4_77 pz_4_0 (ff_4_2 _ _) dX4_advance_2 ?_
  refine Ev.iconst (v := 1) dX4_advance_5 (by decide) ?_
  refine Ev.iadd dX4_advance_6 ?_
  refine Ev.put okX4 (by decide) fl_X4_77 pz_4_0 (by decide) rfl rfl rfl rfl dX4_advance_7 ?_
  refine Ev.aload_n dX4_advance_10 rfl rfl ?_
  refine Ev.get (v := vI ((sk_ S 4 0 (upd (S.1 4 0) 2 ((S.1 4 0 2) + 1))).1 4 0 8)) okX4 (by decide) fl_X4_28 pz_4_0 (ff_4_8 _ _) dX4_advance_11 ?_
  exact Ev.if_ne (tgt := 79) dX4_advance_14 (by decide) kt kf
theorem bkX4_advance_17 {d : Nat} {S : hs_T} {Q : Option av_T → hs_T → Prop} (kt : (S.1 7 0 5) ≤ (S.1 4 0 2) → Ev d mX4_advance 79 [some (vR 4 0)] [] S Q) (kf : ¬ (S.1 7 0 5) ≤ (S.1 4 0 2) → Ev d mX4_advance 31 [some (vR 4 0)] [] S Q) : Ev d mX4_advance 17 [some (vR 4 0)] [] S Q := by
  refine Ev.aload_n dX4_advance_17 rfl rfl ?_
  refine Ev.get (v := vI (S.1 4 0 2)) okX4 (by decide) fl_X4_77 pz_4_0 (ff_4_2 _ _) dX4_advance_18 ?_
  refine Ev.aload_n dX4_advance_21 rfl rfl ?_
  refine Ev.get (v := vR 7 0) okX4 (by decide) fl_X4_12 pz_4_0 (ff_4_0 _ _) dX4_advance_22 ?_
  refine Ev.get (v := vI (S.1 7 0 5)) okX7 (by decide) fl_X4_118 pz_7_0 (ff_7_5 _ _) dX4_advance_25 ?_
  exact Ev.icmp_ge (tgt := 79) dX4_advance_28 (by decide) kt kf
theorem bkX4_advance_31 {d : Nat} {S : hs_T} {Q : Option av_T → hs_T → Prop} (hi43 : vp_in (S.1 4 0 2) 401) (hi59 : vp_in ((sk_ S 4 0 (upd (S.1 4 0) 3 (S.1 802 0 (S.1 4 0 2).toNatClampNeg))).1 4 0 2) 401) (hi75 : vp_in ((sk_ (sk_ S 4 0 (upd (S.1 4 0) 3 (S.1 802 0 (S.1 4 0 2).toNatClampNeg))) 4 0 (upd ((sk_ S 4 0 (upd (S.1 4 0) 3 (S.1 802 0 (S.1 4 0 2).toNatClampNeg))).1 4 0) 4 ((sk_ S 4 0 (upd (S.1 4 0) 3 (S.1 802 0 (S.1 4 0 2).toNatClampNeg))).1 803 0 ((sk_ S 4 0 (upd (S.1 4 0) 3 (S.1 802 0 (S.1 4 0 2).toNatClampNeg))).1 4 0 2).toNatClampNeg))).1 4 0 2) 401) (kn : Ev d mX4_advance 79 [some (vR 4 0)] [] (sk_ (sk_ (sk_ S 4 0 (upd (S.1 4 0) 3 (S.1 802 0 (S.1 4 0 2).toNatClampNeg))) 4 0 (upd ((sk_ S 4 0 (upd (S.1 4 0) 3 (S.1 802 0 (S.1 4 0 2).toNatClampNeg))).1 4 0) 4 ((sk_ S 4 0 (upd (S.1 4 0) 3 (S.1 802 0 (S.1 4 0 2).toNatClampNeg))).1 803 0 ((sk_ S 4 0 (upd (S.1 4 0) 3 (S.1 802 0 (S.1 4 0 2).toNatClampNeg))).1 4 0 2).toNatClampNeg))) 4 0 (upd ((sk_ (sk_ S 4 0 (upd (S.1 4 0) 3 (S.1 802 0 (S.1 4 0 2).toNatClampNeg))) 4 0 (upd ((sk_ S 4 0 (upd (S.1 4 0) 3 (S.1 802 0 (S.1 4 0 2).toNatClampNeg))).1 4 0) 4 ((sk_ S 4 0 (upd (S.1 4 0) 3 (S.1 802 0 (S.1 4 0 2).toNatClampNeg))).1 803 0 ((sk_ S 4 0 (upd (S.1 4 0) 3 (S.1 802 0 (S.1 4 0 2).toNatClampNeg))).1 4 0 2).toNatClampNeg))).1 4 0) 5 ((sk_ (sk_ S 4 0 (upd (S.1 4 0) 3 (S.1 802 0 (S.1 4 0 2).toNatClampNeg))) 4 0 (upd ((sk_ S 4 0 (upd (S.1 4 0) 3 (S.1 802 0 (S.1 4 0 2).toNatClampNeg))).1 4 0) 4 ((sk_ S 4 0 (upd (S.1 4 0) 3 (S.1 802 0 (S.1 4 0 2).toNatClampNeg))).1 803 0 ((sk_ S 4 0 (upd (S.1 4 0) 3 (S.1 802 0 (S.1 4 0 2).toNatClampNeg))).1 4 0 2).toNatClampNeg))).1 804 0 ((sk_ (sk_ S 4 0 (upd (S.1 4 0) 3 (S.1 802 0 (S.1 4 0 2).toNatClampNeg))) 4 0 (upd ((sk_ S 4 0 (upd (S.1 4 0) 3 (S.1 802 0 (S.1 4 0 2).toNatClampNeg))).1 4 0) 4 ((sk_ S 4 0 (upd (S.1 4 0) 3 (S.1 802 0 (S.1 4 0 2).toNatClampNeg))).1 803 0 ((sk_ S 4 0 (upd (S.1 4 0) 3 (S.1 802 0 (S.1 4 0 2).toNatClampNeg))).1 4 0 2).toNatClampNeg))).1 4 0 2).toNatClampNeg))) Q) : Ev d mX4_advance 31 [some (vR 4 0)] [] S Q := by
  refine Ev.aload_n dX4_advance_31 rfl rfl ?_
  refine Ev.aload_n dX4_advance_32 rfl rfl ?_
  refine Ev.get (v := vR 7 0) okX4 (by decide) fl_X4_12 pz_4_0 (ff_4_0 _ _) dX4_advance_33 ?_
  refine Ev.get (v := vR 802 0) okX7 (by decide) fl_X4_121 pz_7_0 (ff_7_2 _ _) dX4_advance_36 ?_
  refine Ev.aload_n dX4_advance_39 rfl rfl ?_
  refine Ev.get (v := vI (S.1 4 0 2)) okX4 (by decide) fl_X4_77 pz_4_0 (ff_4_2 _ _) dX4_advance_40 ?_
  refine Ev.ialoadA (a := (S.1 4 0 2).toNatClampNeg) pz_802_0 (by decide) ak_802 hi43 rfl dX4_advance_43 ?_
  refine Ev.put okX4 (by decide) fl_X4_32 pz_4_0 (by decide) rfl rfl rfl rfl dX4_advance_44 ?_
  refine Ev.aload_n dX4_advance_47 rfl rfl ?_
  refine Ev.aload_n dX4_advance_48 rfl rfl ?_
  refine Ev.get (v := vR 7 0) okX4 (by decide) fl_X4_12 pz_4_0 (ff_4_0 _ _) dX4_advance_49 ?_
  refine Ev.get (v := vR 803 0) okX7 (by decide) fl_X4_125 pz_7_0 (ff_7_3 _ _) dX4_advance_52 ?_
  refine Ev.aload_n dX4_advance_55 rfl rfl ?_
  refine Ev.get (v := vI ((sk_ S 4 0 (upd (S.1 4 0) 3 (S.1 802 0 (S.1 4 0 2).toNatClampNeg))).1 4 0 2)) okX4 (by decide) fl_X4_77 pz_4_0 (ff_4_2 _ _) dX4_advance_56 ?_
  refine Ev.ialoadA (a := ((sk_ S 4 0 (upd (S.1 4 0) 3 (S.1 802 0 (S.1 4 0 2).toNatClampNeg))).1 4 0 2).toNatClampNeg) pz_803_0 (by decide) ak_803 hi59 rfl dX4_advance_59 ?_
  refine Ev.put okX4 (by decide) fl_X4_128 pz_4_0 (by decide) rfl rfl rfl rfl dX4_advance_60 ?_
  refine Ev.aload_n dX4_advance_63 rfl rfl ?_
  refine Ev.aload_n dX4_advance_64 rfl rfl ?_
  refine Ev.get (v := vR 7 0) okX4 (by decide) fl_X4_12 pz_4_0 (ff_4_0 _ _) dX4_advance_65 ?_
  refine Ev.get (v := vR 804 0) okX7 (by decide) fl_X4_131 pz_7_0 (ff_7_4 _ _) dX4_advance_68 ?_
  refine Ev.aload_n dX4_advance_71 rfl rfl ?_
  refine Ev.get (v := vI ((sk_ (sk_ S 4 0 (upd (S.1 4 0) 3 (S.1 802 0 (S.1 4 0 2).toNatClampNeg))) 4 0 (upd ((sk_ S 4 0 (upd (S.1 4 0) 3 (S.1 802 0 (S.1 4 0 2).toNatClampNeg))).1 4 0) 4 ((sk_ S 4 0 (upd (S.1 4 0) 3 (S.1 802 0 (S.1 4 0 2).toNatClampNeg))).1 803 0 ((sk_ S 4 0 (upd (S.1 4 0) 3 (S.1 802 0 (S.1 4 0 2).toNatClampNeg))).1 4 0 2).toNatClampNeg))).1 4 0 2)) okX4 (by decide) fl_X4_77 pz_4_0 (ff_4_2 _ _) dX4_advance_72 ?_
  refine Ev.ialoadA (a := ((sk_ (sk_ S 4 0 (upd (S.1 4 0) 3 (S.1 802 0 (S.1 4 0 2).toNatClampNeg))) 4 0 (upd ((sk_ S 4 0 (upd (S.1 4 0) 3 (S.1 802 0 (S.1 4 0 2).toNatClampNeg))).1 4 0) 4 ((sk_ S 4 0 (upd (S.1 4 0) 3 (S.1 802 0 (S.1 4 0 2).toNatClampNeg))).1 803 0 ((sk_ S 4 0 (upd (S.1 4 0) 3 (S.1 802 0 (S.1 4 0 2).toNatClampNeg))).1 4 0 2).toNatClampNeg))).1 4 0 2).toNatClampNeg) pz_804_0 (by decide) ak_804 hi75 rfl dX4_advance_75 ?_
  refine Ev.put okX4 (by decide) fl_X4_115 pz_4_0 (by decide) rfl rfl rfl rfl dX4_advance_76 ?_
  exact kn
theorem bkX4_advance_79 {d : Nat} {S : hs_T} {Q : Option av_T → hs_T → Prop} (hq : Q none S) : Ev d mX4_advance 79 [some (vR 4 0)] [] S Q := by
  exact Ev.vret dX4_advance_79 rfl hq
/-! EightWires$Reader.refuse(I)V -/
theorem bkX4_refuse_0 {d : Nat} {S : hs_T} {Q : Option av_T → hs_T → Prop} {x1 : Int32} (kt : ¬ (S.1 4 0 8) = 0 → Ev d mX4_refuse 32 [some (vR 4 0), some (vI x1)] [] S Q) (kf : (S.1 4 0 8) = 0 → Ev d mX4_refuse 7 [some (vR 4 0), some (vI x1)] [] S Q) : Ev d mX4_refuse 0 [some (vR 4 0), some (vI x1)] [] S Q := by
  refine Ev.aload_n dX4_refuse_0 rfl rfl ?_
  refine Ev.get (v := vI (S.1 4 0 8)) okX4 (by decide) fl_X4_28 pz_4_0 (ff_4_8 _ _) dX4_refuse_1 ?_
  exact Ev.if_ne (tgt := 32) dX4_refuse_4 (by decide) kt kf
theorem bkX4_refuse_7 {d : Nat} {S : hs_T} {Q : Option av_T → hs_T → Prop} {x1 : Int32} (kt : ¬ (S.1 4 0 3) = 1 → Ev d mX4_refuse 20 [some (vR 4 0), some (vI x1)] [vR 4 0] S Q) (kf : (S.1 4 0 3) = 1 → Ev d mX4_refuse 16 [some (vR 4 0), some (vI x1)] [vR 4 0] S Q) : Ev d mX4_refuse 7 [some (vR 4 0), some (vI x1)] [] S Q := by
  refine Ev.aload_n dX4_refuse_7 rfl rfl ?_
  refine Ev.aload_n dX4_refuse_8 rfl rfl ?_
  refine Ev.get (v := vI (S.1 4 0 3)) okX4 (by decide) fl_X4_32 pz_4_0 (ff_4_3 _ _) dX4_refuse_9 ?_
  refine Ev.iconst (v := 1) dX4_refuse_12 (by decide) ?_
  exact Ev.icmp_ne (tgt := 20) dX4_refuse_13 (by decide) kt kf
theorem bkX4_refuse_16 {d : Nat} {S : hs_T} {Q : Option av_T → hs_T → Prop} {x1 : Int32} (kn : Ev d mX4_refuse 21 [some (vR 4 0), some (vI x1)] [vI 1, vR 4 0] S Q) : Ev d mX4_refuse 16 [some (vR 4 0), some (vI x1)] [vR 4 0] S Q := by
  refine Ev.iconst (v := 1) dX4_refuse_16 (by decide) ?_
  refine Ev.goto (tgt := 21) dX4_refuse_17 (by decide) ?_
  exact kn
theorem bkX4_refuse_20 {d : Nat} {S : hs_T} {Q : Option av_T → hs_T → Prop} {x1 : Int32} (kn : Ev d mX4_refuse 21 [some (vR 4 0), some (vI x1)] [vI x1, vR 4 0] S Q) : Ev d mX4_refuse 20 [some (vR 4 0), some (vI x1)] [vR 4 0] S Q := by
  refine Ev.iload_n dX4_refuse_20 rfl rfl ?_
  exact kn
theorem bkX4_refuse_21 {d : Nat} {S : hs_T} {Q : Option av_T → hs_T → Prop} {x1 y0 : Int32} (kn : Ev d mX4_refuse 32 [some (vR 4 0), some (vI x1)] [] (sk_ (sk_ S 4 0 (upd (S.1 4 0) 8 y0)) 4 0 (upd ((sk_ S 4 0 (upd (S.1 4 0) 8 y0)).1 4 0) 9 ((sk_ S 4 0 (upd (S.1 4 0) 8 y0)).1 4 0 4))) Q) : Ev d mX4_refuse 21 [some (vR 4 0), some (vI x1)] [vI y0, vR 4 0] S Q := by
  refine Ev.put okX4 (by decide) fl_X4_28 pz_4_0 (by decide) rfl rfl rfl rfl dX4_refuse_21 ?_
  refine Ev.aload_n dX4_refuse_24 rfl rfl ?_
  refine Ev.aload_n dX4_refuse_25 rfl rfl ?_
  refine Ev.get (v := vI ((sk_ S 4 0 (upd (S.1 4 0) 8 y0)).1 4 0 4)) okX4 (by decide) fl_X4_128 pz_4_0 (ff_4_4 _ _) dX4_refuse_26 ?_
  refine Ev.put okX4 (by decide) fl_X4_74 pz_4_0 (by decide) rfl rfl rfl rfl dX4_refuse_29 ?_
  exact kn
theorem bkX4_refuse_32 {d : Nat} {S : hs_T} {Q : Option av_T → hs_T → Prop} {x1 : Int32} (hq : Q none (sk_ S 4 0 (upd (S.1 4 0) 3 1))) : Ev d mX4_refuse 32 [some (vR 4 0), some (vI x1)] [] S Q := by
  refine Ev.aload_n dX4_refuse_32 rfl rfl ?_
  refine Ev.iconst (v := 1) dX4_refuse_33 (by decide) ?_
  refine Ev.put okX4 (by decide) fl_X4_32 pz_4_0 (by decide) rfl rfl rfl rfl dX4_refuse_34 ?_
  exact Ev.vret dX4_refuse_37 rfl hq
/-! EightWires$Rules.forget()V -/
theorem bkX5_forget_0 {d : Nat} {S : hs_T} {Q : Option av_T → hs_T → Prop} {P : hs_T → Prop} {j0 : Nat} (hjj0 : j0 < 2) (hC : Cv d mJ7_fill_53178 [vR 600 j0, vI 0] (sk_ (sk_ (sk_ S 5 j0 (upd (S.1 5 j0) 6 0)) 5 j0 (upd ((sk_ S 5 j0 (upd (S.1 5 j0) 6 0)).1 5 j0) 7 100)) 5 j0 (upd ((sk_ (sk_ S 5 j0 (upd (S.1 5 j0) 6 0)) 5 j0 (upd ((sk_ S 5 j0 (upd (S.1 5 j0) 6 0)).1 5 j0) 7 100)).1 5 j0) 8 0)) P) (kk : ∀ S', P S' → Ev (d + 1) mX5_forget 24 [some (vR 5 j0)] [] S' Q) : Ev (d + 1) mX5_forget 0 [some (vR 5 j0)] [] S Q := by
  refine Ev.aload_n dX5_forget_0 rfl rfl ?_
  refine Ev.iconst (v := 0) dX5_forget_1 (by decide) ?_
  refine Ev.put okX5 (by decide) fl_X5_34 (pl5 hjj0) (by decide) rfl rfl rfl rfl dX5_forget_2 ?_
  refine Ev.aload_n dX5_forget_5 rfl rfl ?_
  refine Ev.bipush (v := 100) dX5_forget_6 (by decide) ?_
  refine Ev.put okX5 (by decide) fl_X5_30 (pl5 hjj0) (by decide) rfl rfl rfl rfl dX5_forget_8 ?_
  refine Ev.aload_n dX5_forget_11 rfl rfl ?_
  refine Ev.iconst (v := 0) dX5_forget_12 (by decide) ?_
  refine Ev.put okX5 (by decide) fl_X5_37 (pl5 hjj0) (by decide) rfl rfl rfl rfl dX5_forget_13 ?_
  refine Ev.aload_n dX5_forget_16 rfl rfl ?_
  refine Ev.get (v := vR 600 j0) okX5 (by decide) fl_X5_11 (pl5 hjj0) (ff_5_0 _ _) dX5_forget_17 ?_
  refine Ev.iconst (v := 0) dX5_forget_20 (by decide) ?_
  exact Ev.callS (as := [vR 600 j0, vI 0]) (rest := []) okJ7_fill_53178 stJ7_fill_53178 ml_X5_40 rfl (Nat.le_of_ble_eq_true rfl) rfl dX5_forget_21 hC (fun r S' h => by obtain ⟨rfl, h⟩ := h; exact kk S' h)
theorem bkX5_forget_24 {d : Nat} {S : hs_T} {Q : Option av_T → hs_T → Prop} {P : hs_T → Prop} {j0 : Nat} (hjj0 : j0 < 2) (hC : Cv d mJ7_fill_53178 [vR 603 j0, vI 0] S P) (kk : ∀ S', P S' → Ev (d + 1) mX5_forget 32 [some (vR 5 j0)] [] S' Q) : Ev (d + 1) mX5_forget 24 [some (vR 5 j0)] [] S Q := by
  refine Ev.aload_n dX5_forget_24 rfl rfl ?_
  refine Ev.get (v := vR 603 j0) okX5 (by decide) fl_X5_21 (pl5 hjj0) (ff_5_3 _ _) dX5_forget_25 ?_
  refine Ev.iconst (v := 0) dX5_forget_28 (by decide) ?_
  exact Ev.callS (as := [vR 603 j0, vI 0]) (rest := []) okJ7_fill_53178 stJ7_fill_53178 ml_X5_40 rfl (Nat.le_of_ble_eq_true rfl) rfl dX5_forget_29 hC (fun r S' h => by obtain ⟨rfl, h⟩ := h; exact kk S' h)
theorem bkX5_forget_32 {d : Nat} {S : hs_T} {Q : Option av_T → hs_T → Prop} {j0 : Nat} (hq : Q none S) : Ev d mX5_forget 32 [some (vR 5 j0)] [] S Q := by
  exact Ev.vret dX5_forget_32 rfl hq
/-! EightWires$Rules.branchCount(I)I -/
theorem bkX5_branchCount_0 {d : Nat} {S : hs_T} {Q : Option av_T → hs_T → Prop} {x1 : Int32} {j0 : Nat} (kt : x1 < 0 → Ev d mX5_branchCount 27 [some (vR 5 j0), some (vI x1)] [] S Q) (kf : ¬ x1 < 0 → Ev d mX5_branchCount 4 [some (vR 5 j0), some (vI x1)] [] S Q) : Ev d mX5_branchCount 0 [some (vR 5 j0), some (vI x1)] [] S Q := by
  refine Ev.iload_n dX5_branchCount_0 rfl rfl ?_
  exact Ev.if_lt (tgt := 27) dX5_branchCount_1 (by decide) kt kf
theorem bkX5_branchCount_4 {d : Nat} {S : hs_T} {Q : Option av_T → hs_T → Prop} {x1 : Int32} {j0 : Nat} (hjj0 : j0 < 2) (kt : (S.1 5 j0 6) ≤ x1 → Ev d mX5_branchCount 27 [some (vR 5 j0), some (vI x1)] [] S Q) (kf : ¬ (S.1 5 j0 6) ≤ x1 → Ev d mX5_branchCount 12 [some (vR 5 j0), some (vI x1)] [] S Q) : Ev d mX5_branchCount 4 [some (vR 5 j0), some (vI x1)] [] S Q := by
  refine Ev.iload_n dX5_branchCount_4 rfl rfl ?_
  refine Ev.aload_n dX5_branchCount_5 rfl rfl ?_
  refine Ev.get (v := vI (S.1 5 j0 6)) okX5 (by decide) fl_X5_34 (pl5 hjj0) (ff_5_6 _ _) dX5_branchCount_6 ?_
  exact Ev.icmp_ge (tgt := 27) dX5_branchCount_9 (by decide) kt kf
theorem bkX5_branchCount_12 {d : Nat} {S : hs_T} {Q : Option av_T → hs_T → Prop} {x1 : Int32} {j0 : Nat} (kt : 8 ≤ x1 → Ev d mX5_branchCount 27 [some (vR 5 j0), some (vI x1)] [] S Q) (kf : ¬ 8 ≤ x1 → Ev d mX5_branchCount 18 [some (vR 5 j0), some (vI x1)] [] S Q) : Ev d mX5_branchCount 12 [some (vR 5 j0), some (vI x1)] [] S Q := by
  refine Ev.iload_n dX5_branchCount_12 rfl rfl ?_
  refine Ev.bipush (v := 8) dX5_branchCount_13 (by decide) ?_
  exact Ev.icmp_ge (tgt := 27) dX5_branchCount_15 (by decide) kt kf
theorem bkX5_branchCount_18 {d : Nat} {S : hs_T} {Q : Option av_T → hs_T → Prop} {x1 : Int32} {j0 : Nat} (hjj0 : j0 < 2) (hi23 : vp_in x1 8) (kn : Ev d mX5_branchCount 28 [some (vR 5 j0), some (vI x1)] [vI (S.1 600 j0 x1.toNatClampNeg)] S Q) : Ev d mX5_branchCount 18 [some (vR 5 j0), some (vI x1)] [] S Q := by
  refine Ev.aload_n dX5_branchCount_18 rfl rfl ?_
  refine Ev.get (v := vR 600 j0) okX5 (by decide) fl_X5_11 (pl5 hjj0) (ff_5_0 _ _) dX5_branchCount_19 ?_
  refine Ev.iload_n dX5_branchCount_22 rfl rfl ?_
  refine Ev.ialoadA (a := x1.toNatClampNeg) (pl600 hjj0) (by decide) ak_600 hi23 rfl dX5_branchCount_23 ?_
  refine Ev.goto (tgt := 28) dX5_branchCount_24 (by decide) ?_
  exact kn
theorem bkX5_branchCount_27 {d : Nat} {S : hs_T} {Q : Option av_T → hs_T → Prop} {x1 : Int32} {j0 : Nat} (kn : Ev d mX5_branchCount 28 [some (vR 5 j0), some (vI x1)] [vI 0] S Q) : Ev d mX5_branchCount 27 [some (vR 5 j0), some (vI x1)] [] S Q := by
  refine Ev.iconst (v := 0) dX5_branchCount_27 (by decide) ?_
  exact kn
theorem bkX5_branchCount_28 {d : Nat} {S : hs_T} {Q : Option av_T → hs_T → Prop} {x1 y0 : Int32} {j0 : Nat} (hq : Q (some (vI y0)) S) : Ev d mX5_branchCount 28 [some (vR 5 j0), some (vI x1)] [vI y0] S Q := by
  exact Ev.iret dX5_branchCount_28 rfl rfl hq
/-! EightWires$Rules.branchPlace(II)I -/
theorem bkX5_branchPlace_0 {d : Nat} {S : hs_T} {Q : Option av_T → hs_T → Prop} {x1 x2 : Int32} {j0 : Nat} (kt : x2 < 0 → Ev d mX5_branchPlace 21 [some (vR 5 j0), some (vI x1), some (vI x2)] [] S Q) (kf : ¬ x2 < 0 → Ev d mX5_branchPlace 4 [some (vR 5 j0), some (vI x1), some (vI x2)] [] S Q) : Ev d mX5_branchPlace 0 [some (vR 5 j0), some (vI x1), some (vI x2)] [] S Q := by
  refine Ev.iload_n dX5_branchPlace_0 rfl rfl ?_
  exact Ev.if_lt (tgt := 21) dX5_branchPlace_1 (by decide) kt kf
theorem bkX5_branchPlace_4 {d : Nat} {S : hs_T} {Q : Option av_T → hs_T → Prop} {P : Int32 → hs_T → Prop} {x1 x2 : Int32} {j0 : Nat} (hjj0 : j0 < 2) (hC : Ci d mX5_branchCount [vR 5 j0, vI x1] S P) (kk : ∀ v S', P v S' → Ev (d + 1) mX5_branchPlace 10 [some (vR 5 j0), some (vI x1), some (vI x2)] [vI v, vI x2] S' Q) : Ev (d + 1) mX5_branchPlace 4 [some (vR 5 j0), some (vI x1), some (vI x2)] [] S Q := by
  refine Ev.iload_n dX5_branchPlace_4 rfl rfl ?_
  refine Ev.aload_n dX5_branchPlace_5 rfl rfl ?_
  refine Ev.iload_n dX5_branchPlace_6 rfl rfl ?_
  exact Ev.callV (as := [vI x1]) (rest := [vI x2]) okX5_branchCount in_X5_branchCount ml_X5_46 rfl (Nat.le_of_ble_eq_true rfl) (pl5 hjj0) (by decide) rfl rfl dX5_branchPlace_7 hC (fun r S' h => by obtain ⟨v, rfl, h⟩ := h; exact kk v S' h)
theorem bkX5_branchPlace_10 {d : Nat} {S : hs_T} {Q : Option av_T → hs_T → Prop} {x1 x2 y0 y1 : Int32} {j0 : Nat} (kt : y0 ≤ y1 → Ev d mX5_branchPlace 21 [some (vR 5 j0), some (vI x1), some (vI x2)] [] S Q) (kf : ¬ y0 ≤ y1 → Ev d mX5_branchPlace 13 [some (vR 5 j0), some (vI x1), some (vI x2)] [] S Q) : Ev d mX5_branchPlace 10 [some (vR 5 j0), some (vI x1), some (vI x2)] [vI y0, vI y1] S Q := by
  exact Ev.icmp_ge (tgt := 21) dX5_branchPlace_10 (by decide) kt kf
theorem bkX5_branchPlace_13 {d : Nat} {S : hs_T} {Q : Option av_T → hs_T → Prop} {x1 x2 : Int32} {j0 : Nat} (kn : Ev d mX5_branchPlace 22 [some (vR 5 j0), some (vI x1), some (vI x2)] [vI ((x1 * 3) + x2)] S Q) : Ev d mX5_branchPlace 13 [some (vR 5 j0), some (vI x1), some (vI x2)] [] S Q := by
  refine Ev.iload_n dX5_branchPlace_13 rfl rfl ?_
  refine Ev.iconst (v := 3) dX5_branchPlace_14 (by decide) ?_
  refine Ev.imul dX5_branchPlace_15 ?_
  refine Ev.iload_n dX5_branchPlace_16 rfl rfl ?_
  refine Ev.iadd dX5_branchPlace_17 ?_
  refine Ev.goto (tgt := 22) dX5_branchPlace_18 (by decide) ?_
  exact kn
theorem bkX5_branchPlace_21 {d : Nat} {S : hs_T} {Q : Option av_T → hs_T → Prop} {x1 x2 : Int32} {j0 : Nat} (kn : Ev d mX5_branchPlace 22 [some (vR 5 j0), some (vI x1), some (vI x2)] [vI (-1)] S Q) : Ev d mX5_branchPlace 21 [some (vR 5 j0), some (vI x1), some (vI x2)] [] S Q := by
  refine Ev.iconst (v := (-1)) dX5_branchPlace_21 (by decide) ?_
  exact kn
theorem bkX5_branchPlace_22 {d : Nat} {S : hs_T} {Q : Option av_T → hs_T → Prop} {x1 x2 y0 : Int32} {j0 : Nat} (hq : Q (some (vI y0)) S) : Ev d mX5_branchPlace 22 [some (vR 5 j0), some (vI x1), some (vI x2)] [vI y0] S Q := by
  exact Ev.iret dX5_branchPlace_22 rfl rfl hq
/-! EightWires$Rules.timesOf(I)I -/
theorem bkX5_timesOf_0 {d : Nat} {S : hs_T} {Q : Option av_T → hs_T → Prop} {x1 : Int32} {j0 : Nat} (kt : x1 < 0 → Ev d mX5_timesOf 19 [some (vR 5 j0), some (vI x1)] [] S Q) (kf : ¬ x1 < 0 → Ev d mX5_timesOf 4 [some (vR 5 j0), some (vI x1)] [] S Q) : Ev d mX5_timesOf 0 [some (vR 5 j0), some (vI x1)] [] S Q := by
  refine Ev.iload_n dX5_timesOf_0 rfl rfl ?_
  exact Ev.if_lt (tgt := 19) dX5_timesOf_1 (by decide) kt kf
theorem bkX5_timesOf_4 {d : Nat} {S : hs_T} {Q : Option av_T → hs_T → Prop} {x1 : Int32} {j0 : Nat} (kt : 24 ≤ x1 → Ev d mX5_timesOf 19 [some (vR 5 j0), some (vI x1)] [] S Q) (kf : ¬ 24 ≤ x1 → Ev d mX5_timesOf 10 [some (vR 5 j0), some (vI x1)] [] S Q) : Ev d mX5_timesOf 4 [some (vR 5 j0), some (vI x1)] [] S Q := by
  refine Ev.iload_n dX5_timesOf_4 rfl rfl ?_
  refine Ev.bipush (v := 24) dX5_timesOf_5 (by decide) ?_
  exact Ev.icmp_ge (tgt := 19) dX5_timesOf_7 (by decide) kt kf
theorem bkX5_timesOf_10 {d : Nat} {S : hs_T} {Q : Option av_T → hs_T → Prop} {x1 : Int32} {j0 : Nat} (hjj0 : j0 < 2) (hi15 : vp_in x1 24) (kn : Ev d mX5_timesOf 20 [some (vR 5 j0), some (vI x1)] [vI (S.1 601 j0 x1.toNatClampNeg)] S Q) : Ev d mX5_timesOf 10 [some (vR 5 j0), some (vI x1)] [] S Q := by
  refine Ev.aload_n dX5_timesOf_10 rfl rfl ?_
  refine Ev.get (v := vR 601 j0) okX5 (by decide) fl_X5_15 (pl5 hjj0) (ff_5_1 _ _) dX5_timesOf_11 ?_
  refine Ev.iload_n dX5_timesOf_14 rfl rfl ?_
  refine Ev.ialoadA (a := x1.toNatClampNeg) (pl601 hjj0) (by decide) ak_601 hi15 rfl dX5_timesOf_15 ?_
  refine Ev.goto (tgt := 20) dX5_timesOf_16 (by decide) ?_
  exact kn
theorem bkX5_timesOf_19 {d : Nat} {S : hs_T} {Q : Option av_T → hs_T → Prop} {x1 : Int32} {j0 : Nat} (kn : Ev d mX5_timesOf 20 [some (vR 5 j0), some (vI x1)] [vI 0] S Q) : Ev d mX5_timesOf 19 [some (vR 5 j0), some (vI x1)] [] S Q := by
  refine Ev.iconst (v := 0) dX5_timesOf_19 (by decide) ?_
  exact kn
theorem bkX5_timesOf_20 {d : Nat} {S : hs_T} {Q : Option av_T → hs_T → Prop} {x1 y0 : Int32} {j0 : Nat} (hq : Q (some (vI y0)) S) : Ev d mX5_timesOf 20 [some (vR 5 j0), some (vI x1)] [vI y0] S Q := by
  exact Ev.iret dX5_timesOf_20 rfl rfl hq
/-! EightWires$Rules.targetOf(I)I -/
theorem bkX5_targetOf_0 {d : Nat} {S : hs_T} {Q : Option av_T → hs_T → Prop} {x1 : Int32} {j0 : Nat} (kt : x1 < 0 → Ev d mX5_targetOf 19 [some (vR 5 j0), some (vI x1)] [] S Q) (kf : ¬ x1 < 0 → Ev d mX5_targetOf 4 [some (vR 5 j0), some (vI x1)] [] S Q) : Ev d mX5_targetOf 0 [some (vR 5 j0), some (vI x1)] [] S Q := by
  refine Ev.iload_n dX5_targetOf_0 rfl rfl ?_
  exact Ev.if_lt (tgt := 19) dX5_targetOf_1 (by decide) kt kf
theorem bkX5_targetOf_4 {d : Nat} {S : hs_T} {Q : Option av_T → hs_T → Prop} {x1 : Int32} {j0 : Nat} (kt : 24 ≤ x1 → Ev d mX5_targetOf 19 [some (vR 5 j0), some (vI x1)] [] S Q) (kf : ¬ 24 ≤ x1 → Ev d mX5_targetOf 10 [some (vR 5 j0), some (vI x1)] [] S Q) : Ev d mX5_targetOf 4 [some (vR 5 j0), some (vI x1)] [] S Q := by
  refine Ev.iload_n dX5_targetOf_4 rfl rfl ?_
  refine Ev.bipush (v := 24) dX5_targetOf_5 (by decide) ?_
  exact Ev.icmp_ge (tgt := 19) dX5_targetOf_7 (by decide) kt kf
theorem bkX5_targetOf_10 {d : Nat} {S : hs_T} {Q : Option av_T → hs_T → Prop} {x1 : Int32} {j0 : Nat} (hjj0 : j0 < 2) (hi15 : vp_in x1 24) (kn : Ev d mX5_targetOf 20 [some (vR 5 j0), some (vI x1)] [vI (S.1 602 j0 x1.toNatClampNeg)] S Q) : Ev d mX5_targetOf 10 [some (vR 5 j0), some (vI x1)] [] S Q := by
  refine Ev.aload_n dX5_targetOf_10 rfl rfl ?_
  refine Ev.get (v := vR 602 j0) okX5 (by decide) fl_X5_18 (pl5 hjj0) (ff_5_2 _ _) dX5_targetOf_11 ?_
  refine Ev.iload_n dX5_targetOf_14 rfl rfl ?_
  refine Ev.ialoadA (a := x1.toNatClampNeg) (pl602 hjj0) (by decide) ak_602 hi15 rfl dX5_targetOf_15 ?_
  refine Ev.goto (tgt := 20) dX5_targetOf_16 (by decide) ?_
  exact kn
theorem bkX5_targetOf_19 {d : Nat} {S : hs_T} {Q : Option av_T → hs_T → Prop} {x1 : Int32} {j0 : Nat} (kn : Ev d mX5_targetOf 20 [some (vR 5 j0), some (vI x1)] [vI 0] S Q) : Ev d mX5_targetOf 19 [some (vR 5 j0), some (vI x1)] [] S Q := by
  refine Ev.iconst (v := 0) dX5_targetOf_19 (by decide) ?_
  exact kn
theorem bkX5_targetOf_20 {d : Nat} {S : hs_T} {Q : Option av_T → hs_T → Prop} {x1 y0 : Int32} {j0 : Nat} (hq : Q (some (vI y0)) S) : Ev d mX5_targetOf 20 [some (vR 5 j0), some (vI x1)] [vI y0] S Q := by
  exact Ev.iret dX5_targetOf_20 rfl rfl hq
/-! EightWires$Rules.termCount(I)I -/
theorem bkX5_termCount_0 {d : Nat} {S : hs_T} {Q : Option av_T → hs_T → Prop} {x1 : Int32} {j0 : Nat} (kt : x1 < 0 → Ev d mX5_termCount 19 [some (vR 5 j0), some (vI x1)] [] S Q) (kf : ¬ x1 < 0 → Ev d mX5_termCount 4 [some (vR 5 j0), some (vI x1)] [] S Q) : Ev d mX5_termCount 0 [some (vR 5 j0), some (vI x1)] [] S Q := by
  refine Ev.iload_n dX5_termCount_0 rfl rfl ?_
  exact Ev.if_lt (tgt := 19) dX5_termCount_1 (by decide) kt kf
theorem bkX5_termCount_4 {d : Nat} {S : hs_T} {Q : Option av_T → hs_T → Prop} {x1 : Int32} {j0 : Nat} (kt : 24 < x1 → Ev d mX5_termCount 19 [some (vR 5 j0), some (vI x1)] [] S Q) (kf : ¬ 24 < x1 → Ev d mX5_termCount 10 [some (vR 5 j0), some (vI x1)] [] S Q) : Ev d mX5_termCount 4 [some (vR 5 j0), some (vI x1)] [] S Q := by
  refine Ev.iload_n dX5_termCount_4 rfl rfl ?_
  refine Ev.bipush (v := 24) dX5_termCount_5 (by decide) ?_
  exact Ev.icmp_gt (tgt := 19) dX5_termCount_7 (by decide) kt kf
theorem bkX5_termCount_10 {d : Nat} {S : hs_T} {Q : Option av_T → hs_T → Prop} {x1 : Int32} {j0 : Nat} (hjj0 : j0 < 2) (hi15 : vp_in x1 25) (kn : Ev d mX5_termCount 20 [some (vR 5 j0), some (vI x1)] [vI (S.1 603 j0 x1.toNatClampNeg)] S Q) : Ev d mX5_termCount 10 [some (vR 5 j0), some (vI x1)] [] S Q := by
  refine Ev.aload_n dX5_termCount_10 rfl rfl ?_
  refine Ev.get (v := vR 603 j0) okX5 (by decide) fl_X5_21 (pl5 hjj0) (ff_5_3 _ _) dX5_termCount_11 ?_
  refine Ev.iload_n dX5_termCount_14 rfl rfl ?_
  refine Ev.ialoadA (a := x1.toNatClampNeg) (pl603 hjj0) (by decide) ak_603 hi15 rfl dX5_termCount_15 ?_
  refine Ev.goto (tgt := 20) dX5_termCount_16 (by decide) ?_
  exact kn
theorem bkX5_termCount_19 {d : Nat} {S : hs_T} {Q : Option av_T → hs_T → Prop} {x1 : Int32} {j0 : Nat} (kn : Ev d mX5_termCount 20 [some (vR 5 j0), some (vI x1)] [vI 0] S Q) : Ev d mX5_termCount 19 [some (vR 5 j0), some (vI x1)] [] S Q := by
  refine Ev.iconst (v := 0) dX5_termCount_19 (by decide) ?_
  exact kn
theorem bkX5_termCount_20 {d : Nat} {S : hs_T} {Q : Option av_T → hs_T → Prop} {x1 y0 : Int32} {j0 : Nat} (hq : Q (some (vI y0)) S) : Ev d mX5_termCount 20 [some (vR 5 j0), some (vI x1)] [vI y0] S Q := by
  exact Ev.iret dX5_termCount_20 rfl rfl hq
/-! EightWires$Rules.termKind(II)I -/
theorem bkX5_termKind_0 {d : Nat} {S : hs_T} {Q : Option av_T → hs_T → Prop} {x1 x2 : Int32} {j0 : Nat} (kt : x2 < 0 → Ev d mX5_termKind 26 [some (vR 5 j0), some (vI x1), some (vI x2)] [] S Q) (kf : ¬ x2 < 0 → Ev d mX5_termKind 4 [some (vR 5 j0), some (vI x1), some (vI x2)] [] S Q) : Ev d mX5_termKind 0 [some (vR 5 j0), some (vI x1), some (vI x2)] [] S Q := by
  refine Ev.iload_n dX5_termKind_0 rfl rfl ?_
  exact Ev.if_lt (tgt := 26) dX5_termKind_1 (by decide) kt kf
theorem bkX5_termKind_4 {d : Nat} {S : hs_T} {Q : Option av_T → hs_T → Prop} {P : Int32 → hs_T → Prop} {x1 x2 : Int32} {j0 : Nat} (hjj0 : j0 < 2) (hC : Ci d mX5_termCount [vR 5 j0, vI x1] S P) (kk : ∀ v S', P v S' → Ev (d + 1) mX5_termKind 10 [some (vR 5 j0), some (vI x1), some (vI x2)] [vI v, vI x2] S' Q) : Ev (d + 1) mX5_termKind 4 [some (vR 5 j0), some (vI x1), some (vI x2)] [] S Q := by
  refine Ev.iload_n dX5_termKind_4 rfl rfl ?_
  refine Ev.aload_n dX5_termKind_5 rfl rfl ?_
  refine Ev.iload_n dX5_termKind_6 rfl rfl ?_
  exact Ev.callV (as := [vI x1]) (rest := [vI x2]) okX5_termCount in_X5_termCount ml_X5_50 rfl (Nat.le_of_ble_eq_true rfl) (pl5 hjj0) (by decide) rfl rfl dX5_termKind_7 hC (fun r S' h => by obtain ⟨v, rfl, h⟩ := h; exact kk v S' h)
theorem bkX5_termKind_10 {d : Nat} {S : hs_T} {Q : Option av_T → hs_T → Prop} {x1 x2 y0 y1 : Int32} {j0 : Nat} (kt : y0 ≤ y1 → Ev d mX5_termKind 26 [some (vR 5 j0), some (vI x1), some (vI x2)] [] S Q) (kf : ¬ y0 ≤ y1 → Ev d mX5_termKind 13 [some (vR 5 j0), some (vI x1), some (vI x2)] [] S Q) : Ev d mX5_termKind 10 [some (vR 5 j0), some (vI x1), some (vI x2)] [vI y0, vI y1] S Q := by
  exact Ev.icmp_ge (tgt := 26) dX5_termKind_10 (by decide) kt kf
theorem bkX5_termKind_13 {d : Nat} {S : hs_T} {Q : Option av_T → hs_T → Prop} {x1 x2 : Int32} {j0 : Nat} (hjj0 : j0 < 2) (hi22 : vp_in ((x1 * 3) + x2) 75) (kn : Ev d mX5_termKind 27 [some (vR 5 j0), some (vI x1), some (vI x2)] [vI (S.1 604 j0 ((x1 * 3) + x2).toNatClampNeg)] S Q) : Ev d mX5_termKind 13 [some (vR 5 j0), some (vI x1), some (vI x2)] [] S Q := by
  refine Ev.aload_n dX5_termKind_13 rfl rfl ?_
  refine Ev.get (v := vR 604 j0) okX5 (by decide) fl_X5_24 (pl5 hjj0) (ff_5_4 _ _) dX5_termKind_14 ?_
  refine Ev.iload_n dX5_termKind_17 rfl rfl ?_
  refine Ev.iconst (v := 3) dX5_termKind_18 (by decide) ?_
  refine Ev.imul dX5_termKind_19 ?_
  refine Ev.iload_n dX5_termKind_20 rfl rfl ?_
  refine Ev.iadd dX5_termKind_21 ?_
  refine Ev.ialoadA (a := ((x1 * 3) + x2).toNatClampNeg) (pl604 hjj0) (by decide) ak_604 hi22 rfl dX5_termKind_22 ?_
  refine Ev.goto (tgt := 27) dX5_termKind_23 (by decide) ?_
  exact kn
theorem bkX5_termKind_26 {d : Nat} {S : hs_T} {Q : Option av_T → hs_T → Prop} {x1 x2 : Int32} {j0 : Nat} (kn : Ev d mX5_termKind 27 [some (vR 5 j0), some (vI x1), some (vI x2)] [vI 0] S Q) : Ev d mX5_termKind 26 [some (vR 5 j0), some (vI x1), some (vI x2)] [] S Q := by
  refine Ev.iconst (v := 0) dX5_termKind_26 (by decide) ?_
  exact kn
theorem bkX5_termKind_27 {d : Nat} {S : hs_T} {Q : Option av_T → hs_T → Prop} {x1 x2 y0 : Int32} {j0 : Nat} (hq : Q (some (vI y0)) S) : Ev d mX5_termKind 27 [some (vR 5 j0), some (vI x1), some (vI x2)] [vI y0] S Q := by
  exact Ev.iret dX5_termKind_27 rfl rfl hq
/-! EightWires$Rules.termNumber(II)I -/
theorem bkX5_termNumber_0 {d : Nat} {S : hs_T} {Q : Option av_T → hs_T → Prop} {x1 x2 : Int32} {j0 : Nat} (kt : x2 < 0 → Ev d mX5_termNumber 26 [some (vR 5 j0), some (vI x1), some (vI x2)] [] S Q) (kf : ¬ x2 < 0 → Ev d mX5_termNumber 4 [some (vR 5 j0), some (vI x1), some (vI x2)] [] S Q) : Ev d mX5_termNumber 0 [some (vR 5 j0), some (vI x1), some (vI x2)] [] S Q := by
  refine Ev.iload_n dX5_termNumber_0 rfl rfl ?_
  exact Ev.if_lt (tgt := 26) dX5_termNumber_1 (by decide) kt kf
theorem bkX5_termNumber_4 {d : Nat} {S : hs_T} {Q : Option av_T → hs_T → Prop} {P : Int32 → hs_T → Prop} {x1 x2 : Int32} {j0 : Nat} (hjj0 : j0 < 2) (hC : Ci d mX5_termCount [vR 5 j0, vI x1] S P) (kk : ∀ v S', P v S' → Ev (d + 1) mX5_termNumber 10 [some (vR 5 j0), some (vI x1), some (vI x2)] [vI v, vI x2] S' Q) : Ev (d + 1) mX5_termNumber 4 [some (vR 5 j0), some (vI x1), some (vI x2)] [] S Q := by
  refine Ev.iload_n dX5_termNumber_4 rfl rfl ?_
  refine Ev.aload_n dX5_termNumber_5 rfl rfl ?_
  refine Ev.iload_n dX5_termNumber_6 rfl rfl ?_
  exact Ev.callV (as := [vI x1]) (rest := [vI x2]) okX5_termCount in_X5_termCount ml_X5_50 rfl (Nat.le_of_ble_eq_true rfl) (pl5 hjj0) (by decide) rfl rfl dX5_termNumber_7 hC (fun r S' h => by obtain ⟨v, rfl, h⟩ := h; exact kk v S' h)
theorem bkX5_termNumber_10 {d : Nat} {S : hs_T} {Q : Option av_T → hs_T → Prop} {x1 x2 y0 y1 : Int32} {j0 : Nat} (kt : y0 ≤ y1 → Ev d mX5_termNumber 26 [some (vR 5 j0), some (vI x1), some (vI x2)] [] S Q) (kf : ¬ y0 ≤ y1 → Ev d mX5_termNumber 13 [some (vR 5 j0), some (vI x1), some (vI x2)] [] S Q) : Ev d mX5_termNumber 10 [some (vR 5 j0), some (vI x1), some (vI x2)] [vI y0, vI y1] S Q := by
  exact Ev.icmp_ge (tgt := 26) dX5_termNumber_10 (by decide) kt kf
theorem bkX5_termNumber_13 {d : Nat} {S : hs_T} {Q : Option av_T → hs_T → Prop} {x1 x2 : Int32} {j0 : Nat} (hjj0 : j0 < 2) (hi22 : vp_in ((x1 * 3) + x2) 75) (kn : Ev d mX5_termNumber 27 [some (vR 5 j0), some (vI x1), some (vI x2)] [vI (S.1 605 j0 ((x1 * 3) + x2).toNatClampNeg)] S Q) : Ev d mX5_termNumber 13 [some (vR 5 j0), some (vI x1), some (vI x2)] [] S Q := by
  refine Ev.aload_n dX5_termNumber_13 rfl rfl ?_
  refine Ev.get (v := vR 605 j0) okX5 (by decide) fl_X5_27 (pl5 hjj0) (ff_5_5 _ _) dX5_termNumber_14 ?_
  refine Ev.iload_n dX5_termNumber_17 rfl rfl ?_
  refine Ev.iconst (v := 3) dX5_termNumber_18 (by decide) ?_
  refine Ev.imul dX5_termNumber_19 ?_
  refine Ev.iload_n dX5_termNumber_20 rfl rfl ?_
  refine Ev.iadd dX5_termNumber_21 ?_
  refine Ev.ialoadA (a := ((x1 * 3) + x2).toNatClampNeg) (pl605 hjj0) (by decide) ak_605 hi22 rfl dX5_termNumber_22 ?_
  refine Ev.goto (tgt := 27) dX5_termNumber_23 (by decide) ?_
  exact kn
theorem bkX5_termNumber_26 {d : Nat} {S : hs_T} {Q : Option av_T → hs_T → Prop} {x1 x2 : Int32} {j0 : Nat} (kn : Ev d mX5_termNumber 27 [some (vR 5 j0), some (vI x1), some (vI x2)] [vI 0] S Q) : Ev d mX5_termNumber 26 [some (vR 5 j0), some (vI x1), some (vI x2)] [] S Q := by
  refine Ev.iconst (v := 0) dX5_termNumber_26 (by decide) ?_
  exact kn
theorem bkX5_termNumber_27 {d : Nat} {S : hs_T} {Q : Option av_T → hs_T → Prop} {x1 x2 y0 : Int32} {j0 : Nat} (hq : Q (some (vI y0)) S) : Ev d mX5_termNumber 27 [some (vR 5 j0), some (vI x1), some (vI x2)] [vI y0] S Q := by
  exact Ev.iret dX5_termNumber_27 rfl rfl hq
/-! EightWires$Rules.addBranch(IIII)V -/
theorem bkX5_addBranch_0 {d : Nat} {S : hs_T} {Q : Option av_T → hs_T → Prop} {x1 x2 x3 x4 : Int32} {j0 : Nat} (kt : x1 < 0 → Ev d mX5_addBranch 51 [some (vR 5 j0), some (vI x1), some (vI x2), some (vI x3), some (vI x4)] [] S Q) (kf : ¬ x1 < 0 → Ev d mX5_addBranch 4 [some (vR 5 j0), some (vI x1), some (vI x2), some (vI x3), some (vI x4)] [] S Q) : Ev d mX5_addBranch 0 [some (vR 5 j0), some (vI x1), some (vI x2), some (vI x3), some (vI x4)] [] S Q := by
  refine Ev.iload_n dX5_addBranch_0 rfl rfl ?_
  exact Ev.if_lt (tgt := 51) dX5_addBranch_1 (by decide) kt kf
theorem bkX5_addBranch_4 {d : Nat} {S : hs_T} {Q : Option av_T → hs_T → Prop} {x1 x2 x3 x4 : Int32} {j0 : Nat} (kt : 8 ≤ x1 → Ev d mX5_addBranch 51 [some (vR 5 j0), some (vI x1), some (vI x2), some (vI x3), some (vI x4)] [] S Q) (kf : ¬ 8 ≤ x1 → Ev d mX5_addBranch 10 [some (vR 5 j0), some (vI x1), some (vI x2), some (vI x3), some (vI x4)] [] S Q) : Ev d mX5_addBranch 4 [some (vR 5 j0), some (vI x1), some (vI x2), some (vI x3), some (vI x4)] [] S Q := by
  refine Ev.iload_n dX5_addBranch_4 rfl rfl ?_
  refine Ev.bipush (v := 8) dX5_addBranch_5 (by decide) ?_
  exact Ev.icmp_ge (tgt := 51) dX5_addBranch_7 (by decide) kt kf
theorem bkX5_addBranch_10 {d : Nat} {S : hs_T} {Q : Option av_T → hs_T → Prop} {x1 x2 x3 x4 : Int32} {j0 : Nat} (kt : x2 < 0 → Ev d mX5_addBranch 51 [some (vR 5 j0), some (vI x1), some (vI x2), some (vI x3), some (vI x4)] [] S Q) (kf : ¬ x2 < 0 → Ev d mX5_addBranch 14 [some (vR 5 j0), some (vI x1), some (vI x2), some (vI x3), some (vI x4)] [] S Q) : Ev d mX5_addBranch 10 [some (vR 5 j0), some (vI x1), some (vI x2), some (vI x3), some (vI x4)] [] S Q := by
  refine Ev.iload_n dX5_addBranch_10 rfl rfl ?_
  exact Ev.if_lt (tgt := 51) dX5_addBranch_11 (by decide) kt kf
theorem bkX5_addBranch_14 {d : Nat} {S : hs_T} {Q : Option av_T → hs_T → Prop} {x1 x2 x3 x4 : Int32} {j0 : Nat} (kt : 3 ≤ x2 → Ev d mX5_addBranch 51 [some (vR 5 j0), some (vI x1), some (vI x2), some (vI x3), some (vI x4)] [] S Q) (kf : ¬ 3 ≤ x2 → Ev d mX5_addBranch 19 [some (vR 5 j0), some (vI x1), some (vI x2), some (vI x3), some (vI x4)] [] S Q) : Ev d mX5_addBranch 14 [some (vR 5 j0), some (vI x1), some (vI x2), some (vI x3), some (vI x4)] [] S Q := by
  refine Ev.iload_n dX5_addBranch_14 rfl rfl ?_
  refine Ev.iconst (v := 3) dX5_addBranch_15 (by decide) ?_
  exact Ev.icmp_ge (tgt := 51) dX5_addBranch_16 (by decide) kt kf
theorem bkX5_addBranch_19 {d : Nat} {S : hs_T} {Q : Option av_T → hs_T → Prop} {x1 x2 x3 x4 : Int32} {j0 : Nat} (hjj0 : j0 < 2) (hi29 : vp_in ((x1 * 3) + x2) 24) (hi50 : vp_in x1 8) (kn : Ev d mX5_addBranch 51 [some (vR 5 j0), some (vI x1), some (vI x2), some (vI x3), some (vI x4)] [] (sk_ (sk_ (sk_ S 601 j0 (upd (S.1 601 j0) (((x1 * 3) + x2).toNatClampNeg) x3)) 602 j0 (upd ((sk_ S 601 j0 (upd (S.1 601 j0) (((x1 * 3) + x2).toNatClampNeg) x3)).1 602 j0) (((x1 * 3) + x2).toNatClampNeg) x4)) 600 j0 (upd ((sk_ (sk_ S 601 j0 (upd (S.1 601 j0) (((x1 * 3) + x2).toNatClampNeg) x3)) 602 j0 (upd ((sk_ S 601 j0 (upd (S.1 601 j0) (((x1 * 3) + x2).toNatClampNeg) x3)).1 602 j0) (((x1 * 3) + x2).toNatClampNeg) x4)).1 600 j0) x1.toNatClampNeg (x2 + 1))) Q) : Ev d mX5_addBranch 19 [some (vR 5 j0), some (vI x1), some (vI x2), some (vI x3), some (vI x4)] [] S Q := by
  refine Ev.aload_n dX5_addBranch_19 rfl rfl ?_
  refine Ev.get (v := vR 601 j0) okX5 (by decide) fl_X5_15 (pl5 hjj0) (ff_5_1 _ _) dX5_addBranch_20 ?_
  refine Ev.iload_n dX5_addBranch_23 rfl rfl ?_
  refine Ev.iconst (v := 3) dX5_addBranch_24 (by decide) ?_
  refine Ev.imul dX5_addBranch_25 ?_
  refine Ev.iload_n dX5_addBranch_26 rfl rfl ?_
  refine Ev.iadd dX5_addBranch_27 ?_
  refine Ev.iload_n dX5_addBranch_28 rfl rfl ?_
  refine Ev.iastoreA (a := ((x1 * 3) + x2).toNatClampNeg) (pl601 hjj0) (by decide) ak_601 hi29 rfl rfl dX5_addBranch_29 ?_
  refine Ev.aload_n dX5_addBranch_30 rfl rfl ?_
  refine Ev.get (v := vR 602 j0) okX5 (by decide) fl_X5_18 (pl5 hjj0) (ff_5_2 _ _) dX5_addBranch_31 ?_
  refine Ev.iload_n dX5_addBranch_34 rfl rfl ?_
  refine Ev.iconst (v := 3) dX5_addBranch_35 (by decide) ?_
  refine Ev.imul dX5_addBranch_36 ?_
  refine Ev.iload_n dX5_addBranch_37 rfl rfl ?_
  refine Ev.iadd dX5_addBranch_38 ?_
  refine Ev.iload dX5_addBranch_39 rfl ?_
  refine Ev.iastoreA (a := ((x1 * 3) + x2).toNatClampNeg) (pl602 hjj0) (by decide) ak_602 hi29 rfl rfl dX5_addBranch_41 ?_
  refine Ev.aload_n dX5_addBranch_42 rfl rfl ?_
  refine Ev.get (v := vR 600 j0) okX5 (by decide) fl_X5_11 (pl5 hjj0) (ff_5_0 _ _) dX5_addBranch_43 ?_
  refine Ev.iload_n dX5_addBranch_46 rfl rfl ?_
  refine Ev.iload_n dX5_addBranch_47 rfl rfl ?_
  refine Ev.iconst (v := 1) dX5_addBranch_48 (by decide) ?_
  refine Ev.iadd dX5_addBranch_49 ?_
  refine Ev.iastoreA (a := x1.toNatClampNeg) (pl600 hjj0) (by decide) ak_600 hi50 rfl rfl dX5_addBranch_50 ?_
  exact kn
theorem bkX5_addBranch_51 {d : Nat} {S : hs_T} {Q : Option av_T → hs_T → Prop} {x1 x2 x3 x4 : Int32} {j0 : Nat} (hq : Q none S) : Ev d mX5_addBranch 51 [some (vR 5 j0), some (vI x1), some (vI x2), some (vI x3), some (vI x4)] [] S Q := by
  exact Ev.vret dX5_addBranch_51 rfl hq
/-! EightWires$Rules.addTerm(III)V -/
theorem bkX5_addTerm_0 {d : Nat} {S : hs_T} {Q : Option av_T → hs_T → Prop} {P : Int32 → hs_T → Prop} {x1 x2 x3 : Int32} {j0 : Nat} {o4 : Option av_T} (hjj0 : j0 < 2) (hC : Ci d mX5_termCount [vR 5 j0, vI x1] S P) (kk : ∀ v S', P v S' → Ev (d + 1) mX5_addTerm 5 [some (vR 5 j0), some (vI x1), some (vI x2), some (vI x3), o4] [vI v] S' Q) : Ev (d + 1) mX5_addTerm 0 [some (vR 5 j0), some (vI x1), some (vI x2), some (vI x3), o4] [] S Q := by
  refine Ev.aload_n dX5_addTerm_0 rfl rfl ?_
  refine Ev.iload_n dX5_addTerm_1 rfl rfl ?_
  exact Ev.callV (as := [vI x1]) (rest := []) okX5_termCount in_X5_termCount ml_X5_50 rfl (Nat.le_of_ble_eq_true rfl) (pl5 hjj0) (by decide) rfl rfl dX5_addTerm_2 hC (fun r S' h => by obtain ⟨v, rfl, h⟩ := h; exact kk v S' h)
theorem bkX5_addTerm_5 {d : Nat} {S : hs_T} {Q : Option av_T → hs_T → Prop} {x1 x2 x3 y0 : Int32} {j0 : Nat} {o4 : Option av_T} (kt : x1 < 0 → Ev d mX5_addTerm 57 [some (vR 5 j0), some (vI x1), some (vI x2), some (vI x3), some (vI y0)] [] S Q) (kf : ¬ x1 < 0 → Ev d mX5_addTerm 11 [some (vR 5 j0), some (vI x1), some (vI x2), some (vI x3), some (vI y0)] [] S Q) : Ev d mX5_addTerm 5 [some (vR 5 j0), some (vI x1), some (vI x2), some (vI x3), o4] [vI y0] S Q := by
  refine Ev.istore (ls' := [some (vR 5 j0), some (vI x1), some (vI x2), some (vI x3), some (vI y0)]) dX5_addTerm_5 (by decide) rfl ?_
  refine Ev.iload_n dX5_addTerm_7 rfl rfl ?_
  exact Ev.if_lt (tgt := 57) dX5_addTerm_8 (by decide) kt kf
theorem bkX5_addTerm_11 {d : Nat} {S : hs_T} {Q : Option av_T → hs_T → Prop} {x1 x2 x3 x4 : Int32} {j0 : Nat} (kt : 24 < x1 → Ev d mX5_addTerm 57 [some (vR 5 j0), some (vI x1), some (vI x2), some (vI x3), some (vI x4)] [] S Q) (kf : ¬ 24 < x1 → Ev d mX5_addTerm 17 [some (vR 5 j0), some (vI x1), some (vI x2), some (vI x3), some (vI x4)] [] S Q) : Ev d mX5_addTerm 11 [some (vR 5 j0), some (vI x1), some (vI x2), some (vI x3), some (vI x4)] [] S Q := by
  refine Ev.iload_n dX5_addTerm_11 rfl rfl ?_
  refine Ev.bipush (v := 24) dX5_addTerm_12 (by decide) ?_
  exact Ev.icmp_gt (tgt := 57) dX5_addTerm_14 (by decide) kt kf
theorem bkX5_addTerm_17 {d : Nat} {S : hs_T} {Q : Option av_T → hs_T → Prop} {x1 x2 x3 x4 : Int32} {j0 : Nat} (kt : 3 ≤ x4 → Ev d mX5_addTerm 57 [some (vR 5 j0), some (vI x1), some (vI x2), some (vI x3), some (vI x4)] [] S Q) (kf : ¬ 3 ≤ x4 → Ev d mX5_addTerm 23 [some (vR 5 j0), some (vI x1), some (vI x2), some (vI x3), some (vI x4)] [] S Q) : Ev d mX5_addTerm 17 [some (vR 5 j0), some (vI x1), some (vI x2), some (vI x3), some (vI x4)] [] S Q := by
  refine Ev.iload dX5_addTerm_17 rfl ?_
  refine Ev.iconst (v := 3) dX5_addTerm_19 (by decide) ?_
  exact Ev.icmp_ge (tgt := 57) dX5_addTerm_20 (by decide) kt kf
theorem bkX5_addTerm_23 {d : Nat} {S : hs_T} {Q : Option av_T → hs_T → Prop} {x1 x2 x3 x4 : Int32} {j0 : Nat} (hjj0 : j0 < 2) (hi34 : vp_in ((x1 * 3) + x4) 75) (hi56 : vp_in x1 25) (kn : Ev d mX5_addTerm 57 [some (vR 5 j0), some (vI x1), some (vI x2), some (vI x3), some (vI x4)] [] (sk_ (sk_ (sk_ S 604 j0 (upd (S.1 604 j0) (((x1 * 3) + x4).toNatClampNeg) x2)) 605 j0 (upd ((sk_ S 604 j0 (upd (S.1 604 j0) (((x1 * 3) + x4).toNatClampNeg) x2)).1 605 j0) (((x1 * 3) + x4).toNatClampNeg) x3)) 603 j0 (upd ((sk_ (sk_ S 604 j0 (upd (S.1 604 j0) (((x1 * 3) + x4).toNatClampNeg) x2)) 605 j0 (upd ((sk_ S 604 j0 (upd (S.1 604 j0) (((x1 * 3) + x4).toNatClampNeg) x2)).1 605 j0) (((x1 * 3) + x4).toNatClampNeg) x3)).1 603 j0) x1.toNatClampNeg (x4 + 1))) Q) : Ev d mX5_addTerm 23 [some (vR 5 j0), some (vI x1), some (vI x2), some (vI x3), some (vI x4)] [] S Q := by
  refine Ev.aload_n dX5_addTerm_23 rfl rfl ?_
  refine Ev.get (v := vR 604 j0) okX5 (by decide) fl_X5_24 (pl5 hjj0) (ff_5_4 _ _) dX5_addTerm_24 ?_
  refine Ev.iload_n dX5_addTerm_27 rfl rfl ?_
  refine Ev.iconst (v := 3) dX5_addTerm_28 (by decide) ?_
  refine Ev.imul dX5_addTerm_29 ?_
  refine Ev.iload dX5_addTerm_30 rfl ?_
  refine Ev.iadd dX5_addTerm_32 ?_
  refine Ev.iload_n dX5_addTerm_33 rfl rfl ?_
  refine Ev.iastoreA (a := ((x1 * 3) + x4).toNatClampNeg) (pl604 hjj0) (by decide) ak_604 hi34 rfl rfl dX5_addTerm_34 ?_
  refine Ev.aload_n dX5_addTerm_35 rfl rfl ?_
  refine Ev.get (v := vR 605 j0) okX5 (by decide) fl_X5_27 (pl5 hjj0) (ff_5_5 _ _) dX5_addTerm_36 ?_
  refine Ev.iload_n dX5_addTerm_39 rfl rfl ?_
  refine Ev.iconst (v := 3) dX5_addTerm_40 (by decide) ?_
  refine Ev.imul dX5_addTerm_41 ?_
  refine Ev.iload dX5_addTerm_42 rfl ?_
  refine Ev.iadd dX5_addTerm_44 ?_
  refine Ev.iload_n dX5_addTerm_45 rfl rfl ?_
  refine Ev.iastoreA (a := ((x1 * 3) + x4).toNatClampNeg) (pl605 hjj0) (by decide) ak_605 hi34 rfl rfl dX5_addTerm_46 ?_
  refine Ev.aload_n dX5_addTerm_47 rfl rfl ?_
  refine Ev.get (v := vR 603 j0) okX5 (by decide) fl_X5_21 (pl5 hjj0) (ff_5_3 _ _) dX5_addTerm_48 ?_
  refine Ev.iload_n dX5_addTerm_51 rfl rfl ?_
  refine Ev.iload dX5_addTerm_52 rfl ?_
  refine Ev.iconst (v := 1) dX5_addTerm_54 (by decide) ?_
  refine Ev.iadd dX5_addTerm_55 ?_
  refine Ev.iastoreA (a := x1.toNatClampNeg) (pl603 hjj0) (by decide) ak_603 hi56 rfl rfl dX5_addTerm_56 ?_
  exact kn
theorem bkX5_addTerm_57 {d : Nat} {S : hs_T} {Q : Option av_T → hs_T → Prop} {x1 x2 x3 x4 : Int32} {j0 : Nat} (hq : Q none S) : Ev d mX5_addTerm 57 [some (vR 5 j0), some (vI x1), some (vI x2), some (vI x3), some (vI x4)] [] S Q := by
  exact Ev.vret dX5_addTerm_57 rfl hq
/-! EightWires$Rules.leadsNowhere()Z -/
theorem bkX5_leadsNowhere_0 {d : Nat} {S : hs_T} {Q : Option av_T → hs_T → Prop} {j0 : Nat} {o1 o2 o3 : Option av_T} (kn : Ev d mX5_leadsNowhere 2 [some (vR 5 j0), some (vI 0), o2, o3] [] S Q) : Ev d mX5_leadsNowhere 0 [some (vR 5 j0), o1, o2, o3] [] S Q := by
  refine Ev.iconst (v := 0) dX5_leadsNowhere_0 (by decide) ?_
  refine Ev.istore_n (ls' := [some (vR 5 j0), some (vI 0), o2, o3]) dX5_leadsNowhere_1 rfl (by decide) rfl ?_
  exact kn
theorem bkX5_leadsNowhere_2 {d : Nat} {S : hs_T} {Q : Option av_T → hs_T → Prop} {x1 : Int32} {j0 : Nat} {o2 o3 : Option av_T} (hjj0 : j0 < 2) (kt : (S.1 5 j0 6) ≤ x1 → Ev d mX5_leadsNowhere 60 [some (vR 5 j0), some (vI x1), o2, o3] [] S Q) (kf : ¬ (S.1 5 j0 6) ≤ x1 → Ev d mX5_leadsNowhere 10 [some (vR 5 j0), some (vI x1), o2, o3] [] S Q) : Ev d mX5_leadsNowhere 2 [some (vR 5 j0), some (vI x1), o2, o3] [] S Q := by
  refine Ev.iload_n dX5_leadsNowhere_2 rfl rfl ?_
  refine Ev.aload_n dX5_leadsNowhere_3 rfl rfl ?_
  refine Ev.get (v := vI (S.1 5 j0 6)) okX5 (by decide) fl_X5_34 (pl5 hjj0) (ff_5_6 _ _) dX5_leadsNowhere_4 ?_
  exact Ev.icmp_ge (tgt := 60) dX5_leadsNowhere_7 (by decide) kt kf
theorem bkX5_leadsNowhere_10 {d : Nat} {S : hs_T} {Q : Option av_T → hs_T → Prop} {x1 : Int32} {j0 : Nat} {o2 o3 : Option av_T} (kn : Ev d mX5_leadsNowhere 12 [some (vR 5 j0), some (vI x1), some (vI 0), o3] [] S Q) : Ev d mX5_leadsNowhere 10 [some (vR 5 j0), some (vI x1), o2, o3] [] S Q := by
  refine Ev.iconst (v := 0) dX5_leadsNowhere_10 (by decide) ?_
  refine Ev.istore_n (ls' := [some (vR 5 j0), some (vI x1), some (vI 0), o3]) dX5_leadsNowhere_11 rfl (by decide) rfl ?_
  exact kn
theorem bkX5_leadsNowhere_12 {d : Nat} {S : hs_T} {Q : Option av_T → hs_T → Prop} {P : Int32 → hs_T → Prop} {x1 x2 : Int32} {j0 : Nat} {o3 : Option av_T} (hjj0 : j0 < 2) (hC : Ci d mX5_branchCount [vR 5 j0, vI x1] S P) (kk : ∀ v S', P v S' → Ev (d + 1) mX5_leadsNowhere 18 [some (vR 5 j0), some (vI x1), some (vI x2), o3] [vI v, vI x2] S' Q) : Ev (d + 1) mX5_leadsNowhere 12 [some (vR 5 j0), some (vI x1), some (vI x2), o3] [] S Q := by
  refine Ev.iload_n dX5_leadsNowhere_12 rfl rfl ?_
  refine Ev.aload_n dX5_leadsNowhere_13 rfl rfl ?_
  refine Ev.iload_n dX5_leadsNowhere_14 rfl rfl ?_
  exact Ev.callV (as := [vI x1]) (rest := [vI x2]) okX5_branchCount in_X5_branchCount ml_X5_46 rfl (Nat.le_of_ble_eq_true rfl) (pl5 hjj0) (by decide) rfl rfl dX5_leadsNowhere_15 hC (fun r S' h => by obtain ⟨v, rfl, h⟩ := h; exact kk v S' h)
theorem bkX5_leadsNowhere_18 {d : Nat} {S : hs_T} {Q : Option av_T → hs_T → Prop} {x1 x2 y0 y1 : Int32} {j0 : Nat} {o3 : Option av_T} (kt : y0 ≤ y1 → Ev d mX5_leadsNowhere 54 [some (vR 5 j0), some (vI x1), some (vI x2), o3] [] S Q) (kf : ¬ y0 ≤ y1 → Ev d mX5_leadsNowhere 21 [some (vR 5 j0), some (vI x1), some (vI x2), o3] [] S Q) : Ev d mX5_leadsNowhere 18 [some (vR 5 j0), some (vI x1), some (vI x2), o3] [vI y0, vI y1] S Q := by
  exact Ev.icmp_ge (tgt := 54) dX5_leadsNowhere_18 (by decide) kt kf
theorem bkX5_leadsNowhere_21 {d : Nat} {S : hs_T} {Q : Option av_T → hs_T → Prop} {P : Int32 → hs_T → Prop} {x1 x2 : Int32} {j0 : Nat} {o3 : Option av_T} (hjj0 : j0 < 2) (hC : Ci d mX5_branchPlace [vR 5 j0, vI x1, vI x2] S P) (kk : ∀ v S', P v S' → Ev (d + 1) mX5_leadsNowhere 28 [some (vR 5 j0), some (vI x1), some (vI x2), o3] [vI v, vR 5 j0] S' Q) : Ev (d + 1) mX5_leadsNowhere 21 [some (vR 5 j0), some (vI x1), some (vI x2), o3] [] S Q := by
  refine Ev.aload_n dX5_leadsNowhere_21 rfl rfl ?_
  refine Ev.aload_n dX5_leadsNowhere_22 rfl rfl ?_
  refine Ev.iload_n dX5_leadsNowhere_23 rfl rfl ?_
  refine Ev.iload_n dX5_leadsNowhere_24 rfl rfl ?_
  exact Ev.callV (as := [vI x1, vI x2]) (rest := [vR 5 j0]) okX5_branchPlace in_X5_branchPlace ml_X5_53 rfl (Nat.le_of_ble_eq_true rfl) (pl5 hjj0) (by decide) rfl rfl dX5_leadsNowhere_25 hC (fun r S' h => by obtain ⟨v, rfl, h⟩ := h; exact kk v S' h)
theorem bkX5_leadsNowhere_28 {d : Nat} {S : hs_T} {Q : Option av_T → hs_T → Prop} {P : Int32 → hs_T → Prop} {x1 x2 y0 : Int32} {j0 i1 : Nat} {o3 : Option av_T} (hji1 : i1 < 2) (hC : Ci d mX5_targetOf [vR 5 i1, vI y0] S P) (kk : ∀ v S', P v S' → Ev (d + 1) mX5_leadsNowhere 31 [some (vR 5 j0), some (vI x1), some (vI x2), o3] [vI v] S' Q) : Ev (d + 1) mX5_leadsNowhere 28 [some (vR 5 j0), some (vI x1), some (vI x2), o3] [vI y0, vR 5 i1] S Q := by
  exact Ev.callV (as := [vI y0]) (rest := []) okX5_targetOf in_X5_targetOf ml_X5_57 rfl (Nat.le_of_ble_eq_true rfl) (pl5 hji1) (by decide) rfl rfl dX5_leadsNowhere_28 hC (fun r S' h => by obtain ⟨v, rfl, h⟩ := h; exact kk v S' h)
theorem bkX5_leadsNowhere_31 {d : Nat} {S : hs_T} {Q : Option av_T → hs_T → Prop} {x1 x2 y0 : Int32} {j0 : Nat} {o3 : Option av_T} (kt : y0 = 8 → Ev d mX5_leadsNowhere 48 [some (vR 5 j0), some (vI x1), some (vI x2), some (vI y0)] [] S Q) (kf : ¬ y0 = 8 → Ev d mX5_leadsNowhere 38 [some (vR 5 j0), some (vI x1), some (vI x2), some (vI y0)] [] S Q) : Ev d mX5_leadsNowhere 31 [some (vR 5 j0), some (vI x1), some (vI x2), o3] [vI y0] S Q := by
  refine Ev.istore_n (ls' := [some (vR 5 j0), some (vI x1), some (vI x2), some (vI y0)]) dX5_leadsNowhere_31 rfl (by decide) rfl ?_
  refine Ev.iload_n dX5_leadsNowhere_32 rfl rfl ?_
  refine Ev.bipush (v := 8) dX5_leadsNowhere_33 (by decide) ?_
  exact Ev.icmp_eq (tgt := 48) dX5_leadsNowhere_35 (by decide) kt kf
theorem bkX5_leadsNowhere_38 {d : Nat} {S : hs_T} {Q : Option av_T → hs_T → Prop} {x1 x2 x3 : Int32} {j0 : Nat} (hjj0 : j0 < 2) (kt : x3 < (S.1 5 j0 6) → Ev d mX5_leadsNowhere 48 [some (vR 5 j0), some (vI x1), some (vI x2), some (vI x3)] [] S Q) (kf : ¬ x3 < (S.1 5 j0 6) → Ev d mX5_leadsNowhere 46 [some (vR 5 j0), some (vI x1), some (vI x2), some (vI x3)] [] S Q) : Ev d mX5_leadsNowhere 38 [some (vR 5 j0), some (vI x1), some (vI x2), some (vI x3)] [] S Q := by
  refine Ev.iload_n dX5_leadsNowhere_38 rfl rfl ?_
  refine Ev.aload_n dX5_leadsNowhere_39 rfl rfl ?_
  refine Ev.get (v := vI (S.1 5 j0 6)) okX5 (by decide) fl_X5_34 (pl5 hjj0) (ff_5_6 _ _) dX5_leadsNowhere_40 ?_
  exact Ev.icmp_lt (tgt := 48) dX5_leadsNowhere_43 (by decide) kt kf
theorem bkX5_leadsNowhere_46 {d : Nat} {S : hs_T} {Q : Option av_T → hs_T → Prop} {x1 x2 x3 : Int32} {j0 : Nat} (hq : Q (some (vI 1)) S) : Ev d mX5_leadsNowhere 46 [some (vR 5 j0), some (vI x1), some (vI x2), some (vI x3)] [] S Q := by
  refine Ev.iconst (v := 1) dX5_leadsNowhere_46 (by decide) ?_
  exact Ev.iret dX5_leadsNowhere_47 rfl (by decide) hq
theorem bkX5_leadsNowhere_48 {d : Nat} {S : hs_T} {Q : Option av_T → hs_T → Prop} {x1 x2 x3 : Int32} {j0 : Nat} (kn : Ev d mX5_leadsNowhere 12 [some (vR 5 j0), some (vI x1), some (vI (x2 + 1)), some (vI x3)] [] S Q) : Ev d mX5_leadsNowhere 48 [some (vR 5 j0), some (vI x1), some (vI x2), some (vI x3)] [] S Q := by
  refine Ev.iinc (v := (x2 + 1)) (ls' := [some (vR 5 j0), some (vI x1), some (vI (x2 + 1)), some (vI x3)]) dX5_leadsNowhere_48 rfl rfl (by decide) rfl ?_
  refine Ev.goto (tgt := 12) dX5_leadsNowhere_51 (by decide) ?_
  exact kn
theorem bkX5_leadsNowhere_54 {d : Nat} {S : hs_T} {Q : Option av_T → hs_T → Prop} {x1 x2 : Int32} {j0 : Nat} {o3 : Option av_T} (kn : Ev d mX5_leadsNowhere 2 [some (vR 5 j0), some (vI (x1 + 1)), some (vI x2), o3] [] S Q) : Ev d mX5_leadsNowhere 54 [some (vR 5 j0), some (vI x1), some (vI x2), o3] [] S Q := by
  refine Ev.iinc (v := (x1 + 1)) (ls' := [some (vR 5 j0), some (vI (x1 + 1)), some (vI x2), o3]) dX5_leadsNowhere_54 rfl rfl (by decide) rfl ?_
  refine Ev.goto (tgt := 2) dX5_leadsNowhere_57 (by decide) ?_
  exact kn
theorem bkX5_leadsNowhere_60 {d : Nat} {S : hs_T} {Q : Option av_T → hs_T → Prop} {x1 : Int32} {j0 : Nat} {o2 o3 : Option av_T} (hq : Q (some (vI 0)) S) : Ev d mX5_leadsNowhere 60 [some (vR 5 j0), some (vI x1), o2, o3] [] S Q := by
  refine Ev.iconst (v := 0) dX5_leadsNowhere_60 (by decide) ?_
  exact Ev.iret dX5_leadsNowhere_61 rfl (by decide) hq
/-! EightWires$Rules.holds(ILEightWires$Trace;II)Z -/
theorem bkX5_holds_0 {d : Nat} {S : hs_T} {Q : Option av_T → hs_T → Prop} {x1 x3 x4 : Int32} {j0 j2 : Nat} {o5 : Option av_T} (kn : Ev d mX5_holds 3 [some (vR 5 j0), some (vI x1), some (vR 8 j2), some (vI x3), some (vI x4), some (vI 0)] [] S Q) : Ev d mX5_holds 0 [some (vR 5 j0), some (vI x1), some (vR 8 j2), some (vI x3), some (vI x4), o5] [] S Q := by
  refine Ev.iconst (v := 0) dX5_holds_0 (by decide) ?_
  refine Ev.istore (ls' := [some (vR 5 j0), some (vI x1), some (vR 8 j2), some (vI x3), some (vI x4), some (vI 0)]) dX5_holds_1 (by decide) rfl ?_
  exact kn
theorem bkX5_holds_3 {d : Nat} {S : hs_T} {Q : Option av_T → hs_T → Prop} {P : Int32 → hs_T → Prop} {x1 x3 x4 x5 : Int32} {j0 j2 : Nat} (hjj0 : j0 < 2) (hC : Ci d mX5_termCount [vR 5 j0, vI x1] S P) (kk : ∀ v S', P v S' → Ev (d + 1) mX5_holds 10 [some (vR 5 j0), some (vI x1), some (vR 8 j2), some (vI x3), some (vI x4), some (vI x5)] [vI v, vI x5] S' Q) : Ev (d + 1) mX5_holds 3 [some (vR 5 j0), some (vI x1), some (vR 8 j2), some (vI x3), some (vI x4), some (vI x5)] [] S Q := by
  refine Ev.iload dX5_holds_3 rfl ?_
  refine Ev.aload_n dX5_holds_5 rfl rfl ?_
  refine Ev.iload_n dX5_holds_6 rfl rfl ?_
  exact Ev.callV (as := [vI x1]) (rest := [vI x5]) okX5_termCount in_X5_termCount ml_X5_50 rfl (Nat.le_of_ble_eq_true rfl) (pl5 hjj0) (by decide) rfl rfl dX5_holds_7 hC (fun r S' h => by obtain ⟨v, rfl, h⟩ := h; exact kk v S' h)
theorem bkX5_holds_10 {d : Nat} {S : hs_T} {Q : Option av_T → hs_T → Prop} {x1 x3 x4 x5 y0 y1 : Int32} {j0 j2 : Nat} (kt : y0 ≤ y1 → Ev d mX5_holds 45 [some (vR 5 j0), some (vI x1), some (vR 8 j2), some (vI x3), some (vI x4), some (vI x5)] [] S Q) (kf : ¬ y0 ≤ y1 → Ev d mX5_holds 13 [some (vR 5 j0), some (vI x1), some (vR 8 j2), some (vI x3), some (vI x4), some (vI x5)] [] S Q) : Ev d mX5_holds 10 [some (vR 5 j0), some (vI x1), some (vR 8 j2), some (vI x3), some (vI x4), some (vI x5)] [vI y0, vI y1] S Q := by
  exact Ev.icmp_ge (tgt := 45) dX5_holds_10 (by decide) kt kf
theorem bkX5_holds_13 {d : Nat} {S : hs_T} {Q : Option av_T → hs_T → Prop} {P : Int32 → hs_T → Prop} {x1 x3 x4 x5 : Int32} {j0 j2 : Nat} (hjj0 : j0 < 2) (hC : Ci d mX5_termKind [vR 5 j0, vI x1, vI x5] S P) (kk : ∀ v S', P v S' → Ev (d + 1) mX5_holds 20 [some (vR 5 j0), some (vI x1), some (vR 8 j2), some (vI x3), some (vI x4), some (vI x5)] [vI v] S' Q) : Ev (d + 1) mX5_holds 13 [some (vR 5 j0), some (vI x1), some (vR 8 j2), some (vI x3), some (vI x4), some (vI x5)] [] S Q := by
  refine Ev.aload_n dX5_holds_13 rfl rfl ?_
  refine Ev.iload_n dX5_holds_14 rfl rfl ?_
  refine Ev.iload dX5_holds_15 rfl ?_
  exact Ev.callV (as := [vI x1, vI x5]) (rest := []) okX5_termKind in_X5_termKind ml_X5_60 rfl (Nat.le_of_ble_eq_true rfl) (pl5 hjj0) (by decide) rfl rfl dX5_holds_17 hC (fun r S' h => by obtain ⟨v, rfl, h⟩ := h; exact kk v S' h)
theorem bkX5_holds_20 {d : Nat} {S : hs_T} {Q : Option av_T → hs_T → Prop} {P : Int32 → hs_T → Prop} {x1 x3 x4 x5 y0 : Int32} {j0 j2 : Nat} (hjj0 : j0 < 2) (hC : Ci d mX5_termNumber [vR 5 j0, vI x1, vI x5] S P) (kk : ∀ v S', P v S' → Ev (d + 1) mX5_holds 27 [some (vR 5 j0), some (vI x1), some (vR 8 j2), some (vI x3), some (vI x4), some (vI x5)] [vI v, vI y0] S' Q) : Ev (d + 1) mX5_holds 20 [some (vR 5 j0), some (vI x1), some (vR 8 j2), some (vI x3), some (vI x4), some (vI x5)] [vI y0] S Q := by
  refine Ev.aload_n dX5_holds_20 rfl rfl ?_
  refine Ev.iload_n dX5_holds_21 rfl rfl ?_
  refine Ev.iload dX5_holds_22 rfl ?_
  exact Ev.callV (as := [vI x1, vI x5]) (rest := [vI y0]) okX5_termNumber in_X5_termNumber ml_X5_63 rfl (Nat.le_of_ble_eq_true rfl) (pl5 hjj0) (by decide) rfl rfl dX5_holds_24 hC (fun r S' h => by obtain ⟨v, rfl, h⟩ := h; exact kk v S' h)
theorem bkX5_holds_27 {d : Nat} {S : hs_T} {Q : Option av_T → hs_T → Prop} {P : Int32 → hs_T → Prop} {x1 x3 x4 x5 y0 y1 : Int32} {j0 j2 : Nat} (hC : Ci d mX5_termHolds [vI y1, vI y0, vR 8 j2, vI x3, vI x4] S P) (kk : ∀ v S', P v S' → Ev (d + 1) mX5_holds 34 [some (vR 5 j0), some (vI x1), some (vR 8 j2), some (vI x3), some (vI x4), some (vI x5)] [vI v] S' Q) : Ev (d + 1) mX5_holds 27 [some (vR 5 j0), some (vI x1), some (vR 8 j2), some (vI x3), some (vI x4), some (vI x5)] [vI y0, vI y1] S Q := by
  refine Ev.aload_n dX5_holds_27 rfl rfl ?_
  refine Ev.iload_n dX5_holds_28 rfl rfl ?_
  refine Ev.iload dX5_holds_29 rfl ?_
  exact Ev.callS (as := [vI y1, vI y0, vR 8 j2, vI x3, vI x4]) (rest := []) okX5_termHolds stX5_termHolds ml_X5_66 rfl (Nat.le_of_ble_eq_true rfl) rfl dX5_holds_31 hC (fun r S' h => by obtain ⟨v, rfl, h⟩ := h; exact kk v S' h)
theorem bkX5_holds_34 {d : Nat} {S : hs_T} {Q : Option av_T → hs_T → Prop} {x1 x3 x4 x5 y0 : Int32} {j0 j2 : Nat} (kt : ¬ y0 = 0 → Ev d mX5_holds 39 [some (vR 5 j0), some (vI x1), some (vR 8 j2), some (vI x3), some (vI x4), some (vI x5)] [] S Q) (kf : y0 = 0 → Ev d mX5_holds 37 [some (vR 5 j0), some (vI x1), some (vR 8 j2), some (vI x3), some (vI x4), some (vI x5)] [] S Q) : Ev d mX5_holds 34 [some (vR 5 j0), some (vI x1), some (vR 8 j2), some (vI x3), some (vI x4), some (vI x5)] [vI y0] S Q := by
  exact Ev.if_ne (tgt := 39) dX5_holds_34 (by decide) kt kf
theorem bkX5_holds_37 {d : Nat} {S : hs_T} {Q : Option av_T → hs_T → Prop} {x1 x3 x4 x5 : Int32} {j0 j2 : Nat} (hq : Q (some (vI 0)) S) : Ev d mX5_holds 37 [some (vR 5 j0), some (vI x1), some (vR 8 j2), some (vI x3), some (vI x4), some (vI x5)] [] S Q := by
  refine Ev.iconst (v := 0) dX5_holds_37 (by decide) ?_
  exact Ev.iret dX5_holds_38 rfl (by decide) hq
theorem bkX5_holds_39 {d : Nat} {S : hs_T} {Q : Option av_T → hs_T → Prop} {x1 x3 x4 x5 : Int32} {j0 j2 : Nat} (kn : Ev d mX5_holds 3 [some (vR 5 j0), some (vI x1), some (vR 8 j2), some (vI x3), some (vI x4), some (vI (x5 + 1))] [] S Q) : Ev d mX5_holds 39 [some (vR 5 j0), some (vI x1), some (vR 8 j2), some (vI x3), some (vI x4), some (vI x5)] [] S Q := by
  refine Ev.iinc (v := (x5 + 1)) (ls' := [some (vR 5 j0), some (vI x1), some (vR 8 j2), some (vI x3), some (vI x4), some (vI (x5 + 1))]) dX5_holds_39 rfl rfl (by decide) rfl ?_
  refine Ev.goto (tgt := 3) dX5_holds_42 (by decide) ?_
  exact kn
theorem bkX5_holds_45 {d : Nat} {S : hs_T} {Q : Option av_T → hs_T → Prop} {x1 x3 x4 x5 : Int32} {j0 j2 : Nat} (hq : Q (some (vI 1)) S) : Ev d mX5_holds 45 [some (vR 5 j0), some (vI x1), some (vR 8 j2), some (vI x3), some (vI x4), some (vI x5)] [] S Q := by
  refine Ev.iconst (v := 1) dX5_holds_45 (by decide) ?_
  exact Ev.iret dX5_holds_46 rfl (by decide) hq
/-! EightWires$Rules.termHolds(IILEightWires$Trace;II)Z -/
theorem bkX5_termHolds_0 {d : Nat} {S : hs_T} {Q : Option av_T → hs_T → Prop} {x0 x1 x3 x4 : Int32} {j2 : Nat} (k0 : x0 = 0 → Ev d mX5_termHolds 40 [some (vI x0), some (vI x1), some (vR 8 j2), some (vI x3), some (vI x4)] [] S Q) (k1 : x0 = 1 → Ev d mX5_termHolds 47 [some (vI x0), some (vI x1), some (vR 8 j2), some (vI x3), some (vI x4)] [] S Q) (k2 : x0 = 2 → Ev d mX5_termHolds 62 [some (vI x0), some (vI x1), some (vR 8 j2), some (vI x3), some (vI x4)] [] S Q) (k3 : x0 = 3 → Ev d mX5_termHolds 69 [some (vI x0), some (vI x1), some (vR 8 j2), some (vI x3), some (vI x4)] [] S Q) (k4 : x0 = 4 → Ev d mX5_termHolds 76 [some (vI x0), some (vI x1), some (vR 8 j2), some (vI x3), some (vI x4)] [] S Q) (k5 : x0 = 5 → Ev d mX5_termHolds 91 [some (vI x0), some (vI x1), some (vR 8 j2), some (vI x3), some (vI x4)] [] S Q) (kd : ¬ x0 = 0 → ¬ x0 = 1 → ¬ x0 = 2 → ¬ x0 = 3 → ¬ x0 = 4 → ¬ x0 = 5 → Ev d mX5_termHolds 106 [some (vI x0), some (vI x1), some (vR 8 j2), some (vI x3), some (vI x4)] [] S Q) : Ev d mX5_termHolds 0 [some (vI x0), some (vI x1), some (vR 8 j2), some (vI x3), some (vI x4)] [] S Q := by
  refine Ev.iload_n dX5_termHolds_0 rfl rfl ?_
  by_cases hc0 : x0 = 0
  · exact Ev.tableIn (off := 39) (tgt := 40) dX5_termHolds_1 (by rw [hc0]; decide) (by rw [hc0]; decide) (by rw [hc0]; rfl) (by decide) (k0 hc0)
  by_cases hc1 : x0 = 1
  · exact Ev.tableIn (off := 46) (tgt := 47) dX5_termHolds_1 (by rw [hc1]; decide) (by rw [hc1]; decide) (by rw [hc1]; rfl) (by decide) (k1 hc1)
  by_cases hc2 : x0 = 2
  · exact Ev.tableIn (off := 61) (tgt := 62) dX5_termHolds_1 (by rw [hc2]; decide) (by rw [hc2]; decide) (by rw [hc2]; rfl) (by decide) (k2 hc2)
  by_cases hc3 : x0 = 3
  · exact Ev.tableIn (off := 68) (tgt := 69) dX5_termHolds_1 (by rw [hc3]; decide) (by rw [hc3]; decide) (by rw [hc3]; rfl) (by decide) (k3 hc3)
  by_cases hc4 : x0 = 4
  · exact Ev.tableIn (off := 75) (tgt := 76) dX5_termHolds_1 (by rw [hc4]; decide) (by rw [hc4]; decide) (by rw [hc4]; rfl) (by decide) (k4 hc4)
  by_cases hc5 : x0 = 5
  · exact Ev.tableIn (off := 90) (tgt := 91) dX5_termHolds_1 (by rw [hc5]; decide) (by rw [hc5]; decide) (by rw [hc5]; rfl) (by decide) (k5 hc5)
  refine Ev.tableOut (tgt := 106) dX5_termHolds_1 (tw_out (fun c h1 h2 => ?_)) (by decide) (kd hc0 hc1 hc2 hc3 hc4 hc5)
  have hcs : c = 0 ∨ c = 1 ∨ c = 2 ∨ c = 3 ∨ c = 4 ∨ c = 5 := by omega
  rcases hcs with rfl | rfl | rfl | rfl | rfl | rfl
  · exact fun z => hc0 (Int32.toInt_inj.mp (z.trans (by decide)))
  · exact fun z => hc1 (Int32.toInt_inj.mp (z.trans (by decide)))
  · exact fun z => hc2 (Int32.toInt_inj.mp (z.trans (by decide)))
  · exact fun z => hc3 (Int32.toInt_inj.mp (z.trans (by decide)))
  · exact fun z => hc4 (Int32.toInt_inj.mp (z.trans (by decide)))
  · exact fun z => hc5 (Int32.toInt_inj.mp (z.trans (by decide)))
theorem bkX5_termHolds_40 {d : Nat} {S : hs_T} {Q : Option av_T → hs_T → Prop} {P : Int32 → hs_T → Prop} {x0 x1 x3 x4 : Int32} {j2 : Nat} (hjj2 : j2 < 4) (hC : Ci d mX8_high [vR 8 j2, vI x1, vI x3] S P) (kk : ∀ v S', P v S' → Ev (d + 1) mX5_termHolds 46 [some (vI x0), some (vI x1), some (vR 8 j2), some (vI x3), some (vI x4)] [vI v] S' Q) : Ev (d + 1) mX5_termHolds 40 [some (vI x0), some (vI x1), some (vR 8 j2), some (vI x3), some (vI x4)] [] S Q := by
  refine Ev.aload_n dX5_termHolds_40 rfl rfl ?_
  refine Ev.iload_n dX5_termHolds_41 rfl rfl ?_
  refine Ev.iload_n dX5_termHolds_42 rfl rfl ?_
  exact Ev.callV (as := [vI x1, vI x3]) (rest := []) okX8_high in_X8_high ml_X5_70 rfl (Nat.le_of_ble_eq_true rfl) (pl8 hjj2) (by decide) rfl rfl dX5_termHolds_43 hC (fun r S' h => by obtain ⟨v, rfl, h⟩ := h; exact kk v S' h)
theorem bkX5_termHolds_46 {d : Nat} {S : hs_T} {Q : Option av_T → hs_T → Prop} {x0 x1 x3 x4 y0 : Int32} {j2 : Nat} (hn46 : narrow .boolean (.int y0) = .int y0) (hq : Q (some (vI y0)) S) : Ev d mX5_termHolds 46 [some (vI x0), some (vI x1), some (vR 8 j2), some (vI x3), some (vI x4)] [vI y0] S Q := by
  exact Ev.iret dX5_termHolds_46 rfl hn46 hq
theorem bkX5_termHolds_47 {d : Nat} {S : hs_T} {Q : Option av_T → hs_T → Prop} {P : Int32 → hs_T → Prop} {x0 x1 x3 x4 : Int32} {j2 : Nat} (hjj2 : j2 < 4) (hC : Ci d mX8_high [vR 8 j2, vI x1, vI x3] S P) (kk : ∀ v S', P v S' → Ev (d + 1) mX5_termHolds 53 [some (vI x0), some (vI x1), some (vR 8 j2), some (vI x3), some (vI x4)] [vI v] S' Q) : Ev (d + 1) mX5_termHolds 47 [some (vI x0), some (vI x1), some (vR 8 j2), some (vI x3), some (vI x4)] [] S Q := by
  refine Ev.aload_n dX5_termHolds_47 rfl rfl ?_
  refine Ev.iload_n dX5_termHolds_48 rfl rfl ?_
  refine Ev.iload_n dX5_termHolds_49 rfl rfl ?_
  exact Ev.callV (as := [vI x1, vI x3]) (rest := []) okX8_high in_X8_high ml_X5_70 rfl (Nat.le_of_ble_eq_true rfl) (pl8 hjj2) (by decide) rfl rfl dX5_termHolds_50 hC (fun r S' h => by obtain ⟨v, rfl, h⟩ := h; exact kk v S' h)
theorem bkX5_termHolds_53 {d : Nat} {S : hs_T} {Q : Option av_T → hs_T → Prop} {x0 x1 x3 x4 y0 : Int32} {j2 : Nat} (kt : ¬ y0 = 0 → Ev d mX5_termHolds 60 [some (vI x0), some (vI x1), some (vR 8 j2), some (vI x3), some (vI x4)] [] S Q) (kf : y0 = 0 → Ev d mX5_termHolds 56 [some (vI x0), some (vI x1), some (vR 8 j2), some (vI x3), some (vI x4)] [] S Q) : Ev d mX5_termHolds 53 [some (vI x0), some (vI x1), some (vR 8 j2), some (vI x3), some (vI x4)] [vI y0] S Q := by
  exact Ev.if_ne (tgt := 60) dX5_termHolds_53 (by decide) kt kf
theorem bkX5_termHolds_56 {d : Nat} {S : hs_T} {Q : Option av_T → hs_T → Prop} {x0 x1 x3 x4 : Int32} {j2 : Nat} (kn : Ev d mX5_termHolds 61 [some (vI x0), some (vI x1), some (vR 8 j2), some (vI x3), some (vI x4)] [vI 1] S Q) : Ev d mX5_termHolds 56 [some (vI x0), some (vI x1), some (vR 8 j2), some (vI x3), some (vI x4)] [] S Q := by
  refine Ev.iconst (v := 1) dX5_termHolds_56 (by decide) ?_
  refine Ev.goto (tgt := 61) dX5_termHolds_57 (by decide) ?_
  exact kn
theorem bkX5_termHolds_60 {d : Nat} {S : hs_T} {Q : Option av_T → hs_T → Prop} {x0 x1 x3 x4 : Int32} {j2 : Nat} (kn : Ev d mX5_termHolds 61 [some (vI x0), some (vI x1), some (vR 8 j2), some (vI x3), some (vI x4)] [vI 0] S Q) : Ev d mX5_termHolds 60 [some (vI x0), some (vI x1), some (vR 8 j2), some (vI x3), some (vI x4)] [] S Q := by
  refine Ev.iconst (v := 0) dX5_termHolds_60 (by decide) ?_
  exact kn
theorem bkX5_termHolds_61 {d : Nat} {S : hs_T} {Q : Option av_T → hs_T → Prop} {x0 x1 x3 x4 y0 : Int32} {j2 : Nat} (hn61 : narrow .boolean (.int y0) = .int y0) (hq : Q (some (vI y0)) S) : Ev d mX5_termHolds 61 [some (vI x0), some (vI x1), some (vR 8 j2), some (vI x3), some (vI x4)] [vI y0] S Q := by
  exact Ev.iret dX5_termHolds_61 rfl hn61 hq
theorem bkX5_termHolds_62 {d : Nat} {S : hs_T} {Q : Option av_T → hs_T → Prop} {P : Int32 → hs_T → Prop} {x0 x1 x3 x4 : Int32} {j2 : Nat} (hjj2 : j2 < 4) (hC : Ci d mX8_rises [vR 8 j2, vI x1, vI x3] S P) (kk : ∀ v S', P v S' → Ev (d + 1) mX5_termHolds 68 [some (vI x0), some (vI x1), some (vR 8 j2), some (vI x3), some (vI x4)] [vI v] S' Q) : Ev (d + 1) mX5_termHolds 62 [some (vI x0), some (vI x1), some (vR 8 j2), some (vI x3), some (vI x4)] [] S Q := by
  refine Ev.aload_n dX5_termHolds_62 rfl rfl ?_
  refine Ev.iload_n dX5_termHolds_63 rfl rfl ?_
  refine Ev.iload_n dX5_termHolds_64 rfl rfl ?_
  exact Ev.callV (as := [vI x1, vI x3]) (rest := []) okX8_rises in_X8_rises ml_X5_76 rfl (Nat.le_of_ble_eq_true rfl) (pl8 hjj2) (by decide) rfl rfl dX5_termHolds_65 hC (fun r S' h => by obtain ⟨v, rfl, h⟩ := h; exact kk v S' h)
theorem bkX5_termHolds_68 {d : Nat} {S : hs_T} {Q : Option av_T → hs_T → Prop} {x0 x1 x3 x4 y0 : Int32} {j2 : Nat} (hn68 : narrow .boolean (.int y0) = .int y0) (hq : Q (some (vI y0)) S) : Ev d mX5_termHolds 68 [some (vI x0), some (vI x1), some (vR 8 j2), some (vI x3), some (vI x4)] [vI y0] S Q := by
  exact Ev.iret dX5_termHolds_68 rfl hn68 hq
theorem bkX5_termHolds_69 {d : Nat} {S : hs_T} {Q : Option av_T → hs_T → Prop} {P : Int32 → hs_T → Prop} {x0 x1 x3 x4 : Int32} {j2 : Nat} (hjj2 : j2 < 4) (hC : Ci d mX8_falls [vR 8 j2, vI x1, vI x3] S P) (kk : ∀ v S', P v S' → Ev (d + 1) mX5_termHolds 75 [some (vI x0), some (vI x1), some (vR 8 j2), some (vI x3), some (vI x4)] [vI v] S' Q) : Ev (d + 1) mX5_termHolds 69 [some (vI x0), some (vI x1), some (vR 8 j2), some (vI x3), some (vI x4)] [] S Q := by
  refine Ev.aload_n dX5_termHolds_69 rfl rfl ?_
  refine Ev.iload_n dX5_termHolds_70 rfl rfl ?_
  refine Ev.iload_n dX5_termHolds_71 rfl rfl ?_
  exact Ev.callV (as := [vI x1, vI x3]) (rest := []) okX8_falls in_X8_falls ml_X5_79 rfl (Nat.le_of_ble_eq_true rfl) (pl8 hjj2) (by decide) rfl rfl dX5_termHolds_72 hC (fun r S' h => by obtain ⟨v, rfl, h⟩ := h; exact kk v S' h)
theorem bkX5_termHolds_75 {d : Nat} {S : hs_T} {Q : Option av_T → hs_T → Prop} {x0 x1 x3 x4 y0 : Int32} {j2 : Nat} (hn75 : narrow .boolean (.int y0) = .int y0) (hq : Q (some (vI y0)) S) : Ev d mX5_termHolds 75 [some (vI x0), some (vI x1), some (vR 8 j2), some (vI x3), some (vI x4)] [vI y0] S Q := by
  exact Ev.iret dX5_termHolds_75 rfl hn75 hq
theorem bkX5_termHolds_76 {d : Nat} {S : hs_T} {Q : Option av_T → hs_T → Prop} {P : Int32 → hs_T → Prop} {x0 x1 x3 x4 : Int32} {j2 : Nat} (hjj2 : j2 < 4) (hC : Ci d mX8_sample [vR 8 j2, vI x3] S P) (kk : ∀ v S', P v S' → Ev (d + 1) mX5_termHolds 81 [some (vI x0), some (vI x1), some (vR 8 j2), some (vI x3), some (vI x4)] [vI v] S' Q) : Ev (d + 1) mX5_termHolds 76 [some (vI x0), some (vI x1), some (vR 8 j2), some (vI x3), some (vI x4)] [] S Q := by
  refine Ev.aload_n dX5_termHolds_76 rfl rfl ?_
  refine Ev.iload_n dX5_termHolds_77 rfl rfl ?_
  exact Ev.callV (as := [vI x3]) (rest := []) okX8_sample in_X8_sample ml_X5_82 rfl (Nat.le_of_ble_eq_true rfl) (pl8 hjj2) (by decide) rfl rfl dX5_termHolds_78 hC (fun r S' h => by obtain ⟨v, rfl, h⟩ := h; exact kk v S' h)
theorem bkX5_termHolds_81 {d : Nat} {S : hs_T} {Q : Option av_T → hs_T → Prop} {x0 x1 x3 x4 y0 : Int32} {j2 : Nat} (kt : ¬ y0 = x1 → Ev d mX5_termHolds 89 [some (vI x0), some (vI x1), some (vR 8 j2), some (vI x3), some (vI x4)] [] S Q) (kf : y0 = x1 → Ev d mX5_termHolds 85 [some (vI x0), some (vI x1), some (vR 8 j2), some (vI x3), some (vI x4)] [] S Q) : Ev d mX5_termHolds 81 [some (vI x0), some (vI x1), some (vR 8 j2), some (vI x3), some (vI x4)] [vI y0] S Q := by
  refine Ev.iload_n dX5_termHolds_81 rfl rfl ?_
  exact Ev.icmp_ne (tgt := 89) dX5_termHolds_82 (by decide) kt kf
theorem bkX5_termHolds_85 {d : Nat} {S : hs_T} {Q : Option av_T → hs_T → Prop} {x0 x1 x3 x4 : Int32} {j2 : Nat} (kn : Ev d mX5_termHolds 90 [some (vI x0), some (vI x1), some (vR 8 j2), some (vI x3), some (vI x4)] [vI 1] S Q) : Ev d mX5_termHolds 85 [some (vI x0), some (vI x1), some (vR 8 j2), some (vI x3), some (vI x4)] [] S Q := by
  refine Ev.iconst (v := 1) dX5_termHolds_85 (by decide) ?_
  refine Ev.goto (tgt := 90) dX5_termHolds_86 (by decide) ?_
  exact kn
theorem bkX5_termHolds_89 {d : Nat} {S : hs_T} {Q : Option av_T → hs_T → Prop} {x0 x1 x3 x4 : Int32} {j2 : Nat} (kn : Ev d mX5_termHolds 90 [some (vI x0), some (vI x1), some (vR 8 j2), some (vI x3), some (vI x4)] [vI 0] S Q) : Ev d mX5_termHolds 89 [some (vI x0), some (vI x1), some (vR 8 j2), some (vI x3), some (vI x4)] [] S Q := by
  refine Ev.iconst (v := 0) dX5_termHolds_89 (by decide) ?_
  exact kn
theorem bkX5_termHolds_90 {d : Nat} {S : hs_T} {Q : Option av_T → hs_T → Prop} {x0 x1 x3 x4 y0 : Int32} {j2 : Nat} (hn90 : narrow .boolean (.int y0) = .int y0) (hq : Q (some (vI y0)) S) : Ev d mX5_termHolds 90 [some (vI x0), some (vI x1), some (vR 8 j2), some (vI x3), some (vI x4)] [vI y0] S Q := by
  exact Ev.iret dX5_termHolds_90 rfl hn90 hq
theorem bkX5_termHolds_91 {d : Nat} {S : hs_T} {Q : Option av_T → hs_T → Prop} {P : Int32 → hs_T → Prop} {x0 x1 x3 x4 : Int32} {j2 : Nat} (hjj2 : j2 < 4) (hC : Ci d mX8_sample [vR 8 j2, vI x3] S P) (kk : ∀ v S', P v S' → Ev (d + 1) mX5_termHolds 96 [some (vI x0), some (vI x1), some (vR 8 j2), some (vI x3), some (vI x4)] [vI v] S' Q) : Ev (d + 1) mX5_termHolds 91 [some (vI x0), some (vI x1), some (vR 8 j2), some (vI x3), some (vI x4)] [] S Q := by
  refine Ev.aload_n dX5_termHolds_91 rfl rfl ?_
  refine Ev.iload_n dX5_termHolds_92 rfl rfl ?_
  exact Ev.callV (as := [vI x3]) (rest := []) okX8_sample in_X8_sample ml_X5_82 rfl (Nat.le_of_ble_eq_true rfl) (pl8 hjj2) (by decide) rfl rfl dX5_termHolds_93 hC (fun r S' h => by obtain ⟨v, rfl, h⟩ := h; exact kk v S' h)
theorem bkX5_termHolds_96 {d : Nat} {S : hs_T} {Q : Option av_T → hs_T → Prop} {x0 x1 x3 x4 y0 : Int32} {j2 : Nat} (kt : y0 = x1 → Ev d mX5_termHolds 104 [some (vI x0), some (vI x1), some (vR 8 j2), some (vI x3), some (vI x4)] [] S Q) (kf : ¬ y0 = x1 → Ev d mX5_termHolds 100 [some (vI x0), some (vI x1), some (vR 8 j2), some (vI x3), some (vI x4)] [] S Q) : Ev d mX5_termHolds 96 [some (vI x0), some (vI x1), some (vR 8 j2), some (vI x3), some (vI x4)] [vI y0] S Q := by
  refine Ev.iload_n dX5_termHolds_96 rfl rfl ?_
  exact Ev.icmp_eq (tgt := 104) dX5_termHolds_97 (by decide) kt kf
theorem bkX5_termHolds_100 {d : Nat} {S : hs_T} {Q : Option av_T → hs_T → Prop} {x0 x1 x3 x4 : Int32} {j2 : Nat} (kn : Ev d mX5_termHolds 105 [some (vI x0), some (vI x1), some (vR 8 j2), some (vI x3), some (vI x4)] [vI 1] S Q) : Ev d mX5_termHolds 100 [some (vI x0), some (vI x1), some (vR 8 j2), some (vI x3), some (vI x4)] [] S Q := by
  refine Ev.iconst (v := 1) dX5_termHolds_100 (by decide) ?_
  refine Ev.goto (tgt := 105) dX5_termHolds_101 (by decide) ?_
  exact kn
theorem bkX5_termHolds_104 {d : Nat} {S : hs_T} {Q : Option av_T → hs_T → Prop} {x0 x1 x3 x4 : Int32} {j2 : Nat} (kn : Ev d mX5_termHolds 105 [some (vI x0), some (vI x1), some (vR 8 j2), some (vI x3), some (vI x4)] [vI 0] S Q) : Ev d mX5_termHolds 104 [some (vI x0), some (vI x1), some (vR 8 j2), some (vI x3), some (vI x4)] [] S Q := by
  refine Ev.iconst (v := 0) dX5_termHolds_104 (by decide) ?_
  exact kn
theorem bkX5_termHolds_105 {d : Nat} {S : hs_T} {Q : Option av_T → hs_T → Prop} {x0 x1 x3 x4 y0 : Int32} {j2 : Nat} (hn105 : narrow .boolean (.int y0) = .int y0) (hq : Q (some (vI y0)) S) : Ev d mX5_termHolds 105 [some (vI x0), some (vI x1), some (vR 8 j2), some (vI x3), some (vI x4)] [vI y0] S Q := by
  exact Ev.iret dX5_termHolds_105 rfl hn105 hq
theorem bkX5_termHolds_106 {d : Nat} {S : hs_T} {Q : Option av_T → hs_T → Prop} {x0 x1 x3 x4 : Int32} {j2 : Nat} (kt : x4 < x1 → Ev d mX5_termHolds 116 [some (vI x0), some (vI x1), some (vR 8 j2), some (vI x3), some (vI x4)] [] S Q) (kf : ¬ x4 < x1 → Ev d mX5_termHolds 112 [some (vI x0), some (vI x1), some (vR 8 j2), some (vI x3), some (vI x4)] [] S Q) : Ev d mX5_termHolds 106 [some (vI x0), some (vI x1), some (vR 8 j2), some (vI x3), some (vI x4)] [] S Q := by
  refine Ev.iload dX5_termHolds_106 rfl ?_
  refine Ev.iload_n dX5_termHolds_108 rfl rfl ?_
  exact Ev.icmp_lt (tgt := 116) dX5_termHolds_109 (by decide) kt kf
theorem bkX5_termHolds_112 {d : Nat} {S : hs_T} {Q : Option av_T → hs_T → Prop} {x0 x1 x3 x4 : Int32} {j2 : Nat} (kn : Ev d mX5_termHolds 117 [some (vI x0), some (vI x1), some (vR 8 j2), some (vI x3), some (vI x4)] [vI 1] S Q) : Ev d mX5_termHolds 112 [some (vI x0), some (vI x1), some (vR 8 j2), some (vI x3), some (vI x4)] [] S Q := by
  refine Ev.iconst (v := 1) dX5_termHolds_112 (by decide) ?_
  refine Ev.goto (tgt := 117) dX5_termHolds_113 (by decide) ?_
  exact kn
theorem bkX5_termHolds_116 {d : Nat} {S : hs_T} {Q : Option av_T → hs_T → Prop} {x0 x1 x3 x4 : Int32} {j2 : Nat} (kn : Ev d mX5_termHolds 117 [some (vI x0), some (vI x1), some (vR 8 j2), some (vI x3), some (vI x4)] [vI 0] S Q) : Ev d mX5_termHolds 116 [some (vI x0), some (vI x1), some (vR 8 j2), some (vI x3), some (vI x4)] [] S Q := by
  refine Ev.iconst (v := 0) dX5_termHolds_116 (by decide) ?_
  exact kn
theorem bkX5_termHolds_117 {d : Nat} {S : hs_T} {Q : Option av_T → hs_T → Prop} {x0 x1 x3 x4 y0 : Int32} {j2 : Nat} (hn117 : narrow .boolean (.int y0) = .int y0) (hq : Q (some (vI y0)) S) : Ev d mX5_termHolds 117 [some (vI x0), some (vI x1), some (vR 8 j2), some (vI x3), some (vI x4)] [vI y0] S Q := by
  exact Ev.iret dX5_termHolds_117 rfl hn117 hq
/-! EightWires$Sheet.isNothing()Z -/
theorem bkX6_isNothing_0 {d : Nat} {S : hs_T} {Q : Option av_T → hs_T → Prop} {j0 : Nat} (hjj0 : j0 < 4) (kt : ¬ (S.1 6 j0 2) = (-1) → Ev d mX6_isNothing 12 [some (vR 6 j0)] [] S Q) (kf : (S.1 6 j0 2) = (-1) → Ev d mX6_isNothing 8 [some (vR 6 j0)] [] S Q) : Ev d mX6_isNothing 0 [some (vR 6 j0)] [] S Q := by
  refine Ev.aload_n dX6_isNothing_0 rfl rfl ?_
  refine Ev.get (v := vI (S.1 6 j0 2)) okX6 (by decide) fl_X6_15 (pl6 hjj0) (ff_6_2 _ _) dX6_isNothing_1 ?_
  refine Ev.iconst (v := (-1)) dX6_isNothing_4 (by decide) ?_
  exact Ev.icmp_ne (tgt := 12) dX6_isNothing_5 (by decide) kt kf
theorem bkX6_isNothing_8 {d : Nat} {S : hs_T} {Q : Option av_T → hs_T → Prop} {j0 : Nat} (kn : Ev d mX6_isNothing 13 [some (vR 6 j0)] [vI 1] S Q) : Ev d mX6_isNothing 8 [some (vR 6 j0)] [] S Q := by
  refine Ev.iconst (v := 1) dX6_isNothing_8 (by decide) ?_
  refine Ev.goto (tgt := 13) dX6_isNothing_9 (by decide) ?_
  exact kn
theorem bkX6_isNothing_12 {d : Nat} {S : hs_T} {Q : Option av_T → hs_T → Prop} {j0 : Nat} (kn : Ev d mX6_isNothing 13 [some (vR 6 j0)] [vI 0] S Q) : Ev d mX6_isNothing 12 [some (vR 6 j0)] [] S Q := by
  refine Ev.iconst (v := 0) dX6_isNothing_12 (by decide) ?_
  exact kn
theorem bkX6_isNothing_13 {d : Nat} {S : hs_T} {Q : Option av_T → hs_T → Prop} {y0 : Int32} {j0 : Nat} (hn13 : narrow .boolean (.int y0) = .int y0) (hq : Q (some (vI y0)) S) : Ev d mX6_isNothing 13 [some (vR 6 j0)] [vI y0] S Q := by
  exact Ev.iret dX6_isNothing_13 rfl hn13 hq
/-! EightWires$Sheet.has(I)Z -/
theorem bkX6_has_0 {d : Nat} {S : hs_T} {Q : Option av_T → hs_T → Prop} {x1 : Int32} {j0 : Nat} (kt : x1 < 0 → Ev d mX6_has 16 [some (vR 6 j0), some (vI x1)] [] S Q) (kf : ¬ x1 < 0 → Ev d mX6_has 4 [some (vR 6 j0), some (vI x1)] [] S Q) : Ev d mX6_has 0 [some (vR 6 j0), some (vI x1)] [] S Q := by
  refine Ev.iload_n dX6_has_0 rfl rfl ?_
  exact Ev.if_lt (tgt := 16) dX6_has_1 (by decide) kt kf
theorem bkX6_has_4 {d : Nat} {S : hs_T} {Q : Option av_T → hs_T → Prop} {x1 : Int32} {j0 : Nat} (hjj0 : j0 < 4) (kt : (S.1 6 j0 2) ≤ x1 → Ev d mX6_has 16 [some (vR 6 j0), some (vI x1)] [] S Q) (kf : ¬ (S.1 6 j0 2) ≤ x1 → Ev d mX6_has 12 [some (vR 6 j0), some (vI x1)] [] S Q) : Ev d mX6_has 4 [some (vR 6 j0), some (vI x1)] [] S Q := by
  refine Ev.iload_n dX6_has_4 rfl rfl ?_
  refine Ev.aload_n dX6_has_5 rfl rfl ?_
  refine Ev.get (v := vI (S.1 6 j0 2)) okX6 (by decide) fl_X6_15 (pl6 hjj0) (ff_6_2 _ _) dX6_has_6 ?_
  exact Ev.icmp_ge (tgt := 16) dX6_has_9 (by decide) kt kf
theorem bkX6_has_12 {d : Nat} {S : hs_T} {Q : Option av_T → hs_T → Prop} {x1 : Int32} {j0 : Nat} (kn : Ev d mX6_has 17 [some (vR 6 j0), some (vI x1)] [vI 1] S Q) : Ev d mX6_has 12 [some (vR 6 j0), some (vI x1)] [] S Q := by
  refine Ev.iconst (v := 1) dX6_has_12 (by decide) ?_
  refine Ev.goto (tgt := 17) dX6_has_13 (by decide) ?_
  exact kn
theorem bkX6_has_16 {d : Nat} {S : hs_T} {Q : Option av_T → hs_T → Prop} {x1 : Int32} {j0 : Nat} (kn : Ev d mX6_has 17 [some (vR 6 j0), some (vI x1)] [vI 0] S Q) : Ev d mX6_has 16 [some (vR 6 j0), some (vI x1)] [] S Q := by
  refine Ev.iconst (v := 0) dX6_has_16 (by decide) ?_
  exact kn
theorem bkX6_has_17 {d : Nat} {S : hs_T} {Q : Option av_T → hs_T → Prop} {x1 y0 : Int32} {j0 : Nat} (hn17 : narrow .boolean (.int y0) = .int y0) (hq : Q (some (vI y0)) S) : Ev d mX6_has 17 [some (vR 6 j0), some (vI x1)] [vI y0] S Q := by
  exact Ev.iret dX6_has_17 rfl hn17 hq
/-! EightWires$Sheet.cell(I)I -/
theorem bkX6_cell_0 {d : Nat} {S : hs_T} {Q : Option av_T → hs_T → Prop} {P : Int32 → hs_T → Prop} {x1 : Int32} {j0 : Nat} (hjj0 : j0 < 4) (hC : Ci d mX6_has [vR 6 j0, vI x1] S P) (kk : ∀ v S', P v S' → Ev (d + 1) mX6_cell 5 [some (vR 6 j0), some (vI x1)] [vI v] S' Q) : Ev (d + 1) mX6_cell 0 [some (vR 6 j0), some (vI x1)] [] S Q := by
  refine Ev.aload_n dX6_cell_0 rfl rfl ?_
  refine Ev.iload_n dX6_cell_1 rfl rfl ?_
  exact Ev.callV (as := [vI x1]) (rest := []) okX6_has in_X6_has ml_X6_19 rfl (Nat.le_of_ble_eq_true rfl) (pl6 hjj0) (by decide) rfl rfl dX6_cell_2 hC (fun r S' h => by obtain ⟨v, rfl, h⟩ := h; exact kk v S' h)
theorem bkX6_cell_5 {d : Nat} {S : hs_T} {Q : Option av_T → hs_T → Prop} {x1 y0 : Int32} {j0 : Nat} (kt : y0 = 0 → Ev d mX6_cell 17 [some (vR 6 j0), some (vI x1)] [] S Q) (kf : ¬ y0 = 0 → Ev d mX6_cell 8 [some (vR 6 j0), some (vI x1)] [] S Q) : Ev d mX6_cell 5 [some (vR 6 j0), some (vI x1)] [vI y0] S Q := by
  exact Ev.if_eq (tgt := 17) dX6_cell_5 (by decide) kt kf
theorem bkX6_cell_8 {d : Nat} {S : hs_T} {Q : Option av_T → hs_T → Prop} {x1 : Int32} {j0 : Nat} (hjj0 : j0 < 4) (hi13 : vp_in x1 40) (kn : Ev d mX6_cell 18 [some (vR 6 j0), some (vI x1)] [vI (S.1 700 j0 x1.toNatClampNeg)] S Q) : Ev d mX6_cell 8 [some (vR 6 j0), some (vI x1)] [] S Q := by
  refine Ev.aload_n dX6_cell_8 rfl rfl ?_
  refine Ev.get (v := vR 700 j0) okX6 (by decide) fl_X6_9 (pl6 hjj0) (ff_6_0 _ _) dX6_cell_9 ?_
  refine Ev.iload_n dX6_cell_12 rfl rfl ?_
  refine Ev.ialoadA (a := x1.toNatClampNeg) (pl700 hjj0) (by decide) ak_700 hi13 rfl dX6_cell_13 ?_
  refine Ev.goto (tgt := 18) dX6_cell_14 (by decide) ?_
  exact kn
theorem bkX6_cell_17 {d : Nat} {S : hs_T} {Q : Option av_T → hs_T → Prop} {x1 : Int32} {j0 : Nat} (kn : Ev d mX6_cell 18 [some (vR 6 j0), some (vI x1)] [vI 0] S Q) : Ev d mX6_cell 17 [some (vR 6 j0), some (vI x1)] [] S Q := by
  refine Ev.iconst (v := 0) dX6_cell_17 (by decide) ?_
  exact kn
theorem bkX6_cell_18 {d : Nat} {S : hs_T} {Q : Option av_T → hs_T → Prop} {x1 y0 : Int32} {j0 : Nat} (hq : Q (some (vI y0)) S) : Ev d mX6_cell 18 [some (vR 6 j0), some (vI x1)] [vI y0] S Q := by
  exact Ev.iret dX6_cell_18 rfl rfl hq
/-! EightWires$Sheet.renew(II)V -/
theorem bkX6_renew_0 {d : Nat} {S : hs_T} {Q : Option av_T → hs_T → Prop} {P : hs_T → Prop} {x1 x2 : Int32} {j0 : Nat} (hjj0 : j0 < 4) (hC : Cv d mJ7_fill_53178 [vR 700 j0, vI 0] (sk_ (sk_ S 6 j0 (upd (S.1 6 j0) 1 x1)) 6 j0 (upd ((sk_ S 6 j0 (upd (S.1 6 j0) 1 x1)).1 6 j0) 2 (if 0 < (if 40 < x2 then 40 else x2) then (if 40 < x2 then 40 else x2) else 0))) P) (kk : ∀ S', P S' → Ev (d + 1) mX6_renew 27 [some (vR 6 j0), some (vI x1), some (vI x2)] [] S' Q) : Ev (d + 1) mX6_renew 0 [some (vR 6 j0), some (vI x1), some (vI x2)] [] S Q := by
  refine Ev.aload_n dX6_renew_0 rfl rfl ?_
  refine Ev.iload_n dX6_renew_1 rfl rfl ?_
  refine Ev.put okX6 (by decide) fl_X6_23 (pl6 hjj0) (by decide) rfl rfl rfl rfl dX6_renew_2 ?_
  refine Ev.aload_n dX6_renew_5 rfl rfl ?_
  refine Ev.iconst (v := 0) dX6_renew_6 (by decide) ?_
  refine Ev.iload_n dX6_renew_7 rfl rfl ?_
  refine Ev.bipush (v := 40) dX6_renew_8 (by decide) ?_
  refine Ev.mmin ml_X6_26 (Nat.le_of_ble_eq_true rfl) dX6_renew_10 ?_
  refine Ev.mmax ml_X6_32 (Nat.le_of_ble_eq_true rfl) dX6_renew_13 ?_
  refine Ev.put okX6 (by decide) fl_X6_15 (pl6 hjj0) (by decide) rfl rfl rfl rfl dX6_renew_16 ?_
  refine Ev.aload_n dX6_renew_19 rfl rfl ?_
  refine Ev.get (v := vR 700 j0) okX6 (by decide) fl_X6_9 (pl6 hjj0) (ff_6_0 _ _) dX6_renew_20 ?_
  refine Ev.iconst (v := 0) dX6_renew_23 (by decide) ?_
  exact Ev.callS (as := [vR 700 j0, vI 0]) (rest := []) okJ7_fill_53178 stJ7_fill_53178 ml_X6_35 rfl (Nat.le_of_ble_eq_true rfl) rfl dX6_renew_24 hC (fun r S' h => by obtain ⟨rfl, h⟩ := h; exact kk S' h)
theorem bkX6_renew_27 {d : Nat} {S : hs_T} {Q : Option av_T → hs_T → Prop} {x1 x2 : Int32} {j0 : Nat} (hq : Q none S) : Ev d mX6_renew 27 [some (vR 6 j0), some (vI x1), some (vI x2)] [] S Q := by
  exact Ev.vret dX6_renew_27 rfl hq
/-! EightWires$Sheet.write(II)V -/
theorem bkX6_write_0 {d : Nat} {S : hs_T} {Q : Option av_T → hs_T → Prop} {P : Int32 → hs_T → Prop} {x1 x2 : Int32} {j0 : Nat} (hjj0 : j0 < 4) (hC : Ci d mX6_has [vR 6 j0, vI x1] S P) (kk : ∀ v S', P v S' → Ev (d + 1) mX6_write 5 [some (vR 6 j0), some (vI x1), some (vI x2)] [vI v] S' Q) : Ev (d + 1) mX6_write 0 [some (vR 6 j0), some (vI x1), some (vI x2)] [] S Q := by
  refine Ev.aload_n dX6_write_0 rfl rfl ?_
  refine Ev.iload_n dX6_write_1 rfl rfl ?_
  exact Ev.callV (as := [vI x1]) (rest := []) okX6_has in_X6_has ml_X6_19 rfl (Nat.le_of_ble_eq_true rfl) (pl6 hjj0) (by decide) rfl rfl dX6_write_2 hC (fun r S' h => by obtain ⟨v, rfl, h⟩ := h; exact kk v S' h)
theorem bkX6_write_5 {d : Nat} {S : hs_T} {Q : Option av_T → hs_T → Prop} {x1 x2 y0 : Int32} {j0 : Nat} (kt : ¬ y0 = 0 → Ev d mX6_write 9 [some (vR 6 j0), some (vI x1), some (vI x2)] [] S Q) (kf : y0 = 0 → Ev d mX6_write 8 [some (vR 6 j0), some (vI x1), some (vI x2)] [] S Q) : Ev d mX6_write 5 [some (vR 6 j0), some (vI x1), some (vI x2)] [vI y0] S Q := by
  exact Ev.if_ne (tgt := 9) dX6_write_5 (by decide) kt kf
theorem bkX6_write_8 {d : Nat} {S : hs_T} {Q : Option av_T → hs_T → Prop} {x1 x2 : Int32} {j0 : Nat} (hq : Q none S) : Ev d mX6_write 8 [some (vR 6 j0), some (vI x1), some (vI x2)] [] S Q := by
  exact Ev.vret dX6_write_8 rfl hq
theorem bkX6_write_9 {d : Nat} {S : hs_T} {Q : Option av_T → hs_T → Prop} {x1 x2 : Int32} {j0 : Nat} (hjj0 : j0 < 4) (k0 : (S.1 6 j0 1) = 0 → Ev d mX6_write 40 [some (vR 6 j0), some (vI x1), some (vI x2)] [] S Q) (k1 : (S.1 6 j0 1) = 1 → Ev d mX6_write 51 [some (vR 6 j0), some (vI x1), some (vI x2)] [] S Q) (kd : ¬ (S.1 6 j0 1) = 0 → ¬ (S.1 6 j0 1) = 1 → Ev d mX6_write 62 [some (vR 6 j0), some (vI x1), some (vI x2)] [] S Q) : Ev d mX6_write 9 [some (vR 6 j0), some (vI x1), some (vI x2)] [] S Q := by
  refine Ev.aload_n dX6_write_9 rfl rfl ?_
  refine Ev.get (v := vI (S.1 6 j0 1)) okX6 (by decide) fl_X6_23 (pl6 hjj0) (ff_6_1 _ _) dX6_write_10 ?_
  by_cases hc0 : (S.1 6 j0 1) = 0
  · exact Ev.lookup (off := 27) (tgt := 40) dX6_write_13 (by decide) (by rw [hc0]; decide) (by decide) (k0 hc0)
  by_cases hc1 : (S.1 6 j0 1) = 1
  · exact Ev.lookup (off := 38) (tgt := 51) dX6_write_13 (by decide) (by rw [hc1]; decide) (by decide) (k1 hc1)
  refine Ev.lookup (off := 49) (tgt := 62) dX6_write_13 (by decide) ?_ (by decide) (kd hc0 hc1)
  show Op.lookupswitch.offset [(0, 27), (1, 38)] 49 (S.1 6 j0 1).toInt = 49
  rw [lv_osw hc0 (by decide), lv_osw hc1 (by decide)]
  rfl
theorem bkX6_write_40 {d : Nat} {S : hs_T} {Q : Option av_T → hs_T → Prop} {x1 x2 : Int32} {j0 : Nat} (hjj0 : j0 < 4) (hi47 : vp_in x1 40) (kn : Ev d mX6_write 69 [some (vR 6 j0), some (vI x1), some (vI x2)] [] (sk_ S 700 j0 (upd (S.1 700 j0) x1.toNatClampNeg x2.toInt8.toInt32)) Q) : Ev d mX6_write 40 [some (vR 6 j0), some (vI x1), some (vI x2)] [] S Q := by
  refine Ev.aload_n dX6_write_40 rfl rfl ?_
  refine Ev.get (v := vR 700 j0) okX6 (by decide) fl_X6_9 (pl6 hjj0) (ff_6_0 _ _) dX6_write_41 ?_
  refine Ev.iload_n dX6_write_44 rfl rfl ?_
  refine Ev.iload_n dX6_write_45 rfl rfl ?_
  refine Ev.i2b dX6_write_46 ?_
  refine Ev.iastoreA (a := x1.toNatClampNeg) (pl700 hjj0) (by decide) ak_700 hi47 rfl rfl dX6_write_47 ?_
  refine Ev.goto (tgt := 69) dX6_write_48 (by decide) ?_
  exact kn
theorem bkX6_write_51 {d : Nat} {S : hs_T} {Q : Option av_T → hs_T → Prop} {x1 x2 : Int32} {j0 : Nat} (hjj0 : j0 < 4) (hi58 : vp_in x1 40) (kn : Ev d mX6_write 69 [some (vR 6 j0), some (vI x1), some (vI x2)] [] (sk_ S 700 j0 (upd (S.1 700 j0) x1.toNatClampNeg x2.toInt16.toInt32)) Q) : Ev d mX6_write 51 [some (vR 6 j0), some (vI x1), some (vI x2)] [] S Q := by
  refine Ev.aload_n dX6_write_51 rfl rfl ?_
  refine Ev.get (v := vR 700 j0) okX6 (by decide) fl_X6_9 (pl6 hjj0) (ff_6_0 _ _) dX6_write_52 ?_
  refine Ev.iload_n dX6_write_55 rfl rfl ?_
  refine Ev.iload_n dX6_write_56 rfl rfl ?_
  refine Ev.i2s dX6_write_57 ?_
  refine Ev.iastoreA (a := x1.toNatClampNeg) (pl700 hjj0) (by decide) ak_700 hi58 rfl rfl dX6_write_58 ?_
  refine Ev.goto (tgt := 69) dX6_write_59 (by decide) ?_
  exact kn
theorem bkX6_write_62 {d : Nat} {S : hs_T} {Q : Option av_T → hs_T → Prop} {x1 x2 : Int32} {j0 : Nat} (hjj0 : j0 < 4) (hi68 : vp_in x1 40) (kn : Ev d mX6_write 69 [some (vR 6 j0), some (vI x1), some (vI x2)] [] (sk_ S 700 j0 (upd (S.1 700 j0) x1.toNatClampNeg x2)) Q) : Ev d mX6_write 62 [some (vR 6 j0), some (vI x1), some (vI x2)] [] S Q := by
  refine Ev.aload_n dX6_write_62 rfl rfl ?_
  refine Ev.get (v := vR 700 j0) okX6 (by decide) fl_X6_9 (pl6 hjj0) (ff_6_0 _ _) dX6_write_63 ?_
  refine Ev.iload_n dX6_write_66 rfl rfl ?_
  refine Ev.iload_n dX6_write_67 rfl rfl ?_
  refine Ev.iastoreA (a := x1.toNatClampNeg) (pl700 hjj0) (by decide) ak_700 hi68 rfl rfl dX6_write_68 ?_
  exact kn
theorem bkX6_write_69 {d : Nat} {S : hs_T} {Q : Option av_T → hs_T → Prop} {x1 x2 : Int32} {j0 : Nat} (hq : Q none S) : Ev d mX6_write 69 [some (vR 6 j0), some (vI x1), some (vI x2)] [] S Q := by
  exact Ev.vret dX6_write_69 rfl hq
/-! EightWires$Sheet.faultAs(I)I -/
theorem bkX6_faultAs_0 {d : Nat} {S : hs_T} {Q : Option av_T → hs_T → Prop} {P : Int32 → hs_T → Prop} {x1 : Int32} {j0 : Nat} (hjj0 : j0 < 4) (hC : Ci d mX6_isNothing [vR 6 j0] S P) (kk : ∀ v S', P v S' → Ev (d + 1) mX6_faultAs 4 [some (vR 6 j0), some (vI x1)] [vI v] S' Q) : Ev (d + 1) mX6_faultAs 0 [some (vR 6 j0), some (vI x1)] [] S Q := by
  refine Ev.aload_n dX6_faultAs_0 rfl rfl ?_
  exact Ev.callV (as := []) (rest := []) okX6_isNothing in_X6_isNothing ml_X6_41 rfl (Nat.le_of_ble_eq_true rfl) (pl6 hjj0) (by decide) rfl rfl dX6_faultAs_1 hC (fun r S' h => by obtain ⟨v, rfl, h⟩ := h; exact kk v S' h)
theorem bkX6_faultAs_4 {d : Nat} {S : hs_T} {Q : Option av_T → hs_T → Prop} {x1 y0 : Int32} {j0 : Nat} (kt : y0 = 0 → Ev d mX6_faultAs 9 [some (vR 6 j0), some (vI x1)] [] S Q) (kf : ¬ y0 = 0 → Ev d mX6_faultAs 7 [some (vR 6 j0), some (vI x1)] [] S Q) : Ev d mX6_faultAs 4 [some (vR 6 j0), some (vI x1)] [vI y0] S Q := by
  exact Ev.if_eq (tgt := 9) dX6_faultAs_4 (by decide) kt kf
theorem bkX6_faultAs_7 {d : Nat} {S : hs_T} {Q : Option av_T → hs_T → Prop} {x1 : Int32} {j0 : Nat} (hq : Q (some (vI 1)) S) : Ev d mX6_faultAs 7 [some (vR 6 j0), some (vI x1)] [] S Q := by
  refine Ev.iconst (v := 1) dX6_faultAs_7 (by decide) ?_
  exact Ev.iret dX6_faultAs_8 rfl rfl hq
theorem bkX6_faultAs_9 {d : Nat} {S : hs_T} {Q : Option av_T → hs_T → Prop} {x1 : Int32} {j0 : Nat} (hjj0 : j0 < 4) (kt : ¬ x1 = (S.1 6 j0 1) → Ev d mX6_faultAs 21 [some (vR 6 j0), some (vI x1)] [] S Q) (kf : x1 = (S.1 6 j0 1) → Ev d mX6_faultAs 17 [some (vR 6 j0), some (vI x1)] [] S Q) : Ev d mX6_faultAs 9 [some (vR 6 j0), some (vI x1)] [] S Q := by
  refine Ev.iload_n dX6_faultAs_9 rfl rfl ?_
  refine Ev.aload_n dX6_faultAs_10 rfl rfl ?_
  refine Ev.get (v := vI (S.1 6 j0 1)) okX6 (by decide) fl_X6_23 (pl6 hjj0) (ff_6_1 _ _) dX6_faultAs_11 ?_
  exact Ev.icmp_ne (tgt := 21) dX6_faultAs_14 (by decide) kt kf
theorem bkX6_faultAs_17 {d : Nat} {S : hs_T} {Q : Option av_T → hs_T → Prop} {x1 : Int32} {j0 : Nat} (kn : Ev d mX6_faultAs 22 [some (vR 6 j0), some (vI x1)] [vI 0] S Q) : Ev d mX6_faultAs 17 [some (vR 6 j0), some (vI x1)] [] S Q := by
  refine Ev.iconst (v := 0) dX6_faultAs_17 (by decide) ?_
  refine Ev.goto (tgt := 22) dX6_faultAs_18 (by decide) ?_
  exact kn
theorem bkX6_faultAs_21 {d : Nat} {S : hs_T} {Q : Option av_T → hs_T → Prop} {x1 : Int32} {j0 : Nat} (kn : Ev d mX6_faultAs 22 [some (vR 6 j0), some (vI x1)] [vI 3] S Q) : Ev d mX6_faultAs 21 [some (vR 6 j0), some (vI x1)] [] S Q := by
  refine Ev.iconst (v := 3) dX6_faultAs_21 (by decide) ?_
  exact kn
theorem bkX6_faultAs_22 {d : Nat} {S : hs_T} {Q : Option av_T → hs_T → Prop} {x1 y0 : Int32} {j0 : Nat} (hq : Q (some (vI y0)) S) : Ev d mX6_faultAs 22 [some (vR 6 j0), some (vI x1)] [vI y0] S Q := by
  exact Ev.iret dX6_faultAs_22 rfl rfl hq
/-! EightWires$Sheet.wholePairs(II)I -/
theorem bkX6_wholePairs_0 {d : Nat} {S : hs_T} {Q : Option av_T → hs_T → Prop} {P : Int32 → hs_T → Prop} {x1 x2 : Int32} {j0 : Nat} (hjj0 : j0 < 4) (hC : Ci d mX6_has [vR 6 j0, vI x1] S P) (kk : ∀ v S', P v S' → Ev (d + 1) mX6_wholePairs 5 [some (vR 6 j0), some (vI x1), some (vI x2)] [vI v] S' Q) : Ev (d + 1) mX6_wholePairs 0 [some (vR 6 j0), some (vI x1), some (vI x2)] [] S Q := by
  refine Ev.aload_n dX6_wholePairs_0 rfl rfl ?_
  refine Ev.iload_n dX6_wholePairs_1 rfl rfl ?_
  exact Ev.callV (as := [vI x1]) (rest := []) okX6_has in_X6_has ml_X6_19 rfl (Nat.le_of_ble_eq_true rfl) (pl6 hjj0) (by decide) rfl rfl dX6_wholePairs_2 hC (fun r S' h => by obtain ⟨v, rfl, h⟩ := h; exact kk v S' h)
theorem bkX6_wholePairs_5 {d : Nat} {S : hs_T} {Q : Option av_T → hs_T → Prop} {x1 x2 y0 : Int32} {j0 : Nat} (kt : y0 = 0 → Ev d mX6_wholePairs 23 [some (vR 6 j0), some (vI x1), some (vI x2)] [] S Q) (kf : ¬ y0 = 0 → Ev d mX6_wholePairs 8 [some (vR 6 j0), some (vI x1), some (vI x2)] [] S Q) : Ev d mX6_wholePairs 5 [some (vR 6 j0), some (vI x1), some (vI x2)] [vI y0] S Q := by
  exact Ev.if_eq (tgt := 23) dX6_wholePairs_5 (by decide) kt kf
theorem bkX6_wholePairs_8 {d : Nat} {S : hs_T} {Q : Option av_T → hs_T → Prop} {x1 x2 : Int32} {j0 : Nat} (hjj0 : j0 < 4) (kn : Ev (d + 1) mX6_wholePairs 24 [some (vR 6 j0), some (vI x1), some (vI x2)] [vI (if (((S.1 6 j0 2) - x1) / 2) < x2 then (((S.1 6 j0 2) - x1) / 2) else x2)] S Q) : Ev (d + 1) mX6_wholePairs 8 [some (vR 6 j0), some (vI x1), some (vI x2)] [] S Q := by
  refine Ev.iload_n dX6_wholePairs_8 rfl rfl ?_
  refine Ev.aload_n dX6_wholePairs_9 rfl rfl ?_
  refine Ev.get (v := vI (S.1 6 j0 2)) okX6 (by decide) fl_X6_15 (pl6 hjj0) (ff_6_2 _ _) dX6_wholePairs_10 ?_
  refine Ev.iload_n dX6_wholePairs_13 rfl rfl ?_
  refine Ev.isub dX6_wholePairs_14 ?_
  refine Ev.iconst (v := 2) dX6_wholePairs_15 (by decide) ?_
  refine Ev.idiv dX6_wholePairs_16 (by decide) ?_
  refine Ev.mmin ml_X6_26 (Nat.le_of_ble_eq_true rfl) dX6_wholePairs_17 ?_
  refine Ev.goto (tgt := 24) dX6_wholePairs_20 (by decide) ?_
  exact kn
theorem bkX6_wholePairs_23 {d : Nat} {S : hs_T} {Q : Option av_T → hs_T → Prop} {x1 x2 : Int32} {j0 : Nat} (kn : Ev d mX6_wholePairs 24 [some (vR 6 j0), some (vI x1), some (vI x2)] [vI 0] S Q) : Ev d mX6_wholePairs 23 [some (vR 6 j0), some (vI x1), some (vI x2)] [] S Q := by
  refine Ev.iconst (v := 0) dX6_wholePairs_23 (by decide) ?_
  exact kn
theorem bkX6_wholePairs_24 {d : Nat} {S : hs_T} {Q : Option av_T → hs_T → Prop} {x1 x2 y0 : Int32} {j0 : Nat} (hq : Q (some (vI y0)) S) : Ev d mX6_wholePairs 24 [some (vR 6 j0), some (vI x1), some (vI x2)] [vI y0] S Q := by
  exact Ev.iret dX6_wholePairs_24 rfl rfl hq
/-! EightWires$Tape.append(J)V -/
theorem bkX7_append_0 {d : Nat} {S : hs_T} {Q : Option av_T → hs_T → Prop} {x1 : Int64} {o3 : Option av_T} (kn : Ev d mX7_append 3 [some (vR 7 0), some (vJ x1), none, some (vI 56)] [] S Q) : Ev d mX7_append 0 [some (vR 7 0), some (vJ x1), none, o3] [] S Q := by
  refine Ev.bipush (v := 56) dX7_append_0 (by decide) ?_
  refine Ev.istore_n (ls' := [some (vR 7 0), some (vJ x1), none, some (vI 56)]) dX7_append_2 rfl (by decide) rfl ?_
  exact kn
theorem bkX7_append_3 {d : Nat} {S : hs_T} {Q : Option av_T → hs_T → Prop} {x3 : Int32} {x1 : Int64} (kt : x3 < 0 → Ev d mX7_append 52 [some (vR 7 0), some (vJ x1), none, some (vI x3)] [] S Q) (kf : ¬ x3 < 0 → Ev d mX7_append 7 [some (vR 7 0), some (vJ x1), none, some (vI x3)] [] S Q) : Ev d mX7_append 3 [some (vR 7 0), some (vJ x1), none, some (vI x3)] [] S Q := by
  refine Ev.iload_n dX7_append_3 rfl rfl ?_
  exact Ev.if_lt (tgt := 52) dX7_append_4 (by decide) kt kf
theorem bkX7_append_7 {d : Nat} {S : hs_T} {Q : Option av_T → hs_T → Prop} {x3 : Int32} {x1 : Int64} (kt : 400 ≤ (S.1 7 0 1) → Ev d mX7_append 52 [some (vR 7 0), some (vJ x1), none, some (vI x3)] [] S Q) (kf : ¬ 400 ≤ (S.1 7 0 1) → Ev d mX7_append 19 [some (vR 7 0), some (vJ x1), none, some (vI x3)] [] S Q) : Ev d mX7_append 7 [some (vR 7 0), some (vJ x1), none, some (vI x3)] [] S Q := by
  refine Ev.aload_n dX7_append_7 rfl rfl ?_
  refine Ev.get (v := vI (S.1 7 0 1)) okX7 (by decide) fl_X7_24 pz_7_0 (ff_7_1 _ _) dX7_append_8 ?_
  refine Ev.aload_n dX7_append_11 rfl rfl ?_
  refine Ev.get (v := vR 800 0) okX7 (by decide) fl_X7_9 pz_7_0 (ff_7_0 _ _) dX7_append_12 ?_
  refine Ev.alen (v := 400) pz_800_0 (by decide) rfl (by decide) rfl dX7_append_15 ?_
  exact Ev.icmp_ge (tgt := 52) dX7_append_16 (by decide) kt kf
theorem bkX7_append_19 {d : Nat} {S : hs_T} {Q : Option av_T → hs_T → Prop} {x3 : Int32} {x1 : Int64} (hi35 : vp_in (S.1 7 0 1) 400) (kn : Ev d mX7_append 3 [some (vR 7 0), some (vJ x1), none, some (vI (x3 + (-8)))] [] (sk_ (sk_ S 800 0 (upd (S.1 800 0) ((S.1 7 0 1).toNatClampNeg) (((x1 >>> (x3.toInt64 &&& 63)).toInt32) &&& 255))) 7 0 (upd ((sk_ S 800 0 (upd (S.1 800 0) ((S.1 7 0 1).toNatClampNeg) (((x1 >>> (x3.toInt64 &&& 63)).toInt32) &&& 255))).1 7 0) 1 (((sk_ S 800 0 (upd (S.1 800 0) ((S.1 7 0 1).toNatClampNeg) (((x1 >>> (x3.toInt64 &&& 63)).toInt32) &&& 255))).1 7 0 1) + 1))) Q) : Ev d mX7_append 19 [some (vR 7 0), some (vJ x1), none, some (vI x3)] [] S Q := by
  refine Ev.aload_n dX7_append_19 rfl rfl ?_
  refine Ev.get (v := vR 800 0) okX7 (by decide) fl_X7_9 pz_7_0 (ff_7_0 _ _) dX7_append_20 ?_
  refine Ev.aload_n dX7_append_23 rfl rfl ?_
  refine Ev.get (v := vI (S.1 7 0 1)) okX7 (by decide) fl_X7_24 pz_7_0 (ff_7_1 _ _) dX7_append_24 ?_
  refine Ev.lload_n dX7_append_27 rfl rfl ?_
  refine Ev.iload_n dX7_append_28 rfl rfl ?_
  refine Ev.lshr dX7_append_29 ?_
  refine Ev.l2i dX7_append_30 ?_
  refine Ev.sipush (v := 255) dX7_append_31 (by decide) ?_
  refine Ev.iand dX7_append_34 ?_
  refine Ev.iastoreA (a := (S.1 7 0 1).toNatClampNeg) pz_800_0 (by decide) ak_800 hi35 rfl rfl dX7_append_35 ?_
  refine Ev.aload_n dX7_append_36 rfl rfl ?_
  refine Ev.dup dX7_append_37 rfl ?_
  refine Ev.get (v := vI ((sk_ S 800 0 (upd (S.1 800 0) ((S.1 7 0 1).toNatClampNeg) (((x1 >>> (x3.toInt64 &&& 63)).toInt32) &&& 255))).1 7 0 1)) okX7 (by decide) fl_X7_24 pz_7_0 (ff_7_1 _ _) dX7_append_38 ?_
  refine Ev.iconst (v := 1) dX7_append_41 (by decide) ?_
  refine Ev.iadd dX7_append_42 ?_
  refine Ev.put okX7 (by decide) fl_X7_24 pz_7_0 (by decide) rfl rfl rfl rfl dX7_append_43 ?_
  refine Ev.iinc (v := (x3 + (-8))) (ls' := [some (vR 7 0), some (vJ x1), none, some (vI (x3 + (-8)))]) dX7_append_46 rfl rfl (by decide) rfl ?_
  refine Ev.goto (tgt := 3) dX7_append_49 (by decide) ?_
  exact kn
theorem bkX7_append_52 {d : Nat} {S : hs_T} {Q : Option av_T → hs_T → Prop} {x3 : Int32} {x1 : Int64} (hq : Q none S) : Ev d mX7_append 52 [some (vR 7 0), some (vJ x1), none, some (vI x3)] [] S Q := by
  exact Ev.vret dX7_append_52 rfl hq
/-! EightWires$Tape.split()V -/
theorem bkX7_split_0 {d : Nat} {S : hs_T} {Q : Option av_T → hs_T → Prop} {P : Int32 → hs_T → Prop} {o1 o2 o3 o4 : Option av_T} (hC : Ci d mX7_behindAll [vR 7 0, vI 32, vI 32, vI 0] (sk_ S 7 0 (upd (S.1 7 0) 5 0)) P) (kk : ∀ v S', P v S' → Ev (d + 1) mX7_split 14 [some (vR 7 0), o1, o2, o3, o4] [vI v] S' Q) : Ev (d + 1) mX7_split 0 [some (vR 7 0), o1, o2, o3, o4] [] S Q := by
  refine Ev.aload_n dX7_split_0 rfl rfl ?_
  refine Ev.iconst (v := 0) dX7_split_1 (by decide) ?_
  refine Ev.put okX7 (by decide) fl_X7_28 pz_7_0 (by decide) rfl rfl rfl rfl dX7_split_2 ?_
  refine Ev.aload_n dX7_split_5 rfl rfl ?_
  refine Ev.bipush (v := 32) dX7_split_6 (by decide) ?_
  refine Ev.bipush (v := 32) dX7_split_8 (by decide) ?_
  refine Ev.iconst (v := 0) dX7_split_10 (by decide) ?_
  exact Ev.callV (as := [vI 32, vI 32, vI 0]) (rest := []) okX7_behindAll in_X7_behindAll ml_X7_31 rfl (Nat.le_of_ble_eq_true rfl) pz_7_0 (by decide) rfl rfl dX7_split_11 hC (fun r S' h => by obtain ⟨v, rfl, h⟩ := h; exact kk v S' h)
theorem bkX7_split_14 {d : Nat} {S : hs_T} {Q : Option av_T → hs_T → Prop} {y0 : Int32} {o1 o2 o3 o4 : Option av_T} (kn : Ev d mX7_split 17 [some (vR 7 0), some (vI y0), some (vI 0), o3, o4] [] S Q) : Ev d mX7_split 14 [some (vR 7 0), o1, o2, o3, o4] [vI y0] S Q := by
  refine Ev.istore_n (ls' := [some (vR 7 0), some (vI y0), o2, o3, o4]) dX7_split_14 rfl (by decide) rfl ?_
  refine Ev.iconst (v := 0) dX7_split_15 (by decide) ?_
  refine Ev.istore_n (ls' := [some (vR 7 0), some (vI y0), some (vI 0), o3, o4]) dX7_split_16 rfl (by decide) rfl ?_
  exact kn
theorem bkX7_split_17 {d : Nat} {S : hs_T} {Q : Option av_T → hs_T → Prop} {x1 x2 : Int32} {o3 o4 : Option av_T} (kt : 400 ≤ x2 → Ev d mX7_split 92 [some (vR 7 0), some (vI x1), some (vI x2), o3, o4] [] S Q) (kf : ¬ 400 ≤ x2 → Ev d mX7_split 24 [some (vR 7 0), some (vI x1), some (vI x2), o3, o4] [] S Q) : Ev d mX7_split 17 [some (vR 7 0), some (vI x1), some (vI x2), o3, o4] [] S Q := by
  refine Ev.iload_n dX7_split_17 rfl rfl ?_
  refine Ev.sipush (v := 400) dX7_split_18 (by decide) ?_
  exact Ev.icmp_ge (tgt := 92) dX7_split_21 (by decide) kt kf
theorem bkX7_split_24 {d : Nat} {S : hs_T} {Q : Option av_T → hs_T → Prop} {x1 x2 : Int32} {o3 o4 : Option av_T} (kt : (S.1 7 0 1) ≤ x1 → Ev d mX7_split 92 [some (vR 7 0), some (vI x1), some (vI x2), o3, o4] [] S Q) (kf : ¬ (S.1 7 0 1) ≤ x1 → Ev d mX7_split 32 [some (vR 7 0), some (vI x1), some (vI x2), o3, o4] [] S Q) : Ev d mX7_split 24 [some (vR 7 0), some (vI x1), some (vI x2), o3, o4] [] S Q := by
  refine Ev.iload_n dX7_split_24 rfl rfl ?_
  refine Ev.aload_n dX7_split_25 rfl rfl ?_
  refine Ev.get (v := vI (S.1 7 0 1)) okX7 (by decide) fl_X7_24 pz_7_0 (ff_7_1 _ _) dX7_split_26 ?_
  exact Ev.icmp_ge (tgt := 92) dX7_split_29 (by decide) kt kf
theorem bkX7_split_32 {d : Nat} {S : hs_T} {Q : Option av_T → hs_T → Prop} {P : Int32 → hs_T → Prop} {x1 x2 : Int32} {o3 o4 : Option av_T} (hC : Ci d mX7_behindToken [vR 7 0, vI x1] S P) (kk : ∀ v S', P v S' → Ev (d + 1) mX7_split 37 [some (vR 7 0), some (vI x1), some (vI x2), o3, o4] [vI v] S' Q) : Ev (d + 1) mX7_split 32 [some (vR 7 0), some (vI x1), some (vI x2), o3, o4] [] S Q := by
  refine Ev.aload_n dX7_split_32 rfl rfl ?_
  refine Ev.iload_n dX7_split_33 rfl rfl ?_
  exact Ev.callV (as := [vI x1]) (rest := []) okX7_behindToken in_X7_behindToken ml_X7_35 rfl (Nat.le_of_ble_eq_true rfl) pz_7_0 (by decide) rfl rfl dX7_split_34 hC (fun r S' h => by obtain ⟨v, rfl, h⟩ := h; exact kk v S' h)
theorem bkX7_split_37 {d : Nat} {S : hs_T} {Q : Option av_T → hs_T → Prop} {P : Int32 → hs_T → Prop} {x1 x2 y0 : Int32} {o3 o4 : Option av_T} (hC : Ci d mX7_tokenBetween [vR 7 0, vI x1, vI y0] S P) (kk : ∀ v S', P v S' → Ev (d + 1) mX7_split 44 [some (vR 7 0), some (vI x1), some (vI x2), some (vI y0), o4] [vI v] S' Q) : Ev (d + 1) mX7_split 37 [some (vR 7 0), some (vI x1), some (vI x2), o3, o4] [vI y0] S Q := by
  refine Ev.istore_n (ls' := [some (vR 7 0), some (vI x1), some (vI x2), some (vI y0), o4]) dX7_split_37 rfl (by decide) rfl ?_
  refine Ev.aload_n dX7_split_38 rfl rfl ?_
  refine Ev.iload_n dX7_split_39 rfl rfl ?_
  refine Ev.iload_n dX7_split_40 rfl rfl ?_
  exact Ev.callV (as := [vI x1, vI y0]) (rest := []) okX7_tokenBetween in_X7_tokenBetween ml_X7_39 rfl (Nat.le_of_ble_eq_true rfl) pz_7_0 (by decide) rfl rfl dX7_split_41 hC (fun r S' h => by obtain ⟨v, rfl, h⟩ := h; exact kk v S' h)
theorem bkX7_split_44 {d : Nat} {S : hs_T} {Q : Option av_T → hs_T → Prop} {x1 x2 x3 y0 : Int32} {o4 : Option av_T} (kt : ¬ y0 = 2 → Ev d mX7_split 65 [some (vR 7 0), some (vI x1), some (vI x2), some (vI x3), some (vI y0)] [vI x1, vI y0, vR 7 0] S Q) (kf : y0 = 2 → Ev d mX7_split 56 [some (vR 7 0), some (vI x1), some (vI x2), some (vI x3), some (vI y0)] [vI x1, vI y0, vR 7 0] S Q) : Ev d mX7_split 44 [some (vR 7 0), some (vI x1), some (vI x2), some (vI x3), o4] [vI y0] S Q := by
  refine Ev.istore (ls' := [some (vR 7 0), some (vI x1), some (vI x2), some (vI x3), some (vI y0)]) dX7_split_44 (by decide) rfl ?_
  refine Ev.aload_n dX7_split_46 rfl rfl ?_
  refine Ev.iload dX7_split_47 rfl ?_
  refine Ev.iload_n dX7_split_49 rfl rfl ?_
  refine Ev.iload dX7_split_50 rfl ?_
  refine Ev.iconst (v := 2) dX7_split_52 (by decide) ?_
  exact Ev.icmp_ne (tgt := 65) dX7_split_53 (by decide) kt kf
theorem bkX7_split_56 {d : Nat} {S : hs_T} {Q : Option av_T → hs_T → Prop} {P : Int32 → hs_T → Prop} {x1 x2 x3 x4 y0 y1 : Int32} (hC : Ci d mX7_valueBetween [vR 7 0, vI x1, vI x3] S P) (kk : ∀ v S', P v S' → Ev (d + 1) mX7_split 62 [some (vR 7 0), some (vI x1), some (vI x2), some (vI x3), some (vI x4)] [vI v, vI y0, vI y1, vR 7 0] S' Q) : Ev (d + 1) mX7_split 56 [some (vR 7 0), some (vI x1), some (vI x2), some (vI x3), some (vI x4)] [vI y0, vI y1, vR 7 0] S Q := by
  refine Ev.aload_n dX7_split_56 rfl rfl ?_
  refine Ev.iload_n dX7_split_57 rfl rfl ?_
  refine Ev.iload_n dX7_split_58 rfl rfl ?_
  exact Ev.callV (as := [vI x1, vI x3]) (rest := [vI y0, vI y1, vR 7 0]) okX7_valueBetween in_X7_valueBetween ml_X7_43 rfl (Nat.le_of_ble_eq_true rfl) pz_7_0 (by decide) rfl rfl dX7_split_59 hC (fun r S' h => by obtain ⟨v, rfl, h⟩ := h; exact kk v S' h)
theorem bkX7_split_62 {d : Nat} {S : hs_T} {Q : Option av_T → hs_T → Prop} {x1 x2 x3 x4 y0 y1 y2 : Int32} (kn : Ev d mX7_split 66 [some (vR 7 0), some (vI x1), some (vI x2), some (vI x3), some (vI x4)] [vI y0, vI y1, vI y2, vR 7 0] S Q) : Ev d mX7_split 62 [some (vR 7 0), some (vI x1), some (vI x2), some (vI x3), some (vI x4)] [vI y0, vI y1, vI y2, vR 7 0] S Q := by
  refine Ev.goto (tgt := 66) dX7_split_62 (by decide) ?_
  exact kn
theorem bkX7_split_65 {d : Nat} {S : hs_T} {Q : Option av_T → hs_T → Prop} {x1 x2 x3 x4 y0 y1 : Int32} (kn : Ev d mX7_split 66 [some (vR 7 0), some (vI x1), some (vI x2), some (vI x3), some (vI x4)] [vI 0, vI y0, vI y1, vR 7 0] S Q) : Ev d mX7_split 65 [some (vR 7 0), some (vI x1), some (vI x2), some (vI x3), some (vI x4)] [vI y0, vI y1, vR 7 0] S Q := by
  refine Ev.iconst (v := 0) dX7_split_65 (by decide) ?_
  exact kn
theorem bkX7_split_66 {d : Nat} {S : hs_T} {Q : Option av_T → hs_T → Prop} {P : hs_T → Prop} {x1 x2 x3 x4 y0 y1 y2 : Int32} (hC : Cv d mX7_addToken [vR 7 0, vI y2, vI y1, vI y0] S P) (kk : ∀ S', P S' → Ev (d + 1) mX7_split 69 [some (vR 7 0), some (vI x1), some (vI x2), some (vI x3), some (vI x4)] [] S' Q) : Ev (d + 1) mX7_split 66 [some (vR 7 0), some (vI x1), some (vI x2), some (vI x3), some (vI x4)] [vI y0, vI y1, vI y2, vR 7 0] S Q := by
  exact Ev.callV (as := [vI y2, vI y1, vI y0]) (rest := []) okX7_addToken in_X7_addToken ml_X7_46 rfl (Nat.le_of_ble_eq_true rfl) pz_7_0 (by decide) rfl rfl dX7_split_66 hC (fun r S' h => by obtain ⟨rfl, h⟩ := h; exact kk S' h)
theorem bkX7_split_69 {d : Nat} {S : hs_T} {Q : Option av_T → hs_T → Prop} {x1 x2 x3 x4 : Int32} (kt : ¬ x4 = 1 → Ev d mX7_split 76 [some (vR 7 0), some (vI x1), some (vI x2), some (vI x3), some (vI x4)] [] S Q) (kf : x4 = 1 → Ev d mX7_split 75 [some (vR 7 0), some (vI x1), some (vI x2), some (vI x3), some (vI x4)] [] S Q) : Ev d mX7_split 69 [some (vR 7 0), some (vI x1), some (vI x2), some (vI x3), some (vI x4)] [] S Q := by
  refine Ev.iload dX7_split_69 rfl ?_
  refine Ev.iconst (v := 1) dX7_split_71 (by decide) ?_
  exact Ev.icmp_ne (tgt := 76) dX7_split_72 (by decide) kt kf
theorem bkX7_split_75 {d : Nat} {S : hs_T} {Q : Option av_T → hs_T → Prop} {x1 x2 x3 x4 : Int32} (hq : Q none S) : Ev d mX7_split 75 [some (vR 7 0), some (vI x1), some (vI x2), some (vI x3), some (vI x4)] [] S Q := by
  exact Ev.vret dX7_split_75 rfl hq
theorem bkX7_split_76 {d : Nat} {S : hs_T} {Q : Option av_T → hs_T → Prop} {P : Int32 → hs_T → Prop} {x1 x2 x3 x4 : Int32} (hC : Ci d mX7_behindAll [vR 7 0, vI 32, vI 32, vI x3] S P) (kk : ∀ v S', P v S' → Ev (d + 1) mX7_split 85 [some (vR 7 0), some (vI x1), some (vI x2), some (vI x3), some (vI x4)] [vI v] S' Q) : Ev (d + 1) mX7_split 76 [some (vR 7 0), some (vI x1), some (vI x2), some (vI x3), some (vI x4)] [] S Q := by
  refine Ev.aload_n dX7_split_76 rfl rfl ?_
  refine Ev.bipush (v := 32) dX7_split_77 (by decide) ?_
  refine Ev.bipush (v := 32) dX7_split_79 (by decide) ?_
  refine Ev.iload_n dX7_split_81 rfl rfl ?_
  exact Ev.callV (as := [vI 32, vI 32, vI x3]) (rest := []) okX7_behindAll in_X7_behindAll ml_X7_31 rfl (Nat.le_of_ble_eq_true rfl) pz_7_0 (by decide) rfl rfl dX7_split_82 hC (fun r S' h => by obtain ⟨v, rfl, h⟩ := h; exact kk v S' h)
theorem bkX7_split_85 {d : Nat} {S : hs_T} {Q : Option av_T → hs_T → Prop} {x1 x2 x3 x4 y0 : Int32} (kn : Ev d mX7_split 17 [some (vR 7 0), some (vI y0), some (vI (x2 + 1)), some (vI x3), some (vI x4)] [] S Q) : Ev d mX7_split 85 [some (vR 7 0), some (vI x1), some (vI x2), some (vI x3), some (vI x4)] [vI y0] S Q := by
  refine Ev.istore_n (ls' := [some (vR 7 0), some (vI y0), some (vI x2), some (vI x3), some (vI x4)]) dX7_split_85 rfl (by decide) rfl ?_
  refine Ev.iinc (v := (x2 + 1)) (ls' := [some (vR 7 0), some (vI y0), some (vI (x2 + 1)), some (vI x3), some (vI x4)]) dX7_split_86 rfl rfl (by decide) rfl ?_
  refine Ev.goto (tgt := 17) dX7_split_89 (by decide) ?_
  exact kn
theorem bkX7_split_92 {d : Nat} {S : hs_T} {Q : Option av_T → hs_T → Prop} {P : hs_T → Prop} {x1 x2 : Int32} {o3 o4 : Option av_T} (hC : Cv d mX7_addToken [vR 7 0, vI 0, vI (S.1 7 0 1), vI 0] S P) (kk : ∀ S', P S' → Ev (d + 1) mX7_split 102 [some (vR 7 0), some (vI x1), some (vI x2), o3, o4] [] S' Q) : Ev (d + 1) mX7_split 92 [some (vR 7 0), some (vI x1), some (vI x2), o3, o4] [] S Q := by
  refine Ev.aload_n dX7_split_92 rfl rfl ?_
  refine Ev.iconst (v := 0) dX7_split_93 (by decide) ?_
  refine Ev.aload_n dX7_split_94 rfl rfl ?_
  refine Ev.get (v := vI (S.1 7 0 1)) okX7 (by decide) fl_X7_24 pz_7_0 (ff_7_1 _ _) dX7_split_95 ?_
  refine Ev.iconst (v := 0) dX7_split_98 (by decide) ?_
  exact Ev.callV (as := [vI 0, vI (S.1 7 0 1), vI 0]) (rest := []) okX7_addToken in_X7_addToken ml_X7_46 rfl (Nat.le_of_ble_eq_true rfl) pz_7_0 (by decide) rfl rfl dX7_split_99 hC (fun r S' h => by obtain ⟨rfl, h⟩ := h; exact kk S' h)
theorem bkX7_split_102 {d : Nat} {S : hs_T} {Q : Option av_T → hs_T → Prop} {x1 x2 : Int32} {o3 o4 : Option av_T} (hq : Q none S) : Ev d mX7_split 102 [some (vR 7 0), some (vI x1), some (vI x2), o3, o4] [] S Q := by
  exact Ev.vret dX7_split_102 rfl hq
/-! EightWires$Tape.addToken(III)V -/
theorem bkX7_addToken_0 {d : Nat} {S : hs_T} {Q : Option av_T → hs_T → Prop} {x1 x2 x3 : Int32} (kt : 401 ≤ (S.1 7 0 5) → Ev d mX7_addToken 52 [some (vR 7 0), some (vI x1), some (vI x2), some (vI x3)] [] S Q) (kf : ¬ 401 ≤ (S.1 7 0 5) → Ev d mX7_addToken 12 [some (vR 7 0), some (vI x1), some (vI x2), some (vI x3)] [] S Q) : Ev d mX7_addToken 0 [some (vR 7 0), some (vI x1), some (vI x2), some (vI x3)] [] S Q := by
  refine Ev.aload_n dX7_addToken_0 rfl rfl ?_
  refine Ev.get (v := vI (S.1 7 0 5)) okX7 (by decide) fl_X7_28 pz_7_0 (ff_7_5 _ _) dX7_addToken_1 ?_
  refine Ev.aload_n dX7_addToken_4 rfl rfl ?_
  refine Ev.get (v := vR 802 0) okX7 (by decide) fl_X7_15 pz_7_0 (ff_7_2 _ _) dX7_addToken_5 ?_
  refine Ev.alen (v := 401) pz_802_0 (by decide) rfl (by decide) rfl dX7_addToken_8 ?_
  exact Ev.icmp_ge (tgt := 52) dX7_addToken_9 (by decide) kt kf
theorem bkX7_addToken_12 {d : Nat} {S : hs_T} {Q : Option av_T → hs_T → Prop} {x1 x2 x3 : Int32} (hi21 : vp_in (S.1 7 0 5) 401) (hi31 : vp_in ((sk_ S 802 0 (upd (S.1 802 0) ((S.1 7 0 5).toNatClampNeg) x1)).1 7 0 5) 401) (hi41 : vp_in ((sk_ (sk_ S 802 0 (upd (S.1 802 0) ((S.1 7 0 5).toNatClampNeg) x1)) 803 0 (upd ((sk_ S 802 0 (upd (S.1 802 0) ((S.1 7 0 5).toNatClampNeg) x1)).1 803 0) (((sk_ S 802 0 (upd (S.1 802 0) ((S.1 7 0 5).toNatClampNeg) x1)).1 7 0 5).toNatClampNeg) x2)).1 7 0 5) 401) (kn : Ev d mX7_addToken 52 [some (vR 7 0), some (vI x1), some (vI x2), some (vI x3)] [] (sk_ (sk_ (sk_ (sk_ S 802 0 (upd (S.1 802 0) ((S.1 7 0 5).toNatClampNeg) x1)) 803 0 (upd ((sk_ S 802 0 (upd (S.1 802 0) ((S.1 7 0 5).toNatClampNeg) x1)).1 803 0) (((sk_ S 802 0 (upd (S.1 802 0) ((S.1 7 0 5).toNatClampNeg) x1)).1 7 0 5).toNatClampNeg) x2)) 804 0 (upd ((sk_ (sk_ S 802 0 (upd (S.1 802 0) ((S.1 7 0 5).toNatClampNeg) x1)) 803 0 (upd ((sk_ S 802 0 (upd (S.1 802 0) ((S.1 7 0 5).toNatClampNeg) x1)).1 803 0) (((sk_ S 802 0 (upd (S.1 802 0) ((S.1 7 0 5).toNatClampNeg) x1)).1 7 0 5).toNatClampNeg) x2)).1 804 0) (((sk_ (sk_ S 802 0 (upd (S.1 802 0) ((S.1 7 0 5).toNatClampNeg) x1)) 803 0 (upd ((sk_ S 802 0 (upd (S.1 802 0) ((S.1 7 0 5).toNatClampNeg) x1)).1 803 0) (((sk_ S 802 0 (upd (S.1 802 0) ((S.1 7 0 5).toNatClampNeg) x1)).1 7 0 5).toNatClampNeg) x2)).1 7 0 5).toNatClampNeg) x3)) 7 0 (upd ((sk_ (sk_ (sk_ S 802 0 (upd (S.1 802 0) ((S.1 7 0 5).toNatClampNeg) x1)) 803 0 (upd ((sk_ S 802 0 (upd (S.1 802 0) ((S.1 7 0 5).toNatClampNeg) x1)).1 803 0) (((sk_ S 802 0 (upd (S.1 802 0) ((S.1 7 0 5).toNatClampNeg) x1)).1 7 0 5).toNatClampNeg) x2)) 804 0 (upd ((sk_ (sk_ S 802 0 (upd (S.1 802 0) ((S.1 7 0 5).toNatClampNeg) x1)) 803 0 (upd ((sk_ S 802 0 (upd (S.1 802 0) ((S.1 7 0 5).toNatClampNeg) x1)).1 803 0) (((sk_ S 802 0 (upd (S.1 802 0) ((S.1 7 0 5).toNatClampNeg) x1)).1 7 0 5).toNatClampNeg) x2)).1 804 0) (((sk_ (sk_ S 802 0 (upd (S.1 802 0) ((S.1 7 0 5).toNatClampNeg) x1)) 803 0 (upd ((sk_ S 802 0 (upd (S.1 802 0) ((S.1 7 0 5).toNatClampNeg) x1)).1 803 0) (((sk_ S 802 0 (upd (S.1 802 0) ((S.1 7 0 5).toNatClampNeg) x1)).1 7 0 5).toNatClampNeg) x2)).1 7 0 5).toNatClampNeg) x3)).1 7 0) 5 (((sk_ (sk_ (sk_ S 802 0 (upd (S.1 802 0) ((S.1 7 0 5).toNatClampNeg) x1)) 803 0 (upd ((sk_ S 802 0 (upd (S.1 802 0) ((S.1 7 0 5).toNatClampNeg) x1)).1 803 0) (((sk_ S 802 0 (upd (S.1 802 0) ((S.1 7 0 5).toNatClampNeg) x1)).1 7 0 5).toNatClampNeg) x2)) 804 0 (upd ((sk_ (sk_ S 802 0 (upd (S.1 802 0) ((S.1 7 0 5).toNatClampNeg) x1)) 803 0 (upd ((sk_ S 802 0 (upd (S.1 802 0) ((S.1 7 0 5).toNatClampNeg) x1)).1 803 0) (((sk_ S 802 0 (upd (S.1 802 0) ((S.1 7 0 5).toNatClampNeg) x1)).1 7 0 5).toNatClampNeg) x2)).1 804 0) (((sk_ (sk_ S 802 0 (upd (S.1 802 0) ((S.1 7 0 5).toNatClampNeg) x1)) 803 0 (upd ((sk_ S 802 0 (upd (S.1 802 0) ((S.1 7 0 5).toNatClampNeg) x1)).1 803 0) (((sk_ S 802 0 (upd (S.1 802 0) ((S.1 7 0 5).toNatClampNeg) x1)).1 7 0 5).toNatClampNeg) x2)).1 7 0 5).toNatClampNeg) x3)).1 7 0 5) + 1))) Q) : Ev d mX7_addToken 12 [some (vR 7 0), some (vI x1), some (vI x2), some (vI x3)] [] S Q := by
  refine Ev.aload_n dX7_addToken_12 rfl rfl ?_
  refine Ev.get (v := vR 802 0) okX7 (by decide) fl_X7_15 pz_7_0 (ff_7_2 _ _) dX7_addToken_13 ?_
  refine Ev.aload_n dX7_addToken_16 rfl rfl ?_
  refine Ev.get (v := vI (S.1 7 0 5)) okX7 (by decide) fl_X7_28 pz_7_0 (ff_7_5 _ _) dX7_addToken_17 ?_
  refine Ev.iload_n dX7_addToken_20 rfl rfl ?_
  refine Ev.iastoreA (a := (S.1 7 0 5).toNatClampNeg) pz_802_0 (by decide) ak_802 hi21 rfl rfl dX7_addToken_21 ?_
  refine Ev.aload_n dX7_addToken_22 rfl rfl ?_
  refine Ev.get (v := vR 803 0) okX7 (by decide) fl_X7_18 pz_7_0 (ff_7_3 _ _) dX7_addToken_23 ?_
  refine Ev.aload_n dX7_addToken_26 rfl rfl ?_
  refine Ev.get (v := vI ((sk_ S 802 0 (upd (S.1 802 0) ((S.1 7 0 5).toNatClampNeg) x1)).1 7 0 5)) okX7 (by decide) fl_X7_28 pz_7_0 (ff_7_5 _ _) dX7_addToken_27 ?_
  refine Ev.iload_n dX7_addToken_30 rfl rfl ?_
  refine Ev.iastoreA (a := ((sk_ S 802 0 (upd (S.1 802 0) ((S.1 7 0 5).toNatClampNeg) x1)).1 7 0 5).toNatClampNeg) pz_803_0 (by decide) ak_803 hi31 rfl rfl dX7_addToken_31 ?_
  refine Ev.aload_n dX7_addToken_32 rfl rfl ?_
  refine Ev.get (v := vR 804 0) okX7 (by decide) fl_X7_21 pz_7_0 (ff_7_4 _ _) dX7_addToken_33 ?_
  refine Ev.aload_n dX7_addToken_36 rfl rfl ?_
  refine Ev.get (v := vI ((sk_ (sk_ S 802 0 (upd (S.1 802 0) ((S.1 7 0 5).toNatClampNeg) x1)) 803 0 (upd ((sk_ S 802 0 (upd (S.1 802 0) ((S.1 7 0 5).toNatClampNeg) x1)).1 803 0) (((sk_ S 802 0 (upd (S.1 802 0) ((S.1 7 0 5).toNatClampNeg) x1)).1 7 0 5).toNatClampNeg) x2)).1 7 0 5)) okX7 (by decide) fl_X7_28 pz_7_0 (ff_7_5 _ _) dX7_addToken_37 ?_
  refine Ev.iload_n dX7_addToken_40 rfl rfl ?_
  refine Ev.iastoreA (a := ((sk_ (sk_ S 802 0 (upd (S.1 802 0) ((S.1 7 0 5).toNatClampNeg) x1)) 803 0 (upd ((sk_ S 802 0 (upd (S.1 802 0) ((S.1 7 0 5).toNatClampNeg) x1)).1 803 0) (((sk_ S 802 0 (upd (S.1 802 0) ((S.1 7 0 5).toNatClampNeg) x1)).1 7 0 5).toNatClampNeg) x2)).1 7 0 5).toNatClampNeg) pz_804_0 (by decide) ak_804 hi41 rfl rfl dX7_addToken_41 ?_
  refine Ev.aload_n dX7_addToken_42 rfl rfl ?_
  refine Ev.dup dX7_addToken_43 rfl ?_
  refine Ev.get (v := vI ((sk_ (sk_ (sk_ S 802 0 (upd (S.1 802 0) ((S.1 7 0 5).toNatClampNeg) x1)) 803 0 (upd ((sk_ S 802 0 (upd (S.1 802 0) ((S.1 7 0 5).toNatClampNeg) x1)).1 803 0) (((sk_ S 802 0 (upd (S.1 802 0) ((S.1 7 0 5).toNatClampNeg) x1)).1 7 0 5).toNatClampNeg) x2)) 804 0 (upd ((sk_ (sk_ S 802 0 (upd (S.1 802 0) ((S.1 7 0 5).toNatClampNeg) x1)) 803 0 (upd ((sk_ S 802 0 (upd (S.1 802 0) ((S.1 7 0 5).toNatClampNeg) x1)).1 803 0) (((sk_ S 802 0 (upd (S.1 802 0) ((S.1 7 0 5).toNatClampNeg) x1)).1 7 0 5).toNatClampNeg) x2)).1 804 0) (((sk_ (sk_ S 802 0 (upd (S.1 802 0) ((S.1 7 0 5).toNatClampNeg) x1)) 803 0 (upd ((sk_ S 802 0 (upd (S.1 802 0) ((S.1 7 0 5).toNatClampNeg) x1)).1 803 0) (((sk_ S 802 0 (upd (S.1 802 0) ((S.1 7 0 5).toNatClampNeg) x1)).1 7 0 5).toNatClampNeg) x2)).1 7 0 5).toNatClampNeg) x3)).1 7 0 5)) okX7 (by decide) fl_X7_28 pz_7_0 (ff_7_5 _ _) dX7_addToken_44 ?_
  refine Ev.iconst (v := 1) dX7_addToken_47 (by decide) ?_
  refine Ev.iadd dX7_addToken_48 ?_
  refine Ev.put okX7 (by decide) fl_X7_28 pz_7_0 (by decide) rfl rfl rfl rfl dX7_addToken_49 ?_
  exact kn
theorem bkX7_addToken_52 {d : Nat} {S : hs_T} {Q : Option av_T → hs_T → Prop} {x1 x2 x3 : Int32} (hq : Q none S) : Ev d mX7_addToken 52 [some (vR 7 0), some (vI x1), some (vI x2), some (vI x3)] [] S Q := by
  exact Ev.vret dX7_addToken_52 rfl hq
/-! EightWires$Tape.byteAt(I)I -/
theorem bkX7_byteAt_0 {d : Nat} {S : hs_T} {Q : Option av_T → hs_T → Prop} {x1 : Int32} (kt : x1 < 0 → Ev d mX7_byteAt 21 [some (vR 7 0), some (vI x1)] [] S Q) (kf : ¬ x1 < 0 → Ev d mX7_byteAt 4 [some (vR 7 0), some (vI x1)] [] S Q) : Ev d mX7_byteAt 0 [some (vR 7 0), some (vI x1)] [] S Q := by
  refine Ev.iload_n dX7_byteAt_0 rfl rfl ?_
  exact Ev.if_lt (tgt := 21) dX7_byteAt_1 (by decide) kt kf
theorem bkX7_byteAt_4 {d : Nat} {S : hs_T} {Q : Option av_T → hs_T → Prop} {x1 : Int32} (kt : (S.1 7 0 1) ≤ x1 → Ev d mX7_byteAt 21 [some (vR 7 0), some (vI x1)] [] S Q) (kf : ¬ (S.1 7 0 1) ≤ x1 → Ev d mX7_byteAt 12 [some (vR 7 0), some (vI x1)] [] S Q) : Ev d mX7_byteAt 4 [some (vR 7 0), some (vI x1)] [] S Q := by
  refine Ev.iload_n dX7_byteAt_4 rfl rfl ?_
  refine Ev.aload_n dX7_byteAt_5 rfl rfl ?_
  refine Ev.get (v := vI (S.1 7 0 1)) okX7 (by decide) fl_X7_24 pz_7_0 (ff_7_1 _ _) dX7_byteAt_6 ?_
  exact Ev.icmp_ge (tgt := 21) dX7_byteAt_9 (by decide) kt kf
theorem bkX7_byteAt_12 {d : Nat} {S : hs_T} {Q : Option av_T → hs_T → Prop} {x1 : Int32} (hi17 : vp_in x1 400) (kn : Ev d mX7_byteAt 22 [some (vR 7 0), some (vI x1)] [vI (S.1 800 0 x1.toNatClampNeg)] S Q) : Ev d mX7_byteAt 12 [some (vR 7 0), some (vI x1)] [] S Q := by
  refine Ev.aload_n dX7_byteAt_12 rfl rfl ?_
  refine Ev.get (v := vR 800 0) okX7 (by decide) fl_X7_9 pz_7_0 (ff_7_0 _ _) dX7_byteAt_13 ?_
  refine Ev.iload_n dX7_byteAt_16 rfl rfl ?_
  refine Ev.ialoadA (a := x1.toNatClampNeg) pz_800_0 (by decide) ak_800 hi17 rfl dX7_byteAt_17 ?_
  refine Ev.goto (tgt := 22) dX7_byteAt_18 (by decide) ?_
  exact kn
theorem bkX7_byteAt_21 {d : Nat} {S : hs_T} {Q : Option av_T → hs_T → Prop} {x1 : Int32} (kn : Ev d mX7_byteAt 22 [some (vR 7 0), some (vI x1)] [vI 0] S Q) : Ev d mX7_byteAt 21 [some (vR 7 0), some (vI x1)] [] S Q := by
  refine Ev.iconst (v := 0) dX7_byteAt_21 (by decide) ?_
  exact kn
theorem bkX7_byteAt_22 {d : Nat} {S : hs_T} {Q : Option av_T → hs_T → Prop} {x1 y0 : Int32} (hq : Q (some (vI y0)) S) : Ev d mX7_byteAt 22 [some (vR 7 0), some (vI x1)] [vI y0] S Q := by
  exact Ev.iret dX7_byteAt_22 rfl rfl hq
/-! EightWires$Tape.behindAll(III)I -/
theorem bkX7_behindAll_0 {d : Nat} {S : hs_T} {Q : Option av_T → hs_T → Prop} {x1 x2 x3 : Int32} {o4 : Option av_T} (kn : Ev d mX7_behindAll 3 [some (vR 7 0), some (vI x1), some (vI x2), some (vI x3), some (vI x3)] [] S Q) : Ev d mX7_behindAll 0 [some (vR 7 0), some (vI x1), some (vI x2), some (vI x3), o4] [] S Q := by
  refine Ev.iload_n dX7_behindAll_0 rfl rfl ?_
  refine Ev.istore (ls' := [some (vR 7 0), some (vI x1), some (vI x2), some (vI x3), some (vI x3)]) dX7_behindAll_1 (by decide) rfl ?_
  exact kn
theorem bkX7_behindAll_3 {d : Nat} {S : hs_T} {Q : Option av_T → hs_T → Prop} {x1 x2 x3 x4 : Int32} (kt : (S.1 7 0 1) ≤ x4 → Ev d mX7_behindAll 41 [some (vR 7 0), some (vI x1), some (vI x2), some (vI x3), some (vI x4)] [] S Q) (kf : ¬ (S.1 7 0 1) ≤ x4 → Ev d mX7_behindAll 12 [some (vR 7 0), some (vI x1), some (vI x2), some (vI x3), some (vI x4)] [] S Q) : Ev d mX7_behindAll 3 [some (vR 7 0), some (vI x1), some (vI x2), some (vI x3), some (vI x4)] [] S Q := by
  refine Ev.iload dX7_behindAll_3 rfl ?_
  refine Ev.aload_n dX7_behindAll_5 rfl rfl ?_
  refine Ev.get (v := vI (S.1 7 0 1)) okX7 (by decide) fl_X7_24 pz_7_0 (ff_7_1 _ _) dX7_behindAll_6 ?_
  exact Ev.icmp_ge (tgt := 41) dX7_behindAll_9 (by decide) kt kf
theorem bkX7_behindAll_12 {d : Nat} {S : hs_T} {Q : Option av_T → hs_T → Prop} {P : Int32 → hs_T → Prop} {x1 x2 x3 x4 : Int32} (hC : Ci d mX7_byteAt [vR 7 0, vI x4] S P) (kk : ∀ v S', P v S' → Ev (d + 1) mX7_behindAll 18 [some (vR 7 0), some (vI x1), some (vI x2), some (vI x3), some (vI x4)] [vI v] S' Q) : Ev (d + 1) mX7_behindAll 12 [some (vR 7 0), some (vI x1), some (vI x2), some (vI x3), some (vI x4)] [] S Q := by
  refine Ev.aload_n dX7_behindAll_12 rfl rfl ?_
  refine Ev.iload dX7_behindAll_13 rfl ?_
  exact Ev.callV (as := [vI x4]) (rest := []) okX7_byteAt in_X7_byteAt ml_X7_50 rfl (Nat.le_of_ble_eq_true rfl) pz_7_0 (by decide) rfl rfl dX7_behindAll_15 hC (fun r S' h => by obtain ⟨v, rfl, h⟩ := h; exact kk v S' h)
theorem bkX7_behindAll_18 {d : Nat} {S : hs_T} {Q : Option av_T → hs_T → Prop} {x1 x2 x3 x4 y0 : Int32} (kt : y0 < x1 → Ev d mX7_behindAll 32 [some (vR 7 0), some (vI x1), some (vI x2), some (vI x3), some (vI x4)] [] S Q) (kf : ¬ y0 < x1 → Ev d mX7_behindAll 22 [some (vR 7 0), some (vI x1), some (vI x2), some (vI x3), some (vI x4)] [] S Q) : Ev d mX7_behindAll 18 [some (vR 7 0), some (vI x1), some (vI x2), some (vI x3), some (vI x4)] [vI y0] S Q := by
  refine Ev.iload_n dX7_behindAll_18 rfl rfl ?_
  exact Ev.icmp_lt (tgt := 32) dX7_behindAll_19 (by decide) kt kf
theorem bkX7_behindAll_22 {d : Nat} {S : hs_T} {Q : Option av_T → hs_T → Prop} {P : Int32 → hs_T → Prop} {x1 x2 x3 x4 : Int32} (hC : Ci d mX7_byteAt [vR 7 0, vI x4] S P) (kk : ∀ v S', P v S' → Ev (d + 1) mX7_behindAll 28 [some (vR 7 0), some (vI x1), some (vI x2), some (vI x3), some (vI x4)] [vI v] S' Q) : Ev (d + 1) mX7_behindAll 22 [some (vR 7 0), some (vI x1), some (vI x2), some (vI x3), some (vI x4)] [] S Q := by
  refine Ev.aload_n dX7_behindAll_22 rfl rfl ?_
  refine Ev.iload dX7_behindAll_23 rfl ?_
  exact Ev.callV (as := [vI x4]) (rest := []) okX7_byteAt in_X7_byteAt ml_X7_50 rfl (Nat.le_of_ble_eq_true rfl) pz_7_0 (by decide) rfl rfl dX7_behindAll_25 hC (fun r S' h => by obtain ⟨v, rfl, h⟩ := h; exact kk v S' h)
theorem bkX7_behindAll_28 {d : Nat} {S : hs_T} {Q : Option av_T → hs_T → Prop} {x1 x2 x3 x4 y0 : Int32} (kt : y0 ≤ x2 → Ev d mX7_behindAll 35 [some (vR 7 0), some (vI x1), some (vI x2), some (vI x3), some (vI x4)] [] S Q) (kf : ¬ y0 ≤ x2 → Ev d mX7_behindAll 32 [some (vR 7 0), some (vI x1), some (vI x2), some (vI x3), some (vI x4)] [] S Q) : Ev d mX7_behindAll 28 [some (vR 7 0), some (vI x1), some (vI x2), some (vI x3), some (vI x4)] [vI y0] S Q := by
  refine Ev.iload_n dX7_behindAll_28 rfl rfl ?_
  exact Ev.icmp_le (tgt := 35) dX7_behindAll_29 (by decide) kt kf
theorem bkX7_behindAll_32 {d : Nat} {S : hs_T} {Q : Option av_T → hs_T → Prop} {x1 x2 x3 x4 : Int32} (hq : Q (some (vI x4)) S) : Ev d mX7_behindAll 32 [some (vR 7 0), some (vI x1), some (vI x2), some (vI x3), some (vI x4)] [] S Q := by
  refine Ev.iload dX7_behindAll_32 rfl ?_
  exact Ev.iret dX7_behindAll_34 rfl rfl hq
theorem bkX7_behindAll_35 {d : Nat} {S : hs_T} {Q : Option av_T → hs_T → Prop} {x1 x2 x3 x4 : Int32} (kn : Ev d mX7_behindAll 3 [some (vR 7 0), some (vI x1), some (vI x2), some (vI x3), some (vI (x4 + 1))] [] S Q) : Ev d mX7_behindAll 35 [some (vR 7 0), some (vI x1), some (vI x2), some (vI x3), some (vI x4)] [] S Q := by
  refine Ev.iinc (v := (x4 + 1)) (ls' := [some (vR 7 0), some (vI x1), some (vI x2), some (vI x3), some (vI (x4 + 1))]) dX7_behindAll_35 rfl rfl (by decide) rfl ?_
  refine Ev.goto (tgt := 3) dX7_behindAll_38 (by decide) ?_
  exact kn
theorem bkX7_behindAll_41 {d : Nat} {S : hs_T} {Q : Option av_T → hs_T → Prop} {x1 x2 x3 x4 : Int32} (hq : Q (some (vI (S.1 7 0 1))) S) : Ev d mX7_behindAll 41 [some (vR 7 0), some (vI x1), some (vI x2), some (vI x3), some (vI x4)] [] S Q := by
  refine Ev.aload_n dX7_behindAll_41 rfl rfl ?_
  refine Ev.get (v := vI (S.1 7 0 1)) okX7 (by decide) fl_X7_24 pz_7_0 (ff_7_1 _ _) dX7_behindAll_42 ?_
  exact Ev.iret dX7_behindAll_45 rfl rfl hq
/-! EightWires$Tape.behindToken(I)I -/
theorem bkX7_behindToken_0 {d : Nat} {S : hs_T} {Q : Option av_T → hs_T → Prop} {P : Int32 → hs_T → Prop} {x1 : Int32} (hC : Ci d mX7_behindAll [vR 7 0, vI 97, vI 122, vI x1] S P) (kk : ∀ v S', P v S' → Ev (d + 1) mX7_behindToken 12 [some (vR 7 0), some (vI x1)] [vI v, vI (x1 + 1)] S' Q) : Ev (d + 1) mX7_behindToken 0 [some (vR 7 0), some (vI x1)] [] S Q := by
  refine Ev.iload_n dX7_behindToken_0 rfl rfl ?_
  refine Ev.iconst (v := 1) dX7_behindToken_1 (by decide) ?_
  refine Ev.iadd dX7_behindToken_2 ?_
  refine Ev.aload_n dX7_behindToken_3 rfl rfl ?_
  refine Ev.bipush (v := 97) dX7_behindToken_4 (by decide) ?_
  refine Ev.bipush (v := 122) dX7_behindToken_6 (by decide) ?_
  refine Ev.iload_n dX7_behindToken_8 rfl rfl ?_
  exact Ev.callV (as := [vI 97, vI 122, vI x1]) (rest := [vI (x1 + 1)]) okX7_behindAll in_X7_behindAll ml_X7_31 rfl (Nat.le_of_ble_eq_true rfl) pz_7_0 (by decide) rfl rfl dX7_behindToken_9 hC (fun r S' h => by obtain ⟨v, rfl, h⟩ := h; exact kk v S' h)
theorem bkX7_behindToken_12 {d : Nat} {S : hs_T} {Q : Option av_T → hs_T → Prop} {P : Int32 → hs_T → Prop} {x1 y0 y1 : Int32} (hC : Ci d mX7_behindAll [vR 7 0, vI 48, vI 57, vI x1] S P) (kk : ∀ v S', P v S' → Ev (d + 1) mX7_behindToken 21 [some (vR 7 0), some (vI x1)] [vI v, vI y0, vI y1] S' Q) : Ev (d + 1) mX7_behindToken 12 [some (vR 7 0), some (vI x1)] [vI y0, vI y1] S Q := by
  refine Ev.aload_n dX7_behindToken_12 rfl rfl ?_
  refine Ev.bipush (v := 48) dX7_behindToken_13 (by decide) ?_
  refine Ev.bipush (v := 57) dX7_behindToken_15 (by decide) ?_
  refine Ev.iload_n dX7_behindToken_17 rfl rfl ?_
  exact Ev.callV (as := [vI 48, vI 57, vI x1]) (rest := [vI y0, vI y1]) okX7_behindAll in_X7_behindAll ml_X7_31 rfl (Nat.le_of_ble_eq_true rfl) pz_7_0 (by decide) rfl rfl dX7_behindToken_18 hC (fun r S' h => by obtain ⟨v, rfl, h⟩ := h; exact kk v S' h)
theorem bkX7_behindToken_21 {d : Nat} {S : hs_T} {Q : Option av_T → hs_T → Prop} {x1 y0 y1 y2 : Int32} (hq : Q (some (vI (if y2 < (if y1 < y0 then y0 else y1) then (if y1 < y0 then y0 else y1) else y2))) S) : Ev (d + 1) mX7_behindToken 21 [some (vR 7 0), some (vI x1)] [vI y0, vI y1, vI y2] S Q := by
  refine Ev.mmax ml_X7_53 (Nat.le_of_ble_eq_true rfl) dX7_behindToken_21 ?_
  refine Ev.mmax ml_X7_53 (Nat.le_of_ble_eq_true rfl) dX7_behindToken_24 ?_
  exact Ev.iret dX7_behindToken_27 rfl rfl hq
/-! EightWires$Tape.tokenBetween(II)I -/
theorem bkX7_tokenBetween_0 {d : Nat} {S : hs_T} {Q : Option av_T → hs_T → Prop} {P : Int32 → hs_T → Prop} {x1 x2 : Int32} {o3 : Option av_T} (hC : Ci d mX7_byteAt [vR 7 0, vI x1] S P) (kk : ∀ v S', P v S' → Ev (d + 1) mX7_tokenBetween 5 [some (vR 7 0), some (vI x1), some (vI x2), o3] [vI v] S' Q) : Ev (d + 1) mX7_tokenBetween 0 [some (vR 7 0), some (vI x1), some (vI x2), o3] [] S Q := by
  refine Ev.aload_n dX7_tokenBetween_0 rfl rfl ?_
  refine Ev.iload_n dX7_tokenBetween_1 rfl rfl ?_
  exact Ev.callV (as := [vI x1]) (rest := []) okX7_byteAt in_X7_byteAt ml_X7_50 rfl (Nat.le_of_ble_eq_true rfl) pz_7_0 (by decide) rfl rfl dX7_tokenBetween_2 hC (fun r S' h => by obtain ⟨v, rfl, h⟩ := h; exact kk v S' h)
theorem bkX7_tokenBetween_5 {d : Nat} {S : hs_T} {Q : Option av_T → hs_T → Prop} {x1 x2 y0 : Int32} {o3 : Option av_T} (kt : y0 < 97 → Ev d mX7_tokenBetween 25 [some (vR 7 0), some (vI x1), some (vI x2), some (vI y0)] [] S Q) (kf : ¬ y0 < 97 → Ev d mX7_tokenBetween 12 [some (vR 7 0), some (vI x1), some (vI x2), some (vI y0)] [] S Q) : Ev d mX7_tokenBetween 5 [some (vR 7 0), some (vI x1), some (vI x2), o3] [vI y0] S Q := by
  refine Ev.istore_n (ls' := [some (vR 7 0), some (vI x1), some (vI x2), some (vI y0)]) dX7_tokenBetween_5 rfl (by decide) rfl ?_
  refine Ev.iload_n dX7_tokenBetween_6 rfl rfl ?_
  refine Ev.bipush (v := 97) dX7_tokenBetween_7 (by decide) ?_
  exact Ev.icmp_lt (tgt := 25) dX7_tokenBetween_9 (by decide) kt kf
theorem bkX7_tokenBetween_12 {d : Nat} {S : hs_T} {Q : Option av_T → hs_T → Prop} {x1 x2 x3 : Int32} (kt : 122 < x3 → Ev d mX7_tokenBetween 25 [some (vR 7 0), some (vI x1), some (vI x2), some (vI x3)] [] S Q) (kf : ¬ 122 < x3 → Ev d mX7_tokenBetween 18 [some (vR 7 0), some (vI x1), some (vI x2), some (vI x3)] [] S Q) : Ev d mX7_tokenBetween 12 [some (vR 7 0), some (vI x1), some (vI x2), some (vI x3)] [] S Q := by
  refine Ev.iload_n dX7_tokenBetween_12 rfl rfl ?_
  refine Ev.bipush (v := 122) dX7_tokenBetween_13 (by decide) ?_
  exact Ev.icmp_gt (tgt := 25) dX7_tokenBetween_15 (by decide) kt kf
theorem bkX7_tokenBetween_18 {d : Nat} {S : hs_T} {Q : Option av_T → hs_T → Prop} {P : Int32 → hs_T → Prop} {x1 x2 x3 : Int32} (hC : Ci d mX7_nameBetween [vR 7 0, vI x1, vI x2] S P) (kk : ∀ v S', P v S' → Ev (d + 1) mX7_tokenBetween 24 [some (vR 7 0), some (vI x1), some (vI x2), some (vI x3)] [vI v] S' Q) : Ev (d + 1) mX7_tokenBetween 18 [some (vR 7 0), some (vI x1), some (vI x2), some (vI x3)] [] S Q := by
  refine Ev.aload_n dX7_tokenBetween_18 rfl rfl ?_
  refine Ev.iload_n dX7_tokenBetween_19 rfl rfl ?_
  refine Ev.iload_n dX7_tokenBetween_20 rfl rfl ?_
  exact Ev.callV (as := [vI x1, vI x2]) (rest := []) okX7_nameBetween in_X7_nameBetween ml_X7_58 rfl (Nat.le_of_ble_eq_true rfl) pz_7_0 (by decide) rfl rfl dX7_tokenBetween_21 hC (fun r S' h => by obtain ⟨v, rfl, h⟩ := h; exact kk v S' h)
theorem bkX7_tokenBetween_24 {d : Nat} {S : hs_T} {Q : Option av_T → hs_T → Prop} {x1 x2 x3 y0 : Int32} (hq : Q (some (vI y0)) S) : Ev d mX7_tokenBetween 24 [some (vR 7 0), some (vI x1), some (vI x2), some (vI x3)] [vI y0] S Q := by
  exact Ev.iret dX7_tokenBetween_24 rfl rfl hq
theorem bkX7_tokenBetween_25 {d : Nat} {S : hs_T} {Q : Option av_T → hs_T → Prop} {x1 x2 x3 : Int32} (kt : x3 < 48 → Ev d mX7_tokenBetween 50 [some (vR 7 0), some (vI x1), some (vI x2), some (vI x3)] [] S Q) (kf : ¬ x3 < 48 → Ev d mX7_tokenBetween 31 [some (vR 7 0), some (vI x1), some (vI x2), some (vI x3)] [] S Q) : Ev d mX7_tokenBetween 25 [some (vR 7 0), some (vI x1), some (vI x2), some (vI x3)] [] S Q := by
  refine Ev.iload_n dX7_tokenBetween_25 rfl rfl ?_
  refine Ev.bipush (v := 48) dX7_tokenBetween_26 (by decide) ?_
  exact Ev.icmp_lt (tgt := 50) dX7_tokenBetween_28 (by decide) kt kf
theorem bkX7_tokenBetween_31 {d : Nat} {S : hs_T} {Q : Option av_T → hs_T → Prop} {x1 x2 x3 : Int32} (kt : 57 < x3 → Ev d mX7_tokenBetween 50 [some (vR 7 0), some (vI x1), some (vI x2), some (vI x3)] [] S Q) (kf : ¬ 57 < x3 → Ev d mX7_tokenBetween 37 [some (vR 7 0), some (vI x1), some (vI x2), some (vI x3)] [] S Q) : Ev d mX7_tokenBetween 31 [some (vR 7 0), some (vI x1), some (vI x2), some (vI x3)] [] S Q := by
  refine Ev.iload_n dX7_tokenBetween_31 rfl rfl ?_
  refine Ev.bipush (v := 57) dX7_tokenBetween_32 (by decide) ?_
  exact Ev.icmp_gt (tgt := 50) dX7_tokenBetween_34 (by decide) kt kf
theorem bkX7_tokenBetween_37 {d : Nat} {S : hs_T} {Q : Option av_T → hs_T → Prop} {x1 x2 x3 : Int32} (kt : (x2 - x1) ≤ 3 → Ev d mX7_tokenBetween 48 [some (vR 7 0), some (vI x1), some (vI x2), some (vI x3)] [] S Q) (kf : ¬ (x2 - x1) ≤ 3 → Ev d mX7_tokenBetween 44 [some (vR 7 0), some (vI x1), some (vI x2), some (vI x3)] [] S Q) : Ev d mX7_tokenBetween 37 [some (vR 7 0), some (vI x1), some (vI x2), some (vI x3)] [] S Q := by
  refine Ev.iload_n dX7_tokenBetween_37 rfl rfl ?_
  refine Ev.iload_n dX7_tokenBetween_38 rfl rfl ?_
  refine Ev.isub dX7_tokenBetween_39 ?_
  refine Ev.iconst (v := 3) dX7_tokenBetween_40 (by decide) ?_
  exact Ev.icmp_le (tgt := 48) dX7_tokenBetween_41 (by decide) kt kf
theorem bkX7_tokenBetween_44 {d : Nat} {S : hs_T} {Q : Option av_T → hs_T → Prop} {x1 x2 x3 : Int32} (kn : Ev d mX7_tokenBetween 49 [some (vR 7 0), some (vI x1), some (vI x2), some (vI x3)] [vI 1] S Q) : Ev d mX7_tokenBetween 44 [some (vR 7 0), some (vI x1), some (vI x2), some (vI x3)] [] S Q := by
  refine Ev.iconst (v := 1) dX7_tokenBetween_44 (by decide) ?_
  refine Ev.goto (tgt := 49) dX7_tokenBetween_45 (by decide) ?_
  exact kn
theorem bkX7_tokenBetween_48 {d : Nat} {S : hs_T} {Q : Option av_T → hs_T → Prop} {x1 x2 x3 : Int32} (kn : Ev d mX7_tokenBetween 49 [some (vR 7 0), some (vI x1), some (vI x2), some (vI x3)] [vI 2] S Q) : Ev d mX7_tokenBetween 48 [some (vR 7 0), some (vI x1), some (vI x2), some (vI x3)] [] S Q := by
  refine Ev.iconst (v := 2) dX7_tokenBetween_48 (by decide) ?_
  exact kn
theorem bkX7_tokenBetween_49 {d : Nat} {S : hs_T} {Q : Option av_T → hs_T → Prop} {x1 x2 x3 y0 : Int32} (hq : Q (some (vI y0)) S) : Ev d mX7_tokenBetween 49 [some (vR 7 0), some (vI x1), some (vI x2), some (vI x3)] [vI y0] S Q := by
  exact Ev.iret dX7_tokenBetween_49 rfl rfl hq
theorem bkX7_tokenBetween_50 {d : Nat} {S : hs_T} {Q : Option av_T → hs_T → Prop} {x1 x2 x3 : Int32} (kt : x3 = 59 → Ev d mX7_tokenBetween 68 [some (vR 7 0), some (vI x1), some (vI x2), some (vI x3)] [] S Q) (kf : ¬ x3 = 59 → Ev d mX7_tokenBetween 56 [some (vR 7 0), some (vI x1), some (vI x2), some (vI x3)] [] S Q) : Ev d mX7_tokenBetween 50 [some (vR 7 0), some (vI x1), some (vI x2), some (vI x3)] [] S Q := by
  refine Ev.iload_n dX7_tokenBetween_50 rfl rfl ?_
  refine Ev.bipush (v := 59) dX7_tokenBetween_51 (by decide) ?_
  exact Ev.icmp_eq (tgt := 68) dX7_tokenBetween_53 (by decide) kt kf
theorem bkX7_tokenBetween_56 {d : Nat} {S : hs_T} {Q : Option av_T → hs_T → Prop} {x1 x2 x3 : Int32} (kt : x3 = 124 → Ev d mX7_tokenBetween 68 [some (vR 7 0), some (vI x1), some (vI x2), some (vI x3)] [] S Q) (kf : ¬ x3 = 124 → Ev d mX7_tokenBetween 62 [some (vR 7 0), some (vI x1), some (vI x2), some (vI x3)] [] S Q) : Ev d mX7_tokenBetween 56 [some (vR 7 0), some (vI x1), some (vI x2), some (vI x3)] [] S Q := by
  refine Ev.iload_n dX7_tokenBetween_56 rfl rfl ?_
  refine Ev.bipush (v := 124) dX7_tokenBetween_57 (by decide) ?_
  exact Ev.icmp_eq (tgt := 68) dX7_tokenBetween_59 (by decide) kt kf
theorem bkX7_tokenBetween_62 {d : Nat} {S : hs_T} {Q : Option av_T → hs_T → Prop} {x1 x2 x3 : Int32} (kt : ¬ x3 = 38 → Ev d mX7_tokenBetween 72 [some (vR 7 0), some (vI x1), some (vI x2), some (vI x3)] [] S Q) (kf : x3 = 38 → Ev d mX7_tokenBetween 68 [some (vR 7 0), some (vI x1), some (vI x2), some (vI x3)] [] S Q) : Ev d mX7_tokenBetween 62 [some (vR 7 0), some (vI x1), some (vI x2), some (vI x3)] [] S Q := by
  refine Ev.iload_n dX7_tokenBetween_62 rfl rfl ?_
  refine Ev.bipush (v := 38) dX7_tokenBetween_63 (by decide) ?_
  exact Ev.icmp_ne (tgt := 72) dX7_tokenBetween_65 (by decide) kt kf
theorem bkX7_tokenBetween_68 {d : Nat} {S : hs_T} {Q : Option av_T → hs_T → Prop} {x1 x2 x3 : Int32} (kn : Ev d mX7_tokenBetween 73 [some (vR 7 0), some (vI x1), some (vI x2), some (vI x3)] [vI x3] S Q) : Ev d mX7_tokenBetween 68 [some (vR 7 0), some (vI x1), some (vI x2), some (vI x3)] [] S Q := by
  refine Ev.iload_n dX7_tokenBetween_68 rfl rfl ?_
  refine Ev.goto (tgt := 73) dX7_tokenBetween_69 (by decide) ?_
  exact kn
theorem bkX7_tokenBetween_72 {d : Nat} {S : hs_T} {Q : Option av_T → hs_T → Prop} {x1 x2 x3 : Int32} (kn : Ev d mX7_tokenBetween 73 [some (vR 7 0), some (vI x1), some (vI x2), some (vI x3)] [vI 1] S Q) : Ev d mX7_tokenBetween 72 [some (vR 7 0), some (vI x1), some (vI x2), some (vI x3)] [] S Q := by
  refine Ev.iconst (v := 1) dX7_tokenBetween_72 (by decide) ?_
  exact kn
theorem bkX7_tokenBetween_73 {d : Nat} {S : hs_T} {Q : Option av_T → hs_T → Prop} {x1 x2 x3 y0 : Int32} (hq : Q (some (vI y0)) S) : Ev d mX7_tokenBetween 73 [some (vR 7 0), some (vI x1), some (vI x2), some (vI x3)] [vI y0] S Q := by
  exact Ev.iret dX7_tokenBetween_73 rfl rfl hq
/-! EightWires$Tape.nameBetween(II)I -/
theorem bkX7_nameBetween_0 {d : Nat} {S : hs_T} {Q : Option av_T → hs_T → Prop} {P : Int32 → hs_T → Prop} {x1 x2 : Int32} {o3 : Option av_T} (hC : Ci d mX7_spells [vR 7 0, vR 50 0, vI x1, vI x2] S P) (kk : ∀ v S', P v S' → Ev (d + 1) mX7_nameBetween 8 [some (vR 7 0), some (vI x1), some (vI x2), o3] [vI v] S' Q) : Ev (d + 1) mX7_nameBetween 0 [some (vR 7 0), some (vI x1), some (vI x2), o3] [] S Q := by
  refine Ev.aload_n dX7_nameBetween_0 rfl rfl ?_
  refine Ev.ldcS (n := 0) rfl rfl dX7_nameBetween_1 ?_
  refine Ev.iload_n dX7_nameBetween_3 rfl rfl ?_
  refine Ev.iload_n dX7_nameBetween_4 rfl rfl ?_
  exact Ev.callV (as := [vR 50 0, vI x1, vI x2]) (rest := []) okX7_spells in_X7_spells ml_X7_63 rfl (Nat.le_of_ble_eq_true rfl) pz_7_0 (by decide) rfl rfl dX7_nameBetween_5 hC (fun r S' h => by obtain ⟨v, rfl, h⟩ := h; exact kk v S' h)
theorem bkX7_nameBetween_8 {d : Nat} {S : hs_T} {Q : Option av_T → hs_T → Prop} {x1 x2 y0 : Int32} {o3 : Option av_T} (kt : y0 = 0 → Ev d mX7_nameBetween 13 [some (vR 7 0), some (vI x1), some (vI x2), o3] [] S Q) (kf : ¬ y0 = 0 → Ev d mX7_nameBetween 11 [some (vR 7 0), some (vI x1), some (vI x2), o3] [] S Q) : Ev d mX7_nameBetween 8 [some (vR 7 0), some (vI x1), some (vI x2), o3] [vI y0] S Q := by
  exact Ev.if_eq (tgt := 13) dX7_nameBetween_8 (by decide) kt kf
theorem bkX7_nameBetween_11 {d : Nat} {S : hs_T} {Q : Option av_T → hs_T → Prop} {x1 x2 : Int32} {o3 : Option av_T} (hq : Q (some (vI 4)) S) : Ev d mX7_nameBetween 11 [some (vR 7 0), some (vI x1), some (vI x2), o3] [] S Q := by
  refine Ev.iconst (v := 4) dX7_nameBetween_11 (by decide) ?_
  exact Ev.iret dX7_nameBetween_12 rfl rfl hq
theorem bkX7_nameBetween_13 {d : Nat} {S : hs_T} {Q : Option av_T → hs_T → Prop} {P : Int32 → hs_T → Prop} {x1 x2 : Int32} {o3 : Option av_T} (hC : Ci d mX7_spells [vR 7 0, vR 50 1, vI x1, vI x2] S P) (kk : ∀ v S', P v S' → Ev (d + 1) mX7_nameBetween 21 [some (vR 7 0), some (vI x1), some (vI x2), o3] [vI v] S' Q) : Ev (d + 1) mX7_nameBetween 13 [some (vR 7 0), some (vI x1), some (vI x2), o3] [] S Q := by
  refine Ev.aload_n dX7_nameBetween_13 rfl rfl ?_
  refine Ev.ldcS (n := 1) rfl rfl dX7_nameBetween_14 ?_
  refine Ev.iload_n dX7_nameBetween_16 rfl rfl ?_
  refine Ev.iload_n dX7_nameBetween_17 rfl rfl ?_
  exact Ev.callV (as := [vR 50 1, vI x1, vI x2]) (rest := []) okX7_spells in_X7_spells ml_X7_63 rfl (Nat.le_of_ble_eq_true rfl) pz_7_0 (by decide) rfl rfl dX7_nameBetween_18 hC (fun r S' h => by obtain ⟨v, rfl, h⟩ := h; exact kk v S' h)
theorem bkX7_nameBetween_21 {d : Nat} {S : hs_T} {Q : Option av_T → hs_T → Prop} {x1 x2 y0 : Int32} {o3 : Option av_T} (kt : y0 = 0 → Ev d mX7_nameBetween 26 [some (vR 7 0), some (vI x1), some (vI x2), o3] [] S Q) (kf : ¬ y0 = 0 → Ev d mX7_nameBetween 24 [some (vR 7 0), some (vI x1), some (vI x2), o3] [] S Q) : Ev d mX7_nameBetween 21 [some (vR 7 0), some (vI x1), some (vI x2), o3] [vI y0] S Q := by
  exact Ev.if_eq (tgt := 26) dX7_nameBetween_21 (by decide) kt kf
theorem bkX7_nameBetween_24 {d : Nat} {S : hs_T} {Q : Option av_T → hs_T → Prop} {x1 x2 : Int32} {o3 : Option av_T} (hq : Q (some (vI 5)) S) : Ev d mX7_nameBetween 24 [some (vR 7 0), some (vI x1), some (vI x2), o3] [] S Q := by
  refine Ev.iconst (v := 5) dX7_nameBetween_24 (by decide) ?_
  exact Ev.iret dX7_nameBetween_25 rfl rfl hq
theorem bkX7_nameBetween_26 {d : Nat} {S : hs_T} {Q : Option av_T → hs_T → Prop} {P : Int32 → hs_T → Prop} {x1 x2 : Int32} {o3 : Option av_T} (hC : Ci d mX7_spells [vR 7 0, vR 50 2, vI x1, vI x2] S P) (kk : ∀ v S', P v S' → Ev (d + 1) mX7_nameBetween 34 [some (vR 7 0), some (vI x1), some (vI x2), o3] [vI v] S' Q) : Ev (d + 1) mX7_nameBetween 26 [some (vR 7 0), some (vI x1), some (vI x2), o3] [] S Q := by
  refine Ev.aload_n dX7_nameBetween_26 rfl rfl ?_
  refine Ev.ldcS (n := 2) rfl rfl dX7_nameBetween_27 ?_
  refine Ev.iload_n dX7_nameBetween_29 rfl rfl ?_
  refine Ev.iload_n dX7_nameBetween_30 rfl rfl ?_
  exact Ev.callV (as := [vR 50 2, vI x1, vI x2]) (rest := []) okX7_spells in_X7_spells ml_X7_63 rfl (Nat.le_of_ble_eq_true rfl) pz_7_0 (by decide) rfl rfl dX7_nameBetween_31 hC (fun r S' h => by obtain ⟨v, rfl, h⟩ := h; exact kk v S' h)
theorem bkX7_nameBetween_34 {d : Nat} {S : hs_T} {Q : Option av_T → hs_T → Prop} {x1 x2 y0 : Int32} {o3 : Option av_T} (kt : y0 = 0 → Ev d mX7_nameBetween 40 [some (vR 7 0), some (vI x1), some (vI x2), o3] [] S Q) (kf : ¬ y0 = 0 → Ev d mX7_nameBetween 37 [some (vR 7 0), some (vI x1), some (vI x2), o3] [] S Q) : Ev d mX7_nameBetween 34 [some (vR 7 0), some (vI x1), some (vI x2), o3] [vI y0] S Q := by
  exact Ev.if_eq (tgt := 40) dX7_nameBetween_34 (by decide) kt kf
theorem bkX7_nameBetween_37 {d : Nat} {S : hs_T} {Q : Option av_T → hs_T → Prop} {x1 x2 : Int32} {o3 : Option av_T} (hq : Q (some (vI 6)) S) : Ev d mX7_nameBetween 37 [some (vR 7 0), some (vI x1), some (vI x2), o3] [] S Q := by
  refine Ev.bipush (v := 6) dX7_nameBetween_37 (by decide) ?_
  exact Ev.iret dX7_nameBetween_39 rfl rfl hq
theorem bkX7_nameBetween_40 {d : Nat} {S : hs_T} {Q : Option av_T → hs_T → Prop} {P : Int32 → hs_T → Prop} {x1 x2 : Int32} {o3 : Option av_T} (hC : Ci d mX7_spells [vR 7 0, vR 50 3, vI x1, vI x2] S P) (kk : ∀ v S', P v S' → Ev (d + 1) mX7_nameBetween 48 [some (vR 7 0), some (vI x1), some (vI x2), o3] [vI v] S' Q) : Ev (d + 1) mX7_nameBetween 40 [some (vR 7 0), some (vI x1), some (vI x2), o3] [] S Q := by
  refine Ev.aload_n dX7_nameBetween_40 rfl rfl ?_
  refine Ev.ldcS (n := 3) rfl rfl dX7_nameBetween_41 ?_
  refine Ev.iload_n dX7_nameBetween_43 rfl rfl ?_
  refine Ev.iload_n dX7_nameBetween_44 rfl rfl ?_
  exact Ev.callV (as := [vR 50 3, vI x1, vI x2]) (rest := []) okX7_spells in_X7_spells ml_X7_63 rfl (Nat.le_of_ble_eq_true rfl) pz_7_0 (by decide) rfl rfl dX7_nameBetween_45 hC (fun r S' h => by obtain ⟨v, rfl, h⟩ := h; exact kk v S' h)
theorem bkX7_nameBetween_48 {d : Nat} {S : hs_T} {Q : Option av_T → hs_T → Prop} {x1 x2 y0 : Int32} {o3 : Option av_T} (kt : y0 = 0 → Ev d mX7_nameBetween 54 [some (vR 7 0), some (vI x1), some (vI x2), o3] [] S Q) (kf : ¬ y0 = 0 → Ev d mX7_nameBetween 51 [some (vR 7 0), some (vI x1), some (vI x2), o3] [] S Q) : Ev d mX7_nameBetween 48 [some (vR 7 0), some (vI x1), some (vI x2), o3] [vI y0] S Q := by
  exact Ev.if_eq (tgt := 54) dX7_nameBetween_48 (by decide) kt kf
theorem bkX7_nameBetween_51 {d : Nat} {S : hs_T} {Q : Option av_T → hs_T → Prop} {x1 x2 : Int32} {o3 : Option av_T} (hq : Q (some (vI 7)) S) : Ev d mX7_nameBetween 51 [some (vR 7 0), some (vI x1), some (vI x2), o3] [] S Q := by
  refine Ev.bipush (v := 7) dX7_nameBetween_51 (by decide) ?_
  exact Ev.iret dX7_nameBetween_53 rfl rfl hq
theorem bkX7_nameBetween_54 {d : Nat} {S : hs_T} {Q : Option av_T → hs_T → Prop} {P : Int32 → hs_T → Prop} {x1 x2 : Int32} {o3 : Option av_T} (hC : Ci d mX7_spells [vR 7 0, vR 50 4, vI x1, vI x2] S P) (kk : ∀ v S', P v S' → Ev (d + 1) mX7_nameBetween 62 [some (vR 7 0), some (vI x1), some (vI x2), o3] [vI v] S' Q) : Ev (d + 1) mX7_nameBetween 54 [some (vR 7 0), some (vI x1), some (vI x2), o3] [] S Q := by
  refine Ev.aload_n dX7_nameBetween_54 rfl rfl ?_
  refine Ev.ldcS (n := 4) rfl rfl dX7_nameBetween_55 ?_
  refine Ev.iload_n dX7_nameBetween_57 rfl rfl ?_
  refine Ev.iload_n dX7_nameBetween_58 rfl rfl ?_
  exact Ev.callV (as := [vR 50 4, vI x1, vI x2]) (rest := []) okX7_spells in_X7_spells ml_X7_63 rfl (Nat.le_of_ble_eq_true rfl) pz_7_0 (by decide) rfl rfl dX7_nameBetween_59 hC (fun r S' h => by obtain ⟨v, rfl, h⟩ := h; exact kk v S' h)
theorem bkX7_nameBetween_62 {d : Nat} {S : hs_T} {Q : Option av_T → hs_T → Prop} {x1 x2 y0 : Int32} {o3 : Option av_T} (kt : y0 = 0 → Ev d mX7_nameBetween 68 [some (vR 7 0), some (vI x1), some (vI x2), o3] [] S Q) (kf : ¬ y0 = 0 → Ev d mX7_nameBetween 65 [some (vR 7 0), some (vI x1), some (vI x2), o3] [] S Q) : Ev d mX7_nameBetween 62 [some (vR 7 0), some (vI x1), some (vI x2), o3] [vI y0] S Q := by
  exact Ev.if_eq (tgt := 68) dX7_nameBetween_62 (by decide) kt kf
theorem bkX7_nameBetween_65 {d : Nat} {S : hs_T} {Q : Option av_T → hs_T → Prop} {x1 x2 : Int32} {o3 : Option av_T} (hq : Q (some (vI 8)) S) : Ev d mX7_nameBetween 65 [some (vR 7 0), some (vI x1), some (vI x2), o3] [] S Q := by
  refine Ev.bipush (v := 8) dX7_nameBetween_65 (by decide) ?_
  exact Ev.iret dX7_nameBetween_67 rfl rfl hq
theorem bkX7_nameBetween_68 {d : Nat} {S : hs_T} {Q : Option av_T → hs_T → Prop} {P : Int32 → hs_T → Prop} {x1 x2 : Int32} {o3 : Option av_T} (hC : Ci d mX7_spells [vR 7 0, vR 50 5, vI x1, vI x2] S P) (kk : ∀ v S', P v S' → Ev (d + 1) mX7_nameBetween 76 [some (vR 7 0), some (vI x1), some (vI x2), o3] [vI v] S' Q) : Ev (d + 1) mX7_nameBetween 68 [some (vR 7 0), some (vI x1), some (vI x2), o3] [] S Q := by
  refine Ev.aload_n dX7_nameBetween_68 rfl rfl ?_
  refine Ev.ldcS (n := 5) rfl rfl dX7_nameBetween_69 ?_
  refine Ev.iload_n dX7_nameBetween_71 rfl rfl ?_
  refine Ev.iload_n dX7_nameBetween_72 rfl rfl ?_
  exact Ev.callV (as := [vR 50 5, vI x1, vI x2]) (rest := []) okX7_spells in_X7_spells ml_X7_63 rfl (Nat.le_of_ble_eq_true rfl) pz_7_0 (by decide) rfl rfl dX7_nameBetween_73 hC (fun r S' h => by obtain ⟨v, rfl, h⟩ := h; exact kk v S' h)
theorem bkX7_nameBetween_76 {d : Nat} {S : hs_T} {Q : Option av_T → hs_T → Prop} {x1 x2 y0 : Int32} {o3 : Option av_T} (kt : y0 = 0 → Ev d mX7_nameBetween 82 [some (vR 7 0), some (vI x1), some (vI x2), o3] [] S Q) (kf : ¬ y0 = 0 → Ev d mX7_nameBetween 79 [some (vR 7 0), some (vI x1), some (vI x2), o3] [] S Q) : Ev d mX7_nameBetween 76 [some (vR 7 0), some (vI x1), some (vI x2), o3] [vI y0] S Q := by
  exact Ev.if_eq (tgt := 82) dX7_nameBetween_76 (by decide) kt kf
theorem bkX7_nameBetween_79 {d : Nat} {S : hs_T} {Q : Option av_T → hs_T → Prop} {x1 x2 : Int32} {o3 : Option av_T} (hq : Q (some (vI 9)) S) : Ev d mX7_nameBetween 79 [some (vR 7 0), some (vI x1), some (vI x2), o3] [] S Q := by
  refine Ev.bipush (v := 9) dX7_nameBetween_79 (by decide) ?_
  exact Ev.iret dX7_nameBetween_81 rfl rfl hq
theorem bkX7_nameBetween_82 {d : Nat} {S : hs_T} {Q : Option av_T → hs_T → Prop} {P : Int32 → hs_T → Prop} {x1 x2 : Int32} {o3 : Option av_T} (hC : Ci d mX7_spells [vR 7 0, vR 50 6, vI x1, vI x2] S P) (kk : ∀ v S', P v S' → Ev (d + 1) mX7_nameBetween 90 [some (vR 7 0), some (vI x1), some (vI x2), o3] [vI v] S' Q) : Ev (d + 1) mX7_nameBetween 82 [some (vR 7 0), some (vI x1), some (vI x2), o3] [] S Q := by
  refine Ev.aload_n dX7_nameBetween_82 rfl rfl ?_
  refine Ev.ldcS (n := 6) rfl rfl dX7_nameBetween_83 ?_
  refine Ev.iload_n dX7_nameBetween_85 rfl rfl ?_
  refine Ev.iload_n dX7_nameBetween_86 rfl rfl ?_
  exact Ev.callV (as := [vR 50 6, vI x1, vI x2]) (rest := []) okX7_spells in_X7_spells ml_X7_63 rfl (Nat.le_of_ble_eq_true rfl) pz_7_0 (by decide) rfl rfl dX7_nameBetween_87 hC (fun r S' h => by obtain ⟨v, rfl, h⟩ := h; exact kk v S' h)
theorem bkX7_nameBetween_90 {d : Nat} {S : hs_T} {Q : Option av_T → hs_T → Prop} {x1 x2 y0 : Int32} {o3 : Option av_T} (kt : y0 = 0 → Ev d mX7_nameBetween 96 [some (vR 7 0), some (vI x1), some (vI x2), o3] [] S Q) (kf : ¬ y0 = 0 → Ev d mX7_nameBetween 93 [some (vR 7 0), some (vI x1), some (vI x2), o3] [] S Q) : Ev d mX7_nameBetween 90 [some (vR 7 0), some (vI x1), some (vI x2), o3] [vI y0] S Q := by
  exact Ev.if_eq (tgt := 96) dX7_nameBetween_90 (by decide) kt kf
theorem bkX7_nameBetween_93 {d : Nat} {S : hs_T} {Q : Option av_T → hs_T → Prop} {x1 x2 : Int32} {o3 : Option av_T} (hq : Q (some (vI 10)) S) : Ev d mX7_nameBetween 93 [some (vR 7 0), some (vI x1), some (vI x2), o3] [] S Q := by
  refine Ev.bipush (v := 10) dX7_nameBetween_93 (by decide) ?_
  exact Ev.iret dX7_nameBetween_95 rfl rfl hq
theorem bkX7_nameBetween_96 {d : Nat} {S : hs_T} {Q : Option av_T → hs_T → Prop} {P : Int32 → hs_T → Prop} {x1 x2 : Int32} {o3 : Option av_T} (hC : Ci d mX7_termBetween [vR 7 0, vI x1, vI x2] S P) (kk : ∀ v S', P v S' → Ev (d + 1) mX7_nameBetween 102 [some (vR 7 0), some (vI x1), some (vI x2), o3] [vI v] S' Q) : Ev (d + 1) mX7_nameBetween 96 [some (vR 7 0), some (vI x1), some (vI x2), o3] [] S Q := by
  refine Ev.aload_n dX7_nameBetween_96 rfl rfl ?_
  refine Ev.iload_n dX7_nameBetween_97 rfl rfl ?_
  refine Ev.iload_n dX7_nameBetween_98 rfl rfl ?_
  exact Ev.callV (as := [vI x1, vI x2]) (rest := []) okX7_termBetween in_X7_termBetween ml_X7_79 rfl (Nat.le_of_ble_eq_true rfl) pz_7_0 (by decide) rfl rfl dX7_nameBetween_99 hC (fun r S' h => by obtain ⟨v, rfl, h⟩ := h; exact kk v S' h)
theorem bkX7_nameBetween_102 {d : Nat} {S : hs_T} {Q : Option av_T → hs_T → Prop} {x1 x2 y0 : Int32} {o3 : Option av_T} (kt : 0 ≤ y0 → Ev d mX7_nameBetween 111 [some (vR 7 0), some (vI x1), some (vI x2), some (vI y0)] [] S Q) (kf : ¬ 0 ≤ y0 → Ev d mX7_nameBetween 107 [some (vR 7 0), some (vI x1), some (vI x2), some (vI y0)] [] S Q) : Ev d mX7_nameBetween 102 [some (vR 7 0), some (vI x1), some (vI x2), o3] [vI y0] S Q := by
  refine Ev.istore_n (ls' := [some (vR 7 0), some (vI x1), some (vI x2), some (vI y0)]) dX7_nameBetween_102 rfl (by decide) rfl ?_
  refine Ev.iload_n dX7_nameBetween_103 rfl rfl ?_
  exact Ev.if_ge (tgt := 111) dX7_nameBetween_104 (by decide) kt kf
theorem bkX7_nameBetween_107 {d : Nat} {S : hs_T} {Q : Option av_T → hs_T → Prop} {x1 x2 x3 : Int32} (kn : Ev d mX7_nameBetween 115 [some (vR 7 0), some (vI x1), some (vI x2), some (vI x3)] [vI 3] S Q) : Ev d mX7_nameBetween 107 [some (vR 7 0), some (vI x1), some (vI x2), some (vI x3)] [] S Q := by
  refine Ev.iconst (v := 3) dX7_nameBetween_107 (by decide) ?_
  refine Ev.goto (tgt := 115) dX7_nameBetween_108 (by decide) ?_
  exact kn
theorem bkX7_nameBetween_111 {d : Nat} {S : hs_T} {Q : Option av_T → hs_T → Prop} {x1 x2 x3 : Int32} (kn : Ev d mX7_nameBetween 115 [some (vR 7 0), some (vI x1), some (vI x2), some (vI x3)] [vI (20 + x3)] S Q) : Ev d mX7_nameBetween 111 [some (vR 7 0), some (vI x1), some (vI x2), some (vI x3)] [] S Q := by
  refine Ev.bipush (v := 20) dX7_nameBetween_111 (by decide) ?_
  refine Ev.iload_n dX7_nameBetween_113 rfl rfl ?_
  refine Ev.iadd dX7_nameBetween_114 ?_
  exact kn
theorem bkX7_nameBetween_115 {d : Nat} {S : hs_T} {Q : Option av_T → hs_T → Prop} {x1 x2 x3 y0 : Int32} (hq : Q (some (vI y0)) S) : Ev d mX7_nameBetween 115 [some (vR 7 0), some (vI x1), some (vI x2), some (vI x3)] [vI y0] S Q := by
  exact Ev.iret dX7_nameBetween_115 rfl rfl hq
/-! EightWires$Tape.termBetween(II)I -/
theorem bkX7_termBetween_0 {d : Nat} {S : hs_T} {Q : Option av_T → hs_T → Prop} {P : Int32 → hs_T → Prop} {x1 x2 : Int32} (hC : Ci d mX7_spells [vR 7 0, vR 50 7, vI x1, vI x2] S P) (kk : ∀ v S', P v S' → Ev (d + 1) mX7_termBetween 8 [some (vR 7 0), some (vI x1), some (vI x2)] [vI v] S' Q) : Ev (d + 1) mX7_termBetween 0 [some (vR 7 0), some (vI x1), some (vI x2)] [] S Q := by
  refine Ev.aload_n dX7_termBetween_0 rfl rfl ?_
  refine Ev.ldcS (n := 7) rfl rfl dX7_termBetween_1 ?_
  refine Ev.iload_n dX7_termBetween_3 rfl rfl ?_
  refine Ev.iload_n dX7_termBetween_4 rfl rfl ?_
  exact Ev.callV (as := [vR 50 7, vI x1, vI x2]) (rest := []) okX7_spells in_X7_spells ml_X7_63 rfl (Nat.le_of_ble_eq_true rfl) pz_7_0 (by decide) rfl rfl dX7_termBetween_5 hC (fun r S' h => by obtain ⟨v, rfl, h⟩ := h; exact kk v S' h)
theorem bkX7_termBetween_8 {d : Nat} {S : hs_T} {Q : Option av_T → hs_T → Prop} {x1 x2 y0 : Int32} (kt : y0 = 0 → Ev d mX7_termBetween 13 [some (vR 7 0), some (vI x1), some (vI x2)] [] S Q) (kf : ¬ y0 = 0 → Ev d mX7_termBetween 11 [some (vR 7 0), some (vI x1), some (vI x2)] [] S Q) : Ev d mX7_termBetween 8 [some (vR 7 0), some (vI x1), some (vI x2)] [vI y0] S Q := by
  exact Ev.if_eq (tgt := 13) dX7_termBetween_8 (by decide) kt kf
theorem bkX7_termBetween_11 {d : Nat} {S : hs_T} {Q : Option av_T → hs_T → Prop} {x1 x2 : Int32} (hq : Q (some (vI 0)) S) : Ev d mX7_termBetween 11 [some (vR 7 0), some (vI x1), some (vI x2)] [] S Q := by
  refine Ev.iconst (v := 0) dX7_termBetween_11 (by decide) ?_
  exact Ev.iret dX7_termBetween_12 rfl rfl hq
theorem bkX7_termBetween_13 {d : Nat} {S : hs_T} {Q : Option av_T → hs_T → Prop} {P : Int32 → hs_T → Prop} {x1 x2 : Int32} (hC : Ci d mX7_spells [vR 7 0, vR 50 8, vI x1, vI x2] S P) (kk : ∀ v S', P v S' → Ev (d + 1) mX7_termBetween 21 [some (vR 7 0), some (vI x1), some (vI x2)] [vI v] S' Q) : Ev (d + 1) mX7_termBetween 13 [some (vR 7 0), some (vI x1), some (vI x2)] [] S Q := by
  refine Ev.aload_n dX7_termBetween_13 rfl rfl ?_
  refine Ev.ldcS (n := 8) rfl rfl dX7_termBetween_14 ?_
  refine Ev.iload_n dX7_termBetween_16 rfl rfl ?_
  refine Ev.iload_n dX7_termBetween_17 rfl rfl ?_
  exact Ev.callV (as := [vR 50 8, vI x1, vI x2]) (rest := []) okX7_spells in_X7_spells ml_X7_63 rfl (Nat.le_of_ble_eq_true rfl) pz_7_0 (by decide) rfl rfl dX7_termBetween_18 hC (fun r S' h => by obtain ⟨v, rfl, h⟩ := h; exact kk v S' h)
theorem bkX7_termBetween_21 {d : Nat} {S : hs_T} {Q : Option av_T → hs_T → Prop} {x1 x2 y0 : Int32} (kt : y0 = 0 → Ev d mX7_termBetween 26 [some (vR 7 0), some (vI x1), some (vI x2)] [] S Q) (kf : ¬ y0 = 0 → Ev d mX7_termBetween 24 [some (vR 7 0), some (vI x1), some (vI x2)] [] S Q) : Ev d mX7_termBetween 21 [some (vR 7 0), some (vI x1), some (vI x2)] [vI y0] S Q := by
  exact Ev.if_eq (tgt := 26) dX7_termBetween_21 (by decide) kt kf
theorem bkX7_termBetween_24 {d : Nat} {S : hs_T} {Q : Option av_T → hs_T → Prop} {x1 x2 : Int32} (hq : Q (some (vI 1)) S) : Ev d mX7_termBetween 24 [some (vR 7 0), some (vI x1), some (vI x2)] [] S Q := by
  refine Ev.iconst (v := 1) dX7_termBetween_24 (by decide) ?_
  exact Ev.iret dX7_termBetween_25 rfl rfl hq
theorem bkX7_termBetween_26 {d : Nat} {S : hs_T} {Q : Option av_T → hs_T → Prop} {P : Int32 → hs_T → Prop} {x1 x2 : Int32} (hC : Ci d mX7_spells [vR 7 0, vR 50 9, vI x1, vI x2] S P) (kk : ∀ v S', P v S' → Ev (d + 1) mX7_termBetween 34 [some (vR 7 0), some (vI x1), some (vI x2)] [vI v] S' Q) : Ev (d + 1) mX7_termBetween 26 [some (vR 7 0), some (vI x1), some (vI x2)] [] S Q := by
  refine Ev.aload_n dX7_termBetween_26 rfl rfl ?_
  refine Ev.ldcS (n := 9) rfl rfl dX7_termBetween_27 ?_
  refine Ev.iload_n dX7_termBetween_29 rfl rfl ?_
  refine Ev.iload_n dX7_termBetween_30 rfl rfl ?_
  exact Ev.callV (as := [vR 50 9, vI x1, vI x2]) (rest := []) okX7_spells in_X7_spells ml_X7_63 rfl (Nat.le_of_ble_eq_true rfl) pz_7_0 (by decide) rfl rfl dX7_termBetween_31 hC (fun r S' h => by obtain ⟨v, rfl, h⟩ := h; exact kk v S' h)
theorem bkX7_termBetween_34 {d : Nat} {S : hs_T} {Q : Option av_T → hs_T → Prop} {x1 x2 y0 : Int32} (kt : y0 = 0 → Ev d mX7_termBetween 39 [some (vR 7 0), some (vI x1), some (vI x2)] [] S Q) (kf : ¬ y0 = 0 → Ev d mX7_termBetween 37 [some (vR 7 0), some (vI x1), some (vI x2)] [] S Q) : Ev d mX7_termBetween 34 [some (vR 7 0), some (vI x1), some (vI x2)] [vI y0] S Q := by
  exact Ev.if_eq (tgt := 39) dX7_termBetween_34 (by decide) kt kf
theorem bkX7_termBetween_37 {d : Nat} {S : hs_T} {Q : Option av_T → hs_T → Prop} {x1 x2 : Int32} (hq : Q (some (vI 2)) S) : Ev d mX7_termBetween 37 [some (vR 7 0), some (vI x1), some (vI x2)] [] S Q := by
  refine Ev.iconst (v := 2) dX7_termBetween_37 (by decide) ?_
  exact Ev.iret dX7_termBetween_38 rfl rfl hq
theorem bkX7_termBetween_39 {d : Nat} {S : hs_T} {Q : Option av_T → hs_T → Prop} {P : Int32 → hs_T → Prop} {x1 x2 : Int32} (hC : Ci d mX7_spells [vR 7 0, vR 50 10, vI x1, vI x2] S P) (kk : ∀ v S', P v S' → Ev (d + 1) mX7_termBetween 47 [some (vR 7 0), some (vI x1), some (vI x2)] [vI v] S' Q) : Ev (d + 1) mX7_termBetween 39 [some (vR 7 0), some (vI x1), some (vI x2)] [] S Q := by
  refine Ev.aload_n dX7_termBetween_39 rfl rfl ?_
  refine Ev.ldcS (n := 10) rfl rfl dX7_termBetween_40 ?_
  refine Ev.iload_n dX7_termBetween_42 rfl rfl ?_
  refine Ev.iload_n dX7_termBetween_43 rfl rfl ?_
  exact Ev.callV (as := [vR 50 10, vI x1, vI x2]) (rest := []) okX7_spells in_X7_spells ml_X7_63 rfl (Nat.le_of_ble_eq_true rfl) pz_7_0 (by decide) rfl rfl dX7_termBetween_44 hC (fun r S' h => by obtain ⟨v, rfl, h⟩ := h; exact kk v S' h)
theorem bkX7_termBetween_47 {d : Nat} {S : hs_T} {Q : Option av_T → hs_T → Prop} {x1 x2 y0 : Int32} (kt : y0 = 0 → Ev d mX7_termBetween 52 [some (vR 7 0), some (vI x1), some (vI x2)] [] S Q) (kf : ¬ y0 = 0 → Ev d mX7_termBetween 50 [some (vR 7 0), some (vI x1), some (vI x2)] [] S Q) : Ev d mX7_termBetween 47 [some (vR 7 0), some (vI x1), some (vI x2)] [vI y0] S Q := by
  exact Ev.if_eq (tgt := 52) dX7_termBetween_47 (by decide) kt kf
theorem bkX7_termBetween_50 {d : Nat} {S : hs_T} {Q : Option av_T → hs_T → Prop} {x1 x2 : Int32} (hq : Q (some (vI 3)) S) : Ev d mX7_termBetween 50 [some (vR 7 0), some (vI x1), some (vI x2)] [] S Q := by
  refine Ev.iconst (v := 3) dX7_termBetween_50 (by decide) ?_
  exact Ev.iret dX7_termBetween_51 rfl rfl hq
theorem bkX7_termBetween_52 {d : Nat} {S : hs_T} {Q : Option av_T → hs_T → Prop} {P : Int32 → hs_T → Prop} {x1 x2 : Int32} (hC : Ci d mX7_spells [vR 7 0, vR 50 11, vI x1, vI x2] S P) (kk : ∀ v S', P v S' → Ev (d + 1) mX7_termBetween 60 [some (vR 7 0), some (vI x1), some (vI x2)] [vI v] S' Q) : Ev (d + 1) mX7_termBetween 52 [some (vR 7 0), some (vI x1), some (vI x2)] [] S Q := by
  refine Ev.aload_n dX7_termBetween_52 rfl rfl ?_
  refine Ev.ldcS (n := 11) rfl rfl dX7_termBetween_53 ?_
  refine Ev.iload_n dX7_termBetween_55 rfl rfl ?_
  refine Ev.iload_n dX7_termBetween_56 rfl rfl ?_
  exact Ev.callV (as := [vR 50 11, vI x1, vI x2]) (rest := []) okX7_spells in_X7_spells ml_X7_63 rfl (Nat.le_of_ble_eq_true rfl) pz_7_0 (by decide) rfl rfl dX7_termBetween_57 hC (fun r S' h => by obtain ⟨v, rfl, h⟩ := h; exact kk v S' h)
theorem bkX7_termBetween_60 {d : Nat} {S : hs_T} {Q : Option av_T → hs_T → Prop} {x1 x2 y0 : Int32} (kt : y0 = 0 → Ev d mX7_termBetween 65 [some (vR 7 0), some (vI x1), some (vI x2)] [] S Q) (kf : ¬ y0 = 0 → Ev d mX7_termBetween 63 [some (vR 7 0), some (vI x1), some (vI x2)] [] S Q) : Ev d mX7_termBetween 60 [some (vR 7 0), some (vI x1), some (vI x2)] [vI y0] S Q := by
  exact Ev.if_eq (tgt := 65) dX7_termBetween_60 (by decide) kt kf
theorem bkX7_termBetween_63 {d : Nat} {S : hs_T} {Q : Option av_T → hs_T → Prop} {x1 x2 : Int32} (hq : Q (some (vI 4)) S) : Ev d mX7_termBetween 63 [some (vR 7 0), some (vI x1), some (vI x2)] [] S Q := by
  refine Ev.iconst (v := 4) dX7_termBetween_63 (by decide) ?_
  exact Ev.iret dX7_termBetween_64 rfl rfl hq
theorem bkX7_termBetween_65 {d : Nat} {S : hs_T} {Q : Option av_T → hs_T → Prop} {P : Int32 → hs_T → Prop} {x1 x2 : Int32} (hC : Ci d mX7_spells [vR 7 0, vR 50 12, vI x1, vI x2] S P) (kk : ∀ v S', P v S' → Ev (d + 1) mX7_termBetween 73 [some (vR 7 0), some (vI x1), some (vI x2)] [vI v] S' Q) : Ev (d + 1) mX7_termBetween 65 [some (vR 7 0), some (vI x1), some (vI x2)] [] S Q := by
  refine Ev.aload_n dX7_termBetween_65 rfl rfl ?_
  refine Ev.ldcS (n := 12) rfl rfl dX7_termBetween_66 ?_
  refine Ev.iload_n dX7_termBetween_68 rfl rfl ?_
  refine Ev.iload_n dX7_termBetween_69 rfl rfl ?_
  exact Ev.callV (as := [vR 50 12, vI x1, vI x2]) (rest := []) okX7_spells in_X7_spells ml_X7_63 rfl (Nat.le_of_ble_eq_true rfl) pz_7_0 (by decide) rfl rfl dX7_termBetween_70 hC (fun r S' h => by obtain ⟨v, rfl, h⟩ := h; exact kk v S' h)
theorem bkX7_termBetween_73 {d : Nat} {S : hs_T} {Q : Option av_T → hs_T → Prop} {x1 x2 y0 : Int32} (kt : y0 = 0 → Ev d mX7_termBetween 78 [some (vR 7 0), some (vI x1), some (vI x2)] [] S Q) (kf : ¬ y0 = 0 → Ev d mX7_termBetween 76 [some (vR 7 0), some (vI x1), some (vI x2)] [] S Q) : Ev d mX7_termBetween 73 [some (vR 7 0), some (vI x1), some (vI x2)] [vI y0] S Q := by
  exact Ev.if_eq (tgt := 78) dX7_termBetween_73 (by decide) kt kf
theorem bkX7_termBetween_76 {d : Nat} {S : hs_T} {Q : Option av_T → hs_T → Prop} {x1 x2 : Int32} (hq : Q (some (vI 5)) S) : Ev d mX7_termBetween 76 [some (vR 7 0), some (vI x1), some (vI x2)] [] S Q := by
  refine Ev.iconst (v := 5) dX7_termBetween_76 (by decide) ?_
  exact Ev.iret dX7_termBetween_77 rfl rfl hq
theorem bkX7_termBetween_78 {d : Nat} {S : hs_T} {Q : Option av_T → hs_T → Prop} {P : Int32 → hs_T → Prop} {x1 x2 : Int32} (hC : Ci d mX7_spells [vR 7 0, vR 50 13, vI x1, vI x2] S P) (kk : ∀ v S', P v S' → Ev (d + 1) mX7_termBetween 86 [some (vR 7 0), some (vI x1), some (vI x2)] [vI v] S' Q) : Ev (d + 1) mX7_termBetween 78 [some (vR 7 0), some (vI x1), some (vI x2)] [] S Q := by
  refine Ev.aload_n dX7_termBetween_78 rfl rfl ?_
  refine Ev.ldcS (n := 13) rfl rfl dX7_termBetween_79 ?_
  refine Ev.iload_n dX7_termBetween_81 rfl rfl ?_
  refine Ev.iload_n dX7_termBetween_82 rfl rfl ?_
  exact Ev.callV (as := [vR 50 13, vI x1, vI x2]) (rest := []) okX7_spells in_X7_spells ml_X7_63 rfl (Nat.le_of_ble_eq_true rfl) pz_7_0 (by decide) rfl rfl dX7_termBetween_83 hC (fun r S' h => by obtain ⟨v, rfl, h⟩ := h; exact kk v S' h)
theorem bkX7_termBetween_86 {d : Nat} {S : hs_T} {Q : Option av_T → hs_T → Prop} {x1 x2 y0 : Int32} (kt : y0 = 0 → Ev d mX7_termBetween 94 [some (vR 7 0), some (vI x1), some (vI x2)] [] S Q) (kf : ¬ y0 = 0 → Ev d mX7_termBetween 89 [some (vR 7 0), some (vI x1), some (vI x2)] [] S Q) : Ev d mX7_termBetween 86 [some (vR 7 0), some (vI x1), some (vI x2)] [vI y0] S Q := by
  exact Ev.if_eq (tgt := 94) dX7_termBetween_86 (by decide) kt kf
theorem bkX7_termBetween_89 {d : Nat} {S : hs_T} {Q : Option av_T → hs_T → Prop} {x1 x2 : Int32} (kn : Ev d mX7_termBetween 95 [some (vR 7 0), some (vI x1), some (vI x2)] [vI 6] S Q) : Ev d mX7_termBetween 89 [some (vR 7 0), some (vI x1), some (vI x2)] [] S Q := by
  refine Ev.bipush (v := 6) dX7_termBetween_89 (by decide) ?_
  refine Ev.goto (tgt := 95) dX7_termBetween_91 (by decide) ?_
  exact kn
theorem bkX7_termBetween_94 {d : Nat} {S : hs_T} {Q : Option av_T → hs_T → Prop} {x1 x2 : Int32} (kn : Ev d mX7_termBetween 95 [some (vR 7 0), some (vI x1), some (vI x2)] [vI (-1)] S Q) : Ev d mX7_termBetween 94 [some (vR 7 0), some (vI x1), some (vI x2)] [] S Q := by
  refine Ev.iconst (v := (-1)) dX7_termBetween_94 (by decide) ?_
  exact kn
theorem bkX7_termBetween_95 {d : Nat} {S : hs_T} {Q : Option av_T → hs_T → Prop} {x1 x2 y0 : Int32} (hq : Q (some (vI y0)) S) : Ev d mX7_termBetween 95 [some (vR 7 0), some (vI x1), some (vI x2)] [vI y0] S Q := by
  exact Ev.iret dX7_termBetween_95 rfl rfl hq
/-! EightWires$Tape.spells(Ljava/lang/String;II)Z -/
theorem bkX7_spells_0 {d : Nat} {S : hs_T} {Q : Option av_T → hs_T → Prop} {P : Int32 → hs_T → Prop} {x2 x3 : Int32} {j1 : Nat} {o4 : Option av_T} (hjj1 : j1 < 14) (hC : Ci d mJ0_length_8abf5 [vR 50 j1] S P) (kk : ∀ v S', P v S' → Ev (d + 1) mX7_spells 7 [some (vR 7 0), some (vR 50 j1), some (vI x2), some (vI x3), o4] [vI v, vI (x3 - x2)] S' Q) : Ev (d + 1) mX7_spells 0 [some (vR 7 0), some (vR 50 j1), some (vI x2), some (vI x3), o4] [] S Q := by
  refine Ev.iload_n dX7_spells_0 rfl rfl ?_
  refine Ev.iload_n dX7_spells_1 rfl rfl ?_
  refine Ev.isub dX7_spells_2 ?_
  refine Ev.aload_n dX7_spells_3 rfl rfl ?_
  exact Ev.callK (as := []) (rest := [vI (x3 - x2)]) okJ0_length_8abf5 in_J0_length_8abf5 ml_X7_98 rfl (Nat.le_of_ble_eq_true rfl) hjj1 rfl rfl dX7_spells_4 hC (fun r S' h => by obtain ⟨v, rfl, h⟩ := h; exact kk v S' h)
theorem bkX7_spells_7 {d : Nat} {S : hs_T} {Q : Option av_T → hs_T → Prop} {x2 x3 y0 y1 : Int32} {j1 : Nat} {o4 : Option av_T} (kt : y1 = y0 → Ev d mX7_spells 12 [some (vR 7 0), some (vR 50 j1), some (vI x2), some (vI x3), o4] [] S Q) (kf : ¬ y1 = y0 → Ev d mX7_spells 10 [some (vR 7 0), some (vR 50 j1), some (vI x2), some (vI x3), o4] [] S Q) : Ev d mX7_spells 7 [some (vR 7 0), some (vR 50 j1), some (vI x2), some (vI x3), o4] [vI y0, vI y1] S Q := by
  exact Ev.icmp_eq (tgt := 12) dX7_spells_7 (by decide) kt kf
theorem bkX7_spells_10 {d : Nat} {S : hs_T} {Q : Option av_T → hs_T → Prop} {x2 x3 : Int32} {j1 : Nat} {o4 : Option av_T} (hq : Q (some (vI 0)) S) : Ev d mX7_spells 10 [some (vR 7 0), some (vR 50 j1), some (vI x2), some (vI x3), o4] [] S Q := by
  refine Ev.iconst (v := 0) dX7_spells_10 (by decide) ?_
  exact Ev.iret dX7_spells_11 rfl (by decide) hq
theorem bkX7_spells_12 {d : Nat} {S : hs_T} {Q : Option av_T → hs_T → Prop} {x2 x3 : Int32} {j1 : Nat} {o4 : Option av_T} (kn : Ev d mX7_spells 15 [some (vR 7 0), some (vR 50 j1), some (vI x2), some (vI x3), some (vI 0)] [] S Q) : Ev d mX7_spells 12 [some (vR 7 0), some (vR 50 j1), some (vI x2), some (vI x3), o4] [] S Q := by
  refine Ev.iconst (v := 0) dX7_spells_12 (by decide) ?_
  refine Ev.istore (ls' := [some (vR 7 0), some (vR 50 j1), some (vI x2), some (vI x3), some (vI 0)]) dX7_spells_13 (by decide) rfl ?_
  exact kn
theorem bkX7_spells_15 {d : Nat} {S : hs_T} {Q : Option av_T → hs_T → Prop} {P : Int32 → hs_T → Prop} {x2 x3 x4 : Int32} {j1 : Nat} (hjj1 : j1 < 14) (hC : Ci d mJ0_length_8abf5 [vR 50 j1] S P) (kk : ∀ v S', P v S' → Ev (d + 1) mX7_spells 21 [some (vR 7 0), some (vR 50 j1), some (vI x2), some (vI x3), some (vI x4)] [vI v, vI x4] S' Q) : Ev (d + 1) mX7_spells 15 [some (vR 7 0), some (vR 50 j1), some (vI x2), some (vI x3), some (vI x4)] [] S Q := by
  refine Ev.iload dX7_spells_15 rfl ?_
  refine Ev.aload_n dX7_spells_17 rfl rfl ?_
  exact Ev.callK (as := []) (rest := [vI x4]) okJ0_length_8abf5 in_J0_length_8abf5 ml_X7_98 rfl (Nat.le_of_ble_eq_true rfl) hjj1 rfl rfl dX7_spells_18 hC (fun r S' h => by obtain ⟨v, rfl, h⟩ := h; exact kk v S' h)
theorem bkX7_spells_21 {d : Nat} {S : hs_T} {Q : Option av_T → hs_T → Prop} {x2 x3 x4 y0 y1 : Int32} {j1 : Nat} (kt : y0 ≤ y1 → Ev d mX7_spells 49 [some (vR 7 0), some (vR 50 j1), some (vI x2), some (vI x3), some (vI x4)] [] S Q) (kf : ¬ y0 ≤ y1 → Ev d mX7_spells 24 [some (vR 7 0), some (vR 50 j1), some (vI x2), some (vI x3), some (vI x4)] [] S Q) : Ev d mX7_spells 21 [some (vR 7 0), some (vR 50 j1), some (vI x2), some (vI x3), some (vI x4)] [vI y0, vI y1] S Q := by
  exact Ev.icmp_ge (tgt := 49) dX7_spells_21 (by decide) kt kf
theorem bkX7_spells_24 {d : Nat} {S : hs_T} {Q : Option av_T → hs_T → Prop} {P : Int32 → hs_T → Prop} {x2 x3 x4 : Int32} {j1 : Nat} (hC : Ci d mX7_byteAt [vR 7 0, vI (x2 + x4)] S P) (kk : ∀ v S', P v S' → Ev (d + 1) mX7_spells 32 [some (vR 7 0), some (vR 50 j1), some (vI x2), some (vI x3), some (vI x4)] [vI v] S' Q) : Ev (d + 1) mX7_spells 24 [some (vR 7 0), some (vR 50 j1), some (vI x2), some (vI x3), some (vI x4)] [] S Q := by
  refine Ev.aload_n dX7_spells_24 rfl rfl ?_
  refine Ev.iload_n dX7_spells_25 rfl rfl ?_
  refine Ev.iload dX7_spells_26 rfl ?_
  refine Ev.iadd dX7_spells_28 ?_
  exact Ev.callV (as := [vI (x2 + x4)]) (rest := []) okX7_byteAt in_X7_byteAt ml_X7_50 rfl (Nat.le_of_ble_eq_true rfl) pz_7_0 (by decide) rfl rfl dX7_spells_29 hC (fun r S' h => by obtain ⟨v, rfl, h⟩ := h; exact kk v S' h)
theorem bkX7_spells_32 {d : Nat} {S : hs_T} {Q : Option av_T → hs_T → Prop} {P : Int32 → hs_T → Prop} {x2 x3 x4 y0 : Int32} {j1 : Nat} (hjj1 : j1 < 14) (hC : Ci d mJ0_charAt_5068e [vR 50 j1, vI x4] S P) (kk : ∀ v S', P v S' → Ev (d + 1) mX7_spells 38 [some (vR 7 0), some (vR 50 j1), some (vI x2), some (vI x3), some (vI x4)] [vI v, vI y0] S' Q) : Ev (d + 1) mX7_spells 32 [some (vR 7 0), some (vR 50 j1), some (vI x2), some (vI x3), some (vI x4)] [vI y0] S Q := by
  refine Ev.aload_n dX7_spells_32 rfl rfl ?_
  refine Ev.iload dX7_spells_33 rfl ?_
  exact Ev.callK (as := [vI x4]) (rest := [vI y0]) okJ0_charAt_5068e in_J0_charAt_5068e ml_X7_104 rfl (Nat.le_of_ble_eq_true rfl) hjj1 rfl rfl dX7_spells_35 hC (fun r S' h => by obtain ⟨v, rfl, h⟩ := h; exact kk v S' h)
theorem bkX7_spells_38 {d : Nat} {S : hs_T} {Q : Option av_T → hs_T → Prop} {x2 x3 x4 y0 y1 : Int32} {j1 : Nat} (kt : y1 = y0 → Ev d mX7_spells 43 [some (vR 7 0), some (vR 50 j1), some (vI x2), some (vI x3), some (vI x4)] [] S Q) (kf : ¬ y1 = y0 → Ev d mX7_spells 41 [some (vR 7 0), some (vR 50 j1), some (vI x2), some (vI x3), some (vI x4)] [] S Q) : Ev d mX7_spells 38 [some (vR 7 0), some (vR 50 j1), some (vI x2), some (vI x3), some (vI x4)] [vI y0, vI y1] S Q := by
  exact Ev.icmp_eq (tgt := 43) dX7_spells_38 (by decide) kt kf
theorem bkX7_spells_41 {d : Nat} {S : hs_T} {Q : Option av_T → hs_T → Prop} {x2 x3 x4 : Int32} {j1 : Nat} (hq : Q (some (vI 0)) S) : Ev d mX7_spells 41 [some (vR 7 0), some (vR 50 j1), some (vI x2), some (vI x3), some (vI x4)] [] S Q := by
  refine Ev.iconst (v := 0) dX7_spells_41 (by decide) ?_
  exact Ev.iret dX7_spells_42 rfl (by decide) hq
theorem bkX7_spells_43 {d : Nat} {S : hs_T} {Q : Option av_T → hs_T → Prop} {x2 x3 x4 : Int32} {j1 : Nat} (kn : Ev d mX7_spells 15 [some (vR 7 0), some (vR 50 j1), some (vI x2), some (vI x3), some (vI (x4 + 1))] [] S Q) : Ev d mX7_spells 43 [some (vR 7 0), some (vR 50 j1), some (vI x2), some (vI x3), some (vI x4)] [] S Q := by
  refine Ev.iinc (v := (x4 + 1)) (ls' := [some (vR 7 0), some (vR 50 j1), some (vI x2), some (vI x3), some (vI (x4 + 1))]) dX7_spells_43 rfl rfl (by decide) rfl ?_
  refine Ev.goto (tgt := 15) dX7_spells_46 (by decide) ?_
  exact kn
theorem bkX7_spells_49 {d : Nat} {S : hs_T} {Q : Option av_T → hs_T → Prop} {x2 x3 x4 : Int32} {j1 : Nat} (hq : Q (some (vI 1)) S) : Ev d mX7_spells 49 [some (vR 7 0), some (vR 50 j1), some (vI x2), some (vI x3), some (vI x4)] [] S Q := by
  refine Ev.iconst (v := 1) dX7_spells_49 (by decide) ?_
  exact Ev.iret dX7_spells_50 rfl (by decide) hq
/-! EightWires$Tape.valueBetween(II)I -/
theorem bkX7_valueBetween_0 {d : Nat} {S : hs_T} {Q : Option av_T → hs_T → Prop} {x1 x2 : Int32} {o3 o4 : Option av_T} (kn : Ev d mX7_valueBetween 5 [some (vR 7 0), some (vI x1), some (vI x2), some (vI 0), some (vI x1)] [] S Q) : Ev d mX7_valueBetween 0 [some (vR 7 0), some (vI x1), some (vI x2), o3, o4] [] S Q := by
  refine Ev.iconst (v := 0) dX7_valueBetween_0 (by decide) ?_
  refine Ev.istore_n (ls' := [some (vR 7 0), some (vI x1), some (vI x2), some (vI 0), o4]) dX7_valueBetween_1 rfl (by decide) rfl ?_
  refine Ev.iload_n dX7_valueBetween_2 rfl rfl ?_
  refine Ev.istore (ls' := [some (vR 7 0), some (vI x1), some (vI x2), some (vI 0), some (vI x1)]) dX7_valueBetween_3 (by decide) rfl ?_
  exact kn
theorem bkX7_valueBetween_5 {d : Nat} {S : hs_T} {Q : Option av_T → hs_T → Prop} {x1 x2 x3 x4 : Int32} (kt : x2 ≤ x4 → Ev d mX7_valueBetween 32 [some (vR 7 0), some (vI x1), some (vI x2), some (vI x3), some (vI x4)] [] S Q) (kf : ¬ x2 ≤ x4 → Ev d mX7_valueBetween 11 [some (vR 7 0), some (vI x1), some (vI x2), some (vI x3), some (vI x4)] [] S Q) : Ev d mX7_valueBetween 5 [some (vR 7 0), some (vI x1), some (vI x2), some (vI x3), some (vI x4)] [] S Q := by
  refine Ev.iload dX7_valueBetween_5 rfl ?_
  refine Ev.iload_n dX7_valueBetween_7 rfl rfl ?_
  exact Ev.icmp_ge (tgt := 32) dX7_valueBetween_8 (by decide) kt kf
theorem bkX7_valueBetween_11 {d : Nat} {S : hs_T} {Q : Option av_T → hs_T → Prop} {P : Int32 → hs_T → Prop} {x1 x2 x3 x4 : Int32} (hC : Ci d mX7_byteAt [vR 7 0, vI x4] S P) (kk : ∀ v S', P v S' → Ev (d + 1) mX7_valueBetween 21 [some (vR 7 0), some (vI x1), some (vI x2), some (vI x3), some (vI x4)] [vI v, vI (x3 * 10)] S' Q) : Ev (d + 1) mX7_valueBetween 11 [some (vR 7 0), some (vI x1), some (vI x2), some (vI x3), some (vI x4)] [] S Q := by
  refine Ev.iload_n dX7_valueBetween_11 rfl rfl ?_
  refine Ev.bipush (v := 10) dX7_valueBetween_12 (by decide) ?_
  refine Ev.imul dX7_valueBetween_14 ?_
  refine Ev.aload_n dX7_valueBetween_15 rfl rfl ?_
  refine Ev.iload dX7_valueBetween_16 rfl ?_
  exact Ev.callV (as := [vI x4]) (rest := [vI (x3 * 10)]) okX7_byteAt in_X7_byteAt ml_X7_50 rfl (Nat.le_of_ble_eq_true rfl) pz_7_0 (by decide) rfl rfl dX7_valueBetween_18 hC (fun r S' h => by obtain ⟨v, rfl, h⟩ := h; exact kk v S' h)
theorem bkX7_valueBetween_21 {d : Nat} {S : hs_T} {Q : Option av_T → hs_T → Prop} {x1 x2 x3 x4 y0 y1 : Int32} (kn : Ev d mX7_valueBetween 5 [some (vR 7 0), some (vI x1), some (vI x2), some (vI ((y1 + y0) - 48)), some (vI (x4 + 1))] [] S Q) : Ev d mX7_valueBetween 21 [some (vR 7 0), some (vI x1), some (vI x2), some (vI x3), some (vI x4)] [vI y0, vI y1] S Q := by
  refine Ev.iadd dX7_valueBetween_21 ?_
  refine Ev.bipush (v := 48) dX7_valueBetween_22 (by decide) ?_
  refine Ev.isub dX7_valueBetween_24 ?_
  refine Ev.istore_n (ls' := [some (vR 7 0), some (vI x1), some (vI x2), some (vI ((y1 + y0) - 48)), some (vI x4)]) dX7_valueBetween_25 rfl (by decide) rfl ?_
  refine Ev.iinc (v := (x4 + 1)) (ls' := [some (vR 7 0), some (vI x1), some (vI x2), some (vI ((y1 + y0) - 48)), some (vI (x4 + 1))]) dX7_valueBetween_26 rfl rfl (by decide) rfl ?_
  refine Ev.goto (tgt := 5) dX7_valueBetween_29 (by decide) ?_
  exact kn
theorem bkX7_valueBetween_32 {d : Nat} {S : hs_T} {Q : Option av_T → hs_T → Prop} {x1 x2 x3 x4 : Int32} (hq : Q (some (vI x3)) S) : Ev d mX7_valueBetween 32 [some (vR 7 0), some (vI x1), some (vI x2), some (vI x3), some (vI x4)] [] S Q := by
  refine Ev.iload_n dX7_valueBetween_32 rfl rfl ?_
  exact Ev.iret dX7_valueBetween_33 rfl rfl hq
/-! EightWires$Trace.has(I)Z -/
theorem bkX8_has_0 {d : Nat} {S : hs_T} {Q : Option av_T → hs_T → Prop} {x1 : Int32} {j0 : Nat} (kt : x1 < 0 → Ev d mX8_has 16 [some (vR 8 j0), some (vI x1)] [] S Q) (kf : ¬ x1 < 0 → Ev d mX8_has 4 [some (vR 8 j0), some (vI x1)] [] S Q) : Ev d mX8_has 0 [some (vR 8 j0), some (vI x1)] [] S Q := by
  refine Ev.iload_n dX8_has_0 rfl rfl ?_
  exact Ev.if_lt (tgt := 16) dX8_has_1 (by decide) kt kf
theorem bkX8_has_4 {d : Nat} {S : hs_T} {Q : Option av_T → hs_T → Prop} {x1 : Int32} {j0 : Nat} (hjj0 : j0 < 4) (kt : (S.1 8 j0 1) ≤ x1 → Ev d mX8_has 16 [some (vR 8 j0), some (vI x1)] [] S Q) (kf : ¬ (S.1 8 j0 1) ≤ x1 → Ev d mX8_has 12 [some (vR 8 j0), some (vI x1)] [] S Q) : Ev d mX8_has 4 [some (vR 8 j0), some (vI x1)] [] S Q := by
  refine Ev.iload_n dX8_has_4 rfl rfl ?_
  refine Ev.aload_n dX8_has_5 rfl rfl ?_
  refine Ev.get (v := vI (S.1 8 j0 1)) okX8 (by decide) fl_X8_15 (pl8 hjj0) (ff_8_1 _ _) dX8_has_6 ?_
  exact Ev.icmp_ge (tgt := 16) dX8_has_9 (by decide) kt kf
theorem bkX8_has_12 {d : Nat} {S : hs_T} {Q : Option av_T → hs_T → Prop} {x1 : Int32} {j0 : Nat} (kn : Ev d mX8_has 17 [some (vR 8 j0), some (vI x1)] [vI 1] S Q) : Ev d mX8_has 12 [some (vR 8 j0), some (vI x1)] [] S Q := by
  refine Ev.iconst (v := 1) dX8_has_12 (by decide) ?_
  refine Ev.goto (tgt := 17) dX8_has_13 (by decide) ?_
  exact kn
theorem bkX8_has_16 {d : Nat} {S : hs_T} {Q : Option av_T → hs_T → Prop} {x1 : Int32} {j0 : Nat} (kn : Ev d mX8_has 17 [some (vR 8 j0), some (vI x1)] [vI 0] S Q) : Ev d mX8_has 16 [some (vR 8 j0), some (vI x1)] [] S Q := by
  refine Ev.iconst (v := 0) dX8_has_16 (by decide) ?_
  exact kn
theorem bkX8_has_17 {d : Nat} {S : hs_T} {Q : Option av_T → hs_T → Prop} {x1 y0 : Int32} {j0 : Nat} (hn17 : narrow .boolean (.int y0) = .int y0) (hq : Q (some (vI y0)) S) : Ev d mX8_has 17 [some (vR 8 j0), some (vI x1)] [vI y0] S Q := by
  exact Ev.iret dX8_has_17 rfl hn17 hq
/-! EightWires$Trace.sample(I)I -/
theorem bkX8_sample_0 {d : Nat} {S : hs_T} {Q : Option av_T → hs_T → Prop} {P : Int32 → hs_T → Prop} {x1 : Int32} {j0 : Nat} (hjj0 : j0 < 4) (hC : Ci d mX8_has [vR 8 j0, vI x1] S P) (kk : ∀ v S', P v S' → Ev (d + 1) mX8_sample 5 [some (vR 8 j0), some (vI x1)] [vI v] S' Q) : Ev (d + 1) mX8_sample 0 [some (vR 8 j0), some (vI x1)] [] S Q := by
  refine Ev.aload_n dX8_sample_0 rfl rfl ?_
  refine Ev.iload_n dX8_sample_1 rfl rfl ?_
  exact Ev.callV (as := [vI x1]) (rest := []) okX8_has in_X8_has ml_X8_19 rfl (Nat.le_of_ble_eq_true rfl) (pl8 hjj0) (by decide) rfl rfl dX8_sample_2 hC (fun r S' h => by obtain ⟨v, rfl, h⟩ := h; exact kk v S' h)
theorem bkX8_sample_5 {d : Nat} {S : hs_T} {Q : Option av_T → hs_T → Prop} {x1 y0 : Int32} {j0 : Nat} (kt : y0 = 0 → Ev d mX8_sample 17 [some (vR 8 j0), some (vI x1)] [] S Q) (kf : ¬ y0 = 0 → Ev d mX8_sample 8 [some (vR 8 j0), some (vI x1)] [] S Q) : Ev d mX8_sample 5 [some (vR 8 j0), some (vI x1)] [vI y0] S Q := by
  exact Ev.if_eq (tgt := 17) dX8_sample_5 (by decide) kt kf
theorem bkX8_sample_8 {d : Nat} {S : hs_T} {Q : Option av_T → hs_T → Prop} {x1 : Int32} {j0 : Nat} (hjj0 : j0 < 4) (hi13 : vp_in x1 400) (kn : Ev d mX8_sample 18 [some (vR 8 j0), some (vI x1)] [vI (S.1 900 j0 x1.toNatClampNeg)] S Q) : Ev d mX8_sample 8 [some (vR 8 j0), some (vI x1)] [] S Q := by
  refine Ev.aload_n dX8_sample_8 rfl rfl ?_
  refine Ev.get (v := vR 900 j0) okX8 (by decide) fl_X8_9 (pl8 hjj0) (ff_8_0 _ _) dX8_sample_9 ?_
  refine Ev.iload_n dX8_sample_12 rfl rfl ?_
  refine Ev.ialoadA (a := x1.toNatClampNeg) (pl900 hjj0) (by decide) ak_900 hi13 rfl dX8_sample_13 ?_
  refine Ev.goto (tgt := 18) dX8_sample_14 (by decide) ?_
  exact kn
theorem bkX8_sample_17 {d : Nat} {S : hs_T} {Q : Option av_T → hs_T → Prop} {x1 : Int32} {j0 : Nat} (kn : Ev d mX8_sample 18 [some (vR 8 j0), some (vI x1)] [vI 0] S Q) : Ev d mX8_sample 17 [some (vR 8 j0), some (vI x1)] [] S Q := by
  refine Ev.iconst (v := 0) dX8_sample_17 (by decide) ?_
  exact kn
theorem bkX8_sample_18 {d : Nat} {S : hs_T} {Q : Option av_T → hs_T → Prop} {x1 y0 : Int32} {j0 : Nat} (hq : Q (some (vI y0)) S) : Ev d mX8_sample 18 [some (vR 8 j0), some (vI x1)] [vI y0] S Q := by
  exact Ev.iret dX8_sample_18 rfl rfl hq
/-! EightWires$Trace.replace(II)V -/
theorem bkX8_replace_0 {d : Nat} {S : hs_T} {Q : Option av_T → hs_T → Prop} {P : Int32 → hs_T → Prop} {x1 x2 : Int32} {j0 : Nat} (hjj0 : j0 < 4) (hC : Ci d mX8_has [vR 8 j0, vI x1] S P) (kk : ∀ v S', P v S' → Ev (d + 1) mX8_replace 5 [some (vR 8 j0), some (vI x1), some (vI x2)] [vI v] S' Q) : Ev (d + 1) mX8_replace 0 [some (vR 8 j0), some (vI x1), some (vI x2)] [] S Q := by
  refine Ev.aload_n dX8_replace_0 rfl rfl ?_
  refine Ev.iload_n dX8_replace_1 rfl rfl ?_
  exact Ev.callV (as := [vI x1]) (rest := []) okX8_has in_X8_has ml_X8_19 rfl (Nat.le_of_ble_eq_true rfl) (pl8 hjj0) (by decide) rfl rfl dX8_replace_2 hC (fun r S' h => by obtain ⟨v, rfl, h⟩ := h; exact kk v S' h)
theorem bkX8_replace_5 {d : Nat} {S : hs_T} {Q : Option av_T → hs_T → Prop} {x1 x2 y0 : Int32} {j0 : Nat} (kt : y0 = 0 → Ev d mX8_replace 15 [some (vR 8 j0), some (vI x1), some (vI x2)] [] S Q) (kf : ¬ y0 = 0 → Ev d mX8_replace 8 [some (vR 8 j0), some (vI x1), some (vI x2)] [] S Q) : Ev d mX8_replace 5 [some (vR 8 j0), some (vI x1), some (vI x2)] [vI y0] S Q := by
  exact Ev.if_eq (tgt := 15) dX8_replace_5 (by decide) kt kf
theorem bkX8_replace_8 {d : Nat} {S : hs_T} {Q : Option av_T → hs_T → Prop} {x1 x2 : Int32} {j0 : Nat} (hjj0 : j0 < 4) (hi14 : vp_in x1 400) (kn : Ev d mX8_replace 15 [some (vR 8 j0), some (vI x1), some (vI x2)] [] (sk_ S 900 j0 (upd (S.1 900 j0) x1.toNatClampNeg x2)) Q) : Ev d mX8_replace 8 [some (vR 8 j0), some (vI x1), some (vI x2)] [] S Q := by
  refine Ev.aload_n dX8_replace_8 rfl rfl ?_
  refine Ev.get (v := vR 900 j0) okX8 (by decide) fl_X8_9 (pl8 hjj0) (ff_8_0 _ _) dX8_replace_9 ?_
  refine Ev.iload_n dX8_replace_12 rfl rfl ?_
  refine Ev.iload_n dX8_replace_13 rfl rfl ?_
  refine Ev.iastoreA (a := x1.toNatClampNeg) (pl900 hjj0) (by decide) ak_900 hi14 rfl rfl dX8_replace_14 ?_
  exact kn
theorem bkX8_replace_15 {d : Nat} {S : hs_T} {Q : Option av_T → hs_T → Prop} {x1 x2 : Int32} {j0 : Nat} (hq : Q none S) : Ev d mX8_replace 15 [some (vR 8 j0), some (vI x1), some (vI x2)] [] S Q := by
  exact Ev.vret dX8_replace_15 rfl hq
/-! EightWires$Trace.append(II)V -/
theorem bkX8_append_0 {d : Nat} {S : hs_T} {Q : Option av_T → hs_T → Prop} {x1 x2 : Int32} {j0 : Nat} {o3 o4 : Option av_T} (hjj0 : j0 < 4) (kn : Ev (d + 1) mX8_append 19 [some (vR 8 j0), some (vI x1), some (vI x2), some (vI (if 400 < ((S.1 8 j0 1) + x1) then 400 else ((S.1 8 j0 1) + x1))), some (vI (S.1 8 j0 1))] [] S Q) : Ev (d + 1) mX8_append 0 [some (vR 8 j0), some (vI x1), some (vI x2), o3, o4] [] S Q := by
  refine Ev.aload_n dX8_append_0 rfl rfl ?_
  refine Ev.get (v := vI (S.1 8 j0 1)) okX8 (by decide) fl_X8_15 (pl8 hjj0) (ff_8_1 _ _) dX8_append_1 ?_
  refine Ev.iload_n dX8_append_4 rfl rfl ?_
  refine Ev.iadd dX8_append_5 ?_
  refine Ev.sipush (v := 400) dX8_append_6 (by decide) ?_
  refine Ev.mmin ml_X8_23 (Nat.le_of_ble_eq_true rfl) dX8_append_9 ?_
  refine Ev.istore_n (ls' := [some (vR 8 j0), some (vI x1), some (vI x2), some (vI (if 400 < ((S.1 8 j0 1) + x1) then 400 else ((S.1 8 j0 1) + x1))), o4]) dX8_append_12 rfl (by decide) rfl ?_
  refine Ev.aload_n dX8_append_13 rfl rfl ?_
  refine Ev.get (v := vI (S.1 8 j0 1)) okX8 (by decide) fl_X8_15 (pl8 hjj0) (ff_8_1 _ _) dX8_append_14 ?_
  refine Ev.istore (ls' := [some (vR 8 j0), some (vI x1), some (vI x2), some (vI (if 400 < ((S.1 8 j0 1) + x1) then 400 else ((S.1 8 j0 1) + x1))), some (vI (S.1 8 j0 1))]) dX8_append_17 (by decide) rfl ?_
  exact kn
theorem bkX8_append_19 {d : Nat} {S : hs_T} {Q : Option av_T → hs_T → Prop} {x1 x2 x3 x4 : Int32} {j0 : Nat} (kt : x3 ≤ x4 → Ev d mX8_append 39 [some (vR 8 j0), some (vI x1), some (vI x2), some (vI x3), some (vI x4)] [] S Q) (kf : ¬ x3 ≤ x4 → Ev d mX8_append 25 [some (vR 8 j0), some (vI x1), some (vI x2), some (vI x3), some (vI x4)] [] S Q) : Ev d mX8_append 19 [some (vR 8 j0), some (vI x1), some (vI x2), some (vI x3), some (vI x4)] [] S Q := by
  refine Ev.iload dX8_append_19 rfl ?_
  refine Ev.iload_n dX8_append_21 rfl rfl ?_
  exact Ev.icmp_ge (tgt := 39) dX8_append_22 (by decide) kt kf
theorem bkX8_append_25 {d : Nat} {S : hs_T} {Q : Option av_T → hs_T → Prop} {x1 x2 x3 x4 : Int32} {j0 : Nat} (hjj0 : j0 < 4) (hi32 : vp_in x4 400) (kn : Ev d mX8_append 19 [some (vR 8 j0), some (vI x1), some (vI x2), some (vI x3), some (vI (x4 + 1))] [] (sk_ S 900 j0 (upd (S.1 900 j0) x4.toNatClampNeg x2)) Q) : Ev d mX8_append 25 [some (vR 8 j0), some (vI x1), some (vI x2), some (vI x3), some (vI x4)] [] S Q := by
  refine Ev.aload_n dX8_append_25 rfl rfl ?_
  refine Ev.get (v := vR 900 j0) okX8 (by decide) fl_X8_9 (pl8 hjj0) (ff_8_0 _ _) dX8_append_26 ?_
  refine Ev.iload dX8_append_29 rfl ?_
  refine Ev.iload_n dX8_append_31 rfl rfl ?_
  refine Ev.iastoreA (a := x4.toNatClampNeg) (pl900 hjj0) (by decide) ak_900 hi32 rfl rfl dX8_append_32 ?_
  refine Ev.iinc (v := (x4 + 1)) (ls' := [some (vR 8 j0), some (vI x1), some (vI x2), some (vI x3), some (vI (x4 + 1))]) dX8_append_33 rfl rfl (by decide) rfl ?_
  refine Ev.goto (tgt := 19) dX8_append_36 (by decide) ?_
  exact kn
theorem bkX8_append_39 {d : Nat} {S : hs_T} {Q : Option av_T → hs_T → Prop} {x1 x2 x3 x4 : Int32} {j0 : Nat} (hjj0 : j0 < 4) (hq : Q none (sk_ S 8 j0 (upd (S.1 8 j0) 1 x3))) : Ev d mX8_append 39 [some (vR 8 j0), some (vI x1), some (vI x2), some (vI x3), some (vI x4)] [] S Q := by
  refine Ev.aload_n dX8_append_39 rfl rfl ?_
  refine Ev.iload_n dX8_append_40 rfl rfl ?_
  refine Ev.put okX8 (by decide) fl_X8_15 (pl8 hjj0) (by decide) rfl rfl rfl rfl dX8_append_41 ?_
  exact Ev.vret dX8_append_44 rfl hq
/-! EightWires$Trace.copy(LEightWires$Trace;)V -/
theorem bkX8_copy_0 {d : Nat} {S : hs_T} {Q : Option av_T → hs_T → Prop} {j0 j1 : Nat} {o2 : Option av_T} (hjj1 : j1 < 4) (hjj0 : j0 < 4) (kn : Ev d mX8_copy 10 [some (vR 8 j0), some (vR 8 j1), some (vI 0)] [] (sk_ S 8 j0 (upd (S.1 8 j0) 1 (S.1 8 j1 1))) Q) : Ev d mX8_copy 0 [some (vR 8 j0), some (vR 8 j1), o2] [] S Q := by
  refine Ev.aload_n dX8_copy_0 rfl rfl ?_
  refine Ev.aload_n dX8_copy_1 rfl rfl ?_
  refine Ev.get (v := vI (S.1 8 j1 1)) okX8 (by decide) fl_X8_15 (pl8 hjj1) (ff_8_1 _ _) dX8_copy_2 ?_
  refine Ev.put okX8 (by decide) fl_X8_15 (pl8 hjj0) (by decide) rfl rfl rfl rfl dX8_copy_5 ?_
  refine Ev.iconst (v := 0) dX8_copy_8 (by decide) ?_
  refine Ev.istore_n (ls' := [some (vR 8 j0), some (vR 8 j1), some (vI 0)]) dX8_copy_9 rfl (by decide) rfl ?_
  exact kn
theorem bkX8_copy_10 {d : Nat} {S : hs_T} {Q : Option av_T → hs_T → Prop} {x2 : Int32} {j0 j1 : Nat} (hjj0 : j0 < 4) (kt : (S.1 8 j0 1) ≤ x2 → Ev d mX8_copy 36 [some (vR 8 j0), some (vR 8 j1), some (vI x2)] [] S Q) (kf : ¬ (S.1 8 j0 1) ≤ x2 → Ev d mX8_copy 18 [some (vR 8 j0), some (vR 8 j1), some (vI x2)] [] S Q) : Ev d mX8_copy 10 [some (vR 8 j0), some (vR 8 j1), some (vI x2)] [] S Q := by
  refine Ev.iload_n dX8_copy_10 rfl rfl ?_
  refine Ev.aload_n dX8_copy_11 rfl rfl ?_
  refine Ev.get (v := vI (S.1 8 j0 1)) okX8 (by decide) fl_X8_15 (pl8 hjj0) (ff_8_1 _ _) dX8_copy_12 ?_
  exact Ev.icmp_ge (tgt := 36) dX8_copy_15 (by decide) kt kf
theorem bkX8_copy_18 {d : Nat} {S : hs_T} {Q : Option av_T → hs_T → Prop} {x2 : Int32} {j0 j1 : Nat} (hjj0 : j0 < 4) (hjj1 : j1 < 4) (hi28 : vp_in x2 400) (kn : Ev d mX8_copy 10 [some (vR 8 j0), some (vR 8 j1), some (vI (x2 + 1))] [] (sk_ S 900 j0 (upd (S.1 900 j0) x2.toNatClampNeg (S.1 900 j1 x2.toNatClampNeg))) Q) : Ev d mX8_copy 18 [some (vR 8 j0), some (vR 8 j1), some (vI x2)] [] S Q := by
  refine Ev.aload_n dX8_copy_18 rfl rfl ?_
  refine Ev.get (v := vR 900 j0) okX8 (by decide) fl_X8_9 (pl8 hjj0) (ff_8_0 _ _) dX8_copy_19 ?_
  refine Ev.iload_n dX8_copy_22 rfl rfl ?_
  refine Ev.aload_n dX8_copy_23 rfl rfl ?_
  refine Ev.get (v := vR 900 j1) okX8 (by decide) fl_X8_9 (pl8 hjj1) (ff_8_0 _ _) dX8_copy_24 ?_
  refine Ev.iload_n dX8_copy_27 rfl rfl ?_
  refine Ev.ialoadA (a := x2.toNatClampNeg) (pl900 hjj1) (by decide) ak_900 hi28 rfl dX8_copy_28 ?_
  refine Ev.iastoreA (a := x2.toNatClampNeg) (pl900 hjj0) (by decide) ak_900 hi28 rfl rfl dX8_copy_29 ?_
  refine Ev.iinc (v := (x2 + 1)) (ls' := [some (vR 8 j0), some (vR 8 j1), some (vI (x2 + 1))]) dX8_copy_30 rfl rfl (by decide) rfl ?_
  refine Ev.goto (tgt := 10) dX8_copy_33 (by decide) ?_
  exact kn
theorem bkX8_copy_36 {d : Nat} {S : hs_T} {Q : Option av_T → hs_T → Prop} {x2 : Int32} {j0 j1 : Nat} (hq : Q none S) : Ev d mX8_copy 36 [some (vR 8 j0), some (vR 8 j1), some (vI x2)] [] S Q := by
  exact Ev.vret dX8_copy_36 rfl hq
/-! EightWires$Trace.high(II)Z -/
theorem bkX8_high_0 {d : Nat} {S : hs_T} {Q : Option av_T → hs_T → Prop} {x1 x2 : Int32} {j0 : Nat} (kt : x2 < 0 → Ev d mX8_high 29 [some (vR 8 j0), some (vI x1), some (vI x2)] [] S Q) (kf : ¬ x2 < 0 → Ev d mX8_high 4 [some (vR 8 j0), some (vI x1), some (vI x2)] [] S Q) : Ev d mX8_high 0 [some (vR 8 j0), some (vI x1), some (vI x2)] [] S Q := by
  refine Ev.iload_n dX8_high_0 rfl rfl ?_
  exact Ev.if_lt (tgt := 29) dX8_high_1 (by decide) kt kf
theorem bkX8_high_4 {d : Nat} {S : hs_T} {Q : Option av_T → hs_T → Prop} {x1 x2 : Int32} {j0 : Nat} (hjj0 : j0 < 4) (kt : (S.1 8 j0 1) ≤ x2 → Ev d mX8_high 29 [some (vR 8 j0), some (vI x1), some (vI x2)] [] S Q) (kf : ¬ (S.1 8 j0 1) ≤ x2 → Ev d mX8_high 12 [some (vR 8 j0), some (vI x1), some (vI x2)] [] S Q) : Ev d mX8_high 4 [some (vR 8 j0), some (vI x1), some (vI x2)] [] S Q := by
  refine Ev.iload_n dX8_high_4 rfl rfl ?_
  refine Ev.aload_n dX8_high_5 rfl rfl ?_
  refine Ev.get (v := vI (S.1 8 j0 1)) okX8 (by decide) fl_X8_15 (pl8 hjj0) (ff_8_1 _ _) dX8_high_6 ?_
  exact Ev.icmp_ge (tgt := 29) dX8_high_9 (by decide) kt kf
theorem bkX8_high_12 {d : Nat} {S : hs_T} {Q : Option av_T → hs_T → Prop} {x1 x2 : Int32} {j0 : Nat} (hjj0 : j0 < 4) (hi17 : vp_in x2 400) (kt : (((S.1 900 j0 x2.toNatClampNeg) >>> (x1 &&& 31)) &&& 1) = 0 → Ev d mX8_high 29 [some (vR 8 j0), some (vI x1), some (vI x2)] [] S Q) (kf : ¬ (((S.1 900 j0 x2.toNatClampNeg) >>> (x1 &&& 31)) &&& 1) = 0 → Ev d mX8_high 25 [some (vR 8 j0), some (vI x1), some (vI x2)] [] S Q) : Ev d mX8_high 12 [some (vR 8 j0), some (vI x1), some (vI x2)] [] S Q := by
  refine Ev.aload_n dX8_high_12 rfl rfl ?_
  refine Ev.get (v := vR 900 j0) okX8 (by decide) fl_X8_9 (pl8 hjj0) (ff_8_0 _ _) dX8_high_13 ?_
  refine Ev.iload_n dX8_high_16 rfl rfl ?_
  refine Ev.ialoadA (a := x2.toNatClampNeg) (pl900 hjj0) (by decide) ak_900 hi17 rfl dX8_high_17 ?_
  refine Ev.iload_n dX8_high_18 rfl rfl ?_
  refine Ev.ishr dX8_high_19 ?_
  refine Ev.iconst (v := 1) dX8_high_20 (by decide) ?_
  refine Ev.iand dX8_high_21 ?_
  exact Ev.if_eq (tgt := 29) dX8_high_22 (by decide) kt kf
theorem bkX8_high_25 {d : Nat} {S : hs_T} {Q : Option av_T → hs_T → Prop} {x1 x2 : Int32} {j0 : Nat} (kn : Ev d mX8_high 30 [some (vR 8 j0), some (vI x1), some (vI x2)] [vI 1] S Q) : Ev d mX8_high 25 [some (vR 8 j0), some (vI x1), some (vI x2)] [] S Q := by
  refine Ev.iconst (v := 1) dX8_high_25 (by decide) ?_
  refine Ev.goto (tgt := 30) dX8_high_26 (by decide) ?_
  exact kn
theorem bkX8_high_29 {d : Nat} {S : hs_T} {Q : Option av_T → hs_T → Prop} {x1 x2 : Int32} {j0 : Nat} (kn : Ev d mX8_high 30 [some (vR 8 j0), some (vI x1), some (vI x2)] [vI 0] S Q) : Ev d mX8_high 29 [some (vR 8 j0), some (vI x1), some (vI x2)] [] S Q := by
  refine Ev.iconst (v := 0) dX8_high_29 (by decide) ?_
  exact kn
theorem bkX8_high_30 {d : Nat} {S : hs_T} {Q : Option av_T → hs_T → Prop} {x1 x2 y0 : Int32} {j0 : Nat} (hn30 : narrow .boolean (.int y0) = .int y0) (hq : Q (some (vI y0)) S) : Ev d mX8_high 30 [some (vR 8 j0), some (vI x1), some (vI x2)] [vI y0] S Q := by
  exact Ev.iret dX8_high_30 rfl hn30 hq
/-! EightWires$Trace.changes(II)Z -/
theorem bkX8_changes_0 {d : Nat} {S : hs_T} {Q : Option av_T → hs_T → Prop} {x1 x2 : Int32} {j0 : Nat} (kt : x2 ≤ 0 → Ev d mX8_changes 38 [some (vR 8 j0), some (vI x1), some (vI x2)] [] S Q) (kf : ¬ x2 ≤ 0 → Ev d mX8_changes 4 [some (vR 8 j0), some (vI x1), some (vI x2)] [] S Q) : Ev d mX8_changes 0 [some (vR 8 j0), some (vI x1), some (vI x2)] [] S Q := by
  refine Ev.iload_n dX8_changes_0 rfl rfl ?_
  exact Ev.if_le (tgt := 38) dX8_changes_1 (by decide) kt kf
theorem bkX8_changes_4 {d : Nat} {S : hs_T} {Q : Option av_T → hs_T → Prop} {x1 x2 : Int32} {j0 : Nat} (hjj0 : j0 < 4) (kt : (S.1 8 j0 1) ≤ x2 → Ev d mX8_changes 38 [some (vR 8 j0), some (vI x1), some (vI x2)] [] S Q) (kf : ¬ (S.1 8 j0 1) ≤ x2 → Ev d mX8_changes 12 [some (vR 8 j0), some (vI x1), some (vI x2)] [] S Q) : Ev d mX8_changes 4 [some (vR 8 j0), some (vI x1), some (vI x2)] [] S Q := by
  refine Ev.iload_n dX8_changes_4 rfl rfl ?_
  refine Ev.aload_n dX8_changes_5 rfl rfl ?_
  refine Ev.get (v := vI (S.1 8 j0 1)) okX8 (by decide) fl_X8_15 (pl8 hjj0) (ff_8_1 _ _) dX8_changes_6 ?_
  exact Ev.icmp_ge (tgt := 38) dX8_changes_9 (by decide) kt kf
theorem bkX8_changes_12 {d : Nat} {S : hs_T} {Q : Option av_T → hs_T → Prop} {x1 x2 : Int32} {j0 : Nat} (hjj0 : j0 < 4) (hi17 : vp_in x2 400) (hi25 : vp_in (x2 - 1) 400) (kt : ((((S.1 900 j0 x2.toNatClampNeg) ^^^ (S.1 900 j0 (x2 - 1).toNatClampNeg)) >>> (x1 &&& 31)) &&& 1) = 0 → Ev d mX8_changes 38 [some (vR 8 j0), some (vI x1), some (vI x2)] [] S Q) (kf : ¬ ((((S.1 900 j0 x2.toNatClampNeg) ^^^ (S.1 900 j0 (x2 - 1).toNatClampNeg)) >>> (x1 &&& 31)) &&& 1) = 0 → Ev d mX8_changes 34 [some (vR 8 j0), some (vI x1), some (vI x2)] [] S Q) : Ev d mX8_changes 12 [some (vR 8 j0), some (vI x1), some (vI x2)] [] S Q := by
  refine Ev.aload_n dX8_changes_12 rfl rfl ?_
  refine Ev.get (v := vR 900 j0) okX8 (by decide) fl_X8_9 (pl8 hjj0) (ff_8_0 _ _) dX8_changes_13 ?_
  refine Ev.iload_n dX8_changes_16 rfl rfl ?_
  refine Ev.ialoadA (a := x2.toNatClampNeg) (pl900 hjj0) (by decide) ak_900 hi17 rfl dX8_changes_17 ?_
  refine Ev.aload_n dX8_changes_18 rfl rfl ?_
  refine Ev.get (v := vR 900 j0) okX8 (by decide) fl_X8_9 (pl8 hjj0) (ff_8_0 _ _) dX8_changes_19 ?_
  refine Ev.iload_n dX8_changes_22 rfl rfl ?_
  refine Ev.iconst (v := 1) dX8_changes_23 (by decide) ?_
  refine Ev.isub dX8_changes_24 ?_
  refine Ev.ialoadA (a := (x2 - 1).toNatClampNeg) (pl900 hjj0) (by decide) ak_900 hi25 rfl dX8_changes_25 ?_
  refine Ev.ixor dX8_changes_26 ?_
  refine Ev.iload_n dX8_changes_27 rfl rfl ?_
  refine Ev.ishr dX8_changes_28 ?_
  refine Ev.iconst (v := 1) dX8_changes_29 (by decide) ?_
  refine Ev.iand dX8_changes_30 ?_
  exact Ev.if_eq (tgt := 38) dX8_changes_31 (by decide) kt kf
theorem bkX8_changes_34 {d : Nat} {S : hs_T} {Q : Option av_T → hs_T → Prop} {x1 x2 : Int32} {j0 : Nat} (kn : Ev d mX8_changes 39 [some (vR 8 j0), some (vI x1), some (vI x2)] [vI 1] S Q) : Ev d mX8_changes 34 [some (vR 8 j0), some (vI x1), some (vI x2)] [] S Q := by
  refine Ev.iconst (v := 1) dX8_changes_34 (by decide) ?_
  refine Ev.goto (tgt := 39) dX8_changes_35 (by decide) ?_
  exact kn
theorem bkX8_changes_38 {d : Nat} {S : hs_T} {Q : Option av_T → hs_T → Prop} {x1 x2 : Int32} {j0 : Nat} (kn : Ev d mX8_changes 39 [some (vR 8 j0), some (vI x1), some (vI x2)] [vI 0] S Q) : Ev d mX8_changes 38 [some (vR 8 j0), some (vI x1), some (vI x2)] [] S Q := by
  refine Ev.iconst (v := 0) dX8_changes_38 (by decide) ?_
  exact kn
theorem bkX8_changes_39 {d : Nat} {S : hs_T} {Q : Option av_T → hs_T → Prop} {x1 x2 y0 : Int32} {j0 : Nat} (hn39 : narrow .boolean (.int y0) = .int y0) (hq : Q (some (vI y0)) S) : Ev d mX8_changes 39 [some (vR 8 j0), some (vI x1), some (vI x2)] [vI y0] S Q := by
  exact Ev.iret dX8_changes_39 rfl hn39 hq
/-! EightWires$Trace.rises(II)Z -/
theorem bkX8_rises_0 {d : Nat} {S : hs_T} {Q : Option av_T → hs_T → Prop} {x1 x2 : Int32} {j0 : Nat} (kt : x2 ≤ 0 → Ev d mX8_rises 40 [some (vR 8 j0), some (vI x1), some (vI x2)] [] S Q) (kf : ¬ x2 ≤ 0 → Ev d mX8_rises 4 [some (vR 8 j0), some (vI x1), some (vI x2)] [] S Q) : Ev d mX8_rises 0 [some (vR 8 j0), some (vI x1), some (vI x2)] [] S Q := by
  refine Ev.iload_n dX8_rises_0 rfl rfl ?_
  exact Ev.if_le (tgt := 40) dX8_rises_1 (by decide) kt kf
theorem bkX8_rises_4 {d : Nat} {S : hs_T} {Q : Option av_T → hs_T → Prop} {x1 x2 : Int32} {j0 : Nat} (hjj0 : j0 < 4) (kt : (S.1 8 j0 1) ≤ x2 → Ev d mX8_rises 40 [some (vR 8 j0), some (vI x1), some (vI x2)] [] S Q) (kf : ¬ (S.1 8 j0 1) ≤ x2 → Ev d mX8_rises 12 [some (vR 8 j0), some (vI x1), some (vI x2)] [] S Q) : Ev d mX8_rises 4 [some (vR 8 j0), some (vI x1), some (vI x2)] [] S Q := by
  refine Ev.iload_n dX8_rises_4 rfl rfl ?_
  refine Ev.aload_n dX8_rises_5 rfl rfl ?_
  refine Ev.get (v := vI (S.1 8 j0 1)) okX8 (by decide) fl_X8_15 (pl8 hjj0) (ff_8_1 _ _) dX8_rises_6 ?_
  exact Ev.icmp_ge (tgt := 40) dX8_rises_9 (by decide) kt kf
theorem bkX8_rises_12 {d : Nat} {S : hs_T} {Q : Option av_T → hs_T → Prop} {x1 x2 : Int32} {j0 : Nat} (hjj0 : j0 < 4) (hi17 : vp_in x2 400) (hi25 : vp_in (x2 - 1) 400) (kt : ((((S.1 900 j0 x2.toNatClampNeg) &&& ((S.1 900 j0 (x2 - 1).toNatClampNeg) ^^^ (-1))) >>> (x1 &&& 31)) &&& 1) = 0 → Ev d mX8_rises 40 [some (vR 8 j0), some (vI x1), some (vI x2)] [] S Q) (kf : ¬ ((((S.1 900 j0 x2.toNatClampNeg) &&& ((S.1 900 j0 (x2 - 1).toNatClampNeg) ^^^ (-1))) >>> (x1 &&& 31)) &&& 1) = 0 → Ev d mX8_rises 36 [some (vR 8 j0), some (vI x1), some (vI x2)] [] S Q) : Ev d mX8_rises 12 [some (vR 8 j0), some (vI x1), some (vI x2)] [] S Q := by
  refine Ev.aload_n dX8_rises_12 rfl rfl ?_
  refine Ev.get (v := vR 900 j0) okX8 (by decide) fl_X8_9 (pl8 hjj0) (ff_8_0 _ _) dX8_rises_13 ?_
  refine Ev.iload_n dX8_rises_16 rfl rfl ?_
  refine Ev.ialoadA (a := x2.toNatClampNeg) (pl900 hjj0) (by decide) ak_900 hi17 rfl dX8_rises_17 ?_
  refine Ev.aload_n dX8_rises_18 rfl rfl ?_
  refine Ev.get (v := vR 900 j0) okX8 (by decide) fl_X8_9 (pl8 hjj0) (ff_8_0 _ _) dX8_rises_19 ?_
  refine Ev.iload_n dX8_rises_22 rfl rfl ?_
  refine Ev.iconst (v := 1) dX8_rises_23 (by decide) ?_
  refine Ev.isub dX8_rises_24 ?_
  refine Ev.ialoadA (a := (x2 - 1).toNatClampNeg) (pl900 hjj0) (by decide) ak_900 hi25 rfl dX8_rises_25 ?_
  refine Ev.iconst (v := (-1)) dX8_rises_26 (by decide) ?_
  refine Ev.ixor dX8_rises_27 ?_
  refine Ev.iand dX8_rises_28 ?_
  refine Ev.iload_n dX8_rises_29 rfl rfl ?_
  refine Ev.ishr dX8_rises_30 ?_
  refine Ev.iconst (v := 1) dX8_rises_31 (by decide) ?_
  refine Ev.iand dX8_rises_32 ?_
  exact Ev.if_eq (tgt := 40) dX8_rises_33 (by decide) kt kf
theorem bkX8_rises_36 {d : Nat} {S : hs_T} {Q : Option av_T → hs_T → Prop} {x1 x2 : Int32} {j0 : Nat} (kn : Ev d mX8_rises 41 [some (vR 8 j0), some (vI x1), some (vI x2)] [vI 1] S Q) : Ev d mX8_rises 36 [some (vR 8 j0), some (vI x1), some (vI x2)] [] S Q := by
  refine Ev.iconst (v := 1) dX8_rises_36 (by decide) ?_
  refine Ev.goto (tgt := 41) dX8_rises_37 (by decide) ?_
  exact kn
theorem bkX8_rises_40 {d : Nat} {S : hs_T} {Q : Option av_T → hs_T → Prop} {x1 x2 : Int32} {j0 : Nat} (kn : Ev d mX8_rises 41 [some (vR 8 j0), some (vI x1), some (vI x2)] [vI 0] S Q) : Ev d mX8_rises 40 [some (vR 8 j0), some (vI x1), some (vI x2)] [] S Q := by
  refine Ev.iconst (v := 0) dX8_rises_40 (by decide) ?_
  exact kn
theorem bkX8_rises_41 {d : Nat} {S : hs_T} {Q : Option av_T → hs_T → Prop} {x1 x2 y0 : Int32} {j0 : Nat} (hn41 : narrow .boolean (.int y0) = .int y0) (hq : Q (some (vI y0)) S) : Ev d mX8_rises 41 [some (vR 8 j0), some (vI x1), some (vI x2)] [vI y0] S Q := by
  exact Ev.iret dX8_rises_41 rfl hn41 hq
/-! EightWires$Trace.falls(II)Z -/
theorem bkX8_falls_0 {d : Nat} {S : hs_T} {Q : Option av_T → hs_T → Prop} {x1 x2 : Int32} {j0 : Nat} (kt : x2 ≤ 0 → Ev d mX8_falls 40 [some (vR 8 j0), some (vI x1), some (vI x2)] [] S Q) (kf : ¬ x2 ≤ 0 → Ev d mX8_falls 4 [some (vR 8 j0), some (vI x1), some (vI x2)] [] S Q) : Ev d mX8_falls 0 [some (vR 8 j0), some (vI x1), some (vI x2)] [] S Q := by
  refine Ev.iload_n dX8_falls_0 rfl rfl ?_
  exact Ev.if_le (tgt := 40) dX8_falls_1 (by decide) kt kf
theorem bkX8_falls_4 {d : Nat} {S : hs_T} {Q : Option av_T → hs_T → Prop} {x1 x2 : Int32} {j0 : Nat} (hjj0 : j0 < 4) (kt : (S.1 8 j0 1) ≤ x2 → Ev d mX8_falls 40 [some (vR 8 j0), some (vI x1), some (vI x2)] [] S Q) (kf : ¬ (S.1 8 j0 1) ≤ x2 → Ev d mX8_falls 12 [some (vR 8 j0), some (vI x1), some (vI x2)] [] S Q) : Ev d mX8_falls 4 [some (vR 8 j0), some (vI x1), some (vI x2)] [] S Q := by
  refine Ev.iload_n dX8_falls_4 rfl rfl ?_
  refine Ev.aload_n dX8_falls_5 rfl rfl ?_
  refine Ev.get (v := vI (S.1 8 j0 1)) okX8 (by decide) fl_X8_15 (pl8 hjj0) (ff_8_1 _ _) dX8_falls_6 ?_
  exact Ev.icmp_ge (tgt := 40) dX8_falls_9 (by decide) kt kf
theorem bkX8_falls_12 {d : Nat} {S : hs_T} {Q : Option av_T → hs_T → Prop} {x1 x2 : Int32} {j0 : Nat} (hjj0 : j0 < 4) (hi17 : vp_in x2 400) (hi27 : vp_in (x2 - 1) 400) (kt : (((((S.1 900 j0 x2.toNatClampNeg) ^^^ (-1)) &&& (S.1 900 j0 (x2 - 1).toNatClampNeg)) >>> (x1 &&& 31)) &&& 1) = 0 → Ev d mX8_falls 40 [some (vR 8 j0), some (vI x1), some (vI x2)] [] S Q) (kf : ¬ (((((S.1 900 j0 x2.toNatClampNeg) ^^^ (-1)) &&& (S.1 900 j0 (x2 - 1).toNatClampNeg)) >>> (x1 &&& 31)) &&& 1) = 0 → Ev d mX8_falls 36 [some (vR 8 j0), some (vI x1), some (vI x2)] [] S Q) : Ev d mX8_falls 12 [some (vR 8 j0), some (vI x1), some (vI x2)] [] S Q := by
  refine Ev.aload_n dX8_falls_12 rfl rfl ?_
  refine Ev.get (v := vR 900 j0) okX8 (by decide) fl_X8_9 (pl8 hjj0) (ff_8_0 _ _) dX8_falls_13 ?_
  refine Ev.iload_n dX8_falls_16 rfl rfl ?_
  refine Ev.ialoadA (a := x2.toNatClampNeg) (pl900 hjj0) (by decide) ak_900 hi17 rfl dX8_falls_17 ?_
  refine Ev.iconst (v := (-1)) dX8_falls_18 (by decide) ?_
  refine Ev.ixor dX8_falls_19 ?_
  refine Ev.aload_n dX8_falls_20 rfl rfl ?_
  refine Ev.get (v := vR 900 j0) okX8 (by decide) fl_X8_9 (pl8 hjj0) (ff_8_0 _ _) dX8_falls_21 ?_
  refine Ev.iload_n dX8_falls_24 rfl rfl ?_
  refine Ev.iconst (v := 1) dX8_falls_25 (by decide) ?_
  refine Ev.isub dX8_falls_26 ?_
  refine Ev.ialoadA (a := (x2 - 1).toNatClampNeg) (pl900 hjj0) (by decide) ak_900 hi27 rfl dX8_falls_27 ?_
  refine Ev.iand dX8_falls_28 ?_
  refine Ev.iload_n dX8_falls_29 rfl rfl ?_
  refine Ev.ishr dX8_falls_30 ?_
  refine Ev.iconst (v := 1) dX8_falls_31 (by decide) ?_
  refine Ev.iand dX8_falls_32 ?_
  exact Ev.if_eq (tgt := 40) dX8_falls_33 (by decide) kt kf
theorem bkX8_falls_36 {d : Nat} {S : hs_T} {Q : Option av_T → hs_T → Prop} {x1 x2 : Int32} {j0 : Nat} (kn : Ev d mX8_falls 41 [some (vR 8 j0), some (vI x1), some (vI x2)] [vI 1] S Q) : Ev d mX8_falls 36 [some (vR 8 j0), some (vI x1), some (vI x2)] [] S Q := by
  refine Ev.iconst (v := 1) dX8_falls_36 (by decide) ?_
  refine Ev.goto (tgt := 41) dX8_falls_37 (by decide) ?_
  exact kn
theorem bkX8_falls_40 {d : Nat} {S : hs_T} {Q : Option av_T → hs_T → Prop} {x1 x2 : Int32} {j0 : Nat} (kn : Ev d mX8_falls 41 [some (vR 8 j0), some (vI x1), some (vI x2)] [vI 0] S Q) : Ev d mX8_falls 40 [some (vR 8 j0), some (vI x1), some (vI x2)] [] S Q := by
  refine Ev.iconst (v := 0) dX8_falls_40 (by decide) ?_
  exact kn
theorem bkX8_falls_41 {d : Nat} {S : hs_T} {Q : Option av_T → hs_T → Prop} {x1 x2 y0 : Int32} {j0 : Nat} (hn41 : narrow .boolean (.int y0) = .int y0) (hq : Q (some (vI y0)) S) : Ev d mX8_falls 41 [some (vR 8 j0), some (vI x1), some (vI x2)] [vI y0] S Q := by
  exact Ev.iret dX8_falls_41 rfl hn41 hq
/-! EightWires$Trace.beginsRun(I)Z -/
theorem bkX8_beginsRun_0 {d : Nat} {S : hs_T} {Q : Option av_T → hs_T → Prop} {x1 : Int32} {j0 : Nat} (kt : x1 = 0 → Ev d mX8_beginsRun 19 [some (vR 8 j0), some (vI x1)] [] S Q) (kf : ¬ x1 = 0 → Ev d mX8_beginsRun 4 [some (vR 8 j0), some (vI x1)] [] S Q) : Ev d mX8_beginsRun 0 [some (vR 8 j0), some (vI x1)] [] S Q := by
  refine Ev.iload_n dX8_beginsRun_0 rfl rfl ?_
  exact Ev.if_eq (tgt := 19) dX8_beginsRun_1 (by decide) kt kf
theorem bkX8_beginsRun_4 {d : Nat} {S : hs_T} {Q : Option av_T → hs_T → Prop} {P : Int32 → hs_T → Prop} {x1 : Int32} {j0 : Nat} (hjj0 : j0 < 4) (hC : Ci d mX8_sample [vR 8 j0, vI x1] S P) (kk : ∀ v S', P v S' → Ev (d + 1) mX8_beginsRun 9 [some (vR 8 j0), some (vI x1)] [vI v] S' Q) : Ev (d + 1) mX8_beginsRun 4 [some (vR 8 j0), some (vI x1)] [] S Q := by
  refine Ev.aload_n dX8_beginsRun_4 rfl rfl ?_
  refine Ev.iload_n dX8_beginsRun_5 rfl rfl ?_
  exact Ev.callV (as := [vI x1]) (rest := []) okX8_sample in_X8_sample ml_X8_29 rfl (Nat.le_of_ble_eq_true rfl) (pl8 hjj0) (by decide) rfl rfl dX8_beginsRun_6 hC (fun r S' h => by obtain ⟨v, rfl, h⟩ := h; exact kk v S' h)
theorem bkX8_beginsRun_9 {d : Nat} {S : hs_T} {Q : Option av_T → hs_T → Prop} {P : Int32 → hs_T → Prop} {x1 y0 : Int32} {j0 : Nat} (hjj0 : j0 < 4) (hC : Ci d mX8_sample [vR 8 j0, vI (x1 - 1)] S P) (kk : ∀ v S', P v S' → Ev (d + 1) mX8_beginsRun 16 [some (vR 8 j0), some (vI x1)] [vI v, vI y0] S' Q) : Ev (d + 1) mX8_beginsRun 9 [some (vR 8 j0), some (vI x1)] [vI y0] S Q := by
  refine Ev.aload_n dX8_beginsRun_9 rfl rfl ?_
  refine Ev.iload_n dX8_beginsRun_10 rfl rfl ?_
  refine Ev.iconst (v := 1) dX8_beginsRun_11 (by decide) ?_
  refine Ev.isub dX8_beginsRun_12 ?_
  exact Ev.callV (as := [vI (x1 - 1)]) (rest := [vI y0]) okX8_sample in_X8_sample ml_X8_29 rfl (Nat.le_of_ble_eq_true rfl) (pl8 hjj0) (by decide) rfl rfl dX8_beginsRun_13 hC (fun r S' h => by obtain ⟨v, rfl, h⟩ := h; exact kk v S' h)
theorem bkX8_beginsRun_16 {d : Nat} {S : hs_T} {Q : Option av_T → hs_T → Prop} {x1 y0 y1 : Int32} {j0 : Nat} (kt : y1 = y0 → Ev d mX8_beginsRun 23 [some (vR 8 j0), some (vI x1)] [] S Q) (kf : ¬ y1 = y0 → Ev d mX8_beginsRun 19 [some (vR 8 j0), some (vI x1)] [] S Q) : Ev d mX8_beginsRun 16 [some (vR 8 j0), some (vI x1)] [vI y0, vI y1] S Q := by
  exact Ev.icmp_eq (tgt := 23) dX8_beginsRun_16 (by decide) kt kf
theorem bkX8_beginsRun_19 {d : Nat} {S : hs_T} {Q : Option av_T → hs_T → Prop} {x1 : Int32} {j0 : Nat} (kn : Ev d mX8_beginsRun 24 [some (vR 8 j0), some (vI x1)] [vI 1] S Q) : Ev d mX8_beginsRun 19 [some (vR 8 j0), some (vI x1)] [] S Q := by
  refine Ev.iconst (v := 1) dX8_beginsRun_19 (by decide) ?_
  refine Ev.goto (tgt := 24) dX8_beginsRun_20 (by decide) ?_
  exact kn
theorem bkX8_beginsRun_23 {d : Nat} {S : hs_T} {Q : Option av_T → hs_T → Prop} {x1 : Int32} {j0 : Nat} (kn : Ev d mX8_beginsRun 24 [some (vR 8 j0), some (vI x1)] [vI 0] S Q) : Ev d mX8_beginsRun 23 [some (vR 8 j0), some (vI x1)] [] S Q := by
  refine Ev.iconst (v := 0) dX8_beginsRun_23 (by decide) ?_
  exact kn
theorem bkX8_beginsRun_24 {d : Nat} {S : hs_T} {Q : Option av_T → hs_T → Prop} {x1 y0 : Int32} {j0 : Nat} (hn24 : narrow .boolean (.int y0) = .int y0) (hq : Q (some (vI y0)) S) : Ev d mX8_beginsRun 24 [some (vR 8 j0), some (vI x1)] [vI y0] S Q := by
  exact Ev.iret dX8_beginsRun_24 rfl hn24 hq
/-! EightWires$Trace.edgesSeen(II)I -/
theorem bkX8_edgesSeen_0 {d : Nat} {S : hs_T} {Q : Option av_T → hs_T → Prop} {x1 x2 : Int32} {j0 : Nat} {o3 o4 : Option av_T} (kn : Ev d mX8_edgesSeen 7 [some (vR 8 j0), some (vI x1), some (vI x2), some (vI 0), some (vI (x2 + x1))] [] S Q) : Ev d mX8_edgesSeen 0 [some (vR 8 j0), some (vI x1), some (vI x2), o3, o4] [] S Q := by
  refine Ev.iconst (v := 0) dX8_edgesSeen_0 (by decide) ?_
  refine Ev.istore_n (ls' := [some (vR 8 j0), some (vI x1), some (vI x2), some (vI 0), o4]) dX8_edgesSeen_1 rfl (by decide) rfl ?_
  refine Ev.iload_n dX8_edgesSeen_2 rfl rfl ?_
  refine Ev.iload_n dX8_edgesSeen_3 rfl rfl ?_
  refine Ev.iadd dX8_edgesSeen_4 ?_
  refine Ev.istore (ls' := [some (vR 8 j0), some (vI x1), some (vI x2), some (vI 0), some (vI (x2 + x1))]) dX8_edgesSeen_5 (by decide) rfl ?_
  exact kn
theorem bkX8_edgesSeen_7 {d : Nat} {S : hs_T} {Q : Option av_T → hs_T → Prop} {x1 x2 x3 x4 : Int32} {j0 : Nat} (kt : x1 ≤ 0 → Ev d mX8_edgesSeen 50 [some (vR 8 j0), some (vI x1), some (vI x2), some (vI x3), some (vI x4)] [] S Q) (kf : ¬ x1 ≤ 0 → Ev d mX8_edgesSeen 11 [some (vR 8 j0), some (vI x1), some (vI x2), some (vI x3), some (vI x4)] [] S Q) : Ev d mX8_edgesSeen 7 [some (vR 8 j0), some (vI x1), some (vI x2), some (vI x3), some (vI x4)] [] S Q := by
  refine Ev.iload_n dX8_edgesSeen_7 rfl rfl ?_
  exact Ev.if_le (tgt := 50) dX8_edgesSeen_8 (by decide) kt kf
theorem bkX8_edgesSeen_11 {d : Nat} {S : hs_T} {Q : Option av_T → hs_T → Prop} {x1 x2 x3 x4 : Int32} {j0 : Nat} (hjj0 : j0 < 4) (kt : (S.1 8 j0 1) ≤ x4 → Ev d mX8_edgesSeen 50 [some (vR 8 j0), some (vI x1), some (vI x2), some (vI x3), some (vI x4)] [] S Q) (kf : ¬ (S.1 8 j0 1) ≤ x4 → Ev d mX8_edgesSeen 20 [some (vR 8 j0), some (vI x1), some (vI x2), some (vI x3), some (vI x4)] [] S Q) : Ev d mX8_edgesSeen 11 [some (vR 8 j0), some (vI x1), some (vI x2), some (vI x3), some (vI x4)] [] S Q := by
  refine Ev.iload dX8_edgesSeen_11 rfl ?_
  refine Ev.aload_n dX8_edgesSeen_13 rfl rfl ?_
  refine Ev.get (v := vI (S.1 8 j0 1)) okX8 (by decide) fl_X8_15 (pl8 hjj0) (ff_8_1 _ _) dX8_edgesSeen_14 ?_
  exact Ev.icmp_ge (tgt := 50) dX8_edgesSeen_17 (by decide) kt kf
theorem bkX8_edgesSeen_20 {d : Nat} {S : hs_T} {Q : Option av_T → hs_T → Prop} {P : Int32 → hs_T → Prop} {x1 x2 x3 x4 : Int32} {j0 : Nat} (hjj0 : j0 < 4) (hC : Ci d mX8_sample [vR 8 j0, vI x4] S P) (kk : ∀ v S', P v S' → Ev (d + 1) mX8_edgesSeen 27 [some (vR 8 j0), some (vI x1), some (vI x2), some (vI x3), some (vI x4)] [vI v, vI x3] S' Q) : Ev (d + 1) mX8_edgesSeen 20 [some (vR 8 j0), some (vI x1), some (vI x2), some (vI x3), some (vI x4)] [] S Q := by
  refine Ev.iload_n dX8_edgesSeen_20 rfl rfl ?_
  refine Ev.aload_n dX8_edgesSeen_21 rfl rfl ?_
  refine Ev.iload dX8_edgesSeen_22 rfl ?_
  exact Ev.callV (as := [vI x4]) (rest := [vI x3]) okX8_sample in_X8_sample ml_X8_29 rfl (Nat.le_of_ble_eq_true rfl) (pl8 hjj0) (by decide) rfl rfl dX8_edgesSeen_24 hC (fun r S' h => by obtain ⟨v, rfl, h⟩ := h; exact kk v S' h)
theorem bkX8_edgesSeen_27 {d : Nat} {S : hs_T} {Q : Option av_T → hs_T → Prop} {P : Int32 → hs_T → Prop} {x1 x2 x3 x4 y0 y1 : Int32} {j0 : Nat} (hjj0 : j0 < 4) (hC : Ci d mX8_sample [vR 8 j0, vI (x4 - x1)] S P) (kk : ∀ v S', P v S' → Ev (d + 1) mX8_edgesSeen 35 [some (vR 8 j0), some (vI x1), some (vI x2), some (vI x3), some (vI x4)] [vI v, vI y0, vI y1] S' Q) : Ev (d + 1) mX8_edgesSeen 27 [some (vR 8 j0), some (vI x1), some (vI x2), some (vI x3), some (vI x4)] [vI y0, vI y1] S Q := by
  refine Ev.aload_n dX8_edgesSeen_27 rfl rfl ?_
  refine Ev.iload dX8_edgesSeen_28 rfl ?_
  refine Ev.iload_n dX8_edgesSeen_30 rfl rfl ?_
  refine Ev.isub dX8_edgesSeen_31 ?_
  exact Ev.callV (as := [vI (x4 - x1)]) (rest := [vI y0, vI y1]) okX8_sample in_X8_sample ml_X8_29 rfl (Nat.le_of_ble_eq_true rfl) (pl8 hjj0) (by decide) rfl rfl dX8_edgesSeen_32 hC (fun r S' h => by obtain ⟨v, rfl, h⟩ := h; exact kk v S' h)
theorem bkX8_edgesSeen_35 {d : Nat} {S : hs_T} {Q : Option av_T → hs_T → Prop} {P : Int32 → hs_T → Prop} {x1 x2 x3 x4 y0 y1 y2 : Int32} {j0 : Nat} (hC : Ci d mJ6_bitCount_0f7a4 [vI (y1 ^^^ y0)] S P) (kk : ∀ v S', P v S' → Ev (d + 1) mX8_edgesSeen 39 [some (vR 8 j0), some (vI x1), some (vI x2), some (vI x3), some (vI x4)] [vI v, vI y2] S' Q) : Ev (d + 1) mX8_edgesSeen 35 [some (vR 8 j0), some (vI x1), some (vI x2), some (vI x3), some (vI x4)] [vI y0, vI y1, vI y2] S Q := by
  refine Ev.ixor dX8_edgesSeen_35 ?_
  exact Ev.callS (as := [vI (y1 ^^^ y0)]) (rest := [vI y2]) okJ6_bitCount_0f7a4 stJ6_bitCount_0f7a4 ml_X8_33 rfl (Nat.le_of_ble_eq_true rfl) rfl dX8_edgesSeen_36 hC (fun r S' h => by obtain ⟨v, rfl, h⟩ := h; exact kk v S' h)
theorem bkX8_edgesSeen_39 {d : Nat} {S : hs_T} {Q : Option av_T → hs_T → Prop} {x1 x2 x3 x4 y0 y1 : Int32} {j0 : Nat} (kn : Ev d mX8_edgesSeen 7 [some (vR 8 j0), some (vI x1), some (vI x2), some (vI (y1 + y0)), some (vI (x4 + x1))] [] S Q) : Ev d mX8_edgesSeen 39 [some (vR 8 j0), some (vI x1), some (vI x2), some (vI x3), some (vI x4)] [vI y0, vI y1] S Q := by
  refine Ev.iadd dX8_edgesSeen_39 ?_
  refine Ev.istore_n (ls' := [some (vR 8 j0), some (vI x1), some (vI x2), some (vI (y1 + y0)), some (vI x4)]) dX8_edgesSeen_40 rfl (by decide) rfl ?_
  refine Ev.iload dX8_edgesSeen_41 rfl ?_
  refine Ev.iload_n dX8_edgesSeen_43 rfl rfl ?_
  refine Ev.iadd dX8_edgesSeen_44 ?_
  refine Ev.istore (ls' := [some (vR 8 j0), some (vI x1), some (vI x2), some (vI (y1 + y0)), some (vI (x4 + x1))]) dX8_edgesSeen_45 (by decide) rfl ?_
  refine Ev.goto (tgt := 7) dX8_edgesSeen_47 (by decide) ?_
  exact kn
theorem bkX8_edgesSeen_50 {d : Nat} {S : hs_T} {Q : Option av_T → hs_T → Prop} {x1 x2 x3 x4 : Int32} {j0 : Nat} (hq : Q (some (vI x3)) S) : Ev d mX8_edgesSeen 50 [some (vR 8 j0), some (vI x1), some (vI x2), some (vI x3), some (vI x4)] [] S Q := by
  refine Ev.iload_n dX8_edgesSeen_50 rfl rfl ?_
  exact Ev.iret dX8_edgesSeen_51 rfl rfl hq
/-! EightWires$Trace.unlikeLaid(LEightWires$Trace;I)I -/
theorem bkX8_unlikeLaid_0 {d : Nat} {S : hs_T} {Q : Option av_T → hs_T → Prop} {x2 : Int32} {j0 j1 : Nat} {o3 o4 o5 : Option av_T} (kn : Ev d mX8_unlikeLaid 8 [some (vR 8 j0), some (vR 8 j1), some (vI x2), some (vI 0), some (vI 0), some (vI 0)] [] S Q) : Ev d mX8_unlikeLaid 0 [some (vR 8 j0), some (vR 8 j1), some (vI x2), o3, o4, o5] [] S Q := by
  refine Ev.iconst (v := 0) dX8_unlikeLaid_0 (by decide) ?_
  refine Ev.istore_n (ls' := [some (vR 8 j0), some (vR 8 j1), some (vI x2), some (vI 0), o4, o5]) dX8_unlikeLaid_1 rfl (by decide) rfl ?_
  refine Ev.iconst (v := 0) dX8_unlikeLaid_2 (by decide) ?_
  refine Ev.istore (ls' := [some (vR 8 j0), some (vR 8 j1), some (vI x2), some (vI 0), some (vI 0), o5]) dX8_unlikeLaid_3 (by decide) rfl ?_
  refine Ev.iconst (v := 0) dX8_unlikeLaid_5 (by decide) ?_
  refine Ev.istore (ls' := [some (vR 8 j0), some (vR 8 j1), some (vI x2), some (vI 0), some (vI 0), some (vI 0)]) dX8_unlikeLaid_6 (by decide) rfl ?_
  exact kn
theorem bkX8_unlikeLaid_8 {d : Nat} {S : hs_T} {Q : Option av_T → hs_T → Prop} {x2 x3 x4 x5 : Int32} {j0 j1 : Nat} (hjj0 : j0 < 4) (kt : (S.1 8 j0 1) ≤ x5 → Ev d mX8_unlikeLaid 67 [some (vR 8 j0), some (vR 8 j1), some (vI x2), some (vI x3), some (vI x4), some (vI x5)] [] S Q) (kf : ¬ (S.1 8 j0 1) ≤ x5 → Ev d mX8_unlikeLaid 17 [some (vR 8 j0), some (vR 8 j1), some (vI x2), some (vI x3), some (vI x4), some (vI x5)] [] S Q) : Ev d mX8_unlikeLaid 8 [some (vR 8 j0), some (vR 8 j1), some (vI x2), some (vI x3), some (vI x4), some (vI x5)] [] S Q := by
  refine Ev.iload dX8_unlikeLaid_8 rfl ?_
  refine Ev.aload_n dX8_unlikeLaid_10 rfl rfl ?_
  refine Ev.get (v := vI (S.1 8 j0 1)) okX8 (by decide) fl_X8_15 (pl8 hjj0) (ff_8_1 _ _) dX8_unlikeLaid_11 ?_
  exact Ev.icmp_ge (tgt := 67) dX8_unlikeLaid_14 (by decide) kt kf
theorem bkX8_unlikeLaid_17 {d : Nat} {S : hs_T} {Q : Option av_T → hs_T → Prop} {P : Int32 → hs_T → Prop} {x2 x3 x4 x5 : Int32} {j0 j1 : Nat} (hjj1 : j1 < 4) (hC : Ci d mX8_has [vR 8 j1, vI (x5 + x2)] S P) (kk : ∀ v S', P v S' → Ev (d + 1) mX8_unlikeLaid 25 [some (vR 8 j0), some (vR 8 j1), some (vI x2), some (vI x3), some (vI x4), some (vI x5)] [vI v] S' Q) : Ev (d + 1) mX8_unlikeLaid 17 [some (vR 8 j0), some (vR 8 j1), some (vI x2), some (vI x3), some (vI x4), some (vI x5)] [] S Q := by
  refine Ev.aload_n dX8_unlikeLaid_17 rfl rfl ?_
  refine Ev.iload dX8_unlikeLaid_18 rfl ?_
  refine Ev.iload_n dX8_unlikeLaid_20 rfl rfl ?_
  refine Ev.iadd dX8_unlikeLaid_21 ?_
  exact Ev.callV (as := [vI (x5 + x2)]) (rest := []) okX8_has in_X8_has ml_X8_19 rfl (Nat.le_of_ble_eq_true rfl) (pl8 hjj1) (by decide) rfl rfl dX8_unlikeLaid_22 hC (fun r S' h => by obtain ⟨v, rfl, h⟩ := h; exact kk v S' h)
theorem bkX8_unlikeLaid_25 {d : Nat} {S : hs_T} {Q : Option av_T → hs_T → Prop} {x2 x3 x4 x5 y0 : Int32} {j0 j1 : Nat} (kt : ¬ y0 = 0 → Ev d mX8_unlikeLaid 31 [some (vR 8 j0), some (vR 8 j1), some (vI x2), some (vI x3), some (vI x4), some (vI x5)] [] S Q) (kf : y0 = 0 → Ev d mX8_unlikeLaid 28 [some (vR 8 j0), some (vR 8 j1), some (vI x2), some (vI x3), some (vI x4), some (vI x5)] [] S Q) : Ev d mX8_unlikeLaid 25 [some (vR 8 j0), some (vR 8 j1), some (vI x2), some (vI x3), some (vI x4), some (vI x5)] [vI y0] S Q := by
  exact Ev.if_ne (tgt := 31) dX8_unlikeLaid_25 (by decide) kt kf
theorem bkX8_unlikeLaid_28 {d : Nat} {S : hs_T} {Q : Option av_T → hs_T → Prop} {x2 x3 x4 x5 : Int32} {j0 j1 : Nat} (kn : Ev d mX8_unlikeLaid 61 [some (vR 8 j0), some (vR 8 j1), some (vI x2), some (vI x3), some (vI x4), some (vI x5)] [] S Q) : Ev d mX8_unlikeLaid 28 [some (vR 8 j0), some (vR 8 j1), some (vI x2), some (vI x3), some (vI x4), some (vI x5)] [] S Q := by
  refine Ev.goto (tgt := 61) dX8_unlikeLaid_28 (by decide) ?_
  exact kn
theorem bkX8_unlikeLaid_31 {d : Nat} {S : hs_T} {Q : Option av_T → hs_T → Prop} {P : Int32 → hs_T → Prop} {x2 x3 x4 x5 : Int32} {j0 j1 : Nat} (hjj0 : j0 < 4) (hC : Ci d mX8_sample [vR 8 j0, vI x5] S P) (kk : ∀ v S', P v S' → Ev (d + 1) mX8_unlikeLaid 42 [some (vR 8 j0), some (vR 8 j1), some (vI x2), some (vI (x3 + 1)), some (vI x4), some (vI x5)] [vI v, vI x4] S' Q) : Ev (d + 1) mX8_unlikeLaid 31 [some (vR 8 j0), some (vR 8 j1), some (vI x2), some (vI x3), some (vI x4), some (vI x5)] [] S Q := by
  refine Ev.iinc (v := (x3 + 1)) (ls' := [some (vR 8 j0), some (vR 8 j1), some (vI x2), some (vI (x3 + 1)), some (vI x4), some (vI x5)]) dX8_unlikeLaid_31 rfl rfl (by decide) rfl ?_
  refine Ev.iload dX8_unlikeLaid_34 rfl ?_
  refine Ev.aload_n dX8_unlikeLaid_36 rfl rfl ?_
  refine Ev.iload dX8_unlikeLaid_37 rfl ?_
  exact Ev.callV (as := [vI x5]) (rest := [vI x4]) okX8_sample in_X8_sample ml_X8_29 rfl (Nat.le_of_ble_eq_true rfl) (pl8 hjj0) (by decide) rfl rfl dX8_unlikeLaid_39 hC (fun r S' h => by obtain ⟨v, rfl, h⟩ := h; exact kk v S' h)
theorem bkX8_unlikeLaid_42 {d : Nat} {S : hs_T} {Q : Option av_T → hs_T → Prop} {P : Int32 → hs_T → Prop} {x2 x3 x4 x5 y0 y1 : Int32} {j0 j1 : Nat} (hjj1 : j1 < 4) (hC : Ci d mX8_sample [vR 8 j1, vI (x5 + x2)] S P) (kk : ∀ v S', P v S' → Ev (d + 1) mX8_unlikeLaid 50 [some (vR 8 j0), some (vR 8 j1), some (vI x2), some (vI x3), some (vI x4), some (vI x5)] [vI v, vI y0, vI y1] S' Q) : Ev (d + 1) mX8_unlikeLaid 42 [some (vR 8 j0), some (vR 8 j1), some (vI x2), some (vI x3), some (vI x4), some (vI x5)] [vI y0, vI y1] S Q := by
  refine Ev.aload_n dX8_unlikeLaid_42 rfl rfl ?_
  refine Ev.iload dX8_unlikeLaid_43 rfl ?_
  refine Ev.iload_n dX8_unlikeLaid_45 rfl rfl ?_
  refine Ev.iadd dX8_unlikeLaid_46 ?_
  exact Ev.callV (as := [vI (x5 + x2)]) (rest := [vI y0, vI y1]) okX8_sample in_X8_sample ml_X8_29 rfl (Nat.le_of_ble_eq_true rfl) (pl8 hjj1) (by decide) rfl rfl dX8_unlikeLaid_47 hC (fun r S' h => by obtain ⟨v, rfl, h⟩ := h; exact kk v S' h)
theorem bkX8_unlikeLaid_50 {d : Nat} {S : hs_T} {Q : Option av_T → hs_T → Prop} {x2 x3 x4 x5 y0 y1 y2 : Int32} {j0 j1 : Nat} (kt : y1 = y0 → Ev d mX8_unlikeLaid 57 [some (vR 8 j0), some (vR 8 j1), some (vI x2), some (vI x3), some (vI x4), some (vI x5)] [vI y2] S Q) (kf : ¬ y1 = y0 → Ev d mX8_unlikeLaid 53 [some (vR 8 j0), some (vR 8 j1), some (vI x2), some (vI x3), some (vI x4), some (vI x5)] [vI y2] S Q) : Ev d mX8_unlikeLaid 50 [some (vR 8 j0), some (vR 8 j1), some (vI x2), some (vI x3), some (vI x4), some (vI x5)] [vI y0, vI y1, vI y2] S Q := by
  exact Ev.icmp_eq (tgt := 57) dX8_unlikeLaid_50 (by decide) kt kf
theorem bkX8_unlikeLaid_53 {d : Nat} {S : hs_T} {Q : Option av_T → hs_T → Prop} {x2 x3 x4 x5 y0 : Int32} {j0 j1 : Nat} (kn : Ev d mX8_unlikeLaid 58 [some (vR 8 j0), some (vR 8 j1), some (vI x2), some (vI x3), some (vI x4), some (vI x5)] [vI 1, vI y0] S Q) : Ev d mX8_unlikeLaid 53 [some (vR 8 j0), some (vR 8 j1), some (vI x2), some (vI x3), some (vI x4), some (vI x5)] [vI y0] S Q := by
  refine Ev.iconst (v := 1) dX8_unlikeLaid_53 (by decide) ?_
  refine Ev.goto (tgt := 58) dX8_unlikeLaid_54 (by decide) ?_
  exact kn
theorem bkX8_unlikeLaid_57 {d : Nat} {S : hs_T} {Q : Option av_T → hs_T → Prop} {x2 x3 x4 x5 y0 : Int32} {j0 j1 : Nat} (kn : Ev d mX8_unlikeLaid 58 [some (vR 8 j0), some (vR 8 j1), some (vI x2), some (vI x3), some (vI x4), some (vI x5)] [vI 0, vI y0] S Q) : Ev d mX8_unlikeLaid 57 [some (vR 8 j0), some (vR 8 j1), some (vI x2), some (vI x3), some (vI x4), some (vI x5)] [vI y0] S Q := by
  refine Ev.iconst (v := 0) dX8_unlikeLaid_57 (by decide) ?_
  exact kn
theorem bkX8_unlikeLaid_58 {d : Nat} {S : hs_T} {Q : Option av_T → hs_T → Prop} {x2 x3 x4 x5 y0 y1 : Int32} {j0 j1 : Nat} (kn : Ev d mX8_unlikeLaid 61 [some (vR 8 j0), some (vR 8 j1), some (vI x2), some (vI x3), some (vI (y1 + y0)), some (vI x5)] [] S Q) : Ev d mX8_unlikeLaid 58 [some (vR 8 j0), some (vR 8 j1), some (vI x2), some (vI x3), some (vI x4), some (vI x5)] [vI y0, vI y1] S Q := by
  refine Ev.iadd dX8_unlikeLaid_58 ?_
  refine Ev.istore (ls' := [some (vR 8 j0), some (vR 8 j1), some (vI x2), some (vI x3), some (vI (y1 + y0)), some (vI x5)]) dX8_unlikeLaid_59 (by decide) rfl ?_
  exact kn
theorem bkX8_unlikeLaid_61 {d : Nat} {S : hs_T} {Q : Option av_T → hs_T → Prop} {x2 x3 x4 x5 : Int32} {j0 j1 : Nat} (kn : Ev d mX8_unlikeLaid 8 [some (vR 8 j0), some (vR 8 j1), some (vI x2), some (vI x3), some (vI x4), some (vI (x5 + 1))] [] S Q) : Ev d mX8_unlikeLaid 61 [some (vR 8 j0), some (vR 8 j1), some (vI x2), some (vI x3), some (vI x4), some (vI x5)] [] S Q := by
  refine Ev.iinc (v := (x5 + 1)) (ls' := [some (vR 8 j0), some (vR 8 j1), some (vI x2), some (vI x3), some (vI x4), some (vI (x5 + 1))]) dX8_unlikeLaid_61 rfl rfl (by decide) rfl ?_
  refine Ev.goto (tgt := 8) dX8_unlikeLaid_64 (by decide) ?_
  exact kn
theorem bkX8_unlikeLaid_67 {d : Nat} {S : hs_T} {Q : Option av_T → hs_T → Prop} {x2 x3 x4 x5 : Int32} {j0 j1 : Nat} (hjj0 : j0 < 4) (hjj1 : j1 < 4) (hq : Q (some (vI ((x4 + ((S.1 8 j0 1) - x3)) + ((S.1 8 j1 1) - x3)))) S) : Ev d mX8_unlikeLaid 67 [some (vR 8 j0), some (vR 8 j1), some (vI x2), some (vI x3), some (vI x4), some (vI x5)] [] S Q := by
  refine Ev.iload dX8_unlikeLaid_67 rfl ?_
  refine Ev.aload_n dX8_unlikeLaid_69 rfl rfl ?_
  refine Ev.get (v := vI (S.1 8 j0 1)) okX8 (by decide) fl_X8_15 (pl8 hjj0) (ff_8_1 _ _) dX8_unlikeLaid_70 ?_
  refine Ev.iload_n dX8_unlikeLaid_73 rfl rfl ?_
  refine Ev.isub dX8_unlikeLaid_74 ?_
  refine Ev.iadd dX8_unlikeLaid_75 ?_
  refine Ev.aload_n dX8_unlikeLaid_76 rfl rfl ?_
  refine Ev.get (v := vI (S.1 8 j1 1)) okX8 (by decide) fl_X8_15 (pl8 hjj1) (ff_8_1 _ _) dX8_unlikeLaid_77 ?_
  refine Ev.iload_n dX8_unlikeLaid_80 rfl rfl ?_
  refine Ev.isub dX8_unlikeLaid_81 ?_
  refine Ev.iadd dX8_unlikeLaid_82 ?_
  exact Ev.iret dX8_unlikeLaid_83 rfl rfl hq
/-! EightWires$Trace.smoothWire(II)V -/
theorem bkX8_smoothWire_0 {d : Nat} {S : hs_T} {Q : Option av_T → hs_T → Prop} {x1 x2 : Int32} {j0 : Nat} {o3 o4 : Option av_T} (kn : Ev d mX8_smoothWire 5 [some (vR 8 j0), some (vI x1), some (vI x2), some (vI 0), some (vI 1)] [] S Q) : Ev d mX8_smoothWire 0 [some (vR 8 j0), some (vI x1), some (vI x2), o3, o4] [] S Q := by
  refine Ev.iconst (v := 0) dX8_smoothWire_0 (by decide) ?_
  refine Ev.istore_n (ls' := [some (vR 8 j0), some (vI x1), some (vI x2), some (vI 0), o4]) dX8_smoothWire_1 rfl (by decide) rfl ?_
  refine Ev.iconst (v := 1) dX8_smoothWire_2 (by decide) ?_
  refine Ev.istore (ls' := [some (vR 8 j0), some (vI x1), some (vI x2), some (vI 0), some (vI 1)]) dX8_smoothWire_3 (by decide) rfl ?_
  exact kn
theorem bkX8_smoothWire_5 {d : Nat} {S : hs_T} {Q : Option av_T → hs_T → Prop} {x1 x2 x3 x4 : Int32} {j0 : Nat} (hjj0 : j0 < 4) (kt : (S.1 8 j0 1) ≤ x4 → Ev d mX8_smoothWire 61 [some (vR 8 j0), some (vI x1), some (vI x2), some (vI x3), some (vI x4)] [] S Q) (kf : ¬ (S.1 8 j0 1) ≤ x4 → Ev d mX8_smoothWire 14 [some (vR 8 j0), some (vI x1), some (vI x2), some (vI x3), some (vI x4)] [] S Q) : Ev d mX8_smoothWire 5 [some (vR 8 j0), some (vI x1), some (vI x2), some (vI x3), some (vI x4)] [] S Q := by
  refine Ev.iload dX8_smoothWire_5 rfl ?_
  refine Ev.aload_n dX8_smoothWire_7 rfl rfl ?_
  refine Ev.get (v := vI (S.1 8 j0 1)) okX8 (by decide) fl_X8_15 (pl8 hjj0) (ff_8_1 _ _) dX8_smoothWire_8 ?_
  exact Ev.icmp_ge (tgt := 61) dX8_smoothWire_11 (by decide) kt kf
theorem bkX8_smoothWire_14 {d : Nat} {S : hs_T} {Q : Option av_T → hs_T → Prop} {P : Int32 → hs_T → Prop} {x1 x2 x3 x4 : Int32} {j0 : Nat} (hjj0 : j0 < 4) (hC : Ci d mX8_changes [vR 8 j0, vI x1, vI x4] S P) (kk : ∀ v S', P v S' → Ev (d + 1) mX8_smoothWire 21 [some (vR 8 j0), some (vI x1), some (vI x2), some (vI x3), some (vI x4)] [vI v] S' Q) : Ev (d + 1) mX8_smoothWire 14 [some (vR 8 j0), some (vI x1), some (vI x2), some (vI x3), some (vI x4)] [] S Q := by
  refine Ev.aload_n dX8_smoothWire_14 rfl rfl ?_
  refine Ev.iload_n dX8_smoothWire_15 rfl rfl ?_
  refine Ev.iload dX8_smoothWire_16 rfl ?_
  exact Ev.callV (as := [vI x1, vI x4]) (rest := []) okX8_changes in_X8_changes ml_X8_38 rfl (Nat.le_of_ble_eq_true rfl) (pl8 hjj0) (by decide) rfl rfl dX8_smoothWire_18 hC (fun r S' h => by obtain ⟨v, rfl, h⟩ := h; exact kk v S' h)
theorem bkX8_smoothWire_21 {d : Nat} {S : hs_T} {Q : Option av_T → hs_T → Prop} {x1 x2 x3 x4 y0 : Int32} {j0 : Nat} (kt : ¬ y0 = 0 → Ev d mX8_smoothWire 27 [some (vR 8 j0), some (vI x1), some (vI x2), some (vI x3), some (vI x4)] [] S Q) (kf : y0 = 0 → Ev d mX8_smoothWire 24 [some (vR 8 j0), some (vI x1), some (vI x2), some (vI x3), some (vI x4)] [] S Q) : Ev d mX8_smoothWire 21 [some (vR 8 j0), some (vI x1), some (vI x2), some (vI x3), some (vI x4)] [vI y0] S Q := by
  exact Ev.if_ne (tgt := 27) dX8_smoothWire_21 (by decide) kt kf
theorem bkX8_smoothWire_24 {d : Nat} {S : hs_T} {Q : Option av_T → hs_T → Prop} {x1 x2 x3 x4 : Int32} {j0 : Nat} (kn : Ev d mX8_smoothWire 55 [some (vR 8 j0), some (vI x1), some (vI x2), some (vI x3), some (vI x4)] [] S Q) : Ev d mX8_smoothWire 24 [some (vR 8 j0), some (vI x1), some (vI x2), some (vI x3), some (vI x4)] [] S Q := by
  refine Ev.goto (tgt := 55) dX8_smoothWire_24 (by decide) ?_
  exact kn
theorem bkX8_smoothWire_27 {d : Nat} {S : hs_T} {Q : Option av_T → hs_T → Prop} {x1 x2 x3 x4 : Int32} {j0 : Nat} (kt : x3 ≤ 0 → Ev d mX8_smoothWire 52 [some (vR 8 j0), some (vI x1), some (vI x2), some (vI x3), some (vI x4)] [] S Q) (kf : ¬ x3 ≤ 0 → Ev d mX8_smoothWire 31 [some (vR 8 j0), some (vI x1), some (vI x2), some (vI x3), some (vI x4)] [] S Q) : Ev d mX8_smoothWire 27 [some (vR 8 j0), some (vI x1), some (vI x2), some (vI x3), some (vI x4)] [] S Q := by
  refine Ev.iload_n dX8_smoothWire_27 rfl rfl ?_
  exact Ev.if_le (tgt := 52) dX8_smoothWire_28 (by decide) kt kf
theorem bkX8_smoothWire_31 {d : Nat} {S : hs_T} {Q : Option av_T → hs_T → Prop} {x1 x2 x3 x4 : Int32} {j0 : Nat} (kt : x2 ≤ (x4 - x3) → Ev d mX8_smoothWire 52 [some (vR 8 j0), some (vI x1), some (vI x2), some (vI x3), some (vI x4)] [] S Q) (kf : ¬ x2 ≤ (x4 - x3) → Ev d mX8_smoothWire 39 [some (vR 8 j0), some (vI x1), some (vI x2), some (vI x3), some (vI x4)] [] S Q) : Ev d mX8_smoothWire 31 [some (vR 8 j0), some (vI x1), some (vI x2), some (vI x3), some (vI x4)] [] S Q := by
  refine Ev.iload dX8_smoothWire_31 rfl ?_
  refine Ev.iload_n dX8_smoothWire_33 rfl rfl ?_
  refine Ev.isub dX8_smoothWire_34 ?_
  refine Ev.iload_n dX8_smoothWire_35 rfl rfl ?_
  exact Ev.icmp_ge (tgt := 52) dX8_smoothWire_36 (by decide) kt kf
theorem bkX8_smoothWire_39 {d : Nat} {S : hs_T} {Q : Option av_T → hs_T → Prop} {P : hs_T → Prop} {x1 x2 x3 x4 : Int32} {j0 : Nat} (hjj0 : j0 < 4) (hC : Cv d mX8_flip [vR 8 j0, vI x1, vI x3, vI x4] S P) (kk : ∀ S', P S' → Ev (d + 1) mX8_smoothWire 47 [some (vR 8 j0), some (vI x1), some (vI x2), some (vI x3), some (vI x4)] [] S' Q) : Ev (d + 1) mX8_smoothWire 39 [some (vR 8 j0), some (vI x1), some (vI x2), some (vI x3), some (vI x4)] [] S Q := by
  refine Ev.aload_n dX8_smoothWire_39 rfl rfl ?_
  refine Ev.iload_n dX8_smoothWire_40 rfl rfl ?_
  refine Ev.iload_n dX8_smoothWire_41 rfl rfl ?_
  refine Ev.iload dX8_smoothWire_42 rfl ?_
  exact Ev.callV (as := [vI x1, vI x3, vI x4]) (rest := []) okX8_flip in_X8_flip ml_X8_42 rfl (Nat.le_of_ble_eq_true rfl) (pl8 hjj0) (by decide) rfl rfl dX8_smoothWire_44 hC (fun r S' h => by obtain ⟨rfl, h⟩ := h; exact kk S' h)
theorem bkX8_smoothWire_47 {d : Nat} {S : hs_T} {Q : Option av_T → hs_T → Prop} {x1 x2 x3 x4 : Int32} {j0 : Nat} (kn : Ev d mX8_smoothWire 55 [some (vR 8 j0), some (vI x1), some (vI x2), some (vI 0), some (vI x4)] [] S Q) : Ev d mX8_smoothWire 47 [some (vR 8 j0), some (vI x1), some (vI x2), some (vI x3), some (vI x4)] [] S Q := by
  refine Ev.iconst (v := 0) dX8_smoothWire_47 (by decide) ?_
  refine Ev.istore_n (ls' := [some (vR 8 j0), some (vI x1), some (vI x2), some (vI 0), some (vI x4)]) dX8_smoothWire_48 rfl (by decide) rfl ?_
  refine Ev.goto (tgt := 55) dX8_smoothWire_49 (by decide) ?_
  exact kn
theorem bkX8_smoothWire_52 {d : Nat} {S : hs_T} {Q : Option av_T → hs_T → Prop} {x1 x2 x3 x4 : Int32} {j0 : Nat} (kn : Ev d mX8_smoothWire 55 [some (vR 8 j0), some (vI x1), some (vI x2), some (vI x4), some (vI x4)] [] S Q) : Ev d mX8_smoothWire 52 [some (vR 8 j0), some (vI x1), some (vI x2), some (vI x3), some (vI x4)] [] S Q := by
  refine Ev.iload dX8_smoothWire_52 rfl ?_
  refine Ev.istore_n (ls' := [some (vR 8 j0), some (vI x1), some (vI x2), some (vI x4), some (vI x4)]) dX8_smoothWire_54 rfl (by decide) rfl ?_
  exact kn
theorem bkX8_smoothWire_55 {d : Nat} {S : hs_T} {Q : Option av_T → hs_T → Prop} {x1 x2 x3 x4 : Int32} {j0 : Nat} (kn : Ev d mX8_smoothWire 5 [some (vR 8 j0), some (vI x1), some (vI x2), some (vI x3), some (vI (x4 + 1))] [] S Q) : Ev d mX8_smoothWire 55 [some (vR 8 j0), some (vI x1), some (vI x2), some (vI x3), some (vI x4)] [] S Q := by
  refine Ev.iinc (v := (x4 + 1)) (ls' := [some (vR 8 j0), some (vI x1), some (vI x2), some (vI x3), some (vI (x4 + 1))]) dX8_smoothWire_55 rfl rfl (by decide) rfl ?_
  refine Ev.goto (tgt := 5) dX8_smoothWire_58 (by decide) ?_
  exact kn
theorem bkX8_smoothWire_61 {d : Nat} {S : hs_T} {Q : Option av_T → hs_T → Prop} {x1 x2 x3 x4 : Int32} {j0 : Nat} (hq : Q none S) : Ev d mX8_smoothWire 61 [some (vR 8 j0), some (vI x1), some (vI x2), some (vI x3), some (vI x4)] [] S Q := by
  exact Ev.vret dX8_smoothWire_61 rfl hq
/-! EightWires$Trace.flip(III)V -/
theorem bkX8_flip_0 {d : Nat} {S : hs_T} {Q : Option av_T → hs_T → Prop} {x1 x2 x3 : Int32} {j0 : Nat} {o4 : Option av_T} (kn : Ev d mX8_flip 3 [some (vR 8 j0), some (vI x1), some (vI x2), some (vI x3), some (vI x2)] [] S Q) : Ev d mX8_flip 0 [some (vR 8 j0), some (vI x1), some (vI x2), some (vI x3), o4] [] S Q := by
  refine Ev.iload_n dX8_flip_0 rfl rfl ?_
  refine Ev.istore (ls' := [some (vR 8 j0), some (vI x1), some (vI x2), some (vI x3), some (vI x2)]) dX8_flip_1 (by decide) rfl ?_
  exact kn
theorem bkX8_flip_3 {d : Nat} {S : hs_T} {Q : Option av_T → hs_T → Prop} {x1 x2 x3 x4 : Int32} {j0 : Nat} (kt : x3 ≤ x4 → Ev d mX8_flip 31 [some (vR 8 j0), some (vI x1), some (vI x2), some (vI x3), some (vI x4)] [] S Q) (kf : ¬ x3 ≤ x4 → Ev d mX8_flip 9 [some (vR 8 j0), some (vI x1), some (vI x2), some (vI x3), some (vI x4)] [] S Q) : Ev d mX8_flip 3 [some (vR 8 j0), some (vI x1), some (vI x2), some (vI x3), some (vI x4)] [] S Q := by
  refine Ev.iload dX8_flip_3 rfl ?_
  refine Ev.iload_n dX8_flip_5 rfl rfl ?_
  exact Ev.icmp_ge (tgt := 31) dX8_flip_6 (by decide) kt kf
theorem bkX8_flip_9 {d : Nat} {S : hs_T} {Q : Option av_T → hs_T → Prop} {P : Int32 → hs_T → Prop} {x1 x2 x3 x4 : Int32} {j0 : Nat} (hjj0 : j0 < 4) (hC : Ci d mX8_sample [vR 8 j0, vI x4] S P) (kk : ∀ v S', P v S' → Ev (d + 1) mX8_flip 18 [some (vR 8 j0), some (vI x1), some (vI x2), some (vI x3), some (vI x4)] [vI v, vI x4, vR 8 j0] S' Q) : Ev (d + 1) mX8_flip 9 [some (vR 8 j0), some (vI x1), some (vI x2), some (vI x3), some (vI x4)] [] S Q := by
  refine Ev.aload_n dX8_flip_9 rfl rfl ?_
  refine Ev.iload dX8_flip_10 rfl ?_
  refine Ev.aload_n dX8_flip_12 rfl rfl ?_
  refine Ev.iload dX8_flip_13 rfl ?_
  exact Ev.callV (as := [vI x4]) (rest := [vI x4, vR 8 j0]) okX8_sample in_X8_sample ml_X8_29 rfl (Nat.le_of_ble_eq_true rfl) (pl8 hjj0) (by decide) rfl rfl dX8_flip_15 hC (fun r S' h => by obtain ⟨v, rfl, h⟩ := h; exact kk v S' h)
theorem bkX8_flip_18 {d : Nat} {S : hs_T} {Q : Option av_T → hs_T → Prop} {P : hs_T → Prop} {x1 x2 x3 x4 y0 y1 : Int32} {j0 i2 : Nat} (hji2 : i2 < 4) (hC : Cv d mX8_replace [vR 8 i2, vI y1, vI (y0 ^^^ (1 <<< (x1 &&& 31)))] S P) (kk : ∀ S', P S' → Ev (d + 1) mX8_flip 25 [some (vR 8 j0), some (vI x1), some (vI x2), some (vI x3), some (vI x4)] [] S' Q) : Ev (d + 1) mX8_flip 18 [some (vR 8 j0), some (vI x1), some (vI x2), some (vI x3), some (vI x4)] [vI y0, vI y1, vR 8 i2] S Q := by
  refine Ev.iconst (v := 1) dX8_flip_18 (by decide) ?_
  refine Ev.iload_n dX8_flip_19 rfl rfl ?_
  refine Ev.ishl dX8_flip_20 ?_
  refine Ev.ixor dX8_flip_21 ?_
  exact Ev.callV (as := [vI y1, vI (y0 ^^^ (1 <<< (x1 &&& 31)))]) (rest := []) okX8_replace in_X8_replace ml_X8_46 rfl (Nat.le_of_ble_eq_true rfl) (pl8 hji2) (by decide) rfl rfl dX8_flip_22 hC (fun r S' h => by obtain ⟨rfl, h⟩ := h; exact kk S' h)
theorem bkX8_flip_25 {d : Nat} {S : hs_T} {Q : Option av_T → hs_T → Prop} {x1 x2 x3 x4 : Int32} {j0 : Nat} (kn : Ev d mX8_flip 3 [some (vR 8 j0), some (vI x1), some (vI x2), some (vI x3), some (vI (x4 + 1))] [] S Q) : Ev d mX8_flip 25 [some (vR 8 j0), some (vI x1), some (vI x2), some (vI x3), some (vI x4)] [] S Q := by
  refine Ev.iinc (v := (x4 + 1)) (ls' := [some (vR 8 j0), some (vI x1), some (vI x2), some (vI x3), some (vI (x4 + 1))]) dX8_flip_25 rfl rfl (by decide) rfl ?_
  refine Ev.goto (tgt := 3) dX8_flip_28 (by decide) ?_
  exact kn
theorem bkX8_flip_31 {d : Nat} {S : hs_T} {Q : Option av_T → hs_T → Prop} {x1 x2 x3 x4 : Int32} {j0 : Nat} (hq : Q none S) : Ev d mX8_flip 31 [some (vR 8 j0), some (vI x1), some (vI x2), some (vI x3), some (vI x4)] [] S Q := by
  exact Ev.vret dX8_flip_31 rfl hq
/-! EightWires$Watch.follow(LEightWires$Rules;LEightWires$Trace;I)V -/
theorem bkX9_follow_0 {d : Nat} {S : hs_T} {Q : Option av_T → hs_T → Prop} {P : hs_T → Prop} {x3 : Int32} {j1 j2 : Nat} {o4 : Option av_T} (hC : Cv d mX9_enter [vR 9 0, vI 0] (sk_ (sk_ (sk_ S 9 0 (upd (S.1 9 0) 1 (-4))) 9 0 (upd ((sk_ S 9 0 (upd (S.1 9 0) 1 (-4))).1 9 0) 3 0)) 9 0 (upd ((sk_ (sk_ S 9 0 (upd (S.1 9 0) 1 (-4))) 9 0 (upd ((sk_ S 9 0 (upd (S.1 9 0) 1 (-4))).1 9 0) 3 0)).1 9 0) 4 0)) P) (kk : ∀ S', P S' → Ev (d + 1) mX9_follow 21 [some (vR 9 0), some (vR 5 j1), some (vR 8 j2), some (vI x3), o4] [] S' Q) : Ev (d + 1) mX9_follow 0 [some (vR 9 0), some (vR 5 j1), some (vR 8 j2), some (vI x3), o4] [] S Q := by
  refine Ev.aload_n dX9_follow_0 rfl rfl ?_
  refine Ev.bipush (v := (-4)) dX9_follow_1 (by decide) ?_
  refine Ev.put okX9 (by decide) fl_X9_17 pz_9_0 (by decide) rfl rfl rfl rfl dX9_follow_3 ?_
  refine Ev.aload_n dX9_follow_6 rfl rfl ?_
  refine Ev.iconst (v := 0) dX9_follow_7 (by decide) ?_
  refine Ev.put okX9 (by decide) fl_X9_21 pz_9_0 (by decide) rfl rfl rfl rfl dX9_follow_8 ?_
  refine Ev.aload_n dX9_follow_11 rfl rfl ?_
  refine Ev.iconst (v := 0) dX9_follow_12 (by decide) ?_
  refine Ev.put okX9 (by decide) fl_X9_24 pz_9_0 (by decide) rfl rfl rfl rfl dX9_follow_13 ?_
  refine Ev.aload_n dX9_follow_16 rfl rfl ?_
  refine Ev.iconst (v := 0) dX9_follow_17 (by decide) ?_
  exact Ev.callV (as := [vI 0]) (rest := []) okX9_enter in_X9_enter ml_X9_27 rfl (Nat.le_of_ble_eq_true rfl) pz_9_0 (by decide) rfl rfl dX9_follow_18 hC (fun r S' h => by obtain ⟨rfl, h⟩ := h; exact kk S' h)
theorem bkX9_follow_21 {d : Nat} {S : hs_T} {Q : Option av_T → hs_T → Prop} {x3 : Int32} {j1 j2 : Nat} {o4 : Option av_T} (kn : Ev d mX9_follow 24 [some (vR 9 0), some (vR 5 j1), some (vR 8 j2), some (vI x3), some (vI 0)] [] S Q) : Ev d mX9_follow 21 [some (vR 9 0), some (vR 5 j1), some (vR 8 j2), some (vI x3), o4] [] S Q := by
  refine Ev.iconst (v := 0) dX9_follow_21 (by decide) ?_
  refine Ev.istore (ls' := [some (vR 9 0), some (vR 5 j1), some (vR 8 j2), some (vI x3), some (vI 0)]) dX9_follow_22 (by decide) rfl ?_
  exact kn
theorem bkX9_follow_24 {d : Nat} {S : hs_T} {Q : Option av_T → hs_T → Prop} {x3 x4 : Int32} {j1 j2 : Nat} (kt : x3 ≤ x4 → Ev d mX9_follow 68 [some (vR 9 0), some (vR 5 j1), some (vR 8 j2), some (vI x3), some (vI x4)] [] S Q) (kf : ¬ x3 ≤ x4 → Ev d mX9_follow 30 [some (vR 9 0), some (vR 5 j1), some (vR 8 j2), some (vI x3), some (vI x4)] [] S Q) : Ev d mX9_follow 24 [some (vR 9 0), some (vR 5 j1), some (vR 8 j2), some (vI x3), some (vI x4)] [] S Q := by
  refine Ev.iload dX9_follow_24 rfl ?_
  refine Ev.iload_n dX9_follow_26 rfl rfl ?_
  exact Ev.icmp_ge (tgt := 68) dX9_follow_27 (by decide) kt kf
theorem bkX9_follow_30 {d : Nat} {S : hs_T} {Q : Option av_T → hs_T → Prop} {x3 x4 : Int32} {j1 j2 : Nat} (kt : 0 ≤ (S.1 9 0 1) → Ev d mX9_follow 68 [some (vR 9 0), some (vR 5 j1), some (vR 8 j2), some (vI x3), some (vI x4)] [] S Q) (kf : ¬ 0 ≤ (S.1 9 0 1) → Ev d mX9_follow 37 [some (vR 9 0), some (vR 5 j1), some (vR 8 j2), some (vI x3), some (vI x4)] [] S Q) : Ev d mX9_follow 30 [some (vR 9 0), some (vR 5 j1), some (vR 8 j2), some (vI x3), some (vI x4)] [] S Q := by
  refine Ev.aload_n dX9_follow_30 rfl rfl ?_
  refine Ev.get (v := vI (S.1 9 0 1)) okX9 (by decide) fl_X9_17 pz_9_0 (ff_9_1 _ _) dX9_follow_31 ?_
  exact Ev.if_ge (tgt := 68) dX9_follow_34 (by decide) kt kf
theorem bkX9_follow_37 {d : Nat} {S : hs_T} {Q : Option av_T → hs_T → Prop} {x3 x4 : Int32} {j1 j2 : Nat} (hjj1 : j1 < 2) (kt : (S.1 5 j1 6) ≤ 0 → Ev d mX9_follow 68 [some (vR 9 0), some (vR 5 j1), some (vR 8 j2), some (vI x3), some (vI x4)] [] S Q) (kf : ¬ (S.1 5 j1 6) ≤ 0 → Ev d mX9_follow 44 [some (vR 9 0), some (vR 5 j1), some (vR 8 j2), some (vI x3), some (vI x4)] [] S Q) : Ev d mX9_follow 37 [some (vR 9 0), some (vR 5 j1), some (vR 8 j2), some (vI x3), some (vI x4)] [] S Q := by
  refine Ev.aload_n dX9_follow_37 rfl rfl ?_
  refine Ev.get (v := vI (S.1 5 j1 6)) okX5 (by decide) fl_X9_31 (pl5 hjj1) (ff_5_6 _ _) dX9_follow_38 ?_
  exact Ev.if_le (tgt := 68) dX9_follow_41 (by decide) kt kf
theorem bkX9_follow_44 {d : Nat} {S : hs_T} {Q : Option av_T → hs_T → Prop} {P : hs_T → Prop} {x3 x4 : Int32} {j1 j2 : Nat} (hC : Cv d mX9_look [vR 9 0, vR 5 j1, vR 8 j2, vI x4] S P) (kk : ∀ S', P S' → Ev (d + 1) mX9_follow 52 [some (vR 9 0), some (vR 5 j1), some (vR 8 j2), some (vI x3), some (vI x4)] [] S' Q) : Ev (d + 1) mX9_follow 44 [some (vR 9 0), some (vR 5 j1), some (vR 8 j2), some (vI x3), some (vI x4)] [] S Q := by
  refine Ev.aload_n dX9_follow_44 rfl rfl ?_
  refine Ev.aload_n dX9_follow_45 rfl rfl ?_
  refine Ev.aload_n dX9_follow_46 rfl rfl ?_
  refine Ev.iload dX9_follow_47 rfl ?_
  exact Ev.callV (as := [vR 5 j1, vR 8 j2, vI x4]) (rest := []) okX9_look in_X9_look ml_X9_34 rfl (Nat.le_of_ble_eq_true rfl) pz_9_0 (by decide) rfl rfl dX9_follow_49 hC (fun r S' h => by obtain ⟨rfl, h⟩ := h; exact kk S' h)
theorem bkX9_follow_52 {d : Nat} {S : hs_T} {Q : Option av_T → hs_T → Prop} {x3 x4 : Int32} {j1 j2 : Nat} (kn : Ev d mX9_follow 24 [some (vR 9 0), some (vR 5 j1), some (vR 8 j2), some (vI x3), some (vI (x4 + 1))] [] (sk_ S 9 0 (upd (S.1 9 0) 4 ((S.1 9 0 4) + 1))) Q) : Ev d mX9_follow 52 [some (vR 9 0), some (vR 5 j1), some (vR 8 j2), some (vI x3), some (vI x4)] [] S Q := by
  refine Ev.aload_n dX9_follow_52 rfl rfl ?_
  refine Ev.dup dX9_follow_53 rfl ?_
  refine Ev.get (v := vI (S.1 9 0 4)) okX9 (by decide) fl_X9_24 pz_9_0 (ff_9_4 _ _) dX9_follow_54 ?_
  refine Ev.iconst (v := 1) dX9_follow_57 (by decide) ?_
  refine Ev.iadd dX9_follow_58 ?_
  refine Ev.put okX9 (by decide) fl_X9_24 pz_9_0 (by decide) rfl rfl rfl rfl dX9_follow_59 ?_
  refine Ev.iinc (v := (x4 + 1)) (ls' := [some (vR 9 0), some (vR 5 j1), some (vR 8 j2), some (vI x3), some (vI (x4 + 1))]) dX9_follow_62 rfl rfl (by decide) rfl ?_
  refine Ev.goto (tgt := 24) dX9_follow_65 (by decide) ?_
  exact kn
theorem bkX9_follow_68 {d : Nat} {S : hs_T} {Q : Option av_T → hs_T → Prop} {x3 x4 : Int32} {j1 j2 : Nat} (hq : Q none S) : Ev d mX9_follow 68 [some (vR 9 0), some (vR 5 j1), some (vR 8 j2), some (vI x3), some (vI x4)] [] S Q := by
  exact Ev.vret dX9_follow_68 rfl hq
/-! EightWires$Watch.enter(I)V -/
theorem bkX9_enter_0 {d : Nat} {S : hs_T} {Q : Option av_T → hs_T → Prop} {P : hs_T → Prop} {x1 : Int32} (hC : Cv d mJ7_fill_53178 [vR 1000 0, vI 0] (sk_ (sk_ S 9 0 (upd (S.1 9 0) 2 x1)) 9 0 (upd ((sk_ S 9 0 (upd (S.1 9 0) 2 x1)).1 9 0) 5 0)) P) (kk : ∀ S', P S' → Ev (d + 1) mX9_enter 18 [some (vR 9 0), some (vI x1)] [] S' Q) : Ev (d + 1) mX9_enter 0 [some (vR 9 0), some (vI x1)] [] S Q := by
  refine Ev.aload_n dX9_enter_0 rfl rfl ?_
  refine Ev.iload_n dX9_enter_1 rfl rfl ?_
  refine Ev.put okX9 (by decide) fl_X9_38 pz_9_0 (by decide) rfl rfl rfl rfl dX9_enter_2 ?_
  refine Ev.aload_n dX9_enter_5 rfl rfl ?_
  refine Ev.iconst (v := 0) dX9_enter_6 (by decide) ?_
  refine Ev.put okX9 (by decide) fl_X9_41 pz_9_0 (by decide) rfl rfl rfl rfl dX9_enter_7 ?_
  refine Ev.aload_n dX9_enter_10 rfl rfl ?_
  refine Ev.get (v := vR 1000 0) okX9 (by decide) fl_X9_11 pz_9_0 (ff_9_0 _ _) dX9_enter_11 ?_
  refine Ev.iconst (v := 0) dX9_enter_14 (by decide) ?_
  exact Ev.callS (as := [vR 1000 0, vI 0]) (rest := []) okJ7_fill_53178 stJ7_fill_53178 ml_X9_44 rfl (Nat.le_of_ble_eq_true rfl) rfl dX9_enter_15 hC (fun r S' h => by obtain ⟨rfl, h⟩ := h; exact kk S' h)
theorem bkX9_enter_18 {d : Nat} {S : hs_T} {Q : Option av_T → hs_T → Prop} {x1 : Int32} (hq : Q none S) : Ev d mX9_enter 18 [some (vR 9 0), some (vI x1)] [] S Q := by
  exact Ev.vret dX9_enter_18 rfl hq
/-! EightWires$Watch.look(LEightWires$Rules;LEightWires$Trace;I)V -/
theorem bkX9_look_0 {d : Nat} {S : hs_T} {Q : Option av_T → hs_T → Prop} {P : Int32 → hs_T → Prop} {x3 : Int32} {j1 j2 : Nat} {o4 o5 o6 : Option av_T} (hjj1 : j1 < 2) (hC : Ci d mX5_branchCount [vR 5 j1, vI (S.1 9 0 2)] S P) (kk : ∀ v S', P v S' → Ev (d + 1) mX9_look 8 [some (vR 9 0), some (vR 5 j1), some (vR 8 j2), some (vI x3), o4, o5, o6] [vI v] S' Q) : Ev (d + 1) mX9_look 0 [some (vR 9 0), some (vR 5 j1), some (vR 8 j2), some (vI x3), o4, o5, o6] [] S Q := by
  refine Ev.aload_n dX9_look_0 rfl rfl ?_
  refine Ev.aload_n dX9_look_1 rfl rfl ?_
  refine Ev.get (v := vI (S.1 9 0 2)) okX9 (by decide) fl_X9_38 pz_9_0 (ff_9_2 _ _) dX9_look_2 ?_
  exact Ev.callV (as := [vI (S.1 9 0 2)]) (rest := []) okX5_branchCount in_X5_branchCount ml_X9_50 rfl (Nat.le_of_ble_eq_true rfl) (pl5 hjj1) (by decide) rfl rfl dX9_look_5 hC (fun r S' h => by obtain ⟨v, rfl, h⟩ := h; exact kk v S' h)
theorem bkX9_look_8 {d : Nat} {S : hs_T} {Q : Option av_T → hs_T → Prop} {x3 y0 : Int32} {j1 j2 : Nat} {o4 o5 o6 : Option av_T} (kn : Ev (d + 1) mX9_look 21 [some (vR 9 0), some (vR 5 j1), some (vR 8 j2), some (vI x3), some (vI (if 3 < y0 then 3 else y0)), some (vI 0), o6] [] S Q) : Ev (d + 1) mX9_look 8 [some (vR 9 0), some (vR 5 j1), some (vR 8 j2), some (vI x3), o4, o5, o6] [vI y0] S Q := by
  refine Ev.aload_n dX9_look_8 rfl rfl ?_
  refine Ev.get (v := vR 1000 0) okX9 (by decide) fl_X9_11 pz_9_0 (ff_9_0 _ _) dX9_look_9 ?_
  refine Ev.alen (v := 3) pz_1000_0 (by decide) rfl (by decide) rfl dX9_look_12 ?_
  refine Ev.mmin ml_X9_54 (Nat.le_of_ble_eq_true rfl) dX9_look_13 ?_
  refine Ev.istore (ls' := [some (vR 9 0), some (vR 5 j1), some (vR 8 j2), some (vI x3), some (vI (if 3 < y0 then 3 else y0)), o5, o6]) dX9_look_16 (by decide) rfl ?_
  refine Ev.iconst (v := 0) dX9_look_18 (by decide) ?_
  refine Ev.istore (ls' := [some (vR 9 0), some (vR 5 j1), some (vR 8 j2), some (vI x3), some (vI (if 3 < y0 then 3 else y0)), some (vI 0), o6]) dX9_look_19 (by decide) rfl ?_
  exact kn
theorem bkX9_look_21 {d : Nat} {S : hs_T} {Q : Option av_T → hs_T → Prop} {x3 x4 x5 : Int32} {j1 j2 : Nat} {o6 : Option av_T} (kt : x4 ≤ x5 → Ev d mX9_look 103 [some (vR 9 0), some (vR 5 j1), some (vR 8 j2), some (vI x3), some (vI x4), some (vI x5), o6] [] S Q) (kf : ¬ x4 ≤ x5 → Ev d mX9_look 28 [some (vR 9 0), some (vR 5 j1), some (vR 8 j2), some (vI x3), some (vI x4), some (vI x5), o6] [] S Q) : Ev d mX9_look 21 [some (vR 9 0), some (vR 5 j1), some (vR 8 j2), some (vI x3), some (vI x4), some (vI x5), o6] [] S Q := by
  refine Ev.iload dX9_look_21 rfl ?_
  refine Ev.iload dX9_look_23 rfl ?_
  exact Ev.icmp_ge (tgt := 103) dX9_look_25 (by decide) kt kf
theorem bkX9_look_28 {d : Nat} {S : hs_T} {Q : Option av_T → hs_T → Prop} {P : Int32 → hs_T → Prop} {x3 x4 x5 : Int32} {j1 j2 : Nat} {o6 : Option av_T} (hjj1 : j1 < 2) (hC : Ci d mX5_branchPlace [vR 5 j1, vI (S.1 9 0 2), vI x5] S P) (kk : ∀ v S', P v S' → Ev (d + 1) mX9_look 38 [some (vR 9 0), some (vR 5 j1), some (vR 8 j2), some (vI x3), some (vI x4), some (vI x5), o6] [vI v] S' Q) : Ev (d + 1) mX9_look 28 [some (vR 9 0), some (vR 5 j1), some (vR 8 j2), some (vI x3), some (vI x4), some (vI x5), o6] [] S Q := by
  refine Ev.aload_n dX9_look_28 rfl rfl ?_
  refine Ev.aload_n dX9_look_29 rfl rfl ?_
  refine Ev.get (v := vI (S.1 9 0 2)) okX9 (by decide) fl_X9_38 pz_9_0 (ff_9_2 _ _) dX9_look_30 ?_
  refine Ev.iload dX9_look_33 rfl ?_
  exact Ev.callV (as := [vI (S.1 9 0 2), vI x5]) (rest := []) okX5_branchPlace in_X5_branchPlace ml_X9_60 rfl (Nat.le_of_ble_eq_true rfl) (pl5 hjj1) (by decide) rfl rfl dX9_look_35 hC (fun r S' h => by obtain ⟨v, rfl, h⟩ := h; exact kk v S' h)
theorem bkX9_look_38 {d : Nat} {S : hs_T} {Q : Option av_T → hs_T → Prop} {P : Int32 → hs_T → Prop} {x3 x4 x5 y0 : Int32} {j1 j2 : Nat} {o6 : Option av_T} (hjj1 : j1 < 2) (hC : Ci d mX5_holds [vR 5 j1, vI y0, vR 8 j2, vI x3, vI (S.1 9 0 5)] S P) (kk : ∀ v S', P v S' → Ev (d + 1) mX9_look 52 [some (vR 9 0), some (vR 5 j1), some (vR 8 j2), some (vI x3), some (vI x4), some (vI x5), some (vI y0)] [vI v] S' Q) : Ev (d + 1) mX9_look 38 [some (vR 9 0), some (vR 5 j1), some (vR 8 j2), some (vI x3), some (vI x4), some (vI x5), o6] [vI y0] S Q := by
  refine Ev.istore (ls' := [some (vR 9 0), some (vR 5 j1), some (vR 8 j2), some (vI x3), some (vI x4), some (vI x5), some (vI y0)]) dX9_look_38 (by decide) rfl ?_
  refine Ev.aload_n dX9_look_40 rfl rfl ?_
  refine Ev.iload dX9_look_41 rfl ?_
  refine Ev.aload_n dX9_look_43 rfl rfl ?_
  refine Ev.iload_n dX9_look_44 rfl rfl ?_
  refine Ev.aload_n dX9_look_45 rfl rfl ?_
  refine Ev.get (v := vI (S.1 9 0 5)) okX9 (by decide) fl_X9_41 pz_9_0 (ff_9_5 _ _) dX9_look_46 ?_
  exact Ev.callV (as := [vI y0, vR 8 j2, vI x3, vI (S.1 9 0 5)]) (rest := []) okX5_holds in_X5_holds ml_X9_63 rfl (Nat.le_of_ble_eq_true rfl) (pl5 hjj1) (by decide) rfl rfl dX9_look_49 hC (fun r S' h => by obtain ⟨v, rfl, h⟩ := h; exact kk v S' h)
theorem bkX9_look_52 {d : Nat} {S : hs_T} {Q : Option av_T → hs_T → Prop} {x3 x4 x5 x6 y0 : Int32} {j1 j2 : Nat} (kt : ¬ y0 = 0 → Ev d mX9_look 58 [some (vR 9 0), some (vR 5 j1), some (vR 8 j2), some (vI x3), some (vI x4), some (vI x5), some (vI x6)] [] S Q) (kf : y0 = 0 → Ev d mX9_look 55 [some (vR 9 0), some (vR 5 j1), some (vR 8 j2), some (vI x3), some (vI x4), some (vI x5), some (vI x6)] [] S Q) : Ev d mX9_look 52 [some (vR 9 0), some (vR 5 j1), some (vR 8 j2), some (vI x3), some (vI x4), some (vI x5), some (vI x6)] [vI y0] S Q := by
  exact Ev.if_ne (tgt := 58) dX9_look_52 (by decide) kt kf
theorem bkX9_look_55 {d : Nat} {S : hs_T} {Q : Option av_T → hs_T → Prop} {x3 x4 x5 x6 : Int32} {j1 j2 : Nat} (kn : Ev d mX9_look 97 [some (vR 9 0), some (vR 5 j1), some (vR 8 j2), some (vI x3), some (vI x4), some (vI x5), some (vI x6)] [] S Q) : Ev d mX9_look 55 [some (vR 9 0), some (vR 5 j1), some (vR 8 j2), some (vI x3), some (vI x4), some (vI x5), some (vI x6)] [] S Q := by
  refine Ev.goto (tgt := 97) dX9_look_55 (by decide) ?_
  exact kn
theorem bkX9_look_58 {d : Nat} {S : hs_T} {Q : Option av_T → hs_T → Prop} {P : Int32 → hs_T → Prop} {x3 x4 x5 x6 : Int32} {j1 j2 : Nat} (hi65 : vp_in x5 3) (hjj1 : j1 < 2) (hC : Ci d mX5_timesOf [vR 5 j1, vI x6] (sk_ S 1000 0 (upd (S.1 1000 0) x5.toNatClampNeg ((S.1 1000 0 x5.toNatClampNeg) + 1))) P) (kk : ∀ v S', P v S' → Ev (d + 1) mX9_look 82 [some (vR 9 0), some (vR 5 j1), some (vR 8 j2), some (vI x3), some (vI x4), some (vI x5), some (vI x6)] [vI v, vI ((sk_ S 1000 0 (upd (S.1 1000 0) x5.toNatClampNeg ((S.1 1000 0 x5.toNatClampNeg) + 1))).1 1000 0 x5.toNatClampNeg)] S' Q) : Ev (d + 1) mX9_look 58 [some (vR 9 0), some (vR 5 j1), some (vR 8 j2), some (vI x3), some (vI x4), some (vI x5), some (vI x6)] [] S Q := by
  refine Ev.aload_n dX9_look_58 rfl rfl ?_
  refine Ev.get (v := vR 1000 0) okX9 (by decide) fl_X9_11 pz_9_0 (ff_9_0 _ _) dX9_look_59 ?_
  refine Ev.iload dX9_look_62 rfl ?_
  refine Ev.dup2 dX9_look_64 rfl rfl ?_
  refine Ev.ialoadA (a := x5.toNatClampNeg) pz_1000_0 (by decide) ak_1000 hi65 rfl dX9_look_65 ?_
  refine Ev.iconst (v := 1) dX9_look_66 (by decide) ?_
  refine Ev.iadd dX9_look_67 ?_
  refine Ev.iastoreA (a := x5.toNatClampNeg) pz_1000_0 (by decide) ak_1000 hi65 rfl rfl dX9_look_68 ?_
  refine Ev.aload_n dX9_look_69 rfl rfl ?_
  refine Ev.get (v := vR 1000 0) okX9 (by decide) fl_X9_11 pz_9_0 (ff_9_0 _ _) dX9_look_70 ?_
  refine Ev.iload dX9_look_73 rfl ?_
  refine Ev.ialoadA (a := x5.toNatClampNeg) pz_1000_0 (by decide) ak_1000 hi65 rfl dX9_look_75 ?_
  refine Ev.aload_n dX9_look_76 rfl rfl ?_
  refine Ev.iload dX9_look_77 rfl ?_
  exact Ev.callV (as := [vI x6]) (rest := [vI ((sk_ S 1000 0 (upd (S.1 1000 0) x5.toNatClampNeg ((S.1 1000 0 x5.toNatClampNeg) + 1))).1 1000 0 x5.toNatClampNeg)]) okX5_timesOf in_X5_timesOf ml_X9_67 rfl (Nat.le_of_ble_eq_true rfl) (pl5 hjj1) (by decide) rfl rfl dX9_look_79 hC (fun r S' h => by obtain ⟨v, rfl, h⟩ := h; exact kk v S' h)
theorem bkX9_look_82 {d : Nat} {S : hs_T} {Q : Option av_T → hs_T → Prop} {x3 x4 x5 x6 y0 y1 : Int32} {j1 j2 : Nat} (kt : ¬ y1 = y0 → Ev d mX9_look 97 [some (vR 9 0), some (vR 5 j1), some (vR 8 j2), some (vI x3), some (vI x4), some (vI x5), some (vI x6)] [] S Q) (kf : y1 = y0 → Ev d mX9_look 85 [some (vR 9 0), some (vR 5 j1), some (vR 8 j2), some (vI x3), some (vI x4), some (vI x5), some (vI x6)] [] S Q) : Ev d mX9_look 82 [some (vR 9 0), some (vR 5 j1), some (vR 8 j2), some (vI x3), some (vI x4), some (vI x5), some (vI x6)] [vI y0, vI y1] S Q := by
  exact Ev.icmp_ne (tgt := 97) dX9_look_82 (by decide) kt kf
theorem bkX9_look_85 {d : Nat} {S : hs_T} {Q : Option av_T → hs_T → Prop} {P : Int32 → hs_T → Prop} {x3 x4 x5 x6 : Int32} {j1 j2 : Nat} (hjj1 : j1 < 2) (hC : Ci d mX5_targetOf [vR 5 j1, vI x6] S P) (kk : ∀ v S', P v S' → Ev (d + 1) mX9_look 92 [some (vR 9 0), some (vR 5 j1), some (vR 8 j2), some (vI x3), some (vI x4), some (vI x5), some (vI x6)] [vI v, vR 9 0] S' Q) : Ev (d + 1) mX9_look 85 [some (vR 9 0), some (vR 5 j1), some (vR 8 j2), some (vI x3), some (vI x4), some (vI x5), some (vI x6)] [] S Q := by
  refine Ev.aload_n dX9_look_85 rfl rfl ?_
  refine Ev.aload_n dX9_look_86 rfl rfl ?_
  refine Ev.iload dX9_look_87 rfl ?_
  exact Ev.callV (as := [vI x6]) (rest := [vR 9 0]) okX5_targetOf in_X5_targetOf ml_X9_70 rfl (Nat.le_of_ble_eq_true rfl) (pl5 hjj1) (by decide) rfl rfl dX9_look_89 hC (fun r S' h => by obtain ⟨v, rfl, h⟩ := h; exact kk v S' h)
theorem bkX9_look_92 {d : Nat} {S : hs_T} {Q : Option av_T → hs_T → Prop} {P : hs_T → Prop} {x3 x4 x5 x6 y0 : Int32} {j1 j2 : Nat} (hC : Cv d mX9_leave [vR 9 0, vI y0, vI x3] S P) (kk : ∀ S', P S' → Ev (d + 1) mX9_look 96 [some (vR 9 0), some (vR 5 j1), some (vR 8 j2), some (vI x3), some (vI x4), some (vI x5), some (vI x6)] [] S' Q) : Ev (d + 1) mX9_look 92 [some (vR 9 0), some (vR 5 j1), some (vR 8 j2), some (vI x3), some (vI x4), some (vI x5), some (vI x6)] [vI y0, vR 9 0] S Q := by
  refine Ev.iload_n dX9_look_92 rfl rfl ?_
  exact Ev.callV (as := [vI y0, vI x3]) (rest := []) okX9_leave in_X9_leave ml_X9_73 rfl (Nat.le_of_ble_eq_true rfl) pz_9_0 (by decide) rfl rfl dX9_look_93 hC (fun r S' h => by obtain ⟨rfl, h⟩ := h; exact kk S' h)
theorem bkX9_look_96 {d : Nat} {S : hs_T} {Q : Option av_T → hs_T → Prop} {x3 x4 x5 x6 : Int32} {j1 j2 : Nat} (hq : Q none S) : Ev d mX9_look 96 [some (vR 9 0), some (vR 5 j1), some (vR 8 j2), some (vI x3), some (vI x4), some (vI x5), some (vI x6)] [] S Q := by
  exact Ev.vret dX9_look_96 rfl hq
theorem bkX9_look_97 {d : Nat} {S : hs_T} {Q : Option av_T → hs_T → Prop} {x3 x4 x5 x6 : Int32} {j1 j2 : Nat} (kn : Ev d mX9_look 21 [some (vR 9 0), some (vR 5 j1), some (vR 8 j2), some (vI x3), some (vI x4), some (vI (x5 + 1)), some (vI x6)] [] S Q) : Ev d mX9_look 97 [some (vR 9 0), some (vR 5 j1), some (vR 8 j2), some (vI x3), some (vI x4), some (vI x5), some (vI x6)] [] S Q := by
  refine Ev.iinc (v := (x5 + 1)) (ls' := [some (vR 9 0), some (vR 5 j1), some (vR 8 j2), some (vI x3), some (vI x4), some (vI (x5 + 1)), some (vI x6)]) dX9_look_97 rfl rfl (by decide) rfl ?_
  refine Ev.goto (tgt := 21) dX9_look_100 (by decide) ?_
  exact kn
theorem bkX9_look_103 {d : Nat} {S : hs_T} {Q : Option av_T → hs_T → Prop} {x3 x4 x5 : Int32} {j1 j2 : Nat} {o6 : Option av_T} (hq : Q none (sk_ S 9 0 (upd (S.1 9 0) 5 ((S.1 9 0 5) + 1)))) : Ev d mX9_look 103 [some (vR 9 0), some (vR 5 j1), some (vR 8 j2), some (vI x3), some (vI x4), some (vI x5), o6] [] S Q := by
  refine Ev.aload_n dX9_look_103 rfl rfl ?_
  refine Ev.dup dX9_look_104 rfl ?_
  refine Ev.get (v := vI (S.1 9 0 5)) okX9 (by decide) fl_X9_41 pz_9_0 (ff_9_5 _ _) dX9_look_105 ?_
  refine Ev.iconst (v := 1) dX9_look_108 (by decide) ?_
  refine Ev.iadd dX9_look_109 ?_
  refine Ev.put okX9 (by decide) fl_X9_41 pz_9_0 (by decide) rfl rfl rfl rfl dX9_look_110 ?_
  exact Ev.vret dX9_look_113 rfl hq
/-! EightWires$Watch.leave(II)V -/
theorem bkX9_leave_0 {d : Nat} {S : hs_T} {Q : Option av_T → hs_T → Prop} {x1 x2 : Int32} (kt : ¬ x1 = 8 → Ev d mX9_leave 20 [some (vR 9 0), some (vI x1), some (vI x2)] [] S Q) (kf : x1 = 8 → Ev d mX9_leave 6 [some (vR 9 0), some (vI x1), some (vI x2)] [] S Q) : Ev d mX9_leave 0 [some (vR 9 0), some (vI x1), some (vI x2)] [] S Q := by
  refine Ev.iload_n dX9_leave_0 rfl rfl ?_
  refine Ev.bipush (v := 8) dX9_leave_1 (by decide) ?_
  exact Ev.icmp_ne (tgt := 20) dX9_leave_3 (by decide) kt kf
theorem bkX9_leave_6 {d : Nat} {S : hs_T} {Q : Option av_T → hs_T → Prop} {x1 x2 : Int32} (kn : Ev d mX9_leave 35 [some (vR 9 0), some (vI x1), some (vI x2)] [] (sk_ (sk_ S 9 0 (upd (S.1 9 0) 1 x2)) 9 0 (upd ((sk_ S 9 0 (upd (S.1 9 0) 1 x2)).1 9 0) 2 8)) Q) : Ev d mX9_leave 6 [some (vR 9 0), some (vI x1), some (vI x2)] [] S Q := by
  refine Ev.aload_n dX9_leave_6 rfl rfl ?_
  refine Ev.iload_n dX9_leave_7 rfl rfl ?_
  refine Ev.put okX9 (by decide) fl_X9_17 pz_9_0 (by decide) rfl rfl rfl rfl dX9_leave_8 ?_
  refine Ev.aload_n dX9_leave_11 rfl rfl ?_
  refine Ev.bipush (v := 8) dX9_leave_12 (by decide) ?_
  refine Ev.put okX9 (by decide) fl_X9_38 pz_9_0 (by decide) rfl rfl rfl rfl dX9_leave_14 ?_
  refine Ev.goto (tgt := 35) dX9_leave_17 (by decide) ?_
  exact kn
theorem bkX9_leave_20 {d : Nat} {S : hs_T} {Q : Option av_T → hs_T → Prop} {P : hs_T → Prop} {x1 x2 : Int32} (hC : Cv d mX9_enter [vR 9 0, vI x1] (sk_ S 9 0 (upd (S.1 9 0) 3 ((S.1 9 0 3) + 1))) P) (kk : ∀ S', P S' → Ev (d + 1) mX9_leave 35 [some (vR 9 0), some (vI x1), some (vI x2)] [] S' Q) : Ev (d + 1) mX9_leave 20 [some (vR 9 0), some (vI x1), some (vI x2)] [] S Q := by
  refine Ev.aload_n dX9_leave_20 rfl rfl ?_
  refine Ev.dup dX9_leave_21 rfl ?_
  refine Ev.get (v := vI (S.1 9 0 3)) okX9 (by decide) fl_X9_21 pz_9_0 (ff_9_3 _ _) dX9_leave_22 ?_
  refine Ev.iconst (v := 1) dX9_leave_25 (by decide) ?_
  refine Ev.iadd dX9_leave_26 ?_
  refine Ev.put okX9 (by decide) fl_X9_21 pz_9_0 (by decide) rfl rfl rfl rfl dX9_leave_27 ?_
  refine Ev.aload_n dX9_leave_30 rfl rfl ?_
  refine Ev.iload_n dX9_leave_31 rfl rfl ?_
  exact Ev.callV (as := [vI x1]) (rest := []) okX9_enter in_X9_enter ml_X9_27 rfl (Nat.le_of_ble_eq_true rfl) pz_9_0 (by decide) rfl rfl dX9_leave_32 hC (fun r S' h => by obtain ⟨rfl, h⟩ := h; exact kk S' h)
theorem bkX9_leave_35 {d : Nat} {S : hs_T} {Q : Option av_T → hs_T → Prop} {x1 x2 : Int32} (hq : Q none S) : Ev d mX9_leave 35 [some (vR 9 0), some (vI x1), some (vI x2)] [] S Q := by
  exact Ev.vret dX9_leave_35 rfl hq
/-! EightWires.feed(J)I -/
theorem bkX10_feed_0 {d : Nat} {S : hs_T} {Q : Option av_T → hs_T → Prop} {x1 : Int64} {o3 : Option av_T} (kt : ((S.1 7 0 1) + 8) ≤ 400 → Ev d mX10_feed 24 [some (vR 10 0), some (vJ x1), none, some (vR 7 0)] [] S Q) (kf : ¬ ((S.1 7 0 1) + 8) ≤ 400 → Ev d mX10_feed 21 [some (vR 10 0), some (vJ x1), none, some (vR 7 0)] [] S Q) : Ev d mX10_feed 0 [some (vR 10 0), some (vJ x1), none, o3] [] S Q := by
  refine Ev.aload_n dX10_feed_0 rfl rfl ?_
  refine Ev.get (v := vR 4 0) okX10 (by decide) fl_X10_10 pz_10_0 (ff_10_0 _ _) dX10_feed_1 ?_
  refine Ev.get (v := vR 7 0) okX4 (by decide) fl_X10_79 pz_4_0 (ff_4_0 _ _) dX10_feed_4 ?_
  refine Ev.astore_n (ls' := [some (vR 10 0), some (vJ x1), none, some (vR 7 0)]) dX10_feed_7 rfl (by decide) rfl ?_
  refine Ev.aload_n dX10_feed_8 rfl rfl ?_
  refine Ev.get (v := vI (S.1 7 0 1)) okX7 (by decide) fl_X10_83 pz_7_0 (ff_7_1 _ _) dX10_feed_9 ?_
  refine Ev.bipush (v := 8) dX10_feed_12 (by decide) ?_
  refine Ev.iadd dX10_feed_14 ?_
  refine Ev.sipush (v := 400) dX10_feed_15 (by decide) ?_
  exact Ev.icmp_le (tgt := 24) dX10_feed_18 (by decide) kt kf
theorem bkX10_feed_21 {d : Nat} {S : hs_T} {Q : Option av_T → hs_T → Prop} {x1 : Int64} (hq : Q (some (vI (-3))) S) : Ev d mX10_feed 21 [some (vR 10 0), some (vJ x1), none, some (vR 7 0)] [] S Q := by
  refine Ev.bipush (v := (-3)) dX10_feed_21 (by decide) ?_
  exact Ev.iret dX10_feed_23 rfl rfl hq
theorem bkX10_feed_24 {d : Nat} {S : hs_T} {Q : Option av_T → hs_T → Prop} {P : hs_T → Prop} {x1 : Int64} (hC : Cv d mX7_append [vR 7 0, vJ x1] S P) (kk : ∀ S', P S' → Ev (d + 1) mX10_feed 29 [some (vR 10 0), some (vJ x1), none, some (vR 7 0)] [] S' Q) : Ev (d + 1) mX10_feed 24 [some (vR 10 0), some (vJ x1), none, some (vR 7 0)] [] S Q := by
  refine Ev.aload_n dX10_feed_24 rfl rfl ?_
  refine Ev.lload_n dX10_feed_25 rfl rfl ?_
  exact Ev.callV (as := [vJ x1]) (rest := []) okX7_append in_X7_append ml_X10_89 rfl (Nat.le_of_ble_eq_true rfl) pz_7_0 (by decide) rfl rfl dX10_feed_26 hC (fun r S' h => by obtain ⟨rfl, h⟩ := h; exact kk S' h)
theorem bkX10_feed_29 {d : Nat} {S : hs_T} {Q : Option av_T → hs_T → Prop} {x1 : Int64} (hq : Q (some (vI (S.1 7 0 1))) S) : Ev d mX10_feed 29 [some (vR 10 0), some (vJ x1), none, some (vR 7 0)] [] S Q := by
  refine Ev.aload_n dX10_feed_29 rfl rfl ?_
  refine Ev.get (v := vI (S.1 7 0 1)) okX7 (by decide) fl_X10_83 pz_7_0 (ff_7_1 _ _) dX10_feed_30 ?_
  exact Ev.iret dX10_feed_33 rfl rfl hq
/-! EightWires.end(I)I -/
theorem bkX10_end_0 {d : Nat} {S : hs_T} {Q : Option av_T → hs_T → Prop} {P : Int32 → hs_T → Prop} {x1 : Int32} {o2 o3 : Option av_T} (hC : Ci d mX10_within [vI x1, vI 0, vI (S.1 7 0 1)] S P) (kk : ∀ v S', P v S' → Ev (d + 1) mX10_end 17 [some (vR 10 0), some (vI x1), some (vR 7 0), o3] [vI v] S' Q) : Ev (d + 1) mX10_end 0 [some (vR 10 0), some (vI x1), o2, o3] [] S Q := by
  refine Ev.aload_n dX10_end_0 rfl rfl ?_
  refine Ev.get (v := vR 4 0) okX10 (by decide) fl_X10_10 pz_10_0 (ff_10_0 _ _) dX10_end_1 ?_
  refine Ev.get (v := vR 7 0) okX4 (by decide) fl_X10_79 pz_4_0 (ff_4_0 _ _) dX10_end_4 ?_
  refine Ev.astore_n (ls' := [some (vR 10 0), some (vI x1), some (vR 7 0), o3]) dX10_end_7 rfl (by decide) rfl ?_
  refine Ev.iload_n dX10_end_8 rfl rfl ?_
  refine Ev.iconst (v := 0) dX10_end_9 (by decide) ?_
  refine Ev.aload_n dX10_end_10 rfl rfl ?_
  refine Ev.get (v := vI (S.1 7 0 1)) okX7 (by decide) fl_X10_83 pz_7_0 (ff_7_1 _ _) dX10_end_11 ?_
  exact Ev.callS (as := [vI x1, vI 0, vI (S.1 7 0 1)]) (rest := []) okX10_within stX10_within ml_X10_93 rfl (Nat.le_of_ble_eq_true rfl) rfl dX10_end_14 hC (fun r S' h => by obtain ⟨v, rfl, h⟩ := h; exact kk v S' h)
theorem bkX10_end_17 {d : Nat} {S : hs_T} {Q : Option av_T → hs_T → Prop} {x1 y0 : Int32} {o3 : Option av_T} (kt : ¬ y0 = 0 → Ev d mX10_end 22 [some (vR 10 0), some (vI x1), some (vR 7 0), o3] [] S Q) (kf : y0 = 0 → Ev d mX10_end 20 [some (vR 10 0), some (vI x1), some (vR 7 0), o3] [] S Q) : Ev d mX10_end 17 [some (vR 10 0), some (vI x1), some (vR 7 0), o3] [vI y0] S Q := by
  exact Ev.if_ne (tgt := 22) dX10_end_17 (by decide) kt kf
theorem bkX10_end_20 {d : Nat} {S : hs_T} {Q : Option av_T → hs_T → Prop} {x1 : Int32} {o3 : Option av_T} (hq : Q (some (vI (-1))) S) : Ev d mX10_end 20 [some (vR 10 0), some (vI x1), some (vR 7 0), o3] [] S Q := by
  refine Ev.iconst (v := (-1)) dX10_end_20 (by decide) ?_
  exact Ev.iret dX10_end_21 rfl rfl hq
theorem bkX10_end_22 {d : Nat} {S : hs_T} {Q : Option av_T → hs_T → Prop} {x1 : Int32} {o3 : Option av_T} (hq : Q (some (vI (S.1 7 0 1))) (sk_ S 7 0 (upd (S.1 7 0) 1 x1))) : Ev d mX10_end 22 [some (vR 10 0), some (vI x1), some (vR 7 0), o3] [] S Q := by
  refine Ev.aload_n dX10_end_22 rfl rfl ?_
  refine Ev.get (v := vI (S.1 7 0 1)) okX7 (by decide) fl_X10_83 pz_7_0 (ff_7_1 _ _) dX10_end_23 ?_
  refine Ev.istore_n (ls' := [some (vR 10 0), some (vI x1), some (vR 7 0), some (vI (S.1 7 0 1))]) dX10_end_26 rfl (by decide) rfl ?_
  refine Ev.aload_n dX10_end_27 rfl rfl ?_
  refine Ev.iload_n dX10_end_28 rfl rfl ?_
  refine Ev.put okX7 (by decide) fl_X10_83 pz_7_0 (by decide) rfl rfl rfl rfl dX10_end_29 ?_
  refine Ev.iload_n dX10_end_32 rfl rfl ?_
  exact Ev.iret dX10_end_33 rfl rfl hq
/-! EightWires.text()I -/
theorem bkX10_text_0 {d : Nat} {S : hs_T} {Q : Option av_T → hs_T → Prop} {P : hs_T → Prop} {o1 : Option av_T} (hC : Cv d mX7_split [vR 7 0] S P) (kk : ∀ S', P S' → Ev (d + 1) mX10_text 12 [some (vR 10 0), some (vR 7 0)] [] S' Q) : Ev (d + 1) mX10_text 0 [some (vR 10 0), o1] [] S Q := by
  refine Ev.aload_n dX10_text_0 rfl rfl ?_
  refine Ev.get (v := vR 4 0) okX10 (by decide) fl_X10_10 pz_10_0 (ff_10_0 _ _) dX10_text_1 ?_
  refine Ev.get (v := vR 7 0) okX4 (by decide) fl_X10_79 pz_4_0 (ff_4_0 _ _) dX10_text_4 ?_
  refine Ev.astore_n (ls' := [some (vR 10 0), some (vR 7 0)]) dX10_text_7 rfl (by decide) rfl ?_
  refine Ev.aload_n dX10_text_8 rfl rfl ?_
  exact Ev.callV (as := []) (rest := []) okX7_split in_X7_split ml_X10_97 rfl (Nat.le_of_ble_eq_true rfl) pz_7_0 (by decide) rfl rfl dX10_text_9 hC (fun r S' h => by obtain ⟨rfl, h⟩ := h; exact kk S' h)
theorem bkX10_text_12 {d : Nat} {S : hs_T} {Q : Option av_T → hs_T → Prop} {P : hs_T → Prop} (hC : Cv d mX4_readAll [vR 4 0] S P) (kk : ∀ S', P S' → Ev (d + 1) mX10_text 19 [some (vR 10 0), some (vR 7 0)] [] S' Q) : Ev (d + 1) mX10_text 12 [some (vR 10 0), some (vR 7 0)] [] S Q := by
  refine Ev.aload_n dX10_text_12 rfl rfl ?_
  refine Ev.get (v := vR 4 0) okX10 (by decide) fl_X10_10 pz_10_0 (ff_10_0 _ _) dX10_text_13 ?_
  exact Ev.callV (as := []) (rest := []) okX4_readAll in_X4_readAll ml_X10_100 rfl (Nat.le_of_ble_eq_true rfl) pz_4_0 (by decide) rfl rfl dX10_text_16 hC (fun r S' h => by obtain ⟨rfl, h⟩ := h; exact kk S' h)
theorem bkX10_text_19 {d : Nat} {S : hs_T} {Q : Option av_T → hs_T → Prop} (kt : ((sk_ (sk_ S 7 0 (upd (S.1 7 0) 1 0)) 10 0 (upd ((sk_ S 7 0 (upd (S.1 7 0) 1 0)).1 10 0) 11 ((sk_ S 7 0 (upd (S.1 7 0) 1 0)).1 4 0 8))).1 4 0 8) = 0 → Ev d mX10_text 56 [some (vR 10 0), some (vR 7 0)] [] (sk_ (sk_ S 7 0 (upd (S.1 7 0) 1 0)) 10 0 (upd ((sk_ S 7 0 (upd (S.1 7 0) 1 0)).1 10 0) 11 ((sk_ S 7 0 (upd (S.1 7 0) 1 0)).1 4 0 8))) Q) (kf : ¬ ((sk_ (sk_ S 7 0 (upd (S.1 7 0) 1 0)) 10 0 (upd ((sk_ S 7 0 (upd (S.1 7 0) 1 0)).1 10 0) 11 ((sk_ S 7 0 (upd (S.1 7 0) 1 0)).1 4 0 8))).1 4 0 8) = 0 → Ev d mX10_text 45 [some (vR 10 0), some (vR 7 0)] [] (sk_ (sk_ S 7 0 (upd (S.1 7 0) 1 0)) 10 0 (upd ((sk_ S 7 0 (upd (S.1 7 0) 1 0)).1 10 0) 11 ((sk_ S 7 0 (upd (S.1 7 0) 1 0)).1 4 0 8))) Q) : Ev d mX10_text 19 [some (vR 10 0), some (vR 7 0)] [] S Q := by
  refine Ev.aload_n dX10_text_19 rfl rfl ?_
  refine Ev.iconst (v := 0) dX10_text_20 (by decide) ?_
  refine Ev.put okX7 (by decide) fl_X10_83 pz_7_0 (by decide) rfl rfl rfl rfl dX10_text_21 ?_
  refine Ev.aload_n dX10_text_24 rfl rfl ?_
  refine Ev.aload_n dX10_text_25 rfl rfl ?_
  refine Ev.get (v := vR 4 0) okX10 (by decide) fl_X10_10 pz_10_0 (ff_10_0 _ _) dX10_text_26 ?_
  refine Ev.get (v := vI ((sk_ S 7 0 (upd (S.1 7 0) 1 0)).1 4 0 8)) okX4 (by decide) fl_X10_103 pz_4_0 (ff_4_8 _ _) dX10_text_29 ?_
  refine Ev.put okX10 (by decide) fl_X10_106 pz_10_0 (by decide) rfl rfl rfl rfl dX10_text_32 ?_
  refine Ev.aload_n dX10_text_35 rfl rfl ?_
  refine Ev.get (v := vR 4 0) okX10 (by decide) fl_X10_10 pz_10_0 (ff_10_0 _ _) dX10_text_36 ?_
  refine Ev.get (v := vI ((sk_ (sk_ S 7 0 (upd (S.1 7 0) 1 0)) 10 0 (upd ((sk_ S 7 0 (upd (S.1 7 0) 1 0)).1 10 0) 11 ((sk_ S 7 0 (upd (S.1 7 0) 1 0)).1 4 0 8))).1 4 0 8)) okX4 (by decide) fl_X10_103 pz_4_0 (ff_4_8 _ _) dX10_text_39 ?_
  exact Ev.if_eq (tgt := 56) dX10_text_42 (by decide) kt kf
theorem bkX10_text_45 {d : Nat} {S : hs_T} {Q : Option av_T → hs_T → Prop} (hq : Q (some (vI ((-10) - (S.1 4 0 9)))) S) : Ev d mX10_text 45 [some (vR 10 0), some (vR 7 0)] [] S Q := by
  refine Ev.bipush (v := (-10)) dX10_text_45 (by decide) ?_
  refine Ev.aload_n dX10_text_47 rfl rfl ?_
  refine Ev.get (v := vR 4 0) okX10 (by decide) fl_X10_10 pz_10_0 (ff_10_0 _ _) dX10_text_48 ?_
  refine Ev.get (v := vI (S.1 4 0 9)) okX4 (by decide) fl_X10_109 pz_4_0 (ff_4_9 _ _) dX10_text_51 ?_
  refine Ev.isub dX10_text_54 ?_
  exact Ev.iret dX10_text_55 rfl rfl hq
theorem bkX10_text_56 {d : Nat} {S : hs_T} {Q : Option av_T → hs_T → Prop} {P : Option (Nat × Nat) → hs_T → Prop} (hC : Cr d mX4_exchange [vR 4 0, vR 5 (S.2.2 0)] S P) (kk : ∀ v S', P v S' → Ev (d + 1) mX10_text 68 [some (vR 10 0), some (vR 7 0)] (Sum.inr (Sum.inr v) :: [vR 10 0]) S' Q) : Ev (d + 1) mX10_text 56 [some (vR 10 0), some (vR 7 0)] [] S Q := by
  refine Ev.aload_n dX10_text_56 rfl rfl ?_
  refine Ev.aload_n dX10_text_57 rfl rfl ?_
  refine Ev.get (v := vR 4 0) okX10 (by decide) fl_X10_10 pz_10_0 (ff_10_0 _ _) dX10_text_58 ?_
  refine Ev.aload_n dX10_text_61 rfl rfl ?_
  refine Ev.get (v := vR 5 (S.2.2 0)) okX10 (by decide) fl_X10_75 pz_10_0 (ff_10_10 _ _) dX10_text_62 ?_
  exact Ev.callV (as := [vR 5 (S.2.2 0)]) (rest := [vR 10 0]) okX4_exchange in_X4_exchange ml_X10_112 rfl (Nat.le_of_ble_eq_true rfl) pz_4_0 (by decide) rfl rfl dX10_text_65 hC (fun r S' h => by obtain ⟨v, rfl, h⟩ := h; exact kk v S' h)
theorem bkX10_text_68 {d : Nat} {S : hs_T} {Q : Option av_T → hs_T → Prop} {i0 : Nat} (hq : Q (some (vI ((sd_ S 0 i0).1 4 0 10))) (sd_ S 0 i0)) : Ev d mX10_text 68 [some (vR 10 0), some (vR 7 0)] [vR 5 i0, vR 10 0] S Q := by
  refine Ev.putD okX10 (by decide) fl_X10_75 pz_10_0 rfl pu_0 pj_10 rfl rfl rfl dX10_text_68 ?_
  refine Ev.aload_n dX10_text_71 rfl rfl ?_
  refine Ev.get (v := vR 4 0) okX10 (by decide) fl_X10_10 pz_10_0 (ff_10_0 _ _) dX10_text_72 ?_
  refine Ev.get (v := vI ((sd_ S 0 i0).1 4 0 10)) okX4 (by decide) fl_X10_116 pz_4_0 (ff_4_10 _ _) dX10_text_75 ?_
  exact Ev.iret dX10_text_78 rfl rfl hq
/-! EightWires.fault()I -/
theorem bkX10_fault_0 {d : Nat} {S : hs_T} {Q : Option av_T → hs_T → Prop} (hq : Q (some (vI (S.1 10 0 11))) S) : Ev d mX10_fault 0 [some (vR 10 0)] [] S Q := by
  refine Ev.aload_n dX10_fault_0 rfl rfl ?_
  refine Ev.get (v := vI (S.1 10 0 11)) okX10 (by decide) fl_X10_106 pz_10_0 (ff_10_11 _ _) dX10_fault_1 ?_
  exact Ev.iret dX10_fault_4 rfl rfl hq
/-! EightWires.rule(I)I -/
theorem bkX10_rule_0 {d : Nat} {S : hs_T} {Q : Option av_T → hs_T → Prop} {x1 : Int32} (k0 : x1 = 0 → Ev d mX10_rule 32 [some (vR 10 0), some (vI x1)] [] S Q) (k1 : x1 = 1 → Ev d mX10_rule 40 [some (vR 10 0), some (vI x1)] [] S Q) (k2 : x1 = 2 → Ev d mX10_rule 48 [some (vR 10 0), some (vI x1)] [] S Q) (k3 : x1 = 3 → Ev d mX10_rule 56 [some (vR 10 0), some (vI x1)] [] S Q) (kd : ¬ x1 = 0 → ¬ x1 = 1 → ¬ x1 = 2 → ¬ x1 = 3 → Ev d mX10_rule 66 [some (vR 10 0), some (vI x1)] [] S Q) : Ev d mX10_rule 0 [some (vR 10 0), some (vI x1)] [] S Q := by
  refine Ev.iload_n dX10_rule_0 rfl rfl ?_
  by_cases hc0 : x1 = 0
  · exact Ev.tableIn (off := 31) (tgt := 32) dX10_rule_1 (by rw [hc0]; decide) (by rw [hc0]; decide) (by rw [hc0]; rfl) (by decide) (k0 hc0)
  by_cases hc1 : x1 = 1
  · exact Ev.tableIn (off := 39) (tgt := 40) dX10_rule_1 (by rw [hc1]; decide) (by rw [hc1]; decide) (by rw [hc1]; rfl) (by decide) (k1 hc1)
  by_cases hc2 : x1 = 2
  · exact Ev.tableIn (off := 47) (tgt := 48) dX10_rule_1 (by rw [hc2]; decide) (by rw [hc2]; decide) (by rw [hc2]; rfl) (by decide) (k2 hc2)
  by_cases hc3 : x1 = 3
  · exact Ev.tableIn (off := 55) (tgt := 56) dX10_rule_1 (by rw [hc3]; decide) (by rw [hc3]; decide) (by rw [hc3]; rfl) (by decide) (k3 hc3)
  refine Ev.tableOut (tgt := 66) dX10_rule_1 (tw_out (fun c h1 h2 => ?_)) (by decide) (kd hc0 hc1 hc2 hc3)
  have hcs : c = 0 ∨ c = 1 ∨ c = 2 ∨ c = 3 := by omega
  rcases hcs with rfl | rfl | rfl | rfl
  · exact fun z => hc0 (Int32.toInt_inj.mp (z.trans (by decide)))
  · exact fun z => hc1 (Int32.toInt_inj.mp (z.trans (by decide)))
  · exact fun z => hc2 (Int32.toInt_inj.mp (z.trans (by decide)))
  · exact fun z => hc3 (Int32.toInt_inj.mp (z.trans (by decide)))
theorem bkX10_rule_32 {d : Nat} {S : hs_T} {Q : Option av_T → hs_T → Prop} {x1 : Int32} (hjS220 : (S.2.2 0) < 2) (hq : Q (some (vI (S.1 5 (S.2.2 0) 6))) S) : Ev d mX10_rule 32 [some (vR 10 0), some (vI x1)] [] S Q := by
  refine Ev.aload_n dX10_rule_32 rfl rfl ?_
  refine Ev.get (v := vR 5 (S.2.2 0)) okX10 (by decide) fl_X10_75 pz_10_0 (ff_10_10 _ _) dX10_rule_33 ?_
  refine Ev.get (v := vI (S.1 5 (S.2.2 0) 6)) okX5 (by decide) fl_X10_119 (pl5 hjS220) (ff_5_6 _ _) dX10_rule_36 ?_
  exact Ev.iret dX10_rule_39 rfl rfl hq
theorem bkX10_rule_40 {d : Nat} {S : hs_T} {Q : Option av_T → hs_T → Prop} {x1 : Int32} (hjS220 : (S.2.2 0) < 2) (hq : Q (some (vI (S.1 5 (S.2.2 0) 7))) S) : Ev d mX10_rule 40 [some (vR 10 0), some (vI x1)] [] S Q := by
  refine Ev.aload_n dX10_rule_40 rfl rfl ?_
  refine Ev.get (v := vR 5 (S.2.2 0)) okX10 (by decide) fl_X10_75 pz_10_0 (ff_10_10 _ _) dX10_rule_41 ?_
  refine Ev.get (v := vI (S.1 5 (S.2.2 0) 7)) okX5 (by decide) fl_X10_122 (pl5 hjS220) (ff_5_7 _ _) dX10_rule_44 ?_
  exact Ev.iret dX10_rule_47 rfl rfl hq
theorem bkX10_rule_48 {d : Nat} {S : hs_T} {Q : Option av_T → hs_T → Prop} {x1 : Int32} (hjS220 : (S.2.2 0) < 2) (hq : Q (some (vI (S.1 5 (S.2.2 0) 8))) S) : Ev d mX10_rule 48 [some (vR 10 0), some (vI x1)] [] S Q := by
  refine Ev.aload_n dX10_rule_48 rfl rfl ?_
  refine Ev.get (v := vR 5 (S.2.2 0)) okX10 (by decide) fl_X10_75 pz_10_0 (ff_10_10 _ _) dX10_rule_49 ?_
  refine Ev.get (v := vI (S.1 5 (S.2.2 0) 8)) okX5 (by decide) fl_X10_125 (pl5 hjS220) (ff_5_8 _ _) dX10_rule_52 ?_
  exact Ev.iret dX10_rule_55 rfl rfl hq
theorem bkX10_rule_56 {d : Nat} {S : hs_T} {Q : Option av_T → hs_T → Prop} {P : Int32 → hs_T → Prop} {x1 : Int32} (hjS220 : (S.2.2 0) < 2) (hC : Ci d mX5_termCount [vR 5 (S.2.2 0), vI 24] S P) (kk : ∀ v S', P v S' → Ev (d + 1) mX10_rule 65 [some (vR 10 0), some (vI x1)] [vI v] S' Q) : Ev (d + 1) mX10_rule 56 [some (vR 10 0), some (vI x1)] [] S Q := by
  refine Ev.aload_n dX10_rule_56 rfl rfl ?_
  refine Ev.get (v := vR 5 (S.2.2 0)) okX10 (by decide) fl_X10_75 pz_10_0 (ff_10_10 _ _) dX10_rule_57 ?_
  refine Ev.bipush (v := 24) dX10_rule_60 (by decide) ?_
  exact Ev.callV (as := [vI 24]) (rest := []) okX5_termCount in_X5_termCount ml_X10_128 rfl (Nat.le_of_ble_eq_true rfl) (pl5 hjS220) (by decide) rfl rfl dX10_rule_62 hC (fun r S' h => by obtain ⟨v, rfl, h⟩ := h; exact kk v S' h)
theorem bkX10_rule_65 {d : Nat} {S : hs_T} {Q : Option av_T → hs_T → Prop} {x1 y0 : Int32} (hq : Q (some (vI y0)) S) : Ev d mX10_rule 65 [some (vR 10 0), some (vI x1)] [vI y0] S Q := by
  exact Ev.iret dX10_rule_65 rfl rfl hq
theorem bkX10_rule_66 {d : Nat} {S : hs_T} {Q : Option av_T → hs_T → Prop} {P : Int32 → hs_T → Prop} {x1 : Int32} (hjS220 : (S.2.2 0) < 2) (hC : Ci d mX10_within [vI x1, vI 10, vI (9 + (S.1 5 (S.2.2 0) 6))] S P) (kk : ∀ v S', P v S' → Ev (d + 1) mX10_rule 82 [some (vR 10 0), some (vI x1)] [vI v] S' Q) : Ev (d + 1) mX10_rule 66 [some (vR 10 0), some (vI x1)] [] S Q := by
  refine Ev.iload_n dX10_rule_66 rfl rfl ?_
  refine Ev.bipush (v := 10) dX10_rule_67 (by decide) ?_
  refine Ev.bipush (v := 9) dX10_rule_69 (by decide) ?_
  refine Ev.aload_n dX10_rule_71 rfl rfl ?_
  refine Ev.get (v := vR 5 (S.2.2 0)) okX10 (by decide) fl_X10_75 pz_10_0 (ff_10_10 _ _) dX10_rule_72 ?_
  refine Ev.get (v := vI (S.1 5 (S.2.2 0) 6)) okX5 (by decide) fl_X10_119 (pl5 hjS220) (ff_5_6 _ _) dX10_rule_75 ?_
  refine Ev.iadd dX10_rule_78 ?_
  exact Ev.callS (as := [vI x1, vI 10, vI (9 + (S.1 5 (S.2.2 0) 6))]) (rest := []) okX10_within stX10_within ml_X10_93 rfl (Nat.le_of_ble_eq_true rfl) rfl dX10_rule_79 hC (fun r S' h => by obtain ⟨v, rfl, h⟩ := h; exact kk v S' h)
theorem bkX10_rule_82 {d : Nat} {S : hs_T} {Q : Option av_T → hs_T → Prop} {x1 y0 : Int32} (kt : y0 = 0 → Ev d mX10_rule 99 [some (vR 10 0), some (vI x1)] [] S Q) (kf : ¬ y0 = 0 → Ev d mX10_rule 85 [some (vR 10 0), some (vI x1)] [] S Q) : Ev d mX10_rule 82 [some (vR 10 0), some (vI x1)] [vI y0] S Q := by
  exact Ev.if_eq (tgt := 99) dX10_rule_82 (by decide) kt kf
theorem bkX10_rule_85 {d : Nat} {S : hs_T} {Q : Option av_T → hs_T → Prop} {P : Int32 → hs_T → Prop} {x1 : Int32} (hjS220 : (S.2.2 0) < 2) (hC : Ci d mX5_branchCount [vR 5 (S.2.2 0), vI (x1 - 10)] S P) (kk : ∀ v S', P v S' → Ev (d + 1) mX10_rule 96 [some (vR 10 0), some (vI x1)] [vI v] S' Q) : Ev (d + 1) mX10_rule 85 [some (vR 10 0), some (vI x1)] [] S Q := by
  refine Ev.aload_n dX10_rule_85 rfl rfl ?_
  refine Ev.get (v := vR 5 (S.2.2 0)) okX10 (by decide) fl_X10_75 pz_10_0 (ff_10_10 _ _) dX10_rule_86 ?_
  refine Ev.iload_n dX10_rule_89 rfl rfl ?_
  refine Ev.bipush (v := 10) dX10_rule_90 (by decide) ?_
  refine Ev.isub dX10_rule_92 ?_
  exact Ev.callV (as := [vI (x1 - 10)]) (rest := []) okX5_branchCount in_X5_branchCount ml_X10_132 rfl (Nat.le_of_ble_eq_true rfl) (pl5 hjS220) (by decide) rfl rfl dX10_rule_93 hC (fun r S' h => by obtain ⟨v, rfl, h⟩ := h; exact kk v S' h)
theorem bkX10_rule_96 {d : Nat} {S : hs_T} {Q : Option av_T → hs_T → Prop} {x1 y0 : Int32} (kn : Ev d mX10_rule 100 [some (vR 10 0), some (vI x1)] [vI y0] S Q) : Ev d mX10_rule 96 [some (vR 10 0), some (vI x1)] [vI y0] S Q := by
  refine Ev.goto (tgt := 100) dX10_rule_96 (by decide) ?_
  exact kn
theorem bkX10_rule_99 {d : Nat} {S : hs_T} {Q : Option av_T → hs_T → Prop} {x1 : Int32} (kn : Ev d mX10_rule 100 [some (vR 10 0), some (vI x1)] [vI (-1)] S Q) : Ev d mX10_rule 99 [some (vR 10 0), some (vI x1)] [] S Q := by
  refine Ev.iconst (v := (-1)) dX10_rule_99 (by decide) ?_
  exact kn
theorem bkX10_rule_100 {d : Nat} {S : hs_T} {Q : Option av_T → hs_T → Prop} {x1 y0 : Int32} (hq : Q (some (vI y0)) S) : Ev d mX10_rule 100 [some (vR 10 0), some (vI x1)] [vI y0] S Q := by
  exact Ev.iret dX10_rule_100 rfl rfl hq
/-! EightWires.branch(III)I -/
theorem bkX10_branch_0 {d : Nat} {S : hs_T} {Q : Option av_T → hs_T → Prop} {P : Int32 → hs_T → Prop} {x1 x2 x3 : Int32} {o4 o5 : Option av_T} (hjS220 : (S.2.2 0) < 2) (hC : Ci d mX5_branchPlace [vR 5 (S.2.2 0), vI x1, vI x2] S P) (kk : ∀ v S', P v S' → Ev (d + 1) mX10_branch 9 [some (vR 10 0), some (vI x1), some (vI x2), some (vI x3), o4, o5] [vI v] S' Q) : Ev (d + 1) mX10_branch 0 [some (vR 10 0), some (vI x1), some (vI x2), some (vI x3), o4, o5] [] S Q := by
  refine Ev.aload_n dX10_branch_0 rfl rfl ?_
  refine Ev.get (v := vR 5 (S.2.2 0)) okX10 (by decide) fl_X10_75 pz_10_0 (ff_10_10 _ _) dX10_branch_1 ?_
  refine Ev.iload_n dX10_branch_4 rfl rfl ?_
  refine Ev.iload_n dX10_branch_5 rfl rfl ?_
  exact Ev.callV (as := [vI x1, vI x2]) (rest := []) okX5_branchPlace in_X5_branchPlace ml_X10_135 rfl (Nat.le_of_ble_eq_true rfl) (pl5 hjS220) (by decide) rfl rfl dX10_branch_6 hC (fun r S' h => by obtain ⟨v, rfl, h⟩ := h; exact kk v S' h)
theorem bkX10_branch_9 {d : Nat} {S : hs_T} {Q : Option av_T → hs_T → Prop} {x1 x2 x3 y0 : Int32} {o4 o5 : Option av_T} (kt : 0 ≤ y0 → Ev d mX10_branch 18 [some (vR 10 0), some (vI x1), some (vI x2), some (vI x3), some (vI y0), o5] [] S Q) (kf : ¬ 0 ≤ y0 → Ev d mX10_branch 16 [some (vR 10 0), some (vI x1), some (vI x2), some (vI x3), some (vI y0), o5] [] S Q) : Ev d mX10_branch 9 [some (vR 10 0), some (vI x1), some (vI x2), some (vI x3), o4, o5] [vI y0] S Q := by
  refine Ev.istore (ls' := [some (vR 10 0), some (vI x1), some (vI x2), some (vI x3), some (vI y0), o5]) dX10_branch_9 (by decide) rfl ?_
  refine Ev.iload dX10_branch_11 rfl ?_
  exact Ev.if_ge (tgt := 18) dX10_branch_13 (by decide) kt kf
theorem bkX10_branch_16 {d : Nat} {S : hs_T} {Q : Option av_T → hs_T → Prop} {x1 x2 x3 x4 : Int32} {o5 : Option av_T} (hq : Q (some (vI (-1))) S) : Ev d mX10_branch 16 [some (vR 10 0), some (vI x1), some (vI x2), some (vI x3), some (vI x4), o5] [] S Q := by
  refine Ev.iconst (v := (-1)) dX10_branch_16 (by decide) ?_
  exact Ev.iret dX10_branch_17 rfl rfl hq
theorem bkX10_branch_18 {d : Nat} {S : hs_T} {Q : Option av_T → hs_T → Prop} {P : Int32 → hs_T → Prop} {x1 x2 x3 x4 : Int32} {o5 : Option av_T} (hjS220 : (S.2.2 0) < 2) (hC : Ci d mX5_termCount [vR 5 (S.2.2 0), vI x4] S P) (kk : ∀ v S', P v S' → Ev (d + 1) mX10_branch 27 [some (vR 10 0), some (vI x1), some (vI x2), some (vI x3), some (vI x4), o5] [vI v] S' Q) : Ev (d + 1) mX10_branch 18 [some (vR 10 0), some (vI x1), some (vI x2), some (vI x3), some (vI x4), o5] [] S Q := by
  refine Ev.aload_n dX10_branch_18 rfl rfl ?_
  refine Ev.get (v := vR 5 (S.2.2 0)) okX10 (by decide) fl_X10_75 pz_10_0 (ff_10_10 _ _) dX10_branch_19 ?_
  refine Ev.iload dX10_branch_22 rfl ?_
  exact Ev.callV (as := [vI x4]) (rest := []) okX5_termCount in_X5_termCount ml_X10_128 rfl (Nat.le_of_ble_eq_true rfl) (pl5 hjS220) (by decide) rfl rfl dX10_branch_24 hC (fun r S' h => by obtain ⟨v, rfl, h⟩ := h; exact kk v S' h)
theorem bkX10_branch_27 {d : Nat} {S : hs_T} {Q : Option av_T → hs_T → Prop} {P : Int32 → hs_T → Prop} {x1 x2 x3 x4 y0 : Int32} {o5 : Option av_T} (hC : Ci d mX10_within [vI x3, vI 10, vI (9 + y0)] S P) (kk : ∀ v S', P v S' → Ev (d + 1) mX10_branch 40 [some (vR 10 0), some (vI x1), some (vI x2), some (vI x3), some (vI x4), some (vI y0)] [vI v] S' Q) : Ev (d + 1) mX10_branch 27 [some (vR 10 0), some (vI x1), some (vI x2), some (vI x3), some (vI x4), o5] [vI y0] S Q := by
  refine Ev.istore (ls' := [some (vR 10 0), some (vI x1), some (vI x2), some (vI x3), some (vI x4), some (vI y0)]) dX10_branch_27 (by decide) rfl ?_
  refine Ev.iload_n dX10_branch_29 rfl rfl ?_
  refine Ev.bipush (v := 10) dX10_branch_30 (by decide) ?_
  refine Ev.bipush (v := 9) dX10_branch_32 (by decide) ?_
  refine Ev.iload dX10_branch_34 rfl ?_
  refine Ev.iadd dX10_branch_36 ?_
  exact Ev.callS (as := [vI x3, vI 10, vI (9 + y0)]) (rest := []) okX10_within stX10_within ml_X10_93 rfl (Nat.le_of_ble_eq_true rfl) rfl dX10_branch_37 hC (fun r S' h => by obtain ⟨v, rfl, h⟩ := h; exact kk v S' h)
theorem bkX10_branch_40 {d : Nat} {S : hs_T} {Q : Option av_T → hs_T → Prop} {x1 x2 x3 x4 x5 y0 : Int32} (kt : y0 = 0 → Ev d mX10_branch 57 [some (vR 10 0), some (vI x1), some (vI x2), some (vI x3), some (vI x4), some (vI x5)] [] S Q) (kf : ¬ y0 = 0 → Ev d mX10_branch 43 [some (vR 10 0), some (vI x1), some (vI x2), some (vI x3), some (vI x4), some (vI x5)] [] S Q) : Ev d mX10_branch 40 [some (vR 10 0), some (vI x1), some (vI x2), some (vI x3), some (vI x4), some (vI x5)] [vI y0] S Q := by
  exact Ev.if_eq (tgt := 57) dX10_branch_40 (by decide) kt kf
theorem bkX10_branch_43 {d : Nat} {S : hs_T} {Q : Option av_T → hs_T → Prop} {P : Int32 → hs_T → Prop} {x1 x2 x3 x4 x5 : Int32} (hjS220 : (S.2.2 0) < 2) (hC : Ci d mX5_termKind [vR 5 (S.2.2 0), vI x4, vI (x3 - 10)] S P) (kk : ∀ v S', P v S' → Ev (d + 1) mX10_branch 56 [some (vR 10 0), some (vI x1), some (vI x2), some (vI x3), some (vI x4), some (vI x5)] [vI v] S' Q) : Ev (d + 1) mX10_branch 43 [some (vR 10 0), some (vI x1), some (vI x2), some (vI x3), some (vI x4), some (vI x5)] [] S Q := by
  refine Ev.aload_n dX10_branch_43 rfl rfl ?_
  refine Ev.get (v := vR 5 (S.2.2 0)) okX10 (by decide) fl_X10_75 pz_10_0 (ff_10_10 _ _) dX10_branch_44 ?_
  refine Ev.iload dX10_branch_47 rfl ?_
  refine Ev.iload_n dX10_branch_49 rfl rfl ?_
  refine Ev.bipush (v := 10) dX10_branch_50 (by decide) ?_
  refine Ev.isub dX10_branch_52 ?_
  exact Ev.callV (as := [vI x4, vI (x3 - 10)]) (rest := []) okX5_termKind in_X5_termKind ml_X10_139 rfl (Nat.le_of_ble_eq_true rfl) (pl5 hjS220) (by decide) rfl rfl dX10_branch_53 hC (fun r S' h => by obtain ⟨v, rfl, h⟩ := h; exact kk v S' h)
theorem bkX10_branch_56 {d : Nat} {S : hs_T} {Q : Option av_T → hs_T → Prop} {x1 x2 x3 x4 x5 y0 : Int32} (hq : Q (some (vI y0)) S) : Ev d mX10_branch 56 [some (vR 10 0), some (vI x1), some (vI x2), some (vI x3), some (vI x4), some (vI x5)] [vI y0] S Q := by
  exact Ev.iret dX10_branch_56 rfl rfl hq
theorem bkX10_branch_57 {d : Nat} {S : hs_T} {Q : Option av_T → hs_T → Prop} {P : Int32 → hs_T → Prop} {x1 x2 x3 x4 x5 : Int32} (hC : Ci d mX10_within [vI x3, vI 20, vI (19 + x5)] S P) (kk : ∀ v S', P v S' → Ev (d + 1) mX10_branch 68 [some (vR 10 0), some (vI x1), some (vI x2), some (vI x3), some (vI x4), some (vI x5)] [vI v] S' Q) : Ev (d + 1) mX10_branch 57 [some (vR 10 0), some (vI x1), some (vI x2), some (vI x3), some (vI x4), some (vI x5)] [] S Q := by
  refine Ev.iload_n dX10_branch_57 rfl rfl ?_
  refine Ev.bipush (v := 20) dX10_branch_58 (by decide) ?_
  refine Ev.bipush (v := 19) dX10_branch_60 (by decide) ?_
  refine Ev.iload dX10_branch_62 rfl ?_
  refine Ev.iadd dX10_branch_64 ?_
  exact Ev.callS (as := [vI x3, vI 20, vI (19 + x5)]) (rest := []) okX10_within stX10_within ml_X10_93 rfl (Nat.le_of_ble_eq_true rfl) rfl dX10_branch_65 hC (fun r S' h => by obtain ⟨v, rfl, h⟩ := h; exact kk v S' h)
theorem bkX10_branch_68 {d : Nat} {S : hs_T} {Q : Option av_T → hs_T → Prop} {x1 x2 x3 x4 x5 y0 : Int32} (kt : y0 = 0 → Ev d mX10_branch 85 [some (vR 10 0), some (vI x1), some (vI x2), some (vI x3), some (vI x4), some (vI x5)] [] S Q) (kf : ¬ y0 = 0 → Ev d mX10_branch 71 [some (vR 10 0), some (vI x1), some (vI x2), some (vI x3), some (vI x4), some (vI x5)] [] S Q) : Ev d mX10_branch 68 [some (vR 10 0), some (vI x1), some (vI x2), some (vI x3), some (vI x4), some (vI x5)] [vI y0] S Q := by
  exact Ev.if_eq (tgt := 85) dX10_branch_68 (by decide) kt kf
theorem bkX10_branch_71 {d : Nat} {S : hs_T} {Q : Option av_T → hs_T → Prop} {P : Int32 → hs_T → Prop} {x1 x2 x3 x4 x5 : Int32} (hjS220 : (S.2.2 0) < 2) (hC : Ci d mX5_termNumber [vR 5 (S.2.2 0), vI x4, vI (x3 - 20)] S P) (kk : ∀ v S', P v S' → Ev (d + 1) mX10_branch 84 [some (vR 10 0), some (vI x1), some (vI x2), some (vI x3), some (vI x4), some (vI x5)] [vI v] S' Q) : Ev (d + 1) mX10_branch 71 [some (vR 10 0), some (vI x1), some (vI x2), some (vI x3), some (vI x4), some (vI x5)] [] S Q := by
  refine Ev.aload_n dX10_branch_71 rfl rfl ?_
  refine Ev.get (v := vR 5 (S.2.2 0)) okX10 (by decide) fl_X10_75 pz_10_0 (ff_10_10 _ _) dX10_branch_72 ?_
  refine Ev.iload dX10_branch_75 rfl ?_
  refine Ev.iload_n dX10_branch_77 rfl rfl ?_
  refine Ev.bipush (v := 20) dX10_branch_78 (by decide) ?_
  refine Ev.isub dX10_branch_80 ?_
  exact Ev.callV (as := [vI x4, vI (x3 - 20)]) (rest := []) okX5_termNumber in_X5_termNumber ml_X10_142 rfl (Nat.le_of_ble_eq_true rfl) (pl5 hjS220) (by decide) rfl rfl dX10_branch_81 hC (fun r S' h => by obtain ⟨v, rfl, h⟩ := h; exact kk v S' h)
theorem bkX10_branch_84 {d : Nat} {S : hs_T} {Q : Option av_T → hs_T → Prop} {x1 x2 x3 x4 x5 y0 : Int32} (hq : Q (some (vI y0)) S) : Ev d mX10_branch 84 [some (vR 10 0), some (vI x1), some (vI x2), some (vI x3), some (vI x4), some (vI x5)] [vI y0] S Q := by
  exact Ev.iret dX10_branch_84 rfl rfl hq
theorem bkX10_branch_85 {d : Nat} {S : hs_T} {Q : Option av_T → hs_T → Prop} {x1 x2 x3 x4 x5 : Int32} (k0 : x3 = 0 → Ev d mX10_branch 112 [some (vR 10 0), some (vI x1), some (vI x2), some (vI x3), some (vI x4), some (vI x5)] [] S Q) (k1 : x3 = 1 → Ev d mX10_branch 115 [some (vR 10 0), some (vI x1), some (vI x2), some (vI x3), some (vI x4), some (vI x5)] [] S Q) (k2 : x3 = 2 → Ev d mX10_branch 125 [some (vR 10 0), some (vI x1), some (vI x2), some (vI x3), some (vI x4), some (vI x5)] [] S Q) (kd : ¬ x3 = 0 → ¬ x3 = 1 → ¬ x3 = 2 → Ev d mX10_branch 135 [some (vR 10 0), some (vI x1), some (vI x2), some (vI x3), some (vI x4), some (vI x5)] [] S Q) : Ev d mX10_branch 85 [some (vR 10 0), some (vI x1), some (vI x2), some (vI x3), some (vI x4), some (vI x5)] [] S Q := by
  refine Ev.iload_n dX10_branch_85 rfl rfl ?_
  by_cases hc0 : x3 = 0
  · exact Ev.tableIn (off := 26) (tgt := 112) dX10_branch_86 (by rw [hc0]; decide) (by rw [hc0]; decide) (by rw [hc0]; rfl) (by decide) (k0 hc0)
  by_cases hc1 : x3 = 1
  · exact Ev.tableIn (off := 29) (tgt := 115) dX10_branch_86 (by rw [hc1]; decide) (by rw [hc1]; decide) (by rw [hc1]; rfl) (by decide) (k1 hc1)
  by_cases hc2 : x3 = 2
  · exact Ev.tableIn (off := 39) (tgt := 125) dX10_branch_86 (by rw [hc2]; decide) (by rw [hc2]; decide) (by rw [hc2]; rfl) (by decide) (k2 hc2)
  refine Ev.tableOut (tgt := 135) dX10_branch_86 (tw_out (fun c h1 h2 => ?_)) (by decide) (kd hc0 hc1 hc2)
  have hcs : c = 0 ∨ c = 1 ∨ c = 2 := by omega
  rcases hcs with rfl | rfl | rfl
  · exact fun z => hc0 (Int32.toInt_inj.mp (z.trans (by decide)))
  · exact fun z => hc1 (Int32.toInt_inj.mp (z.trans (by decide)))
  · exact fun z => hc2 (Int32.toInt_inj.mp (z.trans (by decide)))
theorem bkX10_branch_112 {d : Nat} {S : hs_T} {Q : Option av_T → hs_T → Prop} {x1 x2 x3 x4 x5 : Int32} (hq : Q (some (vI x5)) S) : Ev d mX10_branch 112 [some (vR 10 0), some (vI x1), some (vI x2), some (vI x3), some (vI x4), some (vI x5)] [] S Q := by
  refine Ev.iload dX10_branch_112 rfl ?_
  exact Ev.iret dX10_branch_114 rfl rfl hq
theorem bkX10_branch_115 {d : Nat} {S : hs_T} {Q : Option av_T → hs_T → Prop} {P : Int32 → hs_T → Prop} {x1 x2 x3 x4 x5 : Int32} (hjS220 : (S.2.2 0) < 2) (hC : Ci d mX5_timesOf [vR 5 (S.2.2 0), vI x4] S P) (kk : ∀ v S', P v S' → Ev (d + 1) mX10_branch 124 [some (vR 10 0), some (vI x1), some (vI x2), some (vI x3), some (vI x4), some (vI x5)] [vI v] S' Q) : Ev (d + 1) mX10_branch 115 [some (vR 10 0), some (vI x1), some (vI x2), some (vI x3), some (vI x4), some (vI x5)] [] S Q := by
  refine Ev.aload_n dX10_branch_115 rfl rfl ?_
  refine Ev.get (v := vR 5 (S.2.2 0)) okX10 (by decide) fl_X10_75 pz_10_0 (ff_10_10 _ _) dX10_branch_116 ?_
  refine Ev.iload dX10_branch_119 rfl ?_
  exact Ev.callV (as := [vI x4]) (rest := []) okX5_timesOf in_X5_timesOf ml_X10_145 rfl (Nat.le_of_ble_eq_true rfl) (pl5 hjS220) (by decide) rfl rfl dX10_branch_121 hC (fun r S' h => by obtain ⟨v, rfl, h⟩ := h; exact kk v S' h)
theorem bkX10_branch_124 {d : Nat} {S : hs_T} {Q : Option av_T → hs_T → Prop} {x1 x2 x3 x4 x5 y0 : Int32} (hq : Q (some (vI y0)) S) : Ev d mX10_branch 124 [some (vR 10 0), some (vI x1), some (vI x2), some (vI x3), some (vI x4), some (vI x5)] [vI y0] S Q := by
  exact Ev.iret dX10_branch_124 rfl rfl hq
theorem bkX10_branch_125 {d : Nat} {S : hs_T} {Q : Option av_T → hs_T → Prop} {P : Int32 → hs_T → Prop} {x1 x2 x3 x4 x5 : Int32} (hjS220 : (S.2.2 0) < 2) (hC : Ci d mX5_targetOf [vR 5 (S.2.2 0), vI x4] S P) (kk : ∀ v S', P v S' → Ev (d + 1) mX10_branch 134 [some (vR 10 0), some (vI x1), some (vI x2), some (vI x3), some (vI x4), some (vI x5)] [vI v] S' Q) : Ev (d + 1) mX10_branch 125 [some (vR 10 0), some (vI x1), some (vI x2), some (vI x3), some (vI x4), some (vI x5)] [] S Q := by
  refine Ev.aload_n dX10_branch_125 rfl rfl ?_
  refine Ev.get (v := vR 5 (S.2.2 0)) okX10 (by decide) fl_X10_75 pz_10_0 (ff_10_10 _ _) dX10_branch_126 ?_
  refine Ev.iload dX10_branch_129 rfl ?_
  exact Ev.callV (as := [vI x4]) (rest := []) okX5_targetOf in_X5_targetOf ml_X10_148 rfl (Nat.le_of_ble_eq_true rfl) (pl5 hjS220) (by decide) rfl rfl dX10_branch_131 hC (fun r S' h => by obtain ⟨v, rfl, h⟩ := h; exact kk v S' h)
theorem bkX10_branch_134 {d : Nat} {S : hs_T} {Q : Option av_T → hs_T → Prop} {x1 x2 x3 x4 x5 y0 : Int32} (hq : Q (some (vI y0)) S) : Ev d mX10_branch 134 [some (vR 10 0), some (vI x1), some (vI x2), some (vI x3), some (vI x4), some (vI x5)] [vI y0] S Q := by
  exact Ev.iret dX10_branch_134 rfl rfl hq
theorem bkX10_branch_135 {d : Nat} {S : hs_T} {Q : Option av_T → hs_T → Prop} {x1 x2 x3 x4 x5 : Int32} (hq : Q (some (vI (-1))) S) : Ev d mX10_branch 135 [some (vR 10 0), some (vI x1), some (vI x2), some (vI x3), some (vI x4), some (vI x5)] [] S Q := by
  refine Ev.iconst (v := (-1)) dX10_branch_135 (by decide) ?_
  exact Ev.iret dX10_branch_136 rfl rfl hq
/-! EightWires.see(II)I -/
theorem bkX10_see_0 {d : Nat} {S : hs_T} {Q : Option av_T → hs_T → Prop} {P : Int32 → hs_T → Prop} {x1 x2 : Int32} {o3 : Option av_T} (hC : Ci d mX10_refusalOf [vI x1, vI x2, vI (S.1 8 0 1)] S P) (kk : ∀ v S', P v S' → Ev (d + 1) mX10_see 12 [some (vR 10 0), some (vI x1), some (vI x2), o3] [vI v] S' Q) : Ev (d + 1) mX10_see 0 [some (vR 10 0), some (vI x1), some (vI x2), o3] [] S Q := by
  refine Ev.iload_n dX10_see_0 rfl rfl ?_
  refine Ev.iload_n dX10_see_1 rfl rfl ?_
  refine Ev.aload_n dX10_see_2 rfl rfl ?_
  refine Ev.get (v := vR 8 0) okX10 (by decide) fl_X10_19 pz_10_0 (ff_10_1 _ _) dX10_see_3 ?_
  refine Ev.get (v := vI (S.1 8 0 1)) okX8 (by decide) fl_X10_151 pz_8_0 (ff_8_1 _ _) dX10_see_6 ?_
  exact Ev.callS (as := [vI x1, vI x2, vI (S.1 8 0 1)]) (rest := []) okX10_refusalOf stX10_refusalOf ml_X10_152 rfl (Nat.le_of_ble_eq_true rfl) rfl dX10_see_9 hC (fun r S' h => by obtain ⟨v, rfl, h⟩ := h; exact kk v S' h)
theorem bkX10_see_12 {d : Nat} {S : hs_T} {Q : Option av_T → hs_T → Prop} {x1 x2 y0 : Int32} {o3 : Option av_T} (kt : y0 = 0 → Ev d mX10_see 19 [some (vR 10 0), some (vI x1), some (vI x2), some (vI y0)] [] S Q) (kf : ¬ y0 = 0 → Ev d mX10_see 17 [some (vR 10 0), some (vI x1), some (vI x2), some (vI y0)] [] S Q) : Ev d mX10_see 12 [some (vR 10 0), some (vI x1), some (vI x2), o3] [vI y0] S Q := by
  refine Ev.istore_n (ls' := [some (vR 10 0), some (vI x1), some (vI x2), some (vI y0)]) dX10_see_12 rfl (by decide) rfl ?_
  refine Ev.iload_n dX10_see_13 rfl rfl ?_
  exact Ev.if_eq (tgt := 19) dX10_see_14 (by decide) kt kf
theorem bkX10_see_17 {d : Nat} {S : hs_T} {Q : Option av_T → hs_T → Prop} {x1 x2 x3 : Int32} (hq : Q (some (vI x3)) S) : Ev d mX10_see 17 [some (vR 10 0), some (vI x1), some (vI x2), some (vI x3)] [] S Q := by
  refine Ev.iload_n dX10_see_17 rfl rfl ?_
  exact Ev.iret dX10_see_18 rfl rfl hq
theorem bkX10_see_19 {d : Nat} {S : hs_T} {Q : Option av_T → hs_T → Prop} {P : hs_T → Prop} {x1 x2 x3 : Int32} (hC : Cv d mX8_append [vR 8 0, vI x1, vI x2] S P) (kk : ∀ S', P S' → Ev (d + 1) mX10_see 28 [some (vR 10 0), some (vI x1), some (vI x2), some (vI x3)] [] S' Q) : Ev (d + 1) mX10_see 19 [some (vR 10 0), some (vI x1), some (vI x2), some (vI x3)] [] S Q := by
  refine Ev.aload_n dX10_see_19 rfl rfl ?_
  refine Ev.get (v := vR 8 0) okX10 (by decide) fl_X10_19 pz_10_0 (ff_10_1 _ _) dX10_see_20 ?_
  refine Ev.iload_n dX10_see_23 rfl rfl ?_
  refine Ev.iload_n dX10_see_24 rfl rfl ?_
  exact Ev.callV (as := [vI x1, vI x2]) (rest := []) okX8_append in_X8_append ml_X10_156 rfl (Nat.le_of_ble_eq_true rfl) pz_8_0 (by decide) rfl rfl dX10_see_25 hC (fun r S' h => by obtain ⟨rfl, h⟩ := h; exact kk S' h)
theorem bkX10_see_28 {d : Nat} {S : hs_T} {Q : Option av_T → hs_T → Prop} {x1 x2 x3 : Int32} (hq : Q (some (vI (S.1 8 0 1))) S) : Ev d mX10_see 28 [some (vR 10 0), some (vI x1), some (vI x2), some (vI x3)] [] S Q := by
  refine Ev.aload_n dX10_see_28 rfl rfl ?_
  refine Ev.get (v := vR 8 0) okX10 (by decide) fl_X10_19 pz_10_0 (ff_10_1 _ _) dX10_see_29 ?_
  refine Ev.get (v := vI (S.1 8 0 1)) okX8 (by decide) fl_X10_151 pz_8_0 (ff_8_1 _ _) dX10_see_32 ?_
  exact Ev.iret dX10_see_35 rfl rfl hq
/-! EightWires.cut(I)I -/
theorem bkX10_cut_0 {d : Nat} {S : hs_T} {Q : Option av_T → hs_T → Prop} {P : Int32 → hs_T → Prop} {x1 : Int32} {o2 : Option av_T} (hC : Ci d mX10_within [vI x1, vI 0, vI (S.1 8 0 1)] S P) (kk : ∀ v S', P v S' → Ev (d + 1) mX10_cut 12 [some (vR 10 0), some (vI x1), o2] [vI v] S' Q) : Ev (d + 1) mX10_cut 0 [some (vR 10 0), some (vI x1), o2] [] S Q := by
  refine Ev.iload_n dX10_cut_0 rfl rfl ?_
  refine Ev.iconst (v := 0) dX10_cut_1 (by decide) ?_
  refine Ev.aload_n dX10_cut_2 rfl rfl ?_
  refine Ev.get (v := vR 8 0) okX10 (by decide) fl_X10_19 pz_10_0 (ff_10_1 _ _) dX10_cut_3 ?_
  refine Ev.get (v := vI (S.1 8 0 1)) okX8 (by decide) fl_X10_151 pz_8_0 (ff_8_1 _ _) dX10_cut_6 ?_
  exact Ev.callS (as := [vI x1, vI 0, vI (S.1 8 0 1)]) (rest := []) okX10_within stX10_within ml_X10_93 rfl (Nat.le_of_ble_eq_true rfl) rfl dX10_cut_9 hC (fun r S' h => by obtain ⟨v, rfl, h⟩ := h; exact kk v S' h)
theorem bkX10_cut_12 {d : Nat} {S : hs_T} {Q : Option av_T → hs_T → Prop} {x1 y0 : Int32} {o2 : Option av_T} (kt : ¬ y0 = 0 → Ev d mX10_cut 17 [some (vR 10 0), some (vI x1), o2] [] S Q) (kf : y0 = 0 → Ev d mX10_cut 15 [some (vR 10 0), some (vI x1), o2] [] S Q) : Ev d mX10_cut 12 [some (vR 10 0), some (vI x1), o2] [vI y0] S Q := by
  exact Ev.if_ne (tgt := 17) dX10_cut_12 (by decide) kt kf
theorem bkX10_cut_15 {d : Nat} {S : hs_T} {Q : Option av_T → hs_T → Prop} {x1 : Int32} {o2 : Option av_T} (hq : Q (some (vI (-1))) S) : Ev d mX10_cut 15 [some (vR 10 0), some (vI x1), o2] [] S Q := by
  refine Ev.iconst (v := (-1)) dX10_cut_15 (by decide) ?_
  exact Ev.iret dX10_cut_16 rfl rfl hq
theorem bkX10_cut_17 {d : Nat} {S : hs_T} {Q : Option av_T → hs_T → Prop} {x1 : Int32} {o2 : Option av_T} (hq : Q (some (vI (S.1 8 0 1))) (sk_ S 8 0 (upd (S.1 8 0) 1 x1))) : Ev d mX10_cut 17 [some (vR 10 0), some (vI x1), o2] [] S Q := by
  refine Ev.aload_n dX10_cut_17 rfl rfl ?_
  refine Ev.get (v := vR 8 0) okX10 (by decide) fl_X10_19 pz_10_0 (ff_10_1 _ _) dX10_cut_18 ?_
  refine Ev.get (v := vI (S.1 8 0 1)) okX8 (by decide) fl_X10_151 pz_8_0 (ff_8_1 _ _) dX10_cut_21 ?_
  refine Ev.istore_n (ls' := [some (vR 10 0), some (vI x1), some (vI (S.1 8 0 1))]) dX10_cut_24 rfl (by decide) rfl ?_
  refine Ev.aload_n dX10_cut_25 rfl rfl ?_
  refine Ev.get (v := vR 8 0) okX10 (by decide) fl_X10_19 pz_10_0 (ff_10_1 _ _) dX10_cut_26 ?_
  refine Ev.iload_n dX10_cut_29 rfl rfl ?_
  refine Ev.put okX8 (by decide) fl_X10_151 pz_8_0 (by decide) rfl rfl rfl rfl dX10_cut_30 ?_
  refine Ev.iload_n dX10_cut_33 rfl rfl ?_
  exact Ev.iret dX10_cut_34 rfl rfl hq
/-! EightWires.at(I)I -/
theorem bkX10_at_0 {d : Nat} {S : hs_T} {Q : Option av_T → hs_T → Prop} {P : Int32 → hs_T → Prop} {x1 : Int32} (hC : Ci d mX8_has [vR 8 0, vI x1] S P) (kk : ∀ v S', P v S' → Ev (d + 1) mX10_at 8 [some (vR 10 0), some (vI x1)] [vI v] S' Q) : Ev (d + 1) mX10_at 0 [some (vR 10 0), some (vI x1)] [] S Q := by
  refine Ev.aload_n dX10_at_0 rfl rfl ?_
  refine Ev.get (v := vR 8 0) okX10 (by decide) fl_X10_19 pz_10_0 (ff_10_1 _ _) dX10_at_1 ?_
  refine Ev.iload_n dX10_at_4 rfl rfl ?_
  exact Ev.callV (as := [vI x1]) (rest := []) okX8_has in_X8_has ml_X10_159 rfl (Nat.le_of_ble_eq_true rfl) pz_8_0 (by decide) rfl rfl dX10_at_5 hC (fun r S' h => by obtain ⟨v, rfl, h⟩ := h; exact kk v S' h)
theorem bkX10_at_8 {d : Nat} {S : hs_T} {Q : Option av_T → hs_T → Prop} {x1 y0 : Int32} (kt : y0 = 0 → Ev d mX10_at 22 [some (vR 10 0), some (vI x1)] [] S Q) (kf : ¬ y0 = 0 → Ev d mX10_at 11 [some (vR 10 0), some (vI x1)] [] S Q) : Ev d mX10_at 8 [some (vR 10 0), some (vI x1)] [vI y0] S Q := by
  exact Ev.if_eq (tgt := 22) dX10_at_8 (by decide) kt kf
theorem bkX10_at_11 {d : Nat} {S : hs_T} {Q : Option av_T → hs_T → Prop} {P : Int32 → hs_T → Prop} {x1 : Int32} (hC : Ci d mX8_sample [vR 8 0, vI x1] S P) (kk : ∀ v S', P v S' → Ev (d + 1) mX10_at 19 [some (vR 10 0), some (vI x1)] [vI v] S' Q) : Ev (d + 1) mX10_at 11 [some (vR 10 0), some (vI x1)] [] S Q := by
  refine Ev.aload_n dX10_at_11 rfl rfl ?_
  refine Ev.get (v := vR 8 0) okX10 (by decide) fl_X10_19 pz_10_0 (ff_10_1 _ _) dX10_at_12 ?_
  refine Ev.iload_n dX10_at_15 rfl rfl ?_
  exact Ev.callV (as := [vI x1]) (rest := []) okX8_sample in_X8_sample ml_X10_163 rfl (Nat.le_of_ble_eq_true rfl) pz_8_0 (by decide) rfl rfl dX10_at_16 hC (fun r S' h => by obtain ⟨v, rfl, h⟩ := h; exact kk v S' h)
theorem bkX10_at_19 {d : Nat} {S : hs_T} {Q : Option av_T → hs_T → Prop} {x1 y0 : Int32} (kn : Ev d mX10_at 23 [some (vR 10 0), some (vI x1)] [vI y0] S Q) : Ev d mX10_at 19 [some (vR 10 0), some (vI x1)] [vI y0] S Q := by
  refine Ev.goto (tgt := 23) dX10_at_19 (by decide) ?_
  exact kn
theorem bkX10_at_22 {d : Nat} {S : hs_T} {Q : Option av_T → hs_T → Prop} {x1 : Int32} (kn : Ev d mX10_at 23 [some (vR 10 0), some (vI x1)] [vI (-1)] S Q) : Ev d mX10_at 22 [some (vR 10 0), some (vI x1)] [] S Q := by
  refine Ev.iconst (v := (-1)) dX10_at_22 (by decide) ?_
  exact kn
theorem bkX10_at_23 {d : Nat} {S : hs_T} {Q : Option av_T → hs_T → Prop} {x1 y0 : Int32} (hq : Q (some (vI y0)) S) : Ev d mX10_at 23 [some (vR 10 0), some (vI x1)] [vI y0] S Q := by
  exact Ev.iret dX10_at_23 rfl rfl hq
/-! EightWires.put(II)I -/
theorem bkX10_put_0 {d : Nat} {S : hs_T} {Q : Option av_T → hs_T → Prop} {P : Int32 → hs_T → Prop} {x1 x2 : Int32} {o3 : Option av_T} (hC : Ci d mX8_has [vR 8 0, vI x1] S P) (kk : ∀ v S', P v S' → Ev (d + 1) mX10_put 8 [some (vR 10 0), some (vI x1), some (vI x2), o3] [vI v] S' Q) : Ev (d + 1) mX10_put 0 [some (vR 10 0), some (vI x1), some (vI x2), o3] [] S Q := by
  refine Ev.aload_n dX10_put_0 rfl rfl ?_
  refine Ev.get (v := vR 8 0) okX10 (by decide) fl_X10_19 pz_10_0 (ff_10_1 _ _) dX10_put_1 ?_
  refine Ev.iload_n dX10_put_4 rfl rfl ?_
  exact Ev.callV (as := [vI x1]) (rest := []) okX8_has in_X8_has ml_X10_159 rfl (Nat.le_of_ble_eq_true rfl) pz_8_0 (by decide) rfl rfl dX10_put_5 hC (fun r S' h => by obtain ⟨v, rfl, h⟩ := h; exact kk v S' h)
theorem bkX10_put_8 {d : Nat} {S : hs_T} {Q : Option av_T → hs_T → Prop} {x1 x2 y0 : Int32} {o3 : Option av_T} (kt : y0 = 0 → Ev d mX10_put 22 [some (vR 10 0), some (vI x1), some (vI x2), o3] [] S Q) (kf : ¬ y0 = 0 → Ev d mX10_put 11 [some (vR 10 0), some (vI x1), some (vI x2), o3] [] S Q) : Ev d mX10_put 8 [some (vR 10 0), some (vI x1), some (vI x2), o3] [vI y0] S Q := by
  exact Ev.if_eq (tgt := 22) dX10_put_8 (by decide) kt kf
theorem bkX10_put_11 {d : Nat} {S : hs_T} {Q : Option av_T → hs_T → Prop} {P : Int32 → hs_T → Prop} {x1 x2 : Int32} {o3 : Option av_T} (hC : Ci d mX10_within [vI x2, vI 0, vI 255] S P) (kk : ∀ v S', P v S' → Ev (d + 1) mX10_put 19 [some (vR 10 0), some (vI x1), some (vI x2), o3] [vI v] S' Q) : Ev (d + 1) mX10_put 11 [some (vR 10 0), some (vI x1), some (vI x2), o3] [] S Q := by
  refine Ev.iload_n dX10_put_11 rfl rfl ?_
  refine Ev.iconst (v := 0) dX10_put_12 (by decide) ?_
  refine Ev.sipush (v := 255) dX10_put_13 (by decide) ?_
  exact Ev.callS (as := [vI x2, vI 0, vI 255]) (rest := []) okX10_within stX10_within ml_X10_93 rfl (Nat.le_of_ble_eq_true rfl) rfl dX10_put_16 hC (fun r S' h => by obtain ⟨v, rfl, h⟩ := h; exact kk v S' h)
theorem bkX10_put_19 {d : Nat} {S : hs_T} {Q : Option av_T → hs_T → Prop} {x1 x2 y0 : Int32} {o3 : Option av_T} (kt : ¬ y0 = 0 → Ev d mX10_put 24 [some (vR 10 0), some (vI x1), some (vI x2), o3] [] S Q) (kf : y0 = 0 → Ev d mX10_put 22 [some (vR 10 0), some (vI x1), some (vI x2), o3] [] S Q) : Ev d mX10_put 19 [some (vR 10 0), some (vI x1), some (vI x2), o3] [vI y0] S Q := by
  exact Ev.if_ne (tgt := 24) dX10_put_19 (by decide) kt kf
theorem bkX10_put_22 {d : Nat} {S : hs_T} {Q : Option av_T → hs_T → Prop} {x1 x2 : Int32} {o3 : Option av_T} (hq : Q (some (vI (-1))) S) : Ev d mX10_put 22 [some (vR 10 0), some (vI x1), some (vI x2), o3] [] S Q := by
  refine Ev.iconst (v := (-1)) dX10_put_22 (by decide) ?_
  exact Ev.iret dX10_put_23 rfl rfl hq
theorem bkX10_put_24 {d : Nat} {S : hs_T} {Q : Option av_T → hs_T → Prop} {P : Int32 → hs_T → Prop} {x1 x2 : Int32} {o3 : Option av_T} (hC : Ci d mX8_sample [vR 8 0, vI x1] S P) (kk : ∀ v S', P v S' → Ev (d + 1) mX10_put 32 [some (vR 10 0), some (vI x1), some (vI x2), o3] [vI v] S' Q) : Ev (d + 1) mX10_put 24 [some (vR 10 0), some (vI x1), some (vI x2), o3] [] S Q := by
  refine Ev.aload_n dX10_put_24 rfl rfl ?_
  refine Ev.get (v := vR 8 0) okX10 (by decide) fl_X10_19 pz_10_0 (ff_10_1 _ _) dX10_put_25 ?_
  refine Ev.iload_n dX10_put_28 rfl rfl ?_
  exact Ev.callV (as := [vI x1]) (rest := []) okX8_sample in_X8_sample ml_X10_163 rfl (Nat.le_of_ble_eq_true rfl) pz_8_0 (by decide) rfl rfl dX10_put_29 hC (fun r S' h => by obtain ⟨v, rfl, h⟩ := h; exact kk v S' h)
theorem bkX10_put_32 {d : Nat} {S : hs_T} {Q : Option av_T → hs_T → Prop} {P : hs_T → Prop} {x1 x2 y0 : Int32} {o3 : Option av_T} (hC : Cv d mX8_replace [vR 8 0, vI x1, vI x2] S P) (kk : ∀ S', P S' → Ev (d + 1) mX10_put 42 [some (vR 10 0), some (vI x1), some (vI x2), some (vI y0)] [] S' Q) : Ev (d + 1) mX10_put 32 [some (vR 10 0), some (vI x1), some (vI x2), o3] [vI y0] S Q := by
  refine Ev.istore_n (ls' := [some (vR 10 0), some (vI x1), some (vI x2), some (vI y0)]) dX10_put_32 rfl (by decide) rfl ?_
  refine Ev.aload_n dX10_put_33 rfl rfl ?_
  refine Ev.get (v := vR 8 0) okX10 (by decide) fl_X10_19 pz_10_0 (ff_10_1 _ _) dX10_put_34 ?_
  refine Ev.iload_n dX10_put_37 rfl rfl ?_
  refine Ev.iload_n dX10_put_38 rfl rfl ?_
  exact Ev.callV (as := [vI x1, vI x2]) (rest := []) okX8_replace in_X8_replace ml_X10_166 rfl (Nat.le_of_ble_eq_true rfl) pz_8_0 (by decide) rfl rfl dX10_put_39 hC (fun r S' h => by obtain ⟨rfl, h⟩ := h; exact kk S' h)
theorem bkX10_put_42 {d : Nat} {S : hs_T} {Q : Option av_T → hs_T → Prop} {x1 x2 x3 : Int32} (hq : Q (some (vI x3)) S) : Ev d mX10_put 42 [some (vR 10 0), some (vI x1), some (vI x2), some (vI x3)] [] S Q := by
  refine Ev.iload_n dX10_put_42 rfl rfl ?_
  exact Ev.iret dX10_put_43 rfl rfl hq
/-! EightWires.run(I)I -/
theorem bkX10_run_0 {d : Nat} {S : hs_T} {Q : Option av_T → hs_T → Prop} {P : Int32 → hs_T → Prop} {x1 : Int32} (hC : Ci d mX10_within [vI x1, vI 0, vI 3] S P) (kk : ∀ v S', P v S' → Ev (d + 1) mX10_run 6 [some (vR 10 0), some (vI x1)] [vI v] S' Q) : Ev (d + 1) mX10_run 0 [some (vR 10 0), some (vI x1)] [] S Q := by
  refine Ev.iload_n dX10_run_0 rfl rfl ?_
  refine Ev.iconst (v := 0) dX10_run_1 (by decide) ?_
  refine Ev.iconst (v := 3) dX10_run_2 (by decide) ?_
  exact Ev.callS (as := [vI x1, vI 0, vI 3]) (rest := []) okX10_within stX10_within ml_X10_93 rfl (Nat.le_of_ble_eq_true rfl) rfl dX10_run_3 hC (fun r S' h => by obtain ⟨v, rfl, h⟩ := h; exact kk v S' h)
theorem bkX10_run_6 {d : Nat} {S : hs_T} {Q : Option av_T → hs_T → Prop} {x1 y0 : Int32} (kt : ¬ y0 = 0 → Ev d mX10_run 11 [some (vR 10 0), some (vI x1)] [] S Q) (kf : y0 = 0 → Ev d mX10_run 9 [some (vR 10 0), some (vI x1)] [] S Q) : Ev d mX10_run 6 [some (vR 10 0), some (vI x1)] [vI y0] S Q := by
  exact Ev.if_ne (tgt := 11) dX10_run_6 (by decide) kt kf
theorem bkX10_run_9 {d : Nat} {S : hs_T} {Q : Option av_T → hs_T → Prop} {x1 : Int32} (hq : Q (some (vI (-1))) S) : Ev d mX10_run 9 [some (vR 10 0), some (vI x1)] [] S Q := by
  refine Ev.iconst (v := (-1)) dX10_run_9 (by decide) ?_
  exact Ev.iret dX10_run_10 rfl rfl hq
theorem bkX10_run_11 {d : Nat} {S : hs_T} {Q : Option av_T → hs_T → Prop} {x1 : Int32} (hjS220 : (S.2.2 0) < 2) (kt : ¬ (S.1 5 (S.2.2 0) 6) = 0 → Ev d mX10_run 24 [some (vR 10 0), some (vI x1)] [] S Q) (kf : (S.1 5 (S.2.2 0) 6) = 0 → Ev d mX10_run 21 [some (vR 10 0), some (vI x1)] [] S Q) : Ev d mX10_run 11 [some (vR 10 0), some (vI x1)] [] S Q := by
  refine Ev.aload_n dX10_run_11 rfl rfl ?_
  refine Ev.get (v := vR 5 (S.2.2 0)) okX10 (by decide) fl_X10_75 pz_10_0 (ff_10_10 _ _) dX10_run_12 ?_
  refine Ev.get (v := vI (S.1 5 (S.2.2 0) 6)) okX5 (by decide) fl_X10_119 (pl5 hjS220) (ff_5_6 _ _) dX10_run_15 ?_
  exact Ev.if_ne (tgt := 24) dX10_run_18 (by decide) kt kf
theorem bkX10_run_21 {d : Nat} {S : hs_T} {Q : Option av_T → hs_T → Prop} {x1 : Int32} (hq : Q (some (vI (-2))) S) : Ev d mX10_run 21 [some (vR 10 0), some (vI x1)] [] S Q := by
  refine Ev.bipush (v := (-2)) dX10_run_21 (by decide) ?_
  exact Ev.iret dX10_run_23 rfl rfl hq
theorem bkX10_run_24 {d : Nat} {S : hs_T} {Q : Option av_T → hs_T → Prop} {P : hs_T → Prop} {x1 : Int32} (hC : Cv d mX9_follow [vR 9 0, vR 5 (S.2.2 0), vR 8 0, vI (S.1 8 0 1)] S P) (kk : ∀ S', P S' → Ev (d + 1) mX10_run 46 [some (vR 10 0), some (vI x1)] [] S' Q) : Ev (d + 1) mX10_run 24 [some (vR 10 0), some (vI x1)] [] S Q := by
  refine Ev.aload_n dX10_run_24 rfl rfl ?_
  refine Ev.get (v := vR 9 0) okX10 (by decide) fl_X10_40 pz_10_0 (ff_10_5 _ _) dX10_run_25 ?_
  refine Ev.aload_n dX10_run_28 rfl rfl ?_
  refine Ev.get (v := vR 5 (S.2.2 0)) okX10 (by decide) fl_X10_75 pz_10_0 (ff_10_10 _ _) dX10_run_29 ?_
  refine Ev.aload_n dX10_run_32 rfl rfl ?_
  refine Ev.get (v := vR 8 0) okX10 (by decide) fl_X10_19 pz_10_0 (ff_10_1 _ _) dX10_run_33 ?_
  refine Ev.aload_n dX10_run_36 rfl rfl ?_
  refine Ev.get (v := vR 8 0) okX10 (by decide) fl_X10_19 pz_10_0 (ff_10_1 _ _) dX10_run_37 ?_
  refine Ev.get (v := vI (S.1 8 0 1)) okX8 (by decide) fl_X10_151 pz_8_0 (ff_8_1 _ _) dX10_run_40 ?_
  exact Ev.callV (as := [vR 5 (S.2.2 0), vR 8 0, vI (S.1 8 0 1)]) (rest := []) okX9_follow in_X9_follow ml_X10_169 rfl (Nat.le_of_ble_eq_true rfl) pz_9_0 (by decide) rfl rfl dX10_run_43 hC (fun r S' h => by obtain ⟨rfl, h⟩ := h; exact kk S' h)
theorem bkX10_run_46 {d : Nat} {S : hs_T} {Q : Option av_T → hs_T → Prop} {x1 : Int32} (k0 : x1 = 0 → Ev d mX10_run 72 [some (vR 10 0), some (vI x1)] [] S Q) (k1 : x1 = 1 → Ev d mX10_run 80 [some (vR 10 0), some (vI x1)] [] S Q) (k2 : x1 = 2 → Ev d mX10_run 88 [some (vR 10 0), some (vI x1)] [] S Q) (kd : ¬ x1 = 0 → ¬ x1 = 1 → ¬ x1 = 2 → Ev d mX10_run 96 [some (vR 10 0), some (vI x1)] [] S Q) : Ev d mX10_run 46 [some (vR 10 0), some (vI x1)] [] S Q := by
  refine Ev.iload_n dX10_run_46 rfl rfl ?_
  by_cases hc0 : x1 = 0
  · exact Ev.tableIn (off := 25) (tgt := 72) dX10_run_47 (by rw [hc0]; decide) (by rw [hc0]; decide) (by rw [hc0]; rfl) (by decide) (k0 hc0)
  by_cases hc1 : x1 = 1
  · exact Ev.tableIn (off := 33) (tgt := 80) dX10_run_47 (by rw [hc1]; decide) (by rw [hc1]; decide) (by rw [hc1]; rfl) (by decide) (k1 hc1)
  by_cases hc2 : x1 = 2
  · exact Ev.tableIn (off := 41) (tgt := 88) dX10_run_47 (by rw [hc2]; decide) (by rw [hc2]; decide) (by rw [hc2]; rfl) (by decide) (k2 hc2)
  refine Ev.tableOut (tgt := 96) dX10_run_47 (tw_out (fun c h1 h2 => ?_)) (by decide) (kd hc0 hc1 hc2)
  have hcs : c = 0 ∨ c = 1 ∨ c = 2 := by omega
  rcases hcs with rfl | rfl | rfl
  · exact fun z => hc0 (Int32.toInt_inj.mp (z.trans (by decide)))
  · exact fun z => hc1 (Int32.toInt_inj.mp (z.trans (by decide)))
  · exact fun z => hc2 (Int32.toInt_inj.mp (z.trans (by decide)))
theorem bkX10_run_72 {d : Nat} {S : hs_T} {Q : Option av_T → hs_T → Prop} {x1 : Int32} (hq : Q (some (vI (S.1 9 0 1))) S) : Ev d mX10_run 72 [some (vR 10 0), some (vI x1)] [] S Q := by
  refine Ev.aload_n dX10_run_72 rfl rfl ?_
  refine Ev.get (v := vR 9 0) okX10 (by decide) fl_X10_40 pz_10_0 (ff_10_5 _ _) dX10_run_73 ?_
  refine Ev.get (v := vI (S.1 9 0 1)) okX9 (by decide) fl_X10_173 pz_9_0 (ff_9_1 _ _) dX10_run_76 ?_
  exact Ev.iret dX10_run_79 rfl rfl hq
theorem bkX10_run_80 {d : Nat} {S : hs_T} {Q : Option av_T → hs_T → Prop} {x1 : Int32} (hq : Q (some (vI (S.1 9 0 2))) S) : Ev d mX10_run 80 [some (vR 10 0), some (vI x1)] [] S Q := by
  refine Ev.aload_n dX10_run_80 rfl rfl ?_
  refine Ev.get (v := vR 9 0) okX10 (by decide) fl_X10_40 pz_10_0 (ff_10_5 _ _) dX10_run_81 ?_
  refine Ev.get (v := vI (S.1 9 0 2)) okX9 (by decide) fl_X10_176 pz_9_0 (ff_9_2 _ _) dX10_run_84 ?_
  exact Ev.iret dX10_run_87 rfl rfl hq
theorem bkX10_run_88 {d : Nat} {S : hs_T} {Q : Option av_T → hs_T → Prop} {x1 : Int32} (hq : Q (some (vI (S.1 9 0 3))) S) : Ev d mX10_run 88 [some (vR 10 0), some (vI x1)] [] S Q := by
  refine Ev.aload_n dX10_run_88 rfl rfl ?_
  refine Ev.get (v := vR 9 0) okX10 (by decide) fl_X10_40 pz_10_0 (ff_10_5 _ _) dX10_run_89 ?_
  refine Ev.get (v := vI (S.1 9 0 3)) okX9 (by decide) fl_X10_179 pz_9_0 (ff_9_3 _ _) dX10_run_92 ?_
  exact Ev.iret dX10_run_95 rfl rfl hq
theorem bkX10_run_96 {d : Nat} {S : hs_T} {Q : Option av_T → hs_T → Prop} {x1 : Int32} (hq : Q (some (vI (S.1 9 0 4))) S) : Ev d mX10_run 96 [some (vR 10 0), some (vI x1)] [] S Q := by
  refine Ev.aload_n dX10_run_96 rfl rfl ?_
  refine Ev.get (v := vR 9 0) okX10 (by decide) fl_X10_40 pz_10_0 (ff_10_5 _ _) dX10_run_97 ?_
  refine Ev.get (v := vI (S.1 9 0 4)) okX9 (by decide) fl_X10_182 pz_9_0 (ff_9_4 _ _) dX10_run_100 ?_
  exact Ev.iret dX10_run_103 rfl rfl hq
/-! EightWires.state(I)I -/
theorem bkX10_state_0 {d : Nat} {S : hs_T} {Q : Option av_T → hs_T → Prop} {P : Int32 → hs_T → Prop} {x1 : Int32} (hC : Ci d mX8_has [vR 8 0, vI x1] S P) (kk : ∀ v S', P v S' → Ev (d + 1) mX10_state 8 [some (vR 10 0), some (vI x1)] [vI v] S' Q) : Ev (d + 1) mX10_state 0 [some (vR 10 0), some (vI x1)] [] S Q := by
  refine Ev.aload_n dX10_state_0 rfl rfl ?_
  refine Ev.get (v := vR 8 0) okX10 (by decide) fl_X10_19 pz_10_0 (ff_10_1 _ _) dX10_state_1 ?_
  refine Ev.iload_n dX10_state_4 rfl rfl ?_
  exact Ev.callV (as := [vI x1]) (rest := []) okX8_has in_X8_has ml_X10_159 rfl (Nat.le_of_ble_eq_true rfl) pz_8_0 (by decide) rfl rfl dX10_state_5 hC (fun r S' h => by obtain ⟨v, rfl, h⟩ := h; exact kk v S' h)
theorem bkX10_state_8 {d : Nat} {S : hs_T} {Q : Option av_T → hs_T → Prop} {x1 y0 : Int32} (kt : ¬ y0 = 0 → Ev d mX10_state 13 [some (vR 10 0), some (vI x1)] [] S Q) (kf : y0 = 0 → Ev d mX10_state 11 [some (vR 10 0), some (vI x1)] [] S Q) : Ev d mX10_state 8 [some (vR 10 0), some (vI x1)] [vI y0] S Q := by
  exact Ev.if_ne (tgt := 13) dX10_state_8 (by decide) kt kf
theorem bkX10_state_11 {d : Nat} {S : hs_T} {Q : Option av_T → hs_T → Prop} {x1 : Int32} (hq : Q (some (vI (-1))) S) : Ev d mX10_state 11 [some (vR 10 0), some (vI x1)] [] S Q := by
  refine Ev.iconst (v := (-1)) dX10_state_11 (by decide) ?_
  exact Ev.iret dX10_state_12 rfl rfl hq
theorem bkX10_state_13 {d : Nat} {S : hs_T} {Q : Option av_T → hs_T → Prop} {x1 : Int32} (hjS220 : (S.2.2 0) < 2) (kt : ¬ (S.1 5 (S.2.2 0) 6) = 0 → Ev d mX10_state 26 [some (vR 10 0), some (vI x1)] [] S Q) (kf : (S.1 5 (S.2.2 0) 6) = 0 → Ev d mX10_state 23 [some (vR 10 0), some (vI x1)] [] S Q) : Ev d mX10_state 13 [some (vR 10 0), some (vI x1)] [] S Q := by
  refine Ev.aload_n dX10_state_13 rfl rfl ?_
  refine Ev.get (v := vR 5 (S.2.2 0)) okX10 (by decide) fl_X10_75 pz_10_0 (ff_10_10 _ _) dX10_state_14 ?_
  refine Ev.get (v := vI (S.1 5 (S.2.2 0) 6)) okX5 (by decide) fl_X10_119 (pl5 hjS220) (ff_5_6 _ _) dX10_state_17 ?_
  exact Ev.if_ne (tgt := 26) dX10_state_20 (by decide) kt kf
theorem bkX10_state_23 {d : Nat} {S : hs_T} {Q : Option av_T → hs_T → Prop} {x1 : Int32} (hq : Q (some (vI (-2))) S) : Ev d mX10_state 23 [some (vR 10 0), some (vI x1)] [] S Q := by
  refine Ev.bipush (v := (-2)) dX10_state_23 (by decide) ?_
  exact Ev.iret dX10_state_25 rfl rfl hq
theorem bkX10_state_26 {d : Nat} {S : hs_T} {Q : Option av_T → hs_T → Prop} {P : hs_T → Prop} {x1 : Int32} (hC : Cv d mX9_follow [vR 9 0, vR 5 (S.2.2 0), vR 8 0, vI (x1 + 1)] S P) (kk : ∀ S', P S' → Ev (d + 1) mX10_state 44 [some (vR 10 0), some (vI x1)] [] S' Q) : Ev (d + 1) mX10_state 26 [some (vR 10 0), some (vI x1)] [] S Q := by
  refine Ev.aload_n dX10_state_26 rfl rfl ?_
  refine Ev.get (v := vR 9 0) okX10 (by decide) fl_X10_40 pz_10_0 (ff_10_5 _ _) dX10_state_27 ?_
  refine Ev.aload_n dX10_state_30 rfl rfl ?_
  refine Ev.get (v := vR 5 (S.2.2 0)) okX10 (by decide) fl_X10_75 pz_10_0 (ff_10_10 _ _) dX10_state_31 ?_
  refine Ev.aload_n dX10_state_34 rfl rfl ?_
  refine Ev.get (v := vR 8 0) okX10 (by decide) fl_X10_19 pz_10_0 (ff_10_1 _ _) dX10_state_35 ?_
  refine Ev.iload_n dX10_state_38 rfl rfl ?_
  refine Ev.iconst (v := 1) dX10_state_39 (by decide) ?_
  refine Ev.iadd dX10_state_40 ?_
  exact Ev.callV (as := [vR 5 (S.2.2 0), vR 8 0, vI (x1 + 1)]) (rest := []) okX9_follow in_X9_follow ml_X10_169 rfl (Nat.le_of_ble_eq_true rfl) pz_9_0 (by decide) rfl rfl dX10_state_41 hC (fun r S' h => by obtain ⟨rfl, h⟩ := h; exact kk S' h)
theorem bkX10_state_44 {d : Nat} {S : hs_T} {Q : Option av_T → hs_T → Prop} {x1 : Int32} (hq : Q (some (vI (S.1 9 0 2))) S) : Ev d mX10_state 44 [some (vR 10 0), some (vI x1)] [] S Q := by
  refine Ev.aload_n dX10_state_44 rfl rfl ?_
  refine Ev.get (v := vR 9 0) okX10 (by decide) fl_X10_40 pz_10_0 (ff_10_5 _ _) dX10_state_45 ?_
  refine Ev.get (v := vI (S.1 9 0 2)) okX9 (by decide) fl_X10_176 pz_9_0 (ff_9_2 _ _) dX10_state_48 ?_
  exact Ev.iret dX10_state_51 rfl rfl hq
/-! EightWires.stored(I)I -/
theorem bkX10_stored_0 {d : Nat} {S : hs_T} {Q : Option av_T → hs_T → Prop} {P : Int32 → hs_T → Prop} {x1 : Int32} {o2 o3 o4 o5 o6 o7 : Option av_T} (hC : Ci d mX10_within [vI x1, vI 0, vI 2] S P) (kk : ∀ v S', P v S' → Ev (d + 1) mX10_stored 6 [some (vR 10 0), some (vI x1), o2, o3, o4, o5, o6, o7] [vI v] S' Q) : Ev (d + 1) mX10_stored 0 [some (vR 10 0), some (vI x1), o2, o3, o4, o5, o6, o7] [] S Q := by
  refine Ev.iload_n dX10_stored_0 rfl rfl ?_
  refine Ev.iconst (v := 0) dX10_stored_1 (by decide) ?_
  refine Ev.iconst (v := 2) dX10_stored_2 (by decide) ?_
  exact Ev.callS (as := [vI x1, vI 0, vI 2]) (rest := []) okX10_within stX10_within ml_X10_93 rfl (Nat.le_of_ble_eq_true rfl) rfl dX10_stored_3 hC (fun r S' h => by obtain ⟨v, rfl, h⟩ := h; exact kk v S' h)
theorem bkX10_stored_6 {d : Nat} {S : hs_T} {Q : Option av_T → hs_T → Prop} {x1 y0 : Int32} {o2 o3 o4 o5 o6 o7 : Option av_T} (kt : ¬ y0 = 0 → Ev d mX10_stored 23 [some (vR 10 0), some (vI x1), o2, o3, o4, o5, o6, o7] [] S Q) (kf : y0 = 0 → Ev d mX10_stored 9 [some (vR 10 0), some (vI x1), o2, o3, o4, o5, o6, o7] [] S Q) : Ev d mX10_stored 6 [some (vR 10 0), some (vI x1), o2, o3, o4, o5, o6, o7] [vI y0] S Q := by
  exact Ev.if_ne (tgt := 23) dX10_stored_6 (by decide) kt kf
theorem bkX10_stored_9 {d : Nat} {S : hs_T} {Q : Option av_T → hs_T → Prop} {P : Int32 → hs_T → Prop} {x1 : Int32} {o2 o3 o4 o5 o6 o7 : Option av_T} (hC : Ci d mX10_within [vI x1, vI 10, vI 409] S P) (kk : ∀ v S', P v S' → Ev (d + 1) mX10_stored 18 [some (vR 10 0), some (vI x1), o2, o3, o4, o5, o6, o7] [vI v] S' Q) : Ev (d + 1) mX10_stored 9 [some (vR 10 0), some (vI x1), o2, o3, o4, o5, o6, o7] [] S Q := by
  refine Ev.iload_n dX10_stored_9 rfl rfl ?_
  refine Ev.bipush (v := 10) dX10_stored_10 (by decide) ?_
  refine Ev.sipush (v := 409) dX10_stored_12 (by decide) ?_
  exact Ev.callS (as := [vI x1, vI 10, vI 409]) (rest := []) okX10_within stX10_within ml_X10_93 rfl (Nat.le_of_ble_eq_true rfl) rfl dX10_stored_15 hC (fun r S' h => by obtain ⟨v, rfl, h⟩ := h; exact kk v S' h)
theorem bkX10_stored_18 {d : Nat} {S : hs_T} {Q : Option av_T → hs_T → Prop} {x1 y0 : Int32} {o2 o3 o4 o5 o6 o7 : Option av_T} (kt : ¬ y0 = 0 → Ev d mX10_stored 23 [some (vR 10 0), some (vI x1), o2, o3, o4, o5, o6, o7] [] S Q) (kf : y0 = 0 → Ev d mX10_stored 21 [some (vR 10 0), some (vI x1), o2, o3, o4, o5, o6, o7] [] S Q) : Ev d mX10_stored 18 [some (vR 10 0), some (vI x1), o2, o3, o4, o5, o6, o7] [vI y0] S Q := by
  exact Ev.if_ne (tgt := 23) dX10_stored_18 (by decide) kt kf
theorem bkX10_stored_21 {d : Nat} {S : hs_T} {Q : Option av_T → hs_T → Prop} {x1 : Int32} {o2 o3 o4 o5 o6 o7 : Option av_T} (hq : Q (some (vI (-1))) S) : Ev d mX10_stored 21 [some (vR 10 0), some (vI x1), o2, o3, o4, o5, o6, o7] [] S Q := by
  refine Ev.iconst (v := (-1)) dX10_stored_21 (by decide) ?_
  exact Ev.iret dX10_stored_22 rfl rfl hq
theorem bkX10_stored_23 {d : Nat} {S : hs_T} {Q : Option av_T → hs_T → Prop} {P : hs_T → Prop} {x1 : Int32} {o2 o3 o4 o5 o6 o7 : Option av_T} (hC : Cv d mX9_follow [vR 9 0, vR 5 (S.2.2 0), vR 8 0, vI (S.1 8 0 1)] S P) (kk : ∀ S', P S' → Ev (d + 1) mX10_stored 45 [some (vR 10 0), some (vI x1), o2, o3, o4, o5, o6, o7] [] S' Q) : Ev (d + 1) mX10_stored 23 [some (vR 10 0), some (vI x1), o2, o3, o4, o5, o6, o7] [] S Q := by
  refine Ev.aload_n dX10_stored_23 rfl rfl ?_
  refine Ev.get (v := vR 9 0) okX10 (by decide) fl_X10_40 pz_10_0 (ff_10_5 _ _) dX10_stored_24 ?_
  refine Ev.aload_n dX10_stored_27 rfl rfl ?_
  refine Ev.get (v := vR 5 (S.2.2 0)) okX10 (by decide) fl_X10_75 pz_10_0 (ff_10_10 _ _) dX10_stored_28 ?_
  refine Ev.aload_n dX10_stored_31 rfl rfl ?_
  refine Ev.get (v := vR 8 0) okX10 (by decide) fl_X10_19 pz_10_0 (ff_10_1 _ _) dX10_stored_32 ?_
  refine Ev.aload_n dX10_stored_35 rfl rfl ?_
  refine Ev.get (v := vR 8 0) okX10 (by decide) fl_X10_19 pz_10_0 (ff_10_1 _ _) dX10_stored_36 ?_
  refine Ev.get (v := vI (S.1 8 0 1)) okX8 (by decide) fl_X10_151 pz_8_0 (ff_8_1 _ _) dX10_stored_39 ?_
  exact Ev.callV (as := [vR 5 (S.2.2 0), vR 8 0, vI (S.1 8 0 1)]) (rest := []) okX9_follow in_X9_follow ml_X10_169 rfl (Nat.le_of_ble_eq_true rfl) pz_9_0 (by decide) rfl rfl dX10_stored_42 hC (fun r S' h => by obtain ⟨rfl, h⟩ := h; exact kk S' h)
theorem bkX10_stored_45 {d : Nat} {S : hs_T} {Q : Option av_T → hs_T → Prop} {x1 : Int32} {o2 o3 o4 o5 o6 o7 : Option av_T} (kt : 0 ≤ (S.1 9 0 1) → Ev d mX10_stored 58 [some (vR 10 0), some (vI x1), o2, o3, o4, o5, o6, o7] [] S Q) (kf : ¬ 0 ≤ (S.1 9 0 1) → Ev d mX10_stored 55 [some (vR 10 0), some (vI x1), o2, o3, o4, o5, o6, o7] [] S Q) : Ev d mX10_stored 45 [some (vR 10 0), some (vI x1), o2, o3, o4, o5, o6, o7] [] S Q := by
  refine Ev.aload_n dX10_stored_45 rfl rfl ?_
  refine Ev.get (v := vR 9 0) okX10 (by decide) fl_X10_40 pz_10_0 (ff_10_5 _ _) dX10_stored_46 ?_
  refine Ev.get (v := vI (S.1 9 0 1)) okX9 (by decide) fl_X10_173 pz_9_0 (ff_9_1 _ _) dX10_stored_49 ?_
  exact Ev.if_ge (tgt := 58) dX10_stored_52 (by decide) kt kf
theorem bkX10_stored_55 {d : Nat} {S : hs_T} {Q : Option av_T → hs_T → Prop} {x1 : Int32} {o2 o3 o4 o5 o6 o7 : Option av_T} (hq : Q (some (vI (-4))) S) : Ev d mX10_stored 55 [some (vR 10 0), some (vI x1), o2, o3, o4, o5, o6, o7] [] S Q := by
  refine Ev.bipush (v := (-4)) dX10_stored_55 (by decide) ?_
  exact Ev.iret dX10_stored_57 rfl rfl hq
theorem bkX10_stored_58 {d : Nat} {S : hs_T} {Q : Option av_T → hs_T → Prop} {x1 : Int32} {o2 o3 o4 o5 o6 o7 : Option av_T} (hjS220 : (S.2.2 0) < 2) (kn : Ev (d + 1) mX10_stored 114 [some (vR 10 0), some (vI x1), some (vI (-4)), some (vI (-4)), some (vI 0), some (vI ((S.1 9 0 1) - (S.1 5 (S.2.2 0) 8))), some (vI (if (S.1 8 0 1) < (((S.1 9 0 1) - (S.1 5 (S.2.2 0) 8)) + (S.1 5 (S.2.2 0) 7)) then (S.1 8 0 1) else (((S.1 9 0 1) - (S.1 5 (S.2.2 0) 8)) + (S.1 5 (S.2.2 0) 7)))), some (vI (if ((S.1 9 0 1) - (S.1 5 (S.2.2 0) 8)) < 0 then 0 else ((S.1 9 0 1) - (S.1 5 (S.2.2 0) 8))))] [] S Q) : Ev (d + 1) mX10_stored 58 [some (vR 10 0), some (vI x1), o2, o3, o4, o5, o6, o7] [] S Q := by
  refine Ev.bipush (v := (-4)) dX10_stored_58 (by decide) ?_
  refine Ev.istore_n (ls' := [some (vR 10 0), some (vI x1), some (vI (-4)), o3, o4, o5, o6, o7]) dX10_stored_60 rfl (by decide) rfl ?_
  refine Ev.bipush (v := (-4)) dX10_stored_61 (by decide) ?_
  refine Ev.istore_n (ls' := [some (vR 10 0), some (vI x1), some (vI (-4)), some (vI (-4)), o4, o5, o6, o7]) dX10_stored_63 rfl (by decide) rfl ?_
  refine Ev.iconst (v := 0) dX10_stored_64 (by decide) ?_
  refine Ev.istore (ls' := [some (vR 10 0), some (vI x1), some (vI (-4)), some (vI (-4)), some (vI 0), o5, o6, o7]) dX10_stored_65 (by decide) rfl ?_
  refine Ev.aload_n dX10_stored_67 rfl rfl ?_
  refine Ev.get (v := vR 9 0) okX10 (by decide) fl_X10_40 pz_10_0 (ff_10_5 _ _) dX10_stored_68 ?_
  refine Ev.get (v := vI (S.1 9 0 1)) okX9 (by decide) fl_X10_173 pz_9_0 (ff_9_1 _ _) dX10_stored_71 ?_
  refine Ev.aload_n dX10_stored_74 rfl rfl ?_
  refine Ev.get (v := vR 5 (S.2.2 0)) okX10 (by decide) fl_X10_75 pz_10_0 (ff_10_10 _ _) dX10_stored_75 ?_
  refine Ev.get (v := vI (S.1 5 (S.2.2 0) 8)) okX5 (by decide) fl_X10_125 (pl5 hjS220) (ff_5_8 _ _) dX10_stored_78 ?_
  refine Ev.isub dX10_stored_81 ?_
  refine Ev.istore (ls' := [some (vR 10 0), some (vI x1), some (vI (-4)), some (vI (-4)), some (vI 0), some (vI ((S.1 9 0 1) - (S.1 5 (S.2.2 0) 8))), o6, o7]) dX10_stored_82 (by decide) rfl ?_
  refine Ev.iload dX10_stored_84 rfl ?_
  refine Ev.aload_n dX10_stored_86 rfl rfl ?_
  refine Ev.get (v := vR 5 (S.2.2 0)) okX10 (by decide) fl_X10_75 pz_10_0 (ff_10_10 _ _) dX10_stored_87 ?_
  refine Ev.get (v := vI (S.1 5 (S.2.2 0) 7)) okX5 (by decide) fl_X10_122 (pl5 hjS220) (ff_5_7 _ _) dX10_stored_90 ?_
  refine Ev.iadd dX10_stored_93 ?_
  refine Ev.aload_n dX10_stored_94 rfl rfl ?_
  refine Ev.get (v := vR 8 0) okX10 (by decide) fl_X10_19 pz_10_0 (ff_10_1 _ _) dX10_stored_95 ?_
  refine Ev.get (v := vI (S.1 8 0 1)) okX8 (by decide) fl_X10_151 pz_8_0 (ff_8_1 _ _) dX10_stored_98 ?_
  refine Ev.mmin ml_X10_185 (Nat.le_of_ble_eq_true rfl) dX10_stored_101 ?_
  refine Ev.istore (ls' := [some (vR 10 0), some (vI x1), some (vI (-4)), some (vI (-4)), some (vI 0), some (vI ((S.1 9 0 1) - (S.1 5 (S.2.2 0) 8))), some (vI (if (S.1 8 0 1) < (((S.1 9 0 1) - (S.1 5 (S.2.2 0) 8)) + (S.1 5 (S.2.2 0) 7)) then (S.1 8 0 1) else (((S.1 9 0 1) - (S.1 5 (S.2.2 0) 8)) + (S.1 5 (S.2.2 0) 7)))), o7]) dX10_stored_104 (by decide) rfl ?_
  refine Ev.iload dX10_stored_106 rfl ?_
  refine Ev.iconst (v := 0) dX10_stored_108 (by decide) ?_
  refine Ev.mmax ml_X10_190 (Nat.le_of_ble_eq_true rfl) dX10_stored_109 ?_
  refine Ev.istore (ls' := [some (vR 10 0), some (vI x1), some (vI (-4)), some (vI (-4)), some (vI 0), some (vI ((S.1 9 0 1) - (S.1 5 (S.2.2 0) 8))), some (vI (if (S.1 8 0 1) < (((S.1 9 0 1) - (S.1 5 (S.2.2 0) 8)) + (S.1 5 (S.2.2 0) 7)) then (S.1 8 0 1) else (((S.1 9 0 1) - (S.1 5 (S.2.2 0) 8)) + (S.1 5 (S.2.2 0) 7)))), some (vI (if ((S.1 9 0 1) - (S.1 5 (S.2.2 0) 8)) < 0 then 0 else ((S.1 9 0 1) - (S.1 5 (S.2.2 0) 8))))]) dX10_stored_112 (by decide) rfl ?_
  exact kn
theorem bkX10_stored_114 {d : Nat} {S : hs_T} {Q : Option av_T → hs_T → Prop} {x1 x2 x3 x4 x5 x6 x7 : Int32} (kt : x6 ≤ x7 → Ev d mX10_stored 180 [some (vR 10 0), some (vI x1), some (vI x2), some (vI x3), some (vI x4), some (vI x5), some (vI x6), some (vI x7)] [] S Q) (kf : ¬ x6 ≤ x7 → Ev d mX10_stored 121 [some (vR 10 0), some (vI x1), some (vI x2), some (vI x3), some (vI x4), some (vI x5), some (vI x6), some (vI x7)] [] S Q) : Ev d mX10_stored 114 [some (vR 10 0), some (vI x1), some (vI x2), some (vI x3), some (vI x4), some (vI x5), some (vI x6), some (vI x7)] [] S Q := by
  refine Ev.iload dX10_stored_114 rfl ?_
  refine Ev.iload dX10_stored_116 rfl ?_
  exact Ev.icmp_ge (tgt := 180) dX10_stored_118 (by decide) kt kf
theorem bkX10_stored_121 {d : Nat} {S : hs_T} {Q : Option av_T → hs_T → Prop} {P : Int32 → hs_T → Prop} {x1 x2 x3 x4 x5 x6 x7 : Int32} (hjS220 : (S.2.2 0) < 2) (hC : Ci d mX5_holds [vR 5 (S.2.2 0), vI 24, vR 8 0, vI x7, vI x7] S P) (kk : ∀ v S', P v S' → Ev (d + 1) mX10_stored 138 [some (vR 10 0), some (vI x1), some (vI x2), some (vI x3), some (vI x4), some (vI x5), some (vI x6), some (vI x7)] [vI v] S' Q) : Ev (d + 1) mX10_stored 121 [some (vR 10 0), some (vI x1), some (vI x2), some (vI x3), some (vI x4), some (vI x5), some (vI x6), some (vI x7)] [] S Q := by
  refine Ev.aload_n dX10_stored_121 rfl rfl ?_
  refine Ev.get (v := vR 5 (S.2.2 0)) okX10 (by decide) fl_X10_75 pz_10_0 (ff_10_10 _ _) dX10_stored_122 ?_
  refine Ev.bipush (v := 24) dX10_stored_125 (by decide) ?_
  refine Ev.aload_n dX10_stored_127 rfl rfl ?_
  refine Ev.get (v := vR 8 0) okX10 (by decide) fl_X10_19 pz_10_0 (ff_10_1 _ _) dX10_stored_128 ?_
  refine Ev.iload dX10_stored_131 rfl ?_
  refine Ev.iload dX10_stored_133 rfl ?_
  exact Ev.callV (as := [vI 24, vR 8 0, vI x7, vI x7]) (rest := []) okX5_holds in_X5_holds ml_X10_193 rfl (Nat.le_of_ble_eq_true rfl) (pl5 hjS220) (by decide) rfl rfl dX10_stored_135 hC (fun r S' h => by obtain ⟨v, rfl, h⟩ := h; exact kk v S' h)
theorem bkX10_stored_138 {d : Nat} {S : hs_T} {Q : Option av_T → hs_T → Prop} {x1 x2 x3 x4 x5 x6 x7 y0 : Int32} (kt : ¬ y0 = 0 → Ev d mX10_stored 144 [some (vR 10 0), some (vI x1), some (vI x2), some (vI x3), some (vI x4), some (vI x5), some (vI x6), some (vI x7)] [] S Q) (kf : y0 = 0 → Ev d mX10_stored 141 [some (vR 10 0), some (vI x1), some (vI x2), some (vI x3), some (vI x4), some (vI x5), some (vI x6), some (vI x7)] [] S Q) : Ev d mX10_stored 138 [some (vR 10 0), some (vI x1), some (vI x2), some (vI x3), some (vI x4), some (vI x5), some (vI x6), some (vI x7)] [vI y0] S Q := by
  exact Ev.if_ne (tgt := 144) dX10_stored_138 (by decide) kt kf
theorem bkX10_stored_141 {d : Nat} {S : hs_T} {Q : Option av_T → hs_T → Prop} {x1 x2 x3 x4 x5 x6 x7 : Int32} (kn : Ev d mX10_stored 174 [some (vR 10 0), some (vI x1), some (vI x2), some (vI x3), some (vI x4), some (vI x5), some (vI x6), some (vI x7)] [] S Q) : Ev d mX10_stored 141 [some (vR 10 0), some (vI x1), some (vI x2), some (vI x3), some (vI x4), some (vI x5), some (vI x6), some (vI x7)] [] S Q := by
  refine Ev.goto (tgt := 174) dX10_stored_141 (by decide) ?_
  exact kn
theorem bkX10_stored_144 {d : Nat} {S : hs_T} {Q : Option av_T → hs_T → Prop} {x1 x2 x3 x4 x5 x6 x7 : Int32} (kt : ¬ x4 = (x1 - 10) → Ev d mX10_stored 156 [some (vR 10 0), some (vI x1), some (vI x2), some (vI x3), some (vI x4), some (vI x5), some (vI x6), some (vI x7)] [] S Q) (kf : x4 = (x1 - 10) → Ev d mX10_stored 153 [some (vR 10 0), some (vI x1), some (vI x2), some (vI x3), some (vI x4), some (vI x5), some (vI x6), some (vI x7)] [] S Q) : Ev d mX10_stored 144 [some (vR 10 0), some (vI x1), some (vI x2), some (vI x3), some (vI x4), some (vI x5), some (vI x6), some (vI x7)] [] S Q := by
  refine Ev.iload dX10_stored_144 rfl ?_
  refine Ev.iload_n dX10_stored_146 rfl rfl ?_
  refine Ev.bipush (v := 10) dX10_stored_147 (by decide) ?_
  refine Ev.isub dX10_stored_149 ?_
  exact Ev.icmp_ne (tgt := 156) dX10_stored_150 (by decide) kt kf
theorem bkX10_stored_153 {d : Nat} {S : hs_T} {Q : Option av_T → hs_T → Prop} {x1 x2 x3 x4 x5 x6 x7 : Int32} (hq : Q (some (vI x7)) S) : Ev d mX10_stored 153 [some (vR 10 0), some (vI x1), some (vI x2), some (vI x3), some (vI x4), some (vI x5), some (vI x6), some (vI x7)] [] S Q := by
  refine Ev.iload dX10_stored_153 rfl ?_
  exact Ev.iret dX10_stored_155 rfl rfl hq
theorem bkX10_stored_156 {d : Nat} {S : hs_T} {Q : Option av_T → hs_T → Prop} {x1 x2 x3 x4 x5 x6 x7 : Int32} (kt : ¬ x4 = 0 → Ev d mX10_stored 166 [some (vR 10 0), some (vI x1), some (vI x2), some (vI x3), some (vI x4), some (vI x5), some (vI x6), some (vI x7)] [] S Q) (kf : x4 = 0 → Ev d mX10_stored 161 [some (vR 10 0), some (vI x1), some (vI x2), some (vI x3), some (vI x4), some (vI x5), some (vI x6), some (vI x7)] [] S Q) : Ev d mX10_stored 156 [some (vR 10 0), some (vI x1), some (vI x2), some (vI x3), some (vI x4), some (vI x5), some (vI x6), some (vI x7)] [] S Q := by
  refine Ev.iload dX10_stored_156 rfl ?_
  exact Ev.if_ne (tgt := 166) dX10_stored_158 (by decide) kt kf
theorem bkX10_stored_161 {d : Nat} {S : hs_T} {Q : Option av_T → hs_T → Prop} {x1 x2 x3 x4 x5 x6 x7 : Int32} (kn : Ev d mX10_stored 167 [some (vR 10 0), some (vI x1), some (vI x2), some (vI x3), some (vI x4), some (vI x5), some (vI x6), some (vI x7)] [vI x7] S Q) : Ev d mX10_stored 161 [some (vR 10 0), some (vI x1), some (vI x2), some (vI x3), some (vI x4), some (vI x5), some (vI x6), some (vI x7)] [] S Q := by
  refine Ev.iload dX10_stored_161 rfl ?_
  refine Ev.goto (tgt := 167) dX10_stored_163 (by decide) ?_
  exact kn
theorem bkX10_stored_166 {d : Nat} {S : hs_T} {Q : Option av_T → hs_T → Prop} {x1 x2 x3 x4 x5 x6 x7 : Int32} (kn : Ev d mX10_stored 167 [some (vR 10 0), some (vI x1), some (vI x2), some (vI x3), some (vI x4), some (vI x5), some (vI x6), some (vI x7)] [vI x2] S Q) : Ev d mX10_stored 166 [some (vR 10 0), some (vI x1), some (vI x2), some (vI x3), some (vI x4), some (vI x5), some (vI x6), some (vI x7)] [] S Q := by
  refine Ev.iload_n dX10_stored_166 rfl rfl ?_
  exact kn
theorem bkX10_stored_167 {d : Nat} {S : hs_T} {Q : Option av_T → hs_T → Prop} {x1 x2 x3 x4 x5 x6 x7 y0 : Int32} (kn : Ev d mX10_stored 174 [some (vR 10 0), some (vI x1), some (vI y0), some (vI x7), some (vI (x4 + 1)), some (vI x5), some (vI x6), some (vI x7)] [] S Q) : Ev d mX10_stored 167 [some (vR 10 0), some (vI x1), some (vI x2), some (vI x3), some (vI x4), some (vI x5), some (vI x6), some (vI x7)] [vI y0] S Q := by
  refine Ev.istore_n (ls' := [some (vR 10 0), some (vI x1), some (vI y0), some (vI x3), some (vI x4), some (vI x5), some (vI x6), some (vI x7)]) dX10_stored_167 rfl (by decide) rfl ?_
  refine Ev.iload dX10_stored_168 rfl ?_
  refine Ev.istore_n (ls' := [some (vR 10 0), some (vI x1), some (vI y0), some (vI x7), some (vI x4), some (vI x5), some (vI x6), some (vI x7)]) dX10_stored_170 rfl (by decide) rfl ?_
  refine Ev.iinc (v := (x4 + 1)) (ls' := [some (vR 10 0), some (vI x1), some (vI y0), some (vI x7), some (vI (x4 + 1)), some (vI x5), some (vI x6), some (vI x7)]) dX10_stored_171 rfl rfl (by decide) rfl ?_
  exact kn
theorem bkX10_stored_174 {d : Nat} {S : hs_T} {Q : Option av_T → hs_T → Prop} {x1 x2 x3 x4 x5 x6 x7 : Int32} (kn : Ev d mX10_stored 114 [some (vR 10 0), some (vI x1), some (vI x2), some (vI x3), some (vI x4), some (vI x5), some (vI x6), some (vI (x7 + 1))] [] S Q) : Ev d mX10_stored 174 [some (vR 10 0), some (vI x1), some (vI x2), some (vI x3), some (vI x4), some (vI x5), some (vI x6), some (vI x7)] [] S Q := by
  refine Ev.iinc (v := (x7 + 1)) (ls' := [some (vR 10 0), some (vI x1), some (vI x2), some (vI x3), some (vI x4), some (vI x5), some (vI x6), some (vI (x7 + 1))]) dX10_stored_174 rfl rfl (by decide) rfl ?_
  refine Ev.goto (tgt := 114) dX10_stored_177 (by decide) ?_
  exact kn
theorem bkX10_stored_180 {d : Nat} {S : hs_T} {Q : Option av_T → hs_T → Prop} {x1 x2 x3 x4 x5 x6 x7 : Int32} (k0 : x1 = 0 → Ev d mX10_stored 208 [some (vR 10 0), some (vI x1), some (vI x2), some (vI x3), some (vI x4), some (vI x5), some (vI x6), some (vI x7)] [] S Q) (k1 : x1 = 1 → Ev d mX10_stored 211 [some (vR 10 0), some (vI x1), some (vI x2), some (vI x3), some (vI x4), some (vI x5), some (vI x6), some (vI x7)] [] S Q) (k2 : x1 = 2 → Ev d mX10_stored 213 [some (vR 10 0), some (vI x1), some (vI x2), some (vI x3), some (vI x4), some (vI x5), some (vI x6), some (vI x7)] [] S Q) (kd : ¬ x1 = 0 → ¬ x1 = 1 → ¬ x1 = 2 → Ev d mX10_stored 215 [some (vR 10 0), some (vI x1), some (vI x2), some (vI x3), some (vI x4), some (vI x5), some (vI x6), some (vI x7)] [] S Q) : Ev d mX10_stored 180 [some (vR 10 0), some (vI x1), some (vI x2), some (vI x3), some (vI x4), some (vI x5), some (vI x6), some (vI x7)] [] S Q := by
  refine Ev.iload_n dX10_stored_180 rfl rfl ?_
  by_cases hc0 : x1 = 0
  · exact Ev.tableIn (off := 27) (tgt := 208) dX10_stored_181 (by rw [hc0]; decide) (by rw [hc0]; decide) (by rw [hc0]; rfl) (by decide) (k0 hc0)
  by_cases hc1 : x1 = 1
  · exact Ev.tableIn (off := 30) (tgt := 211) dX10_stored_181 (by rw [hc1]; decide) (by rw [hc1]; decide) (by rw [hc1]; rfl) (by decide) (k1 hc1)
  by_cases hc2 : x1 = 2
  · exact Ev.tableIn (off := 32) (tgt := 213) dX10_stored_181 (by rw [hc2]; decide) (by rw [hc2]; decide) (by rw [hc2]; rfl) (by decide) (k2 hc2)
  refine Ev.tableOut (tgt := 215) dX10_stored_181 (tw_out (fun c h1 h2 => ?_)) (by decide) (kd hc0 hc1 hc2)
  have hcs : c = 0 ∨ c = 1 ∨ c = 2 := by omega
  rcases hcs with rfl | rfl | rfl
  · exact fun z => hc0 (Int32.toInt_inj.mp (z.trans (by decide)))
  · exact fun z => hc1 (Int32.toInt_inj.mp (z.trans (by decide)))
  · exact fun z => hc2 (Int32.toInt_inj.mp (z.trans (by decide)))
theorem bkX10_stored_208 {d : Nat} {S : hs_T} {Q : Option av_T → hs_T → Prop} {x1 x2 x3 x4 x5 x6 x7 : Int32} (hq : Q (some (vI x4)) S) : Ev d mX10_stored 208 [some (vR 10 0), some (vI x1), some (vI x2), some (vI x3), some (vI x4), some (vI x5), some (vI x6), some (vI x7)] [] S Q := by
  refine Ev.iload dX10_stored_208 rfl ?_
  exact Ev.iret dX10_stored_210 rfl rfl hq
theorem bkX10_stored_211 {d : Nat} {S : hs_T} {Q : Option av_T → hs_T → Prop} {x1 x2 x3 x4 x5 x6 x7 : Int32} (hq : Q (some (vI x2)) S) : Ev d mX10_stored 211 [some (vR 10 0), some (vI x1), some (vI x2), some (vI x3), some (vI x4), some (vI x5), some (vI x6), some (vI x7)] [] S Q := by
  refine Ev.iload_n dX10_stored_211 rfl rfl ?_
  exact Ev.iret dX10_stored_212 rfl rfl hq
theorem bkX10_stored_213 {d : Nat} {S : hs_T} {Q : Option av_T → hs_T → Prop} {x1 x2 x3 x4 x5 x6 x7 : Int32} (hq : Q (some (vI x3)) S) : Ev d mX10_stored 213 [some (vR 10 0), some (vI x1), some (vI x2), some (vI x3), some (vI x4), some (vI x5), some (vI x6), some (vI x7)] [] S Q := by
  refine Ev.iload_n dX10_stored_213 rfl rfl ?_
  exact Ev.iret dX10_stored_214 rfl rfl hq
theorem bkX10_stored_215 {d : Nat} {S : hs_T} {Q : Option av_T → hs_T → Prop} {x1 x2 x3 x4 x5 x6 x7 : Int32} (hq : Q (some (vI (-1))) S) : Ev d mX10_stored 215 [some (vR 10 0), some (vI x1), some (vI x2), some (vI x3), some (vI x4), some (vI x5), some (vI x6), some (vI x7)] [] S Q := by
  refine Ev.iconst (v := (-1)) dX10_stored_215 (by decide) ?_
  exact Ev.iret dX10_stored_216 rfl rfl hq
/-! EightWires.next(I)I -/
theorem bkX10_next_0 {d : Nat} {S : hs_T} {Q : Option av_T → hs_T → Prop} {P : Int32 → hs_T → Prop} {x1 : Int32} {o2 : Option av_T} (hC : Ci d mX8_has [vR 8 0, vI x1] S P) (kk : ∀ v S', P v S' → Ev (d + 1) mX10_next 8 [some (vR 10 0), some (vI x1), o2] [vI v] S' Q) : Ev (d + 1) mX10_next 0 [some (vR 10 0), some (vI x1), o2] [] S Q := by
  refine Ev.aload_n dX10_next_0 rfl rfl ?_
  refine Ev.get (v := vR 8 0) okX10 (by decide) fl_X10_19 pz_10_0 (ff_10_1 _ _) dX10_next_1 ?_
  refine Ev.iload_n dX10_next_4 rfl rfl ?_
  exact Ev.callV (as := [vI x1]) (rest := []) okX8_has in_X8_has ml_X10_159 rfl (Nat.le_of_ble_eq_true rfl) pz_8_0 (by decide) rfl rfl dX10_next_5 hC (fun r S' h => by obtain ⟨v, rfl, h⟩ := h; exact kk v S' h)
theorem bkX10_next_8 {d : Nat} {S : hs_T} {Q : Option av_T → hs_T → Prop} {x1 y0 : Int32} {o2 : Option av_T} (kt : ¬ y0 = 0 → Ev d mX10_next 13 [some (vR 10 0), some (vI x1), o2] [] S Q) (kf : y0 = 0 → Ev d mX10_next 11 [some (vR 10 0), some (vI x1), o2] [] S Q) : Ev d mX10_next 8 [some (vR 10 0), some (vI x1), o2] [vI y0] S Q := by
  exact Ev.if_ne (tgt := 13) dX10_next_8 (by decide) kt kf
theorem bkX10_next_11 {d : Nat} {S : hs_T} {Q : Option av_T → hs_T → Prop} {x1 : Int32} {o2 : Option av_T} (hq : Q (some (vI (-1))) S) : Ev d mX10_next 11 [some (vR 10 0), some (vI x1), o2] [] S Q := by
  refine Ev.iconst (v := (-1)) dX10_next_11 (by decide) ?_
  exact Ev.iret dX10_next_12 rfl rfl hq
theorem bkX10_next_13 {d : Nat} {S : hs_T} {Q : Option av_T → hs_T → Prop} {x1 : Int32} {o2 : Option av_T} (kn : Ev d mX10_next 15 [some (vR 10 0), some (vI x1), some (vI x1)] [] S Q) : Ev d mX10_next 13 [some (vR 10 0), some (vI x1), o2] [] S Q := by
  refine Ev.iload_n dX10_next_13 rfl rfl ?_
  refine Ev.istore_n (ls' := [some (vR 10 0), some (vI x1), some (vI x1)]) dX10_next_14 rfl (by decide) rfl ?_
  exact kn
theorem bkX10_next_15 {d : Nat} {S : hs_T} {Q : Option av_T → hs_T → Prop} {x1 x2 : Int32} (kt : (S.1 8 0 1) ≤ x2 → Ev d mX10_next 52 [some (vR 10 0), some (vI x1), some (vI x2)] [] S Q) (kf : ¬ (S.1 8 0 1) ≤ x2 → Ev d mX10_next 26 [some (vR 10 0), some (vI x1), some (vI x2)] [] S Q) : Ev d mX10_next 15 [some (vR 10 0), some (vI x1), some (vI x2)] [] S Q := by
  refine Ev.iload_n dX10_next_15 rfl rfl ?_
  refine Ev.aload_n dX10_next_16 rfl rfl ?_
  refine Ev.get (v := vR 8 0) okX10 (by decide) fl_X10_19 pz_10_0 (ff_10_1 _ _) dX10_next_17 ?_
  refine Ev.get (v := vI (S.1 8 0 1)) okX8 (by decide) fl_X10_151 pz_8_0 (ff_8_1 _ _) dX10_next_20 ?_
  exact Ev.icmp_ge (tgt := 52) dX10_next_23 (by decide) kt kf
theorem bkX10_next_26 {d : Nat} {S : hs_T} {Q : Option av_T → hs_T → Prop} {P : Int32 → hs_T → Prop} {x1 x2 : Int32} (hjS220 : (S.2.2 0) < 2) (hC : Ci d mX5_holds [vR 5 (S.2.2 0), vI 24, vR 8 0, vI x2, vI x2] S P) (kk : ∀ v S', P v S' → Ev (d + 1) mX10_next 41 [some (vR 10 0), some (vI x1), some (vI x2)] [vI v] S' Q) : Ev (d + 1) mX10_next 26 [some (vR 10 0), some (vI x1), some (vI x2)] [] S Q := by
  refine Ev.aload_n dX10_next_26 rfl rfl ?_
  refine Ev.get (v := vR 5 (S.2.2 0)) okX10 (by decide) fl_X10_75 pz_10_0 (ff_10_10 _ _) dX10_next_27 ?_
  refine Ev.bipush (v := 24) dX10_next_30 (by decide) ?_
  refine Ev.aload_n dX10_next_32 rfl rfl ?_
  refine Ev.get (v := vR 8 0) okX10 (by decide) fl_X10_19 pz_10_0 (ff_10_1 _ _) dX10_next_33 ?_
  refine Ev.iload_n dX10_next_36 rfl rfl ?_
  refine Ev.iload_n dX10_next_37 rfl rfl ?_
  exact Ev.callV (as := [vI 24, vR 8 0, vI x2, vI x2]) (rest := []) okX5_holds in_X5_holds ml_X10_193 rfl (Nat.le_of_ble_eq_true rfl) (pl5 hjS220) (by decide) rfl rfl dX10_next_38 hC (fun r S' h => by obtain ⟨v, rfl, h⟩ := h; exact kk v S' h)
theorem bkX10_next_41 {d : Nat} {S : hs_T} {Q : Option av_T → hs_T → Prop} {x1 x2 y0 : Int32} (kt : y0 = 0 → Ev d mX10_next 46 [some (vR 10 0), some (vI x1), some (vI x2)] [] S Q) (kf : ¬ y0 = 0 → Ev d mX10_next 44 [some (vR 10 0), some (vI x1), some (vI x2)] [] S Q) : Ev d mX10_next 41 [some (vR 10 0), some (vI x1), some (vI x2)] [vI y0] S Q := by
  exact Ev.if_eq (tgt := 46) dX10_next_41 (by decide) kt kf
theorem bkX10_next_44 {d : Nat} {S : hs_T} {Q : Option av_T → hs_T → Prop} {x1 x2 : Int32} (hq : Q (some (vI x2)) S) : Ev d mX10_next 44 [some (vR 10 0), some (vI x1), some (vI x2)] [] S Q := by
  refine Ev.iload_n dX10_next_44 rfl rfl ?_
  exact Ev.iret dX10_next_45 rfl rfl hq
theorem bkX10_next_46 {d : Nat} {S : hs_T} {Q : Option av_T → hs_T → Prop} {x1 x2 : Int32} (kn : Ev d mX10_next 15 [some (vR 10 0), some (vI x1), some (vI (x2 + 1))] [] S Q) : Ev d mX10_next 46 [some (vR 10 0), some (vI x1), some (vI x2)] [] S Q := by
  refine Ev.iinc (v := (x2 + 1)) (ls' := [some (vR 10 0), some (vI x1), some (vI (x2 + 1))]) dX10_next_46 rfl rfl (by decide) rfl ?_
  refine Ev.goto (tgt := 15) dX10_next_49 (by decide) ?_
  exact kn
theorem bkX10_next_52 {d : Nat} {S : hs_T} {Q : Option av_T → hs_T → Prop} {x1 x2 : Int32} (hq : Q (some (vI (-4))) S) : Ev d mX10_next 52 [some (vR 10 0), some (vI x1), some (vI x2)] [] S Q := by
  refine Ev.bipush (v := (-4)) dX10_next_52 (by decide) ?_
  exact Ev.iret dX10_next_54 rfl rfl hq
/-! EightWires.edges(IZ)I -/
theorem bkX10_edges_0 {d : Nat} {S : hs_T} {Q : Option av_T → hs_T → Prop} {P : Int32 → hs_T → Prop} {x1 x2 : Int32} {o3 o4 : Option av_T} (hC : Ci d mX10_isWire [vI x1] S P) (kk : ∀ v S', P v S' → Ev (d + 1) mX10_edges 4 [some (vR 10 0), some (vI x1), some (vI x2), o3, o4] [vI v] S' Q) : Ev (d + 1) mX10_edges 0 [some (vR 10 0), some (vI x1), some (vI x2), o3, o4] [] S Q := by
  refine Ev.iload_n dX10_edges_0 rfl rfl ?_
  exact Ev.callS (as := [vI x1]) (rest := []) okX10_isWire stX10_isWire ml_X10_197 rfl (Nat.le_of_ble_eq_true rfl) rfl dX10_edges_1 hC (fun r S' h => by obtain ⟨v, rfl, h⟩ := h; exact kk v S' h)
theorem bkX10_edges_4 {d : Nat} {S : hs_T} {Q : Option av_T → hs_T → Prop} {x1 x2 y0 : Int32} {o3 o4 : Option av_T} (kt : ¬ y0 = 0 → Ev d mX10_edges 9 [some (vR 10 0), some (vI x1), some (vI x2), o3, o4] [] S Q) (kf : y0 = 0 → Ev d mX10_edges 7 [some (vR 10 0), some (vI x1), some (vI x2), o3, o4] [] S Q) : Ev d mX10_edges 4 [some (vR 10 0), some (vI x1), some (vI x2), o3, o4] [vI y0] S Q := by
  exact Ev.if_ne (tgt := 9) dX10_edges_4 (by decide) kt kf
theorem bkX10_edges_7 {d : Nat} {S : hs_T} {Q : Option av_T → hs_T → Prop} {x1 x2 : Int32} {o3 o4 : Option av_T} (hq : Q (some (vI (-1))) S) : Ev d mX10_edges 7 [some (vR 10 0), some (vI x1), some (vI x2), o3, o4] [] S Q := by
  refine Ev.iconst (v := (-1)) dX10_edges_7 (by decide) ?_
  exact Ev.iret dX10_edges_8 rfl rfl hq
theorem bkX10_edges_9 {d : Nat} {S : hs_T} {Q : Option av_T → hs_T → Prop} {x1 x2 : Int32} {o3 o4 : Option av_T} (kn : Ev d mX10_edges 14 [some (vR 10 0), some (vI x1), some (vI x2), some (vI 0), some (vI 1)] [] S Q) : Ev d mX10_edges 9 [some (vR 10 0), some (vI x1), some (vI x2), o3, o4] [] S Q := by
  refine Ev.iconst (v := 0) dX10_edges_9 (by decide) ?_
  refine Ev.istore_n (ls' := [some (vR 10 0), some (vI x1), some (vI x2), some (vI 0), o4]) dX10_edges_10 rfl (by decide) rfl ?_
  refine Ev.iconst (v := 1) dX10_edges_11 (by decide) ?_
  refine Ev.istore (ls' := [some (vR 10 0), some (vI x1), some (vI x2), some (vI 0), some (vI 1)]) dX10_edges_12 (by decide) rfl ?_
  exact kn
theorem bkX10_edges_14 {d : Nat} {S : hs_T} {Q : Option av_T → hs_T → Prop} {x1 x2 x3 x4 : Int32} (kt : (S.1 8 0 1) ≤ x4 → Ev d mX10_edges 51 [some (vR 10 0), some (vI x1), some (vI x2), some (vI x3), some (vI x4)] [] S Q) (kf : ¬ (S.1 8 0 1) ≤ x4 → Ev d mX10_edges 26 [some (vR 10 0), some (vI x1), some (vI x2), some (vI x3), some (vI x4)] [] S Q) : Ev d mX10_edges 14 [some (vR 10 0), some (vI x1), some (vI x2), some (vI x3), some (vI x4)] [] S Q := by
  refine Ev.iload dX10_edges_14 rfl ?_
  refine Ev.aload_n dX10_edges_16 rfl rfl ?_
  refine Ev.get (v := vR 8 0) okX10 (by decide) fl_X10_19 pz_10_0 (ff_10_1 _ _) dX10_edges_17 ?_
  refine Ev.get (v := vI (S.1 8 0 1)) okX8 (by decide) fl_X10_151 pz_8_0 (ff_8_1 _ _) dX10_edges_20 ?_
  exact Ev.icmp_ge (tgt := 51) dX10_edges_23 (by decide) kt kf
theorem bkX10_edges_26 {d : Nat} {S : hs_T} {Q : Option av_T → hs_T → Prop} {P : Int32 → hs_T → Prop} {x1 x2 x3 x4 : Int32} (hC : Ci d mX10_turns [vR 10 0, vI x1, vI x2, vI x4] S P) (kk : ∀ v S', P v S' → Ev (d + 1) mX10_edges 35 [some (vR 10 0), some (vI x1), some (vI x2), some (vI x3), some (vI x4)] [vI v, vI x3] S' Q) : Ev (d + 1) mX10_edges 26 [some (vR 10 0), some (vI x1), some (vI x2), some (vI x3), some (vI x4)] [] S Q := by
  refine Ev.iload_n dX10_edges_26 rfl rfl ?_
  refine Ev.aload_n dX10_edges_27 rfl rfl ?_
  refine Ev.iload_n dX10_edges_28 rfl rfl ?_
  refine Ev.iload_n dX10_edges_29 rfl rfl ?_
  refine Ev.iload dX10_edges_30 rfl ?_
  exact Ev.callV (as := [vI x1, vI x2, vI x4]) (rest := [vI x3]) okX10_turns in_X10_turns ml_X10_200 rfl (Nat.le_of_ble_eq_true rfl) pz_10_0 (by decide) rfl rfl dX10_edges_32 hC (fun r S' h => by obtain ⟨v, rfl, h⟩ := h; exact kk v S' h)
theorem bkX10_edges_35 {d : Nat} {S : hs_T} {Q : Option av_T → hs_T → Prop} {x1 x2 x3 x4 y0 y1 : Int32} (kt : y0 = 0 → Ev d mX10_edges 42 [some (vR 10 0), some (vI x1), some (vI x2), some (vI x3), some (vI x4)] [vI y1] S Q) (kf : ¬ y0 = 0 → Ev d mX10_edges 38 [some (vR 10 0), some (vI x1), some (vI x2), some (vI x3), some (vI x4)] [vI y1] S Q) : Ev d mX10_edges 35 [some (vR 10 0), some (vI x1), some (vI x2), some (vI x3), some (vI x4)] [vI y0, vI y1] S Q := by
  exact Ev.if_eq (tgt := 42) dX10_edges_35 (by decide) kt kf
theorem bkX10_edges_38 {d : Nat} {S : hs_T} {Q : Option av_T → hs_T → Prop} {x1 x2 x3 x4 y0 : Int32} (kn : Ev d mX10_edges 43 [some (vR 10 0), some (vI x1), some (vI x2), some (vI x3), some (vI x4)] [vI 1, vI y0] S Q) : Ev d mX10_edges 38 [some (vR 10 0), some (vI x1), some (vI x2), some (vI x3), some (vI x4)] [vI y0] S Q := by
  refine Ev.iconst (v := 1) dX10_edges_38 (by decide) ?_
  refine Ev.goto (tgt := 43) dX10_edges_39 (by decide) ?_
  exact kn
theorem bkX10_edges_42 {d : Nat} {S : hs_T} {Q : Option av_T → hs_T → Prop} {x1 x2 x3 x4 y0 : Int32} (kn : Ev d mX10_edges 43 [some (vR 10 0), some (vI x1), some (vI x2), some (vI x3), some (vI x4)] [vI 0, vI y0] S Q) : Ev d mX10_edges 42 [some (vR 10 0), some (vI x1), some (vI x2), some (vI x3), some (vI x4)] [vI y0] S Q := by
  refine Ev.iconst (v := 0) dX10_edges_42 (by decide) ?_
  exact kn
theorem bkX10_edges_43 {d : Nat} {S : hs_T} {Q : Option av_T → hs_T → Prop} {x1 x2 x3 x4 y0 y1 : Int32} (kn : Ev d mX10_edges 14 [some (vR 10 0), some (vI x1), some (vI x2), some (vI (y1 + y0)), some (vI (x4 + 1))] [] S Q) : Ev d mX10_edges 43 [some (vR 10 0), some (vI x1), some (vI x2), some (vI x3), some (vI x4)] [vI y0, vI y1] S Q := by
  refine Ev.iadd dX10_edges_43 ?_
  refine Ev.istore_n (ls' := [some (vR 10 0), some (vI x1), some (vI x2), some (vI (y1 + y0)), some (vI x4)]) dX10_edges_44 rfl (by decide) rfl ?_
  refine Ev.iinc (v := (x4 + 1)) (ls' := [some (vR 10 0), some (vI x1), some (vI x2), some (vI (y1 + y0)), some (vI (x4 + 1))]) dX10_edges_45 rfl rfl (by decide) rfl ?_
  refine Ev.goto (tgt := 14) dX10_edges_48 (by decide) ?_
  exact kn
theorem bkX10_edges_51 {d : Nat} {S : hs_T} {Q : Option av_T → hs_T → Prop} {x1 x2 x3 x4 : Int32} (hq : Q (some (vI x3)) S) : Ev d mX10_edges 51 [some (vR 10 0), some (vI x1), some (vI x2), some (vI x3), some (vI x4)] [] S Q := by
  refine Ev.iload_n dX10_edges_51 rfl rfl ?_
  exact Ev.iret dX10_edges_52 rfl rfl hq
/-! EightWires.edge(IZI)I -/
theorem bkX10_edge_0 {d : Nat} {S : hs_T} {Q : Option av_T → hs_T → Prop} {P : Int32 → hs_T → Prop} {x1 x2 x3 : Int32} {o4 o5 : Option av_T} (hC : Ci d mX10_isWire [vI x1] S P) (kk : ∀ v S', P v S' → Ev (d + 1) mX10_edge 4 [some (vR 10 0), some (vI x1), some (vI x2), some (vI x3), o4, o5] [vI v] S' Q) : Ev (d + 1) mX10_edge 0 [some (vR 10 0), some (vI x1), some (vI x2), some (vI x3), o4, o5] [] S Q := by
  refine Ev.iload_n dX10_edge_0 rfl rfl ?_
  exact Ev.callS (as := [vI x1]) (rest := []) okX10_isWire stX10_isWire ml_X10_197 rfl (Nat.le_of_ble_eq_true rfl) rfl dX10_edge_1 hC (fun r S' h => by obtain ⟨v, rfl, h⟩ := h; exact kk v S' h)
theorem bkX10_edge_4 {d : Nat} {S : hs_T} {Q : Option av_T → hs_T → Prop} {x1 x2 x3 y0 : Int32} {o4 o5 : Option av_T} (kt : y0 = 0 → Ev d mX10_edge 11 [some (vR 10 0), some (vI x1), some (vI x2), some (vI x3), o4, o5] [] S Q) (kf : ¬ y0 = 0 → Ev d mX10_edge 7 [some (vR 10 0), some (vI x1), some (vI x2), some (vI x3), o4, o5] [] S Q) : Ev d mX10_edge 4 [some (vR 10 0), some (vI x1), some (vI x2), some (vI x3), o4, o5] [vI y0] S Q := by
  exact Ev.if_eq (tgt := 11) dX10_edge_4 (by decide) kt kf
theorem bkX10_edge_7 {d : Nat} {S : hs_T} {Q : Option av_T → hs_T → Prop} {x1 x2 x3 : Int32} {o4 o5 : Option av_T} (kt : 0 ≤ x3 → Ev d mX10_edge 13 [some (vR 10 0), some (vI x1), some (vI x2), some (vI x3), o4, o5] [] S Q) (kf : ¬ 0 ≤ x3 → Ev d mX10_edge 11 [some (vR 10 0), some (vI x1), some (vI x2), some (vI x3), o4, o5] [] S Q) : Ev d mX10_edge 7 [some (vR 10 0), some (vI x1), some (vI x2), some (vI x3), o4, o5] [] S Q := by
  refine Ev.iload_n dX10_edge_7 rfl rfl ?_
  exact Ev.if_ge (tgt := 13) dX10_edge_8 (by decide) kt kf
theorem bkX10_edge_11 {d : Nat} {S : hs_T} {Q : Option av_T → hs_T → Prop} {x1 x2 x3 : Int32} {o4 o5 : Option av_T} (hq : Q (some (vI (-1))) S) : Ev d mX10_edge 11 [some (vR 10 0), some (vI x1), some (vI x2), some (vI x3), o4, o5] [] S Q := by
  refine Ev.iconst (v := (-1)) dX10_edge_11 (by decide) ?_
  exact Ev.iret dX10_edge_12 rfl rfl hq
theorem bkX10_edge_13 {d : Nat} {S : hs_T} {Q : Option av_T → hs_T → Prop} {x1 x2 x3 : Int32} {o4 o5 : Option av_T} (kn : Ev d mX10_edge 19 [some (vR 10 0), some (vI x1), some (vI x2), some (vI x3), some (vI 0), some (vI 1)] [] S Q) : Ev d mX10_edge 13 [some (vR 10 0), some (vI x1), some (vI x2), some (vI x3), o4, o5] [] S Q := by
  refine Ev.iconst (v := 0) dX10_edge_13 (by decide) ?_
  refine Ev.istore (ls' := [some (vR 10 0), some (vI x1), some (vI x2), some (vI x3), some (vI 0), o5]) dX10_edge_14 (by decide) rfl ?_
  refine Ev.iconst (v := 1) dX10_edge_16 (by decide) ?_
  refine Ev.istore (ls' := [some (vR 10 0), some (vI x1), some (vI x2), some (vI x3), some (vI 0), some (vI 1)]) dX10_edge_17 (by decide) rfl ?_
  exact kn
theorem bkX10_edge_19 {d : Nat} {S : hs_T} {Q : Option av_T → hs_T → Prop} {x1 x2 x3 x4 x5 : Int32} (kt : (S.1 8 0 1) ≤ x5 → Ev d mX10_edge 63 [some (vR 10 0), some (vI x1), some (vI x2), some (vI x3), some (vI x4), some (vI x5)] [] S Q) (kf : ¬ (S.1 8 0 1) ≤ x5 → Ev d mX10_edge 31 [some (vR 10 0), some (vI x1), some (vI x2), some (vI x3), some (vI x4), some (vI x5)] [] S Q) : Ev d mX10_edge 19 [some (vR 10 0), some (vI x1), some (vI x2), some (vI x3), some (vI x4), some (vI x5)] [] S Q := by
  refine Ev.iload dX10_edge_19 rfl ?_
  refine Ev.aload_n dX10_edge_21 rfl rfl ?_
  refine Ev.get (v := vR 8 0) okX10 (by decide) fl_X10_19 pz_10_0 (ff_10_1 _ _) dX10_edge_22 ?_
  refine Ev.get (v := vI (S.1 8 0 1)) okX8 (by decide) fl_X10_151 pz_8_0 (ff_8_1 _ _) dX10_edge_25 ?_
  exact Ev.icmp_ge (tgt := 63) dX10_edge_28 (by decide) kt kf
theorem bkX10_edge_31 {d : Nat} {S : hs_T} {Q : Option av_T → hs_T → Prop} {P : Int32 → hs_T → Prop} {x1 x2 x3 x4 x5 : Int32} (hC : Ci d mX10_turns [vR 10 0, vI x1, vI x2, vI x5] S P) (kk : ∀ v S', P v S' → Ev (d + 1) mX10_edge 39 [some (vR 10 0), some (vI x1), some (vI x2), some (vI x3), some (vI x4), some (vI x5)] [vI v] S' Q) : Ev (d + 1) mX10_edge 31 [some (vR 10 0), some (vI x1), some (vI x2), some (vI x3), some (vI x4), some (vI x5)] [] S Q := by
  refine Ev.aload_n dX10_edge_31 rfl rfl ?_
  refine Ev.iload_n dX10_edge_32 rfl rfl ?_
  refine Ev.iload_n dX10_edge_33 rfl rfl ?_
  refine Ev.iload dX10_edge_34 rfl ?_
  exact Ev.callV (as := [vI x1, vI x2, vI x5]) (rest := []) okX10_turns in_X10_turns ml_X10_200 rfl (Nat.le_of_ble_eq_true rfl) pz_10_0 (by decide) rfl rfl dX10_edge_36 hC (fun r S' h => by obtain ⟨v, rfl, h⟩ := h; exact kk v S' h)
theorem bkX10_edge_39 {d : Nat} {S : hs_T} {Q : Option av_T → hs_T → Prop} {x1 x2 x3 x4 x5 y0 : Int32} (kt : ¬ y0 = 0 → Ev d mX10_edge 45 [some (vR 10 0), some (vI x1), some (vI x2), some (vI x3), some (vI x4), some (vI x5)] [] S Q) (kf : y0 = 0 → Ev d mX10_edge 42 [some (vR 10 0), some (vI x1), some (vI x2), some (vI x3), some (vI x4), some (vI x5)] [] S Q) : Ev d mX10_edge 39 [some (vR 10 0), some (vI x1), some (vI x2), some (vI x3), some (vI x4), some (vI x5)] [vI y0] S Q := by
  exact Ev.if_ne (tgt := 45) dX10_edge_39 (by decide) kt kf
theorem bkX10_edge_42 {d : Nat} {S : hs_T} {Q : Option av_T → hs_T → Prop} {x1 x2 x3 x4 x5 : Int32} (kn : Ev d mX10_edge 57 [some (vR 10 0), some (vI x1), some (vI x2), some (vI x3), some (vI x4), some (vI x5)] [] S Q) : Ev d mX10_edge 42 [some (vR 10 0), some (vI x1), some (vI x2), some (vI x3), some (vI x4), some (vI x5)] [] S Q := by
  refine Ev.goto (tgt := 57) dX10_edge_42 (by decide) ?_
  exact kn
theorem bkX10_edge_45 {d : Nat} {S : hs_T} {Q : Option av_T → hs_T → Prop} {x1 x2 x3 x4 x5 : Int32} (kt : ¬ x4 = x3 → Ev d mX10_edge 54 [some (vR 10 0), some (vI x1), some (vI x2), some (vI x3), some (vI x4), some (vI x5)] [] S Q) (kf : x4 = x3 → Ev d mX10_edge 51 [some (vR 10 0), some (vI x1), some (vI x2), some (vI x3), some (vI x4), some (vI x5)] [] S Q) : Ev d mX10_edge 45 [some (vR 10 0), some (vI x1), some (vI x2), some (vI x3), some (vI x4), some (vI x5)] [] S Q := by
  refine Ev.iload dX10_edge_45 rfl ?_
  refine Ev.iload_n dX10_edge_47 rfl rfl ?_
  exact Ev.icmp_ne (tgt := 54) dX10_edge_48 (by decide) kt kf
theorem bkX10_edge_51 {d : Nat} {S : hs_T} {Q : Option av_T → hs_T → Prop} {x1 x2 x3 x4 x5 : Int32} (hq : Q (some (vI x5)) S) : Ev d mX10_edge 51 [some (vR 10 0), some (vI x1), some (vI x2), some (vI x3), some (vI x4), some (vI x5)] [] S Q := by
  refine Ev.iload dX10_edge_51 rfl ?_
  exact Ev.iret dX10_edge_53 rfl rfl hq
theorem bkX10_edge_54 {d : Nat} {S : hs_T} {Q : Option av_T → hs_T → Prop} {x1 x2 x3 x4 x5 : Int32} (kn : Ev d mX10_edge 57 [some (vR 10 0), some (vI x1), some (vI x2), some (vI x3), some (vI (x4 + 1)), some (vI x5)] [] S Q) : Ev d mX10_edge 54 [some (vR 10 0), some (vI x1), some (vI x2), some (vI x3), some (vI x4), some (vI x5)] [] S Q := by
  refine Ev.iinc (v := (x4 + 1)) (ls' := [some (vR 10 0), some (vI x1), some (vI x2), some (vI x3), some (vI (x4 + 1)), some (vI x5)]) dX10_edge_54 rfl rfl (by decide) rfl ?_
  exact kn
theorem bkX10_edge_57 {d : Nat} {S : hs_T} {Q : Option av_T → hs_T → Prop} {x1 x2 x3 x4 x5 : Int32} (kn : Ev d mX10_edge 19 [some (vR 10 0), some (vI x1), some (vI x2), some (vI x3), some (vI x4), some (vI (x5 + 1))] [] S Q) : Ev d mX10_edge 57 [some (vR 10 0), some (vI x1), some (vI x2), some (vI x3), some (vI x4), some (vI x5)] [] S Q := by
  refine Ev.iinc (v := (x5 + 1)) (ls' := [some (vR 10 0), some (vI x1), some (vI x2), some (vI x3), some (vI x4), some (vI (x5 + 1))]) dX10_edge_57 rfl rfl (by decide) rfl ?_
  refine Ev.goto (tgt := 19) dX10_edge_60 (by decide) ?_
  exact kn
theorem bkX10_edge_63 {d : Nat} {S : hs_T} {Q : Option av_T → hs_T → Prop} {x1 x2 x3 x4 x5 : Int32} (hq : Q (some (vI (-4))) S) : Ev d mX10_edge 63 [some (vR 10 0), some (vI x1), some (vI x2), some (vI x3), some (vI x4), some (vI x5)] [] S Q := by
  refine Ev.bipush (v := (-4)) dX10_edge_63 (by decide) ?_
  exact Ev.iret dX10_edge_65 rfl rfl hq
/-! EightWires.pulse(III)I -/
theorem bkX10_pulse_0 {d : Nat} {S : hs_T} {Q : Option av_T → hs_T → Prop} {P : Int32 → hs_T → Prop} {x1 x2 x3 : Int32} (hC : Ci d mX10_isWire [vI x1] S P) (kk : ∀ v S', P v S' → Ev (d + 1) mX10_pulse 4 [some (vR 10 0), some (vI x1), some (vI x2), some (vI x3)] [vI v] S' Q) : Ev (d + 1) mX10_pulse 0 [some (vR 10 0), some (vI x1), some (vI x2), some (vI x3)] [] S Q := by
  refine Ev.iload_n dX10_pulse_0 rfl rfl ?_
  exact Ev.callS (as := [vI x1]) (rest := []) okX10_isWire stX10_isWire ml_X10_197 rfl (Nat.le_of_ble_eq_true rfl) rfl dX10_pulse_1 hC (fun r S' h => by obtain ⟨v, rfl, h⟩ := h; exact kk v S' h)
theorem bkX10_pulse_4 {d : Nat} {S : hs_T} {Q : Option av_T → hs_T → Prop} {x1 x2 x3 y0 : Int32} (kt : y0 = 0 → Ev d mX10_pulse 25 [some (vR 10 0), some (vI x1), some (vI x2), some (vI x3)] [] S Q) (kf : ¬ y0 = 0 → Ev d mX10_pulse 7 [some (vR 10 0), some (vI x1), some (vI x2), some (vI x3)] [] S Q) : Ev d mX10_pulse 4 [some (vR 10 0), some (vI x1), some (vI x2), some (vI x3)] [vI y0] S Q := by
  exact Ev.if_eq (tgt := 25) dX10_pulse_4 (by decide) kt kf
theorem bkX10_pulse_7 {d : Nat} {S : hs_T} {Q : Option av_T → hs_T → Prop} {P : Int32 → hs_T → Prop} {x1 x2 x3 : Int32} (hC : Ci d mX10_within [vI x2, vI 0, vI 1] S P) (kk : ∀ v S', P v S' → Ev (d + 1) mX10_pulse 13 [some (vR 10 0), some (vI x1), some (vI x2), some (vI x3)] [vI v] S' Q) : Ev (d + 1) mX10_pulse 7 [some (vR 10 0), some (vI x1), some (vI x2), some (vI x3)] [] S Q := by
  refine Ev.iload_n dX10_pulse_7 rfl rfl ?_
  refine Ev.iconst (v := 0) dX10_pulse_8 (by decide) ?_
  refine Ev.iconst (v := 1) dX10_pulse_9 (by decide) ?_
  exact Ev.callS (as := [vI x2, vI 0, vI 1]) (rest := []) okX10_within stX10_within ml_X10_93 rfl (Nat.le_of_ble_eq_true rfl) rfl dX10_pulse_10 hC (fun r S' h => by obtain ⟨v, rfl, h⟩ := h; exact kk v S' h)
theorem bkX10_pulse_13 {d : Nat} {S : hs_T} {Q : Option av_T → hs_T → Prop} {x1 x2 x3 y0 : Int32} (kt : y0 = 0 → Ev d mX10_pulse 25 [some (vR 10 0), some (vI x1), some (vI x2), some (vI x3)] [] S Q) (kf : ¬ y0 = 0 → Ev d mX10_pulse 16 [some (vR 10 0), some (vI x1), some (vI x2), some (vI x3)] [] S Q) : Ev d mX10_pulse 13 [some (vR 10 0), some (vI x1), some (vI x2), some (vI x3)] [vI y0] S Q := by
  exact Ev.if_eq (tgt := 25) dX10_pulse_13 (by decide) kt kf
theorem bkX10_pulse_16 {d : Nat} {S : hs_T} {Q : Option av_T → hs_T → Prop} {P : Int32 → hs_T → Prop} {x1 x2 x3 : Int32} (hC : Ci d mX10_within [vI x3, vI 0, vI 4] S P) (kk : ∀ v S', P v S' → Ev (d + 1) mX10_pulse 22 [some (vR 10 0), some (vI x1), some (vI x2), some (vI x3)] [vI v] S' Q) : Ev (d + 1) mX10_pulse 16 [some (vR 10 0), some (vI x1), some (vI x2), some (vI x3)] [] S Q := by
  refine Ev.iload_n dX10_pulse_16 rfl rfl ?_
  refine Ev.iconst (v := 0) dX10_pulse_17 (by decide) ?_
  refine Ev.iconst (v := 4) dX10_pulse_18 (by decide) ?_
  exact Ev.callS (as := [vI x3, vI 0, vI 4]) (rest := []) okX10_within stX10_within ml_X10_93 rfl (Nat.le_of_ble_eq_true rfl) rfl dX10_pulse_19 hC (fun r S' h => by obtain ⟨v, rfl, h⟩ := h; exact kk v S' h)
theorem bkX10_pulse_22 {d : Nat} {S : hs_T} {Q : Option av_T → hs_T → Prop} {x1 x2 x3 y0 : Int32} (kt : ¬ y0 = 0 → Ev d mX10_pulse 27 [some (vR 10 0), some (vI x1), some (vI x2), some (vI x3)] [] S Q) (kf : y0 = 0 → Ev d mX10_pulse 25 [some (vR 10 0), some (vI x1), some (vI x2), some (vI x3)] [] S Q) : Ev d mX10_pulse 22 [some (vR 10 0), some (vI x1), some (vI x2), some (vI x3)] [vI y0] S Q := by
  exact Ev.if_ne (tgt := 27) dX10_pulse_22 (by decide) kt kf
theorem bkX10_pulse_25 {d : Nat} {S : hs_T} {Q : Option av_T → hs_T → Prop} {x1 x2 x3 : Int32} (hq : Q (some (vI (-1))) S) : Ev d mX10_pulse 25 [some (vR 10 0), some (vI x1), some (vI x2), some (vI x3)] [] S Q := by
  refine Ev.iconst (v := (-1)) dX10_pulse_25 (by decide) ?_
  exact Ev.iret dX10_pulse_26 rfl rfl hq
theorem bkX10_pulse_27 {d : Nat} {S : hs_T} {Q : Option av_T → hs_T → Prop} {P : hs_T → Prop} {x1 x2 x3 : Int32} (hC : Cv d mX3_measure [vR 3 0, vR 8 0, vI x1, vI x2, vI 0] S P) (kk : ∀ S', P S' → Ev (d + 1) mX10_pulse 41 [some (vR 10 0), some (vI x1), some (vI x2), some (vI x3)] [] S' Q) : Ev (d + 1) mX10_pulse 27 [some (vR 10 0), some (vI x1), some (vI x2), some (vI x3)] [] S Q := by
  refine Ev.aload_n dX10_pulse_27 rfl rfl ?_
  refine Ev.get (v := vR 3 0) okX10 (by decide) fl_X10_47 pz_10_0 (ff_10_6 _ _) dX10_pulse_28 ?_
  refine Ev.aload_n dX10_pulse_31 rfl rfl ?_
  refine Ev.get (v := vR 8 0) okX10 (by decide) fl_X10_19 pz_10_0 (ff_10_1 _ _) dX10_pulse_32 ?_
  refine Ev.iload_n dX10_pulse_35 rfl rfl ?_
  refine Ev.iload_n dX10_pulse_36 rfl rfl ?_
  refine Ev.iconst (v := 0) dX10_pulse_37 (by decide) ?_
  exact Ev.callV (as := [vR 8 0, vI x1, vI x2, vI 0]) (rest := []) okX3_measure in_X3_measure ml_X10_204 rfl (Nat.le_of_ble_eq_true rfl) pz_3_0 (by decide) rfl rfl dX10_pulse_38 hC (fun r S' h => by obtain ⟨rfl, h⟩ := h; exact kk S' h)
theorem bkX10_pulse_41 {d : Nat} {S : hs_T} {Q : Option av_T → hs_T → Prop} {x1 x2 x3 : Int32} (k0 : x3 = 0 → Ev d mX10_pulse 72 [some (vR 10 0), some (vI x1), some (vI x2), some (vI x3)] [] S Q) (k1 : x3 = 1 → Ev d mX10_pulse 80 [some (vR 10 0), some (vI x1), some (vI x2), some (vI x3)] [] S Q) (k2 : x3 = 2 → Ev d mX10_pulse 88 [some (vR 10 0), some (vI x1), some (vI x2), some (vI x3)] [] S Q) (k3 : x3 = 3 → Ev d mX10_pulse 96 [some (vR 10 0), some (vI x1), some (vI x2), some (vI x3)] [] S Q) (kd : ¬ x3 = 0 → ¬ x3 = 1 → ¬ x3 = 2 → ¬ x3 = 3 → Ev d mX10_pulse 104 [some (vR 10 0), some (vI x1), some (vI x2), some (vI x3)] [] S Q) : Ev d mX10_pulse 41 [some (vR 10 0), some (vI x1), some (vI x2), some (vI x3)] [] S Q := by
  refine Ev.iload_n dX10_pulse_41 rfl rfl ?_
  by_cases hc0 : x3 = 0
  · exact Ev.tableIn (off := 30) (tgt := 72) dX10_pulse_42 (by rw [hc0]; decide) (by rw [hc0]; decide) (by rw [hc0]; rfl) (by decide) (k0 hc0)
  by_cases hc1 : x3 = 1
  · exact Ev.tableIn (off := 38) (tgt := 80) dX10_pulse_42 (by rw [hc1]; decide) (by rw [hc1]; decide) (by rw [hc1]; rfl) (by decide) (k1 hc1)
  by_cases hc2 : x3 = 2
  · exact Ev.tableIn (off := 46) (tgt := 88) dX10_pulse_42 (by rw [hc2]; decide) (by rw [hc2]; decide) (by rw [hc2]; rfl) (by decide) (k2 hc2)
  by_cases hc3 : x3 = 3
  · exact Ev.tableIn (off := 54) (tgt := 96) dX10_pulse_42 (by rw [hc3]; decide) (by rw [hc3]; decide) (by rw [hc3]; rfl) (by decide) (k3 hc3)
  refine Ev.tableOut (tgt := 104) dX10_pulse_42 (tw_out (fun c h1 h2 => ?_)) (by decide) (kd hc0 hc1 hc2 hc3)
  have hcs : c = 0 ∨ c = 1 ∨ c = 2 ∨ c = 3 := by omega
  rcases hcs with rfl | rfl | rfl | rfl
  · exact fun z => hc0 (Int32.toInt_inj.mp (z.trans (by decide)))
  · exact fun z => hc1 (Int32.toInt_inj.mp (z.trans (by decide)))
  · exact fun z => hc2 (Int32.toInt_inj.mp (z.trans (by decide)))
  · exact fun z => hc3 (Int32.toInt_inj.mp (z.trans (by decide)))
theorem bkX10_pulse_72 {d : Nat} {S : hs_T} {Q : Option av_T → hs_T → Prop} {x1 x2 x3 : Int32} (hq : Q (some (vI (S.1 3 0 0))) S) : Ev d mX10_pulse 72 [some (vR 10 0), some (vI x1), some (vI x2), some (vI x3)] [] S Q := by
  refine Ev.aload_n dX10_pulse_72 rfl rfl ?_
  refine Ev.get (v := vR 3 0) okX10 (by decide) fl_X10_47 pz_10_0 (ff_10_6 _ _) dX10_pulse_73 ?_
  refine Ev.get (v := vI (S.1 3 0 0)) okX3 (by decide) fl_X10_208 pz_3_0 (ff_3_0 _ _) dX10_pulse_76 ?_
  exact Ev.iret dX10_pulse_79 rfl rfl hq
theorem bkX10_pulse_80 {d : Nat} {S : hs_T} {Q : Option av_T → hs_T → Prop} {x1 x2 x3 : Int32} (hq : Q (some (vI (S.1 3 0 1))) S) : Ev d mX10_pulse 80 [some (vR 10 0), some (vI x1), some (vI x2), some (vI x3)] [] S Q := by
  refine Ev.aload_n dX10_pulse_80 rfl rfl ?_
  refine Ev.get (v := vR 3 0) okX10 (by decide) fl_X10_47 pz_10_0 (ff_10_6 _ _) dX10_pulse_81 ?_
  refine Ev.get (v := vI (S.1 3 0 1)) okX3 (by decide) fl_X10_211 pz_3_0 (ff_3_1 _ _) dX10_pulse_84 ?_
  exact Ev.iret dX10_pulse_87 rfl rfl hq
theorem bkX10_pulse_88 {d : Nat} {S : hs_T} {Q : Option av_T → hs_T → Prop} {x1 x2 x3 : Int32} (hq : Q (some (vI (S.1 3 0 2))) S) : Ev d mX10_pulse 88 [some (vR 10 0), some (vI x1), some (vI x2), some (vI x3)] [] S Q := by
  refine Ev.aload_n dX10_pulse_88 rfl rfl ?_
  refine Ev.get (v := vR 3 0) okX10 (by decide) fl_X10_47 pz_10_0 (ff_10_6 _ _) dX10_pulse_89 ?_
  refine Ev.get (v := vI (S.1 3 0 2)) okX3 (by decide) fl_X10_214 pz_3_0 (ff_3_2 _ _) dX10_pulse_92 ?_
  exact Ev.iret dX10_pulse_95 rfl rfl hq
theorem bkX10_pulse_96 {d : Nat} {S : hs_T} {Q : Option av_T → hs_T → Prop} {x1 x2 x3 : Int32} (hq : Q (some (vI (S.1 3 0 3))) S) : Ev d mX10_pulse 96 [some (vR 10 0), some (vI x1), some (vI x2), some (vI x3)] [] S Q := by
  refine Ev.aload_n dX10_pulse_96 rfl rfl ?_
  refine Ev.get (v := vR 3 0) okX10 (by decide) fl_X10_47 pz_10_0 (ff_10_6 _ _) dX10_pulse_97 ?_
  refine Ev.get (v := vI (S.1 3 0 3)) okX3 (by decide) fl_X10_217 pz_3_0 (ff_3_3 _ _) dX10_pulse_100 ?_
  exact Ev.iret dX10_pulse_103 rfl rfl hq
theorem bkX10_pulse_104 {d : Nat} {S : hs_T} {Q : Option av_T → hs_T → Prop} {x1 x2 x3 : Int32} (hq : Q (some (vI (S.1 3 0 4))) S) : Ev d mX10_pulse 104 [some (vR 10 0), some (vI x1), some (vI x2), some (vI x3)] [] S Q := by
  refine Ev.aload_n dX10_pulse_104 rfl rfl ?_
  refine Ev.get (v := vR 3 0) okX10 (by decide) fl_X10_47 pz_10_0 (ff_10_6 _ _) dX10_pulse_105 ?_
  refine Ev.get (v := vI (S.1 3 0 4)) okX3 (by decide) fl_X10_220 pz_3_0 (ff_3_4 _ _) dX10_pulse_108 ?_
  exact Ev.iret dX10_pulse_111 rfl rfl hq
/-! EightWires.duty(II)I -/
theorem bkX10_duty_0 {d : Nat} {S : hs_T} {Q : Option av_T → hs_T → Prop} {P : Int32 → hs_T → Prop} {x1 x2 : Int32} {o3 o4 o5 o6 : Option av_T} (hC : Ci d mX10_isWire [vI x1] S P) (kk : ∀ v S', P v S' → Ev (d + 1) mX10_duty 4 [some (vR 10 0), some (vI x1), some (vI x2), o3, o4, o5, o6] [vI v] S' Q) : Ev (d + 1) mX10_duty 0 [some (vR 10 0), some (vI x1), some (vI x2), o3, o4, o5, o6] [] S Q := by
  refine Ev.iload_n dX10_duty_0 rfl rfl ?_
  exact Ev.callS (as := [vI x1]) (rest := []) okX10_isWire stX10_isWire ml_X10_197 rfl (Nat.le_of_ble_eq_true rfl) rfl dX10_duty_1 hC (fun r S' h => by obtain ⟨v, rfl, h⟩ := h; exact kk v S' h)
theorem bkX10_duty_4 {d : Nat} {S : hs_T} {Q : Option av_T → hs_T → Prop} {x1 x2 y0 : Int32} {o3 o4 o5 o6 : Option av_T} (kt : y0 = 0 → Ev d mX10_duty 16 [some (vR 10 0), some (vI x1), some (vI x2), o3, o4, o5, o6] [] S Q) (kf : ¬ y0 = 0 → Ev d mX10_duty 7 [some (vR 10 0), some (vI x1), some (vI x2), o3, o4, o5, o6] [] S Q) : Ev d mX10_duty 4 [some (vR 10 0), some (vI x1), some (vI x2), o3, o4, o5, o6] [vI y0] S Q := by
  exact Ev.if_eq (tgt := 16) dX10_duty_4 (by decide) kt kf
theorem bkX10_duty_7 {d : Nat} {S : hs_T} {Q : Option av_T → hs_T → Prop} {P : Int32 → hs_T → Prop} {x1 x2 : Int32} {o3 o4 o5 o6 : Option av_T} (hC : Ci d mX10_within [vI x2, vI 0, vI 1] S P) (kk : ∀ v S', P v S' → Ev (d + 1) mX10_duty 13 [some (vR 10 0), some (vI x1), some (vI x2), o3, o4, o5, o6] [vI v] S' Q) : Ev (d + 1) mX10_duty 7 [some (vR 10 0), some (vI x1), some (vI x2), o3, o4, o5, o6] [] S Q := by
  refine Ev.iload_n dX10_duty_7 rfl rfl ?_
  refine Ev.iconst (v := 0) dX10_duty_8 (by decide) ?_
  refine Ev.iconst (v := 1) dX10_duty_9 (by decide) ?_
  exact Ev.callS (as := [vI x2, vI 0, vI 1]) (rest := []) okX10_within stX10_within ml_X10_93 rfl (Nat.le_of_ble_eq_true rfl) rfl dX10_duty_10 hC (fun r S' h => by obtain ⟨v, rfl, h⟩ := h; exact kk v S' h)
theorem bkX10_duty_13 {d : Nat} {S : hs_T} {Q : Option av_T → hs_T → Prop} {x1 x2 y0 : Int32} {o3 o4 o5 o6 : Option av_T} (kt : ¬ y0 = 0 → Ev d mX10_duty 18 [some (vR 10 0), some (vI x1), some (vI x2), o3, o4, o5, o6] [] S Q) (kf : y0 = 0 → Ev d mX10_duty 16 [some (vR 10 0), some (vI x1), some (vI x2), o3, o4, o5, o6] [] S Q) : Ev d mX10_duty 13 [some (vR 10 0), some (vI x1), some (vI x2), o3, o4, o5, o6] [vI y0] S Q := by
  exact Ev.if_ne (tgt := 18) dX10_duty_13 (by decide) kt kf
theorem bkX10_duty_16 {d : Nat} {S : hs_T} {Q : Option av_T → hs_T → Prop} {x1 x2 : Int32} {o3 o4 o5 o6 : Option av_T} (hq : Q (some (vI (-1))) S) : Ev d mX10_duty 16 [some (vR 10 0), some (vI x1), some (vI x2), o3, o4, o5, o6] [] S Q := by
  refine Ev.iconst (v := (-1)) dX10_duty_16 (by decide) ?_
  exact Ev.iret dX10_duty_17 rfl rfl hq
theorem bkX10_duty_18 {d : Nat} {S : hs_T} {Q : Option av_T → hs_T → Prop} {P : Int32 → hs_T → Prop} {x1 x2 : Int32} {o3 o4 o5 o6 : Option av_T} (hC : Ci d mX10_firstRise [vR 10 0, vI x1] S P) (kk : ∀ v S', P v S' → Ev (d + 1) mX10_duty 23 [some (vR 10 0), some (vI x1), some (vI x2), o3, o4, o5, o6] [vI v] S' Q) : Ev (d + 1) mX10_duty 18 [some (vR 10 0), some (vI x1), some (vI x2), o3, o4, o5, o6] [] S Q := by
  refine Ev.aload_n dX10_duty_18 rfl rfl ?_
  refine Ev.iload_n dX10_duty_19 rfl rfl ?_
  exact Ev.callV (as := [vI x1]) (rest := []) okX10_firstRise in_X10_firstRise ml_X10_223 rfl (Nat.le_of_ble_eq_true rfl) pz_10_0 (by decide) rfl rfl dX10_duty_20 hC (fun r S' h => by obtain ⟨v, rfl, h⟩ := h; exact kk v S' h)
theorem bkX10_duty_23 {d : Nat} {S : hs_T} {Q : Option av_T → hs_T → Prop} {P : Int32 → hs_T → Prop} {x1 x2 y0 : Int32} {o3 o4 o5 o6 : Option av_T} (hC : Ci d mX10_lastRise [vR 10 0, vI x1] S P) (kk : ∀ v S', P v S' → Ev (d + 1) mX10_duty 29 [some (vR 10 0), some (vI x1), some (vI x2), some (vI y0), o4, o5, o6] [vI v] S' Q) : Ev (d + 1) mX10_duty 23 [some (vR 10 0), some (vI x1), some (vI x2), o3, o4, o5, o6] [vI y0] S Q := by
  refine Ev.istore_n (ls' := [some (vR 10 0), some (vI x1), some (vI x2), some (vI y0), o4, o5, o6]) dX10_duty_23 rfl (by decide) rfl ?_
  refine Ev.aload_n dX10_duty_24 rfl rfl ?_
  refine Ev.iload_n dX10_duty_25 rfl rfl ?_
  exact Ev.callV (as := [vI x1]) (rest := []) okX10_lastRise in_X10_lastRise ml_X10_226 rfl (Nat.le_of_ble_eq_true rfl) pz_10_0 (by decide) rfl rfl dX10_duty_26 hC (fun r S' h => by obtain ⟨v, rfl, h⟩ := h; exact kk v S' h)
theorem bkX10_duty_29 {d : Nat} {S : hs_T} {Q : Option av_T → hs_T → Prop} {x1 x2 x3 y0 : Int32} {o4 o5 o6 : Option av_T} (kt : x3 < 0 → Ev d mX10_duty 41 [some (vR 10 0), some (vI x1), some (vI x2), some (vI x3), some (vI y0), o5, o6] [] S Q) (kf : ¬ x3 < 0 → Ev d mX10_duty 35 [some (vR 10 0), some (vI x1), some (vI x2), some (vI x3), some (vI y0), o5, o6] [] S Q) : Ev d mX10_duty 29 [some (vR 10 0), some (vI x1), some (vI x2), some (vI x3), o4, o5, o6] [vI y0] S Q := by
  refine Ev.istore (ls' := [some (vR 10 0), some (vI x1), some (vI x2), some (vI x3), some (vI y0), o5, o6]) dX10_duty_29 (by decide) rfl ?_
  refine Ev.iload_n dX10_duty_31 rfl rfl ?_
  exact Ev.if_lt (tgt := 41) dX10_duty_32 (by decide) kt kf
theorem bkX10_duty_35 {d : Nat} {S : hs_T} {Q : Option av_T → hs_T → Prop} {x1 x2 x3 x4 : Int32} {o5 o6 : Option av_T} (kt : ¬ x3 = x4 → Ev d mX10_duty 44 [some (vR 10 0), some (vI x1), some (vI x2), some (vI x3), some (vI x4), o5, o6] [] S Q) (kf : x3 = x4 → Ev d mX10_duty 41 [some (vR 10 0), some (vI x1), some (vI x2), some (vI x3), some (vI x4), o5, o6] [] S Q) : Ev d mX10_duty 35 [some (vR 10 0), some (vI x1), some (vI x2), some (vI x3), some (vI x4), o5, o6] [] S Q := by
  refine Ev.iload_n dX10_duty_35 rfl rfl ?_
  refine Ev.iload dX10_duty_36 rfl ?_
  exact Ev.icmp_ne (tgt := 44) dX10_duty_38 (by decide) kt kf
theorem bkX10_duty_41 {d : Nat} {S : hs_T} {Q : Option av_T → hs_T → Prop} {x1 x2 x3 x4 : Int32} {o5 o6 : Option av_T} (hq : Q (some (vI (-4))) S) : Ev d mX10_duty 41 [some (vR 10 0), some (vI x1), some (vI x2), some (vI x3), some (vI x4), o5, o6] [] S Q := by
  refine Ev.bipush (v := (-4)) dX10_duty_41 (by decide) ?_
  exact Ev.iret dX10_duty_43 rfl rfl hq
theorem bkX10_duty_44 {d : Nat} {S : hs_T} {Q : Option av_T → hs_T → Prop} {x1 x2 x3 x4 : Int32} {o5 o6 : Option av_T} (kn : Ev d mX10_duty 50 [some (vR 10 0), some (vI x1), some (vI x2), some (vI x3), some (vI x4), some (vI 0), some (vI x3)] [] S Q) : Ev d mX10_duty 44 [some (vR 10 0), some (vI x1), some (vI x2), some (vI x3), some (vI x4), o5, o6] [] S Q := by
  refine Ev.iconst (v := 0) dX10_duty_44 (by decide) ?_
  refine Ev.istore (ls' := [some (vR 10 0), some (vI x1), some (vI x2), some (vI x3), some (vI x4), some (vI 0), o6]) dX10_duty_45 (by decide) rfl ?_
  refine Ev.iload_n dX10_duty_47 rfl rfl ?_
  refine Ev.istore (ls' := [some (vR 10 0), some (vI x1), some (vI x2), some (vI x3), some (vI x4), some (vI 0), some (vI x3)]) dX10_duty_48 (by decide) rfl ?_
  exact kn
theorem bkX10_duty_50 {d : Nat} {S : hs_T} {Q : Option av_T → hs_T → Prop} {x1 x2 x3 x4 x5 x6 : Int32} (kt : x4 ≤ x6 → Ev d mX10_duty 86 [some (vR 10 0), some (vI x1), some (vI x2), some (vI x3), some (vI x4), some (vI x5), some (vI x6)] [] S Q) (kf : ¬ x4 ≤ x6 → Ev d mX10_duty 57 [some (vR 10 0), some (vI x1), some (vI x2), some (vI x3), some (vI x4), some (vI x5), some (vI x6)] [] S Q) : Ev d mX10_duty 50 [some (vR 10 0), some (vI x1), some (vI x2), some (vI x3), some (vI x4), some (vI x5), some (vI x6)] [] S Q := by
  refine Ev.iload dX10_duty_50 rfl ?_
  refine Ev.iload dX10_duty_52 rfl ?_
  exact Ev.icmp_ge (tgt := 86) dX10_duty_54 (by decide) kt kf
theorem bkX10_duty_57 {d : Nat} {S : hs_T} {Q : Option av_T → hs_T → Prop} {P : Int32 → hs_T → Prop} {x1 x2 x3 x4 x5 x6 : Int32} (hC : Ci d mX8_high [vR 8 0, vI x1, vI x6] S P) (kk : ∀ v S', P v S' → Ev (d + 1) mX10_duty 69 [some (vR 10 0), some (vI x1), some (vI x2), some (vI x3), some (vI x4), some (vI x5), some (vI x6)] [vI v, vI x5] S' Q) : Ev (d + 1) mX10_duty 57 [some (vR 10 0), some (vI x1), some (vI x2), some (vI x3), some (vI x4), some (vI x5), some (vI x6)] [] S Q := by
  refine Ev.iload dX10_duty_57 rfl ?_
  refine Ev.aload_n dX10_duty_59 rfl rfl ?_
  refine Ev.get (v := vR 8 0) okX10 (by decide) fl_X10_19 pz_10_0 (ff_10_1 _ _) dX10_duty_60 ?_
  refine Ev.iload_n dX10_duty_63 rfl rfl ?_
  refine Ev.iload dX10_duty_64 rfl ?_
  exact Ev.callV (as := [vI x1, vI x6]) (rest := [vI x5]) okX8_high in_X8_high ml_X10_229 rfl (Nat.le_of_ble_eq_true rfl) pz_8_0 (by decide) rfl rfl dX10_duty_66 hC (fun r S' h => by obtain ⟨v, rfl, h⟩ := h; exact kk v S' h)
theorem bkX10_duty_69 {d : Nat} {S : hs_T} {Q : Option av_T → hs_T → Prop} {x1 x2 x3 x4 x5 x6 y0 y1 : Int32} (kt : y0 = 0 → Ev d mX10_duty 76 [some (vR 10 0), some (vI x1), some (vI x2), some (vI x3), some (vI x4), some (vI x5), some (vI x6)] [vI y1] S Q) (kf : ¬ y0 = 0 → Ev d mX10_duty 72 [some (vR 10 0), some (vI x1), some (vI x2), some (vI x3), some (vI x4), some (vI x5), some (vI x6)] [vI y1] S Q) : Ev d mX10_duty 69 [some (vR 10 0), some (vI x1), some (vI x2), some (vI x3), some (vI x4), some (vI x5), some (vI x6)] [vI y0, vI y1] S Q := by
  exact Ev.if_eq (tgt := 76) dX10_duty_69 (by decide) kt kf
theorem bkX10_duty_72 {d : Nat} {S : hs_T} {Q : Option av_T → hs_T → Prop} {x1 x2 x3 x4 x5 x6 y0 : Int32} (kn : Ev d mX10_duty 77 [some (vR 10 0), some (vI x1), some (vI x2), some (vI x3), some (vI x4), some (vI x5), some (vI x6)] [vI 1, vI y0] S Q) : Ev d mX10_duty 72 [some (vR 10 0), some (vI x1), some (vI x2), some (vI x3), some (vI x4), some (vI x5), some (vI x6)] [vI y0] S Q := by
  refine Ev.iconst (v := 1) dX10_duty_72 (by decide) ?_
  refine Ev.goto (tgt := 77) dX10_duty_73 (by decide) ?_
  exact kn
theorem bkX10_duty_76 {d : Nat} {S : hs_T} {Q : Option av_T → hs_T → Prop} {x1 x2 x3 x4 x5 x6 y0 : Int32} (kn : Ev d mX10_duty 77 [some (vR 10 0), some (vI x1), some (vI x2), some (vI x3), some (vI x4), some (vI x5), some (vI x6)] [vI 0, vI y0] S Q) : Ev d mX10_duty 76 [some (vR 10 0), some (vI x1), some (vI x2), some (vI x3), some (vI x4), some (vI x5), some (vI x6)] [vI y0] S Q := by
  refine Ev.iconst (v := 0) dX10_duty_76 (by decide) ?_
  exact kn
theorem bkX10_duty_77 {d : Nat} {S : hs_T} {Q : Option av_T → hs_T → Prop} {x1 x2 x3 x4 x5 x6 y0 y1 : Int32} (kn : Ev d mX10_duty 50 [some (vR 10 0), some (vI x1), some (vI x2), some (vI x3), some (vI x4), some (vI (y1 + y0)), some (vI (x6 + 1))] [] S Q) : Ev d mX10_duty 77 [some (vR 10 0), some (vI x1), some (vI x2), some (vI x3), some (vI x4), some (vI x5), some (vI x6)] [vI y0, vI y1] S Q := by
  refine Ev.iadd dX10_duty_77 ?_
  refine Ev.istore (ls' := [some (vR 10 0), some (vI x1), some (vI x2), some (vI x3), some (vI x4), some (vI (y1 + y0)), some (vI x6)]) dX10_duty_78 (by decide) rfl ?_
  refine Ev.iinc (v := (x6 + 1)) (ls' := [some (vR 10 0), some (vI x1), some (vI x2), some (vI x3), some (vI x4), some (vI (y1 + y0)), some (vI (x6 + 1))]) dX10_duty_80 rfl rfl (by decide) rfl ?_
  refine Ev.goto (tgt := 50) dX10_duty_83 (by decide) ?_
  exact kn
theorem bkX10_duty_86 {d : Nat} {S : hs_T} {Q : Option av_T → hs_T → Prop} {P : Int32 → hs_T → Prop} {x1 x2 x3 x4 x5 x6 : Int32} (hC : Ci d mX10_greatestDivisor [vI x5, vI (x4 - x3)] S P) (kk : ∀ v S', P v S' → Ev (d + 1) mX10_duty 95 [some (vR 10 0), some (vI x1), some (vI x2), some (vI x3), some (vI x4), some (vI x5), some (vI x6)] [vI v] S' Q) : Ev (d + 1) mX10_duty 86 [some (vR 10 0), some (vI x1), some (vI x2), some (vI x3), some (vI x4), some (vI x5), some (vI x6)] [] S Q := by
  refine Ev.iload dX10_duty_86 rfl ?_
  refine Ev.iload dX10_duty_88 rfl ?_
  refine Ev.iload_n dX10_duty_90 rfl rfl ?_
  refine Ev.isub dX10_duty_91 ?_
  exact Ev.callS (as := [vI x5, vI (x4 - x3)]) (rest := []) okX10_greatestDivisor stX10_greatestDivisor ml_X10_233 rfl (Nat.le_of_ble_eq_true rfl) rfl dX10_duty_92 hC (fun r S' h => by obtain ⟨v, rfl, h⟩ := h; exact kk v S' h)
theorem bkX10_duty_95 {d : Nat} {S : hs_T} {Q : Option av_T → hs_T → Prop} {x1 x2 x3 x4 x5 x6 y0 : Int32} (kt : ¬ y0 = 0 → Ev d mX10_duty 105 [some (vR 10 0), some (vI x1), some (vI x2), some (vI x3), some (vI x4), some (vI x5), some (vI y0)] [] S Q) (kf : y0 = 0 → Ev d mX10_duty 102 [some (vR 10 0), some (vI x1), some (vI x2), some (vI x3), some (vI x4), some (vI x5), some (vI y0)] [] S Q) : Ev d mX10_duty 95 [some (vR 10 0), some (vI x1), some (vI x2), some (vI x3), some (vI x4), some (vI x5), some (vI x6)] [vI y0] S Q := by
  refine Ev.istore (ls' := [some (vR 10 0), some (vI x1), some (vI x2), some (vI x3), some (vI x4), some (vI x5), some (vI y0)]) dX10_duty_95 (by decide) rfl ?_
  refine Ev.iload dX10_duty_97 rfl ?_
  exact Ev.if_ne (tgt := 105) dX10_duty_99 (by decide) kt kf
theorem bkX10_duty_102 {d : Nat} {S : hs_T} {Q : Option av_T → hs_T → Prop} {x1 x2 x3 x4 x5 x6 : Int32} (hq : Q (some (vI (-4))) S) : Ev d mX10_duty 102 [some (vR 10 0), some (vI x1), some (vI x2), some (vI x3), some (vI x4), some (vI x5), some (vI x6)] [] S Q := by
  refine Ev.bipush (v := (-4)) dX10_duty_102 (by decide) ?_
  exact Ev.iret dX10_duty_104 rfl rfl hq
theorem bkX10_duty_105 {d : Nat} {S : hs_T} {Q : Option av_T → hs_T → Prop} {x1 x2 x3 x4 x5 x6 : Int32} (kt : ¬ x2 = 0 → Ev d mX10_duty 114 [some (vR 10 0), some (vI x1), some (vI x2), some (vI x3), some (vI x4), some (vI x5), some (vI x6)] [] S Q) (kf : x2 = 0 → Ev d mX10_duty 109 [some (vR 10 0), some (vI x1), some (vI x2), some (vI x3), some (vI x4), some (vI x5), some (vI x6)] [] S Q) : Ev d mX10_duty 105 [some (vR 10 0), some (vI x1), some (vI x2), some (vI x3), some (vI x4), some (vI x5), some (vI x6)] [] S Q := by
  refine Ev.iload_n dX10_duty_105 rfl rfl ?_
  exact Ev.if_ne (tgt := 114) dX10_duty_106 (by decide) kt kf
theorem bkX10_duty_109 {d : Nat} {S : hs_T} {Q : Option av_T → hs_T → Prop} {x1 x2 x3 x4 x5 x6 : Int32} (kn : Ev d mX10_duty 118 [some (vR 10 0), some (vI x1), some (vI x2), some (vI x3), some (vI x4), some (vI x5), some (vI x6)] [vI x5] S Q) : Ev d mX10_duty 109 [some (vR 10 0), some (vI x1), some (vI x2), some (vI x3), some (vI x4), some (vI x5), some (vI x6)] [] S Q := by
  refine Ev.iload dX10_duty_109 rfl ?_
  refine Ev.goto (tgt := 118) dX10_duty_111 (by decide) ?_
  exact kn
theorem bkX10_duty_114 {d : Nat} {S : hs_T} {Q : Option av_T → hs_T → Prop} {x1 x2 x3 x4 x5 x6 : Int32} (kn : Ev d mX10_duty 118 [some (vR 10 0), some (vI x1), some (vI x2), some (vI x3), some (vI x4), some (vI x5), some (vI x6)] [vI (x4 - x3)] S Q) : Ev d mX10_duty 114 [some (vR 10 0), some (vI x1), some (vI x2), some (vI x3), some (vI x4), some (vI x5), some (vI x6)] [] S Q := by
  refine Ev.iload dX10_duty_114 rfl ?_
  refine Ev.iload_n dX10_duty_116 rfl rfl ?_
  refine Ev.isub dX10_duty_117 ?_
  exact kn
theorem bkX10_duty_118 {d : Nat} {S : hs_T} {Q : Option av_T → hs_T → Prop} {x1 x2 x3 x4 x5 x6 y0 : Int32} (hz120 : ¬ x6 = 0) (hq : Q (some (vI (y0 / x6))) S) : Ev d mX10_duty 118 [some (vR 10 0), some (vI x1), some (vI x2), some (vI x3), some (vI x4), some (vI x5), some (vI x6)] [vI y0] S Q := by
  refine Ev.iload dX10_duty_118 rfl ?_
  refine Ev.idiv dX10_duty_120 hz120 ?_
  exact Ev.iret dX10_duty_121 rfl rfl hq
/-! EightWires.shorter(II)I -/
theorem bkX10_shorter_0 {d : Nat} {S : hs_T} {Q : Option av_T → hs_T → Prop} {P : Int32 → hs_T → Prop} {x1 x2 : Int32} (hC : Ci d mX10_isWire [vI x1] S P) (kk : ∀ v S', P v S' → Ev (d + 1) mX10_shorter 4 [some (vR 10 0), some (vI x1), some (vI x2)] [vI v] S' Q) : Ev (d + 1) mX10_shorter 0 [some (vR 10 0), some (vI x1), some (vI x2)] [] S Q := by
  refine Ev.iload_n dX10_shorter_0 rfl rfl ?_
  exact Ev.callS (as := [vI x1]) (rest := []) okX10_isWire stX10_isWire ml_X10_197 rfl (Nat.le_of_ble_eq_true rfl) rfl dX10_shorter_1 hC (fun r S' h => by obtain ⟨v, rfl, h⟩ := h; exact kk v S' h)
theorem bkX10_shorter_4 {d : Nat} {S : hs_T} {Q : Option av_T → hs_T → Prop} {x1 x2 y0 : Int32} (kt : y0 = 0 → Ev d mX10_shorter 18 [some (vR 10 0), some (vI x1), some (vI x2)] [] S Q) (kf : ¬ y0 = 0 → Ev d mX10_shorter 7 [some (vR 10 0), some (vI x1), some (vI x2)] [] S Q) : Ev d mX10_shorter 4 [some (vR 10 0), some (vI x1), some (vI x2)] [vI y0] S Q := by
  exact Ev.if_eq (tgt := 18) dX10_shorter_4 (by decide) kt kf
theorem bkX10_shorter_7 {d : Nat} {S : hs_T} {Q : Option av_T → hs_T → Prop} {P : Int32 → hs_T → Prop} {x1 x2 : Int32} (hC : Ci d mX10_within [vI x2, vI 1, vI 400] S P) (kk : ∀ v S', P v S' → Ev (d + 1) mX10_shorter 15 [some (vR 10 0), some (vI x1), some (vI x2)] [vI v] S' Q) : Ev (d + 1) mX10_shorter 7 [some (vR 10 0), some (vI x1), some (vI x2)] [] S Q := by
  refine Ev.iload_n dX10_shorter_7 rfl rfl ?_
  refine Ev.iconst (v := 1) dX10_shorter_8 (by decide) ?_
  refine Ev.sipush (v := 400) dX10_shorter_9 (by decide) ?_
  exact Ev.callS (as := [vI x2, vI 1, vI 400]) (rest := []) okX10_within stX10_within ml_X10_93 rfl (Nat.le_of_ble_eq_true rfl) rfl dX10_shorter_12 hC (fun r S' h => by obtain ⟨v, rfl, h⟩ := h; exact kk v S' h)
theorem bkX10_shorter_15 {d : Nat} {S : hs_T} {Q : Option av_T → hs_T → Prop} {x1 x2 y0 : Int32} (kt : ¬ y0 = 0 → Ev d mX10_shorter 20 [some (vR 10 0), some (vI x1), some (vI x2)] [] S Q) (kf : y0 = 0 → Ev d mX10_shorter 18 [some (vR 10 0), some (vI x1), some (vI x2)] [] S Q) : Ev d mX10_shorter 15 [some (vR 10 0), some (vI x1), some (vI x2)] [vI y0] S Q := by
  exact Ev.if_ne (tgt := 20) dX10_shorter_15 (by decide) kt kf
theorem bkX10_shorter_18 {d : Nat} {S : hs_T} {Q : Option av_T → hs_T → Prop} {x1 x2 : Int32} (hq : Q (some (vI (-1))) S) : Ev d mX10_shorter 18 [some (vR 10 0), some (vI x1), some (vI x2)] [] S Q := by
  refine Ev.iconst (v := (-1)) dX10_shorter_18 (by decide) ?_
  exact Ev.iret dX10_shorter_19 rfl rfl hq
theorem bkX10_shorter_20 {d : Nat} {S : hs_T} {Q : Option av_T → hs_T → Prop} {P : hs_T → Prop} {x1 x2 : Int32} (hC : Cv d mX3_measure [vR 3 0, vR 8 0, vI x1, vI (-1), vI x2] S P) (kk : ∀ S', P S' → Ev (d + 1) mX10_shorter 34 [some (vR 10 0), some (vI x1), some (vI x2)] [] S' Q) : Ev (d + 1) mX10_shorter 20 [some (vR 10 0), some (vI x1), some (vI x2)] [] S Q := by
  refine Ev.aload_n dX10_shorter_20 rfl rfl ?_
  refine Ev.get (v := vR 3 0) okX10 (by decide) fl_X10_47 pz_10_0 (ff_10_6 _ _) dX10_shorter_21 ?_
  refine Ev.aload_n dX10_shorter_24 rfl rfl ?_
  refine Ev.get (v := vR 8 0) okX10 (by decide) fl_X10_19 pz_10_0 (ff_10_1 _ _) dX10_shorter_25 ?_
  refine Ev.iload_n dX10_shorter_28 rfl rfl ?_
  refine Ev.iconst (v := (-1)) dX10_shorter_29 (by decide) ?_
  refine Ev.iload_n dX10_shorter_30 rfl rfl ?_
  exact Ev.callV (as := [vR 8 0, vI x1, vI (-1), vI x2]) (rest := []) okX3_measure in_X3_measure ml_X10_204 rfl (Nat.le_of_ble_eq_true rfl) pz_3_0 (by decide) rfl rfl dX10_shorter_31 hC (fun r S' h => by obtain ⟨rfl, h⟩ := h; exact kk S' h)
theorem bkX10_shorter_34 {d : Nat} {S : hs_T} {Q : Option av_T → hs_T → Prop} {x1 x2 : Int32} (hq : Q (some (vI (S.1 3 0 5))) S) : Ev d mX10_shorter 34 [some (vR 10 0), some (vI x1), some (vI x2)] [] S Q := by
  refine Ev.aload_n dX10_shorter_34 rfl rfl ?_
  refine Ev.get (v := vR 3 0) okX10 (by decide) fl_X10_47 pz_10_0 (ff_10_6 _ _) dX10_shorter_35 ?_
  refine Ev.get (v := vI (S.1 3 0 5)) okX3 (by decide) fl_X10_236 pz_3_0 (ff_3_5 _ _) dX10_shorter_38 ?_
  exact Ev.iret dX10_shorter_41 rfl rfl hq
/-! EightWires.smooth(I)I -/
theorem bkX10_smooth_0 {d : Nat} {S : hs_T} {Q : Option av_T → hs_T → Prop} {P : Int32 → hs_T → Prop} {x1 : Int32} {o2 o3 : Option av_T} (hC : Ci d mX10_within [vI x1, vI 1, vI 400] S P) (kk : ∀ v S', P v S' → Ev (d + 1) mX10_smooth 8 [some (vR 10 0), some (vI x1), o2, o3] [vI v] S' Q) : Ev (d + 1) mX10_smooth 0 [some (vR 10 0), some (vI x1), o2, o3] [] S Q := by
  refine Ev.iload_n dX10_smooth_0 rfl rfl ?_
  refine Ev.iconst (v := 1) dX10_smooth_1 (by decide) ?_
  refine Ev.sipush (v := 400) dX10_smooth_2 (by decide) ?_
  exact Ev.callS (as := [vI x1, vI 1, vI 400]) (rest := []) okX10_within stX10_within ml_X10_93 rfl (Nat.le_of_ble_eq_true rfl) rfl dX10_smooth_5 hC (fun r S' h => by obtain ⟨v, rfl, h⟩ := h; exact kk v S' h)
theorem bkX10_smooth_8 {d : Nat} {S : hs_T} {Q : Option av_T → hs_T → Prop} {x1 y0 : Int32} {o2 o3 : Option av_T} (kt : ¬ y0 = 0 → Ev d mX10_smooth 13 [some (vR 10 0), some (vI x1), o2, o3] [] S Q) (kf : y0 = 0 → Ev d mX10_smooth 11 [some (vR 10 0), some (vI x1), o2, o3] [] S Q) : Ev d mX10_smooth 8 [some (vR 10 0), some (vI x1), o2, o3] [vI y0] S Q := by
  exact Ev.if_ne (tgt := 13) dX10_smooth_8 (by decide) kt kf
theorem bkX10_smooth_11 {d : Nat} {S : hs_T} {Q : Option av_T → hs_T → Prop} {x1 : Int32} {o2 o3 : Option av_T} (hq : Q (some (vI (-1))) S) : Ev d mX10_smooth 11 [some (vR 10 0), some (vI x1), o2, o3] [] S Q := by
  refine Ev.iconst (v := (-1)) dX10_smooth_11 (by decide) ?_
  exact Ev.iret dX10_smooth_12 rfl rfl hq
theorem bkX10_smooth_13 {d : Nat} {S : hs_T} {Q : Option av_T → hs_T → Prop} {P : hs_T → Prop} {x1 : Int32} {o2 o3 : Option av_T} (hC : Cv d mX8_copy [vR 8 1, vR 8 0] S P) (kk : ∀ S', P S' → Ev (d + 1) mX10_smooth 24 [some (vR 10 0), some (vI x1), o2, o3] [] S' Q) : Ev (d + 1) mX10_smooth 13 [some (vR 10 0), some (vI x1), o2, o3] [] S Q := by
  refine Ev.aload_n dX10_smooth_13 rfl rfl ?_
  refine Ev.get (v := vR 8 1) okX10 (by decide) fl_X10_23 pz_10_0 (ff_10_2 _ _) dX10_smooth_14 ?_
  refine Ev.aload_n dX10_smooth_17 rfl rfl ?_
  refine Ev.get (v := vR 8 0) okX10 (by decide) fl_X10_19 pz_10_0 (ff_10_1 _ _) dX10_smooth_18 ?_
  exact Ev.callV (as := [vR 8 0]) (rest := []) okX8_copy in_X8_copy ml_X10_239 rfl (Nat.le_of_ble_eq_true rfl) pz_8_1 (by decide) rfl rfl dX10_smooth_21 hC (fun r S' h => by obtain ⟨rfl, h⟩ := h; exact kk S' h)
theorem bkX10_smooth_24 {d : Nat} {S : hs_T} {Q : Option av_T → hs_T → Prop} {x1 : Int32} {o2 o3 : Option av_T} (kn : Ev d mX10_smooth 26 [some (vR 10 0), some (vI x1), some (vI 0), o3] [] S Q) : Ev d mX10_smooth 24 [some (vR 10 0), some (vI x1), o2, o3] [] S Q := by
  refine Ev.iconst (v := 0) dX10_smooth_24 (by decide) ?_
  refine Ev.istore_n (ls' := [some (vR 10 0), some (vI x1), some (vI 0), o3]) dX10_smooth_25 rfl (by decide) rfl ?_
  exact kn
theorem bkX10_smooth_26 {d : Nat} {S : hs_T} {Q : Option av_T → hs_T → Prop} {x1 x2 : Int32} {o3 : Option av_T} (kt : 8 ≤ x2 → Ev d mX10_smooth 47 [some (vR 10 0), some (vI x1), some (vI x2), o3] [] S Q) (kf : ¬ 8 ≤ x2 → Ev d mX10_smooth 32 [some (vR 10 0), some (vI x1), some (vI x2), o3] [] S Q) : Ev d mX10_smooth 26 [some (vR 10 0), some (vI x1), some (vI x2), o3] [] S Q := by
  refine Ev.iload_n dX10_smooth_26 rfl rfl ?_
  refine Ev.bipush (v := 8) dX10_smooth_27 (by decide) ?_
  exact Ev.icmp_ge (tgt := 47) dX10_smooth_29 (by decide) kt kf
theorem bkX10_smooth_32 {d : Nat} {S : hs_T} {Q : Option av_T → hs_T → Prop} {P : hs_T → Prop} {x1 x2 : Int32} {o3 : Option av_T} (hC : Cv d mX8_smoothWire [vR 8 0, vI x2, vI x1] S P) (kk : ∀ S', P S' → Ev (d + 1) mX10_smooth 41 [some (vR 10 0), some (vI x1), some (vI x2), o3] [] S' Q) : Ev (d + 1) mX10_smooth 32 [some (vR 10 0), some (vI x1), some (vI x2), o3] [] S Q := by
  refine Ev.aload_n dX10_smooth_32 rfl rfl ?_
  refine Ev.get (v := vR 8 0) okX10 (by decide) fl_X10_19 pz_10_0 (ff_10_1 _ _) dX10_smooth_33 ?_
  refine Ev.iload_n dX10_smooth_36 rfl rfl ?_
  refine Ev.iload_n dX10_smooth_37 rfl rfl ?_
  exact Ev.callV (as := [vI x2, vI x1]) (rest := []) okX8_smoothWire in_X8_smoothWire ml_X10_243 rfl (Nat.le_of_ble_eq_true rfl) pz_8_0 (by decide) rfl rfl dX10_smooth_38 hC (fun r S' h => by obtain ⟨rfl, h⟩ := h; exact kk S' h)
theorem bkX10_smooth_41 {d : Nat} {S : hs_T} {Q : Option av_T → hs_T → Prop} {x1 x2 : Int32} {o3 : Option av_T} (kn : Ev d mX10_smooth 26 [some (vR 10 0), some (vI x1), some (vI (x2 + 1)), o3] [] S Q) : Ev d mX10_smooth 41 [some (vR 10 0), some (vI x1), some (vI x2), o3] [] S Q := by
  refine Ev.iinc (v := (x2 + 1)) (ls' := [some (vR 10 0), some (vI x1), some (vI (x2 + 1)), o3]) dX10_smooth_41 rfl rfl (by decide) rfl ?_
  refine Ev.goto (tgt := 26) dX10_smooth_44 (by decide) ?_
  exact kn
theorem bkX10_smooth_47 {d : Nat} {S : hs_T} {Q : Option av_T → hs_T → Prop} {x1 x2 : Int32} {o3 : Option av_T} (kn : Ev d mX10_smooth 51 [some (vR 10 0), some (vI x1), some (vI 0), some (vI 0)] [] S Q) : Ev d mX10_smooth 47 [some (vR 10 0), some (vI x1), some (vI x2), o3] [] S Q := by
  refine Ev.iconst (v := 0) dX10_smooth_47 (by decide) ?_
  refine Ev.istore_n (ls' := [some (vR 10 0), some (vI x1), some (vI 0), o3]) dX10_smooth_48 rfl (by decide) rfl ?_
  refine Ev.iconst (v := 0) dX10_smooth_49 (by decide) ?_
  refine Ev.istore_n (ls' := [some (vR 10 0), some (vI x1), some (vI 0), some (vI 0)]) dX10_smooth_50 rfl (by decide) rfl ?_
  exact kn
theorem bkX10_smooth_51 {d : Nat} {S : hs_T} {Q : Option av_T → hs_T → Prop} {x1 x2 x3 : Int32} (kt : (S.1 8 0 1) ≤ x3 → Ev d mX10_smooth 95 [some (vR 10 0), some (vI x1), some (vI x2), some (vI x3)] [] S Q) (kf : ¬ (S.1 8 0 1) ≤ x3 → Ev d mX10_smooth 62 [some (vR 10 0), some (vI x1), some (vI x2), some (vI x3)] [] S Q) : Ev d mX10_smooth 51 [some (vR 10 0), some (vI x1), some (vI x2), some (vI x3)] [] S Q := by
  refine Ev.iload_n dX10_smooth_51 rfl rfl ?_
  refine Ev.aload_n dX10_smooth_52 rfl rfl ?_
  refine Ev.get (v := vR 8 0) okX10 (by decide) fl_X10_19 pz_10_0 (ff_10_1 _ _) dX10_smooth_53 ?_
  refine Ev.get (v := vI (S.1 8 0 1)) okX8 (by decide) fl_X10_151 pz_8_0 (ff_8_1 _ _) dX10_smooth_56 ?_
  exact Ev.icmp_ge (tgt := 95) dX10_smooth_59 (by decide) kt kf
theorem bkX10_smooth_62 {d : Nat} {S : hs_T} {Q : Option av_T → hs_T → Prop} {P : Int32 → hs_T → Prop} {x1 x2 x3 : Int32} (hC : Ci d mX8_sample [vR 8 0, vI x3] S P) (kk : ∀ v S', P v S' → Ev (d + 1) mX10_smooth 71 [some (vR 10 0), some (vI x1), some (vI x2), some (vI x3)] [vI v, vI x2] S' Q) : Ev (d + 1) mX10_smooth 62 [some (vR 10 0), some (vI x1), some (vI x2), some (vI x3)] [] S Q := by
  refine Ev.iload_n dX10_smooth_62 rfl rfl ?_
  refine Ev.aload_n dX10_smooth_63 rfl rfl ?_
  refine Ev.get (v := vR 8 0) okX10 (by decide) fl_X10_19 pz_10_0 (ff_10_1 _ _) dX10_smooth_64 ?_
  refine Ev.iload_n dX10_smooth_67 rfl rfl ?_
  exact Ev.callV (as := [vI x3]) (rest := [vI x2]) okX8_sample in_X8_sample ml_X10_163 rfl (Nat.le_of_ble_eq_true rfl) pz_8_0 (by decide) rfl rfl dX10_smooth_68 hC (fun r S' h => by obtain ⟨v, rfl, h⟩ := h; exact kk v S' h)
theorem bkX10_smooth_71 {d : Nat} {S : hs_T} {Q : Option av_T → hs_T → Prop} {P : Int32 → hs_T → Prop} {x1 x2 x3 y0 y1 : Int32} (hC : Ci d mX8_sample [vR 8 1, vI x3] S P) (kk : ∀ v S', P v S' → Ev (d + 1) mX10_smooth 79 [some (vR 10 0), some (vI x1), some (vI x2), some (vI x3)] [vI v, vI y0, vI y1] S' Q) : Ev (d + 1) mX10_smooth 71 [some (vR 10 0), some (vI x1), some (vI x2), some (vI x3)] [vI y0, vI y1] S Q := by
  refine Ev.aload_n dX10_smooth_71 rfl rfl ?_
  refine Ev.get (v := vR 8 1) okX10 (by decide) fl_X10_23 pz_10_0 (ff_10_2 _ _) dX10_smooth_72 ?_
  refine Ev.iload_n dX10_smooth_75 rfl rfl ?_
  exact Ev.callV (as := [vI x3]) (rest := [vI y0, vI y1]) okX8_sample in_X8_sample ml_X10_163 rfl (Nat.le_of_ble_eq_true rfl) pz_8_1 (by decide) rfl rfl dX10_smooth_76 hC (fun r S' h => by obtain ⟨v, rfl, h⟩ := h; exact kk v S' h)
theorem bkX10_smooth_79 {d : Nat} {S : hs_T} {Q : Option av_T → hs_T → Prop} {x1 x2 x3 y0 y1 y2 : Int32} (kt : y1 = y0 → Ev d mX10_smooth 86 [some (vR 10 0), some (vI x1), some (vI x2), some (vI x3)] [vI y2] S Q) (kf : ¬ y1 = y0 → Ev d mX10_smooth 82 [some (vR 10 0), some (vI x1), some (vI x2), some (vI x3)] [vI y2] S Q) : Ev d mX10_smooth 79 [some (vR 10 0), some (vI x1), some (vI x2), some (vI x3)] [vI y0, vI y1, vI y2] S Q := by
  exact Ev.icmp_eq (tgt := 86) dX10_smooth_79 (by decide) kt kf
theorem bkX10_smooth_82 {d : Nat} {S : hs_T} {Q : Option av_T → hs_T → Prop} {x1 x2 x3 y0 : Int32} (kn : Ev d mX10_smooth 87 [some (vR 10 0), some (vI x1), some (vI x2), some (vI x3)] [vI 1, vI y0] S Q) : Ev d mX10_smooth 82 [some (vR 10 0), some (vI x1), some (vI x2), some (vI x3)] [vI y0] S Q := by
  refine Ev.iconst (v := 1) dX10_smooth_82 (by decide) ?_
  refine Ev.goto (tgt := 87) dX10_smooth_83 (by decide) ?_
  exact kn
theorem bkX10_smooth_86 {d : Nat} {S : hs_T} {Q : Option av_T → hs_T → Prop} {x1 x2 x3 y0 : Int32} (kn : Ev d mX10_smooth 87 [some (vR 10 0), some (vI x1), some (vI x2), some (vI x3)] [vI 0, vI y0] S Q) : Ev d mX10_smooth 86 [some (vR 10 0), some (vI x1), some (vI x2), some (vI x3)] [vI y0] S Q := by
  refine Ev.iconst (v := 0) dX10_smooth_86 (by decide) ?_
  exact kn
theorem bkX10_smooth_87 {d : Nat} {S : hs_T} {Q : Option av_T → hs_T → Prop} {x1 x2 x3 y0 y1 : Int32} (kn : Ev d mX10_smooth 51 [some (vR 10 0), some (vI x1), some (vI (y1 + y0)), some (vI (x3 + 1))] [] S Q) : Ev d mX10_smooth 87 [some (vR 10 0), some (vI x1), some (vI x2), some (vI x3)] [vI y0, vI y1] S Q := by
  refine Ev.iadd dX10_smooth_87 ?_
  refine Ev.istore_n (ls' := [some (vR 10 0), some (vI x1), some (vI (y1 + y0)), some (vI x3)]) dX10_smooth_88 rfl (by decide) rfl ?_
  refine Ev.iinc (v := (x3 + 1)) (ls' := [some (vR 10 0), some (vI x1), some (vI (y1 + y0)), some (vI (x3 + 1))]) dX10_smooth_89 rfl rfl (by decide) rfl ?_
  refine Ev.goto (tgt := 51) dX10_smooth_92 (by decide) ?_
  exact kn
theorem bkX10_smooth_95 {d : Nat} {S : hs_T} {Q : Option av_T → hs_T → Prop} {x1 x2 x3 : Int32} (hq : Q (some (vI x2)) S) : Ev d mX10_smooth 95 [some (vR 10 0), some (vI x1), some (vI x2), some (vI x3)] [] S Q := by
  refine Ev.iload_n dX10_smooth_95 rfl rfl ?_
  exact Ev.iret dX10_smooth_96 rfl rfl hq
/-! EightWires.setup(III)I -/
theorem bkX10_setup_0 {d : Nat} {S : hs_T} {Q : Option av_T → hs_T → Prop} {P : Int32 → hs_T → Prop} {x1 x2 x3 : Int32} (hC : Ci d mX10_isWire [vI x1] S P) (kk : ∀ v S', P v S' → Ev (d + 1) mX10_setup 4 [some (vR 10 0), some (vI x1), some (vI x2), some (vI x3)] [vI v] S' Q) : Ev (d + 1) mX10_setup 0 [some (vR 10 0), some (vI x1), some (vI x2), some (vI x3)] [] S Q := by
  refine Ev.iload_n dX10_setup_0 rfl rfl ?_
  exact Ev.callS (as := [vI x1]) (rest := []) okX10_isWire stX10_isWire ml_X10_197 rfl (Nat.le_of_ble_eq_true rfl) rfl dX10_setup_1 hC (fun r S' h => by obtain ⟨v, rfl, h⟩ := h; exact kk v S' h)
theorem bkX10_setup_4 {d : Nat} {S : hs_T} {Q : Option av_T → hs_T → Prop} {x1 x2 x3 y0 : Int32} (kt : y0 = 0 → Ev d mX10_setup 23 [some (vR 10 0), some (vI x1), some (vI x2), some (vI x3)] [] S Q) (kf : ¬ y0 = 0 → Ev d mX10_setup 7 [some (vR 10 0), some (vI x1), some (vI x2), some (vI x3)] [] S Q) : Ev d mX10_setup 4 [some (vR 10 0), some (vI x1), some (vI x2), some (vI x3)] [vI y0] S Q := by
  exact Ev.if_eq (tgt := 23) dX10_setup_4 (by decide) kt kf
theorem bkX10_setup_7 {d : Nat} {S : hs_T} {Q : Option av_T → hs_T → Prop} {P : Int32 → hs_T → Prop} {x1 x2 x3 : Int32} (hC : Ci d mX10_isWire [vI x2] S P) (kk : ∀ v S', P v S' → Ev (d + 1) mX10_setup 11 [some (vR 10 0), some (vI x1), some (vI x2), some (vI x3)] [vI v] S' Q) : Ev (d + 1) mX10_setup 7 [some (vR 10 0), some (vI x1), some (vI x2), some (vI x3)] [] S Q := by
  refine Ev.iload_n dX10_setup_7 rfl rfl ?_
  exact Ev.callS (as := [vI x2]) (rest := []) okX10_isWire stX10_isWire ml_X10_197 rfl (Nat.le_of_ble_eq_true rfl) rfl dX10_setup_8 hC (fun r S' h => by obtain ⟨v, rfl, h⟩ := h; exact kk v S' h)
theorem bkX10_setup_11 {d : Nat} {S : hs_T} {Q : Option av_T → hs_T → Prop} {x1 x2 x3 y0 : Int32} (kt : y0 = 0 → Ev d mX10_setup 23 [some (vR 10 0), some (vI x1), some (vI x2), some (vI x3)] [] S Q) (kf : ¬ y0 = 0 → Ev d mX10_setup 14 [some (vR 10 0), some (vI x1), some (vI x2), some (vI x3)] [] S Q) : Ev d mX10_setup 11 [some (vR 10 0), some (vI x1), some (vI x2), some (vI x3)] [vI y0] S Q := by
  exact Ev.if_eq (tgt := 23) dX10_setup_11 (by decide) kt kf
theorem bkX10_setup_14 {d : Nat} {S : hs_T} {Q : Option av_T → hs_T → Prop} {P : Int32 → hs_T → Prop} {x1 x2 x3 : Int32} (hC : Ci d mX10_within [vI x3, vI 0, vI 3] S P) (kk : ∀ v S', P v S' → Ev (d + 1) mX10_setup 20 [some (vR 10 0), some (vI x1), some (vI x2), some (vI x3)] [vI v] S' Q) : Ev (d + 1) mX10_setup 14 [some (vR 10 0), some (vI x1), some (vI x2), some (vI x3)] [] S Q := by
  refine Ev.iload_n dX10_setup_14 rfl rfl ?_
  refine Ev.iconst (v := 0) dX10_setup_15 (by decide) ?_
  refine Ev.iconst (v := 3) dX10_setup_16 (by decide) ?_
  exact Ev.callS (as := [vI x3, vI 0, vI 3]) (rest := []) okX10_within stX10_within ml_X10_93 rfl (Nat.le_of_ble_eq_true rfl) rfl dX10_setup_17 hC (fun r S' h => by obtain ⟨v, rfl, h⟩ := h; exact kk v S' h)
theorem bkX10_setup_20 {d : Nat} {S : hs_T} {Q : Option av_T → hs_T → Prop} {x1 x2 x3 y0 : Int32} (kt : ¬ y0 = 0 → Ev d mX10_setup 25 [some (vR 10 0), some (vI x1), some (vI x2), some (vI x3)] [] S Q) (kf : y0 = 0 → Ev d mX10_setup 23 [some (vR 10 0), some (vI x1), some (vI x2), some (vI x3)] [] S Q) : Ev d mX10_setup 20 [some (vR 10 0), some (vI x1), some (vI x2), some (vI x3)] [vI y0] S Q := by
  exact Ev.if_ne (tgt := 25) dX10_setup_20 (by decide) kt kf
theorem bkX10_setup_23 {d : Nat} {S : hs_T} {Q : Option av_T → hs_T → Prop} {x1 x2 x3 : Int32} (hq : Q (some (vI (-1))) S) : Ev d mX10_setup 23 [some (vR 10 0), some (vI x1), some (vI x2), some (vI x3)] [] S Q := by
  refine Ev.iconst (v := (-1)) dX10_setup_23 (by decide) ?_
  exact Ev.iret dX10_setup_24 rfl rfl hq
theorem bkX10_setup_25 {d : Nat} {S : hs_T} {Q : Option av_T → hs_T → Prop} {P : hs_T → Prop} {x1 x2 x3 : Int32} (hC : Cv d mX2_measure [vR 2 0, vR 8 0, vI x1, vI x2, vI 0, vI 0] S P) (kk : ∀ S', P S' → Ev (d + 1) mX10_setup 40 [some (vR 10 0), some (vI x1), some (vI x2), some (vI x3)] [] S' Q) : Ev (d + 1) mX10_setup 25 [some (vR 10 0), some (vI x1), some (vI x2), some (vI x3)] [] S Q := by
  refine Ev.aload_n dX10_setup_25 rfl rfl ?_
  refine Ev.get (v := vR 2 0) okX10 (by decide) fl_X10_54 pz_10_0 (ff_10_7 _ _) dX10_setup_26 ?_
  refine Ev.aload_n dX10_setup_29 rfl rfl ?_
  refine Ev.get (v := vR 8 0) okX10 (by decide) fl_X10_19 pz_10_0 (ff_10_1 _ _) dX10_setup_30 ?_
  refine Ev.iload_n dX10_setup_33 rfl rfl ?_
  refine Ev.iload_n dX10_setup_34 rfl rfl ?_
  refine Ev.iconst (v := 0) dX10_setup_35 (by decide) ?_
  refine Ev.iconst (v := 0) dX10_setup_36 (by decide) ?_
  exact Ev.callV (as := [vR 8 0, vI x1, vI x2, vI 0, vI 0]) (rest := []) okX2_measure in_X2_measure ml_X10_246 rfl (Nat.le_of_ble_eq_true rfl) pz_2_0 (by decide) rfl rfl dX10_setup_37 hC (fun r S' h => by obtain ⟨rfl, h⟩ := h; exact kk S' h)
theorem bkX10_setup_40 {d : Nat} {S : hs_T} {Q : Option av_T → hs_T → Prop} {x1 x2 x3 : Int32} (k0 : x3 = 0 → Ev d mX10_setup 68 [some (vR 10 0), some (vI x1), some (vI x2), some (vI x3)] [] S Q) (k1 : x3 = 1 → Ev d mX10_setup 76 [some (vR 10 0), some (vI x1), some (vI x2), some (vI x3)] [] S Q) (k2 : x3 = 2 → Ev d mX10_setup 84 [some (vR 10 0), some (vI x1), some (vI x2), some (vI x3)] [] S Q) (kd : ¬ x3 = 0 → ¬ x3 = 1 → ¬ x3 = 2 → Ev d mX10_setup 92 [some (vR 10 0), some (vI x1), some (vI x2), some (vI x3)] [] S Q) : Ev d mX10_setup 40 [some (vR 10 0), some (vI x1), some (vI x2), some (vI x3)] [] S Q := by
  refine Ev.iload_n dX10_setup_40 rfl rfl ?_
  by_cases hc0 : x3 = 0
  · exact Ev.tableIn (off := 27) (tgt := 68) dX10_setup_41 (by rw [hc0]; decide) (by rw [hc0]; decide) (by rw [hc0]; rfl) (by decide) (k0 hc0)
  by_cases hc1 : x3 = 1
  · exact Ev.tableIn (off := 35) (tgt := 76) dX10_setup_41 (by rw [hc1]; decide) (by rw [hc1]; decide) (by rw [hc1]; rfl) (by decide) (k1 hc1)
  by_cases hc2 : x3 = 2
  · exact Ev.tableIn (off := 43) (tgt := 84) dX10_setup_41 (by rw [hc2]; decide) (by rw [hc2]; decide) (by rw [hc2]; rfl) (by decide) (k2 hc2)
  refine Ev.tableOut (tgt := 92) dX10_setup_41 (tw_out (fun c h1 h2 => ?_)) (by decide) (kd hc0 hc1 hc2)
  have hcs : c = 0 ∨ c = 1 ∨ c = 2 := by omega
  rcases hcs with rfl | rfl | rfl
  · exact fun z => hc0 (Int32.toInt_inj.mp (z.trans (by decide)))
  · exact fun z => hc1 (Int32.toInt_inj.mp (z.trans (by decide)))
  · exact fun z => hc2 (Int32.toInt_inj.mp (z.trans (by decide)))
theorem bkX10_setup_68 {d : Nat} {S : hs_T} {Q : Option av_T → hs_T → Prop} {x1 x2 x3 : Int32} (hq : Q (some (vI (S.1 2 0 0))) S) : Ev d mX10_setup 68 [some (vR 10 0), some (vI x1), some (vI x2), some (vI x3)] [] S Q := by
  refine Ev.aload_n dX10_setup_68 rfl rfl ?_
  refine Ev.get (v := vR 2 0) okX10 (by decide) fl_X10_54 pz_10_0 (ff_10_7 _ _) dX10_setup_69 ?_
  refine Ev.get (v := vI (S.1 2 0 0)) okX2 (by decide) fl_X10_249 pz_2_0 (ff_2_0 _ _) dX10_setup_72 ?_
  exact Ev.iret dX10_setup_75 rfl rfl hq
theorem bkX10_setup_76 {d : Nat} {S : hs_T} {Q : Option av_T → hs_T → Prop} {x1 x2 x3 : Int32} (hq : Q (some (vI (S.1 2 0 1))) S) : Ev d mX10_setup 76 [some (vR 10 0), some (vI x1), some (vI x2), some (vI x3)] [] S Q := by
  refine Ev.aload_n dX10_setup_76 rfl rfl ?_
  refine Ev.get (v := vR 2 0) okX10 (by decide) fl_X10_54 pz_10_0 (ff_10_7 _ _) dX10_setup_77 ?_
  refine Ev.get (v := vI (S.1 2 0 1)) okX2 (by decide) fl_X10_252 pz_2_0 (ff_2_1 _ _) dX10_setup_80 ?_
  exact Ev.iret dX10_setup_83 rfl rfl hq
theorem bkX10_setup_84 {d : Nat} {S : hs_T} {Q : Option av_T → hs_T → Prop} {x1 x2 x3 : Int32} (hq : Q (some (vI (S.1 2 0 2))) S) : Ev d mX10_setup 84 [some (vR 10 0), some (vI x1), some (vI x2), some (vI x3)] [] S Q := by
  refine Ev.aload_n dX10_setup_84 rfl rfl ?_
  refine Ev.get (v := vR 2 0) okX10 (by decide) fl_X10_54 pz_10_0 (ff_10_7 _ _) dX10_setup_85 ?_
  refine Ev.get (v := vI (S.1 2 0 2)) okX2 (by decide) fl_X10_255 pz_2_0 (ff_2_2 _ _) dX10_setup_88 ?_
  exact Ev.iret dX10_setup_91 rfl rfl hq
theorem bkX10_setup_92 {d : Nat} {S : hs_T} {Q : Option av_T → hs_T → Prop} {x1 x2 x3 : Int32} (hq : Q (some (vI (S.1 2 0 3))) S) : Ev d mX10_setup 92 [some (vR 10 0), some (vI x1), some (vI x2), some (vI x3)] [] S Q := by
  refine Ev.aload_n dX10_setup_92 rfl rfl ?_
  refine Ev.get (v := vR 2 0) okX10 (by decide) fl_X10_54 pz_10_0 (ff_10_7 _ _) dX10_setup_93 ?_
  refine Ev.get (v := vI (S.1 2 0 3)) okX2 (by decide) fl_X10_258 pz_2_0 (ff_2_3 _ _) dX10_setup_96 ?_
  exact Ev.iret dX10_setup_99 rfl rfl hq
/-! EightWires.tight(IIII)I -/
theorem bkX10_tight_0 {d : Nat} {S : hs_T} {Q : Option av_T → hs_T → Prop} {P : Int32 → hs_T → Prop} {x1 x2 x3 x4 : Int32} (hC : Ci d mX10_isWire [vI x1] S P) (kk : ∀ v S', P v S' → Ev (d + 1) mX10_tight 4 [some (vR 10 0), some (vI x1), some (vI x2), some (vI x3), some (vI x4)] [vI v] S' Q) : Ev (d + 1) mX10_tight 0 [some (vR 10 0), some (vI x1), some (vI x2), some (vI x3), some (vI x4)] [] S Q := by
  refine Ev.iload_n dX10_tight_0 rfl rfl ?_
  exact Ev.callS (as := [vI x1]) (rest := []) okX10_isWire stX10_isWire ml_X10_197 rfl (Nat.le_of_ble_eq_true rfl) rfl dX10_tight_1 hC (fun r S' h => by obtain ⟨v, rfl, h⟩ := h; exact kk v S' h)
theorem bkX10_tight_4 {d : Nat} {S : hs_T} {Q : Option av_T → hs_T → Prop} {x1 x2 x3 x4 y0 : Int32} (kt : y0 = 0 → Ev d mX10_tight 37 [some (vR 10 0), some (vI x1), some (vI x2), some (vI x3), some (vI x4)] [] S Q) (kf : ¬ y0 = 0 → Ev d mX10_tight 7 [some (vR 10 0), some (vI x1), some (vI x2), some (vI x3), some (vI x4)] [] S Q) : Ev d mX10_tight 4 [some (vR 10 0), some (vI x1), some (vI x2), some (vI x3), some (vI x4)] [vI y0] S Q := by
  exact Ev.if_eq (tgt := 37) dX10_tight_4 (by decide) kt kf
theorem bkX10_tight_7 {d : Nat} {S : hs_T} {Q : Option av_T → hs_T → Prop} {P : Int32 → hs_T → Prop} {x1 x2 x3 x4 : Int32} (hC : Ci d mX10_isWire [vI x2] S P) (kk : ∀ v S', P v S' → Ev (d + 1) mX10_tight 11 [some (vR 10 0), some (vI x1), some (vI x2), some (vI x3), some (vI x4)] [vI v] S' Q) : Ev (d + 1) mX10_tight 7 [some (vR 10 0), some (vI x1), some (vI x2), some (vI x3), some (vI x4)] [] S Q := by
  refine Ev.iload_n dX10_tight_7 rfl rfl ?_
  exact Ev.callS (as := [vI x2]) (rest := []) okX10_isWire stX10_isWire ml_X10_197 rfl (Nat.le_of_ble_eq_true rfl) rfl dX10_tight_8 hC (fun r S' h => by obtain ⟨v, rfl, h⟩ := h; exact kk v S' h)
theorem bkX10_tight_11 {d : Nat} {S : hs_T} {Q : Option av_T → hs_T → Prop} {x1 x2 x3 x4 y0 : Int32} (kt : y0 = 0 → Ev d mX10_tight 37 [some (vR 10 0), some (vI x1), some (vI x2), some (vI x3), some (vI x4)] [] S Q) (kf : ¬ y0 = 0 → Ev d mX10_tight 14 [some (vR 10 0), some (vI x1), some (vI x2), some (vI x3), some (vI x4)] [] S Q) : Ev d mX10_tight 11 [some (vR 10 0), some (vI x1), some (vI x2), some (vI x3), some (vI x4)] [vI y0] S Q := by
  exact Ev.if_eq (tgt := 37) dX10_tight_11 (by decide) kt kf
theorem bkX10_tight_14 {d : Nat} {S : hs_T} {Q : Option av_T → hs_T → Prop} {P : Int32 → hs_T → Prop} {x1 x2 x3 x4 : Int32} (hC : Ci d mX10_within [vI x3, vI 0, vI 400] S P) (kk : ∀ v S', P v S' → Ev (d + 1) mX10_tight 22 [some (vR 10 0), some (vI x1), some (vI x2), some (vI x3), some (vI x4)] [vI v] S' Q) : Ev (d + 1) mX10_tight 14 [some (vR 10 0), some (vI x1), some (vI x2), some (vI x3), some (vI x4)] [] S Q := by
  refine Ev.iload_n dX10_tight_14 rfl rfl ?_
  refine Ev.iconst (v := 0) dX10_tight_15 (by decide) ?_
  refine Ev.sipush (v := 400) dX10_tight_16 (by decide) ?_
  exact Ev.callS (as := [vI x3, vI 0, vI 400]) (rest := []) okX10_within stX10_within ml_X10_93 rfl (Nat.le_of_ble_eq_true rfl) rfl dX10_tight_19 hC (fun r S' h => by obtain ⟨v, rfl, h⟩ := h; exact kk v S' h)
theorem bkX10_tight_22 {d : Nat} {S : hs_T} {Q : Option av_T → hs_T → Prop} {x1 x2 x3 x4 y0 : Int32} (kt : y0 = 0 → Ev d mX10_tight 37 [some (vR 10 0), some (vI x1), some (vI x2), some (vI x3), some (vI x4)] [] S Q) (kf : ¬ y0 = 0 → Ev d mX10_tight 25 [some (vR 10 0), some (vI x1), some (vI x2), some (vI x3), some (vI x4)] [] S Q) : Ev d mX10_tight 22 [some (vR 10 0), some (vI x1), some (vI x2), some (vI x3), some (vI x4)] [vI y0] S Q := by
  exact Ev.if_eq (tgt := 37) dX10_tight_22 (by decide) kt kf
theorem bkX10_tight_25 {d : Nat} {S : hs_T} {Q : Option av_T → hs_T → Prop} {P : Int32 → hs_T → Prop} {x1 x2 x3 x4 : Int32} (hC : Ci d mX10_within [vI x4, vI 0, vI 400] S P) (kk : ∀ v S', P v S' → Ev (d + 1) mX10_tight 34 [some (vR 10 0), some (vI x1), some (vI x2), some (vI x3), some (vI x4)] [vI v] S' Q) : Ev (d + 1) mX10_tight 25 [some (vR 10 0), some (vI x1), some (vI x2), some (vI x3), some (vI x4)] [] S Q := by
  refine Ev.iload dX10_tight_25 rfl ?_
  refine Ev.iconst (v := 0) dX10_tight_27 (by decide) ?_
  refine Ev.sipush (v := 400) dX10_tight_28 (by decide) ?_
  exact Ev.callS (as := [vI x4, vI 0, vI 400]) (rest := []) okX10_within stX10_within ml_X10_93 rfl (Nat.le_of_ble_eq_true rfl) rfl dX10_tight_31 hC (fun r S' h => by obtain ⟨v, rfl, h⟩ := h; exact kk v S' h)
theorem bkX10_tight_34 {d : Nat} {S : hs_T} {Q : Option av_T → hs_T → Prop} {x1 x2 x3 x4 y0 : Int32} (kt : ¬ y0 = 0 → Ev d mX10_tight 39 [some (vR 10 0), some (vI x1), some (vI x2), some (vI x3), some (vI x4)] [] S Q) (kf : y0 = 0 → Ev d mX10_tight 37 [some (vR 10 0), some (vI x1), some (vI x2), some (vI x3), some (vI x4)] [] S Q) : Ev d mX10_tight 34 [some (vR 10 0), some (vI x1), some (vI x2), some (vI x3), some (vI x4)] [vI y0] S Q := by
  exact Ev.if_ne (tgt := 39) dX10_tight_34 (by decide) kt kf
theorem bkX10_tight_37 {d : Nat} {S : hs_T} {Q : Option av_T → hs_T → Prop} {x1 x2 x3 x4 : Int32} (hq : Q (some (vI (-1))) S) : Ev d mX10_tight 37 [some (vR 10 0), some (vI x1), some (vI x2), some (vI x3), some (vI x4)] [] S Q := by
  refine Ev.iconst (v := (-1)) dX10_tight_37 (by decide) ?_
  exact Ev.iret dX10_tight_38 rfl rfl hq
theorem bkX10_tight_39 {d : Nat} {S : hs_T} {Q : Option av_T → hs_T → Prop} {P : hs_T → Prop} {x1 x2 x3 x4 : Int32} (hC : Cv d mX2_measure [vR 2 0, vR 8 0, vI x1, vI x2, vI x3, vI x4] S P) (kk : ∀ S', P S' → Ev (d + 1) mX10_tight 55 [some (vR 10 0), some (vI x1), some (vI x2), some (vI x3), some (vI x4)] [] S' Q) : Ev (d + 1) mX10_tight 39 [some (vR 10 0), some (vI x1), some (vI x2), some (vI x3), some (vI x4)] [] S Q := by
  refine Ev.aload_n dX10_tight_39 rfl rfl ?_
  refine Ev.get (v := vR 2 0) okX10 (by decide) fl_X10_54 pz_10_0 (ff_10_7 _ _) dX10_tight_40 ?_
  refine Ev.aload_n dX10_tight_43 rfl rfl ?_
  refine Ev.get (v := vR 8 0) okX10 (by decide) fl_X10_19 pz_10_0 (ff_10_1 _ _) dX10_tight_44 ?_
  refine Ev.iload_n dX10_tight_47 rfl rfl ?_
  refine Ev.iload_n dX10_tight_48 rfl rfl ?_
  refine Ev.iload_n dX10_tight_49 rfl rfl ?_
  refine Ev.iload dX10_tight_50 rfl ?_
  exact Ev.callV (as := [vR 8 0, vI x1, vI x2, vI x3, vI x4]) (rest := []) okX2_measure in_X2_measure ml_X10_246 rfl (Nat.le_of_ble_eq_true rfl) pz_2_0 (by decide) rfl rfl dX10_tight_52 hC (fun r S' h => by obtain ⟨rfl, h⟩ := h; exact kk S' h)
theorem bkX10_tight_55 {d : Nat} {S : hs_T} {Q : Option av_T → hs_T → Prop} {x1 x2 x3 x4 : Int32} (hq : Q (some (vI (S.1 2 0 4))) S) : Ev d mX10_tight 55 [some (vR 10 0), some (vI x1), some (vI x2), some (vI x3), some (vI x4)] [] S Q := by
  refine Ev.aload_n dX10_tight_55 rfl rfl ?_
  refine Ev.get (v := vR 2 0) okX10 (by decide) fl_X10_54 pz_10_0 (ff_10_7 _ _) dX10_tight_56 ?_
  refine Ev.get (v := vI (S.1 2 0 4)) okX2 (by decide) fl_X10_261 pz_2_0 (ff_2_4 _ _) dX10_tight_59 ?_
  exact Ev.iret dX10_tight_62 rfl rfl hq
/-! EightWires.bits(IIII)I -/
theorem bkX10_bits_0 {d : Nat} {S : hs_T} {Q : Option av_T → hs_T → Prop} {P : Int32 → hs_T → Prop} {x1 x2 x3 x4 : Int32} (hC : Ci d mX10_isWire [vI x1] S P) (kk : ∀ v S', P v S' → Ev (d + 1) mX10_bits 4 [some (vR 10 0), some (vI x1), some (vI x2), some (vI x3), some (vI x4)] [vI v] S' Q) : Ev (d + 1) mX10_bits 0 [some (vR 10 0), some (vI x1), some (vI x2), some (vI x3), some (vI x4)] [] S Q := by
  refine Ev.iload_n dX10_bits_0 rfl rfl ?_
  exact Ev.callS (as := [vI x1]) (rest := []) okX10_isWire stX10_isWire ml_X10_197 rfl (Nat.le_of_ble_eq_true rfl) rfl dX10_bits_1 hC (fun r S' h => by obtain ⟨v, rfl, h⟩ := h; exact kk v S' h)
theorem bkX10_bits_4 {d : Nat} {S : hs_T} {Q : Option av_T → hs_T → Prop} {x1 x2 x3 x4 y0 : Int32} (kt : y0 = 0 → Ev d mX10_bits 21 [some (vR 10 0), some (vI x1), some (vI x2), some (vI x3), some (vI x4)] [] S Q) (kf : ¬ y0 = 0 → Ev d mX10_bits 7 [some (vR 10 0), some (vI x1), some (vI x2), some (vI x3), some (vI x4)] [] S Q) : Ev d mX10_bits 4 [some (vR 10 0), some (vI x1), some (vI x2), some (vI x3), some (vI x4)] [vI y0] S Q := by
  exact Ev.if_eq (tgt := 21) dX10_bits_4 (by decide) kt kf
theorem bkX10_bits_7 {d : Nat} {S : hs_T} {Q : Option av_T → hs_T → Prop} {P : Int32 → hs_T → Prop} {x1 x2 x3 x4 : Int32} (hC : Ci d mX10_isWire [vI x2] S P) (kk : ∀ v S', P v S' → Ev (d + 1) mX10_bits 11 [some (vR 10 0), some (vI x1), some (vI x2), some (vI x3), some (vI x4)] [vI v] S' Q) : Ev (d + 1) mX10_bits 7 [some (vR 10 0), some (vI x1), some (vI x2), some (vI x3), some (vI x4)] [] S Q := by
  refine Ev.iload_n dX10_bits_7 rfl rfl ?_
  exact Ev.callS (as := [vI x2]) (rest := []) okX10_isWire stX10_isWire ml_X10_197 rfl (Nat.le_of_ble_eq_true rfl) rfl dX10_bits_8 hC (fun r S' h => by obtain ⟨v, rfl, h⟩ := h; exact kk v S' h)
theorem bkX10_bits_11 {d : Nat} {S : hs_T} {Q : Option av_T → hs_T → Prop} {x1 x2 x3 x4 y0 : Int32} (kt : y0 = 0 → Ev d mX10_bits 21 [some (vR 10 0), some (vI x1), some (vI x2), some (vI x3), some (vI x4)] [] S Q) (kf : ¬ y0 = 0 → Ev d mX10_bits 14 [some (vR 10 0), some (vI x1), some (vI x2), some (vI x3), some (vI x4)] [] S Q) : Ev d mX10_bits 11 [some (vR 10 0), some (vI x1), some (vI x2), some (vI x3), some (vI x4)] [vI y0] S Q := by
  exact Ev.if_eq (tgt := 21) dX10_bits_11 (by decide) kt kf
theorem bkX10_bits_14 {d : Nat} {S : hs_T} {Q : Option av_T → hs_T → Prop} {P : Int32 → hs_T → Prop} {x1 x2 x3 x4 : Int32} (hC : Ci d mX10_isWire [vI x3] S P) (kk : ∀ v S', P v S' → Ev (d + 1) mX10_bits 18 [some (vR 10 0), some (vI x1), some (vI x2), some (vI x3), some (vI x4)] [vI v] S' Q) : Ev (d + 1) mX10_bits 14 [some (vR 10 0), some (vI x1), some (vI x2), some (vI x3), some (vI x4)] [] S Q := by
  refine Ev.iload_n dX10_bits_14 rfl rfl ?_
  exact Ev.callS (as := [vI x3]) (rest := []) okX10_isWire stX10_isWire ml_X10_197 rfl (Nat.le_of_ble_eq_true rfl) rfl dX10_bits_15 hC (fun r S' h => by obtain ⟨v, rfl, h⟩ := h; exact kk v S' h)
theorem bkX10_bits_18 {d : Nat} {S : hs_T} {Q : Option av_T → hs_T → Prop} {x1 x2 x3 x4 y0 : Int32} (kt : ¬ y0 = 0 → Ev d mX10_bits 23 [some (vR 10 0), some (vI x1), some (vI x2), some (vI x3), some (vI x4)] [] S Q) (kf : y0 = 0 → Ev d mX10_bits 21 [some (vR 10 0), some (vI x1), some (vI x2), some (vI x3), some (vI x4)] [] S Q) : Ev d mX10_bits 18 [some (vR 10 0), some (vI x1), some (vI x2), some (vI x3), some (vI x4)] [vI y0] S Q := by
  exact Ev.if_ne (tgt := 23) dX10_bits_18 (by decide) kt kf
theorem bkX10_bits_21 {d : Nat} {S : hs_T} {Q : Option av_T → hs_T → Prop} {x1 x2 x3 x4 : Int32} (hq : Q (some (vI (-1))) S) : Ev d mX10_bits 21 [some (vR 10 0), some (vI x1), some (vI x2), some (vI x3), some (vI x4)] [] S Q := by
  refine Ev.iconst (v := (-1)) dX10_bits_21 (by decide) ?_
  exact Ev.iret dX10_bits_22 rfl rfl hq
theorem bkX10_bits_23 {d : Nat} {S : hs_T} {Q : Option av_T → hs_T → Prop} {P : hs_T → Prop} {x1 x2 x3 x4 : Int32} (hC : Cv d mX0_gather [vR 0 0, vR 8 0, vI x1, vI x2, vI x3] S P) (kk : ∀ S', P S' → Ev (d + 1) mX10_bits 37 [some (vR 10 0), some (vI x1), some (vI x2), some (vI x3), some (vI x4)] [] S' Q) : Ev (d + 1) mX10_bits 23 [some (vR 10 0), some (vI x1), some (vI x2), some (vI x3), some (vI x4)] [] S Q := by
  refine Ev.aload_n dX10_bits_23 rfl rfl ?_
  refine Ev.get (v := vR 0 0) okX10 (by decide) fl_X10_61 pz_10_0 (ff_10_8 _ _) dX10_bits_24 ?_
  refine Ev.aload_n dX10_bits_27 rfl rfl ?_
  refine Ev.get (v := vR 8 0) okX10 (by decide) fl_X10_19 pz_10_0 (ff_10_1 _ _) dX10_bits_28 ?_
  refine Ev.iload_n dX10_bits_31 rfl rfl ?_
  refine Ev.iload_n dX10_bits_32 rfl rfl ?_
  refine Ev.iload_n dX10_bits_33 rfl rfl ?_
  exact Ev.callV (as := [vR 8 0, vI x1, vI x2, vI x3]) (rest := []) okX0_gather in_X0_gather ml_X10_264 rfl (Nat.le_of_ble_eq_true rfl) pz_0_0 (by decide) rfl rfl dX10_bits_34 hC (fun r S' h => by obtain ⟨rfl, h⟩ := h; exact kk S' h)
theorem bkX10_bits_37 {d : Nat} {S : hs_T} {Q : Option av_T → hs_T → Prop} {x1 x2 x3 x4 : Int32} (k0 : x4 = 0 → Ev d mX10_bits 64 [some (vR 10 0), some (vI x1), some (vI x2), some (vI x3), some (vI x4)] [] S Q) (k1 : x4 = 1 → Ev d mX10_bits 72 [some (vR 10 0), some (vI x1), some (vI x2), some (vI x3), some (vI x4)] [] S Q) (k2 : x4 = 2 → Ev d mX10_bits 80 [some (vR 10 0), some (vI x1), some (vI x2), some (vI x3), some (vI x4)] [] S Q) (kd : ¬ x4 = 0 → ¬ x4 = 1 → ¬ x4 = 2 → Ev d mX10_bits 88 [some (vR 10 0), some (vI x1), some (vI x2), some (vI x3), some (vI x4)] [] S Q) : Ev d mX10_bits 37 [some (vR 10 0), some (vI x1), some (vI x2), some (vI x3), some (vI x4)] [] S Q := by
  refine Ev.iload dX10_bits_37 rfl ?_
  by_cases hc0 : x4 = 0
  · exact Ev.tableIn (off := 25) (tgt := 64) dX10_bits_39 (by rw [hc0]; decide) (by rw [hc0]; decide) (by rw [hc0]; rfl) (by decide) (k0 hc0)
  by_cases hc1 : x4 = 1
  · exact Ev.tableIn (off := 33) (tgt := 72) dX10_bits_39 (by rw [hc1]; decide) (by rw [hc1]; decide) (by rw [hc1]; rfl) (by decide) (k1 hc1)
  by_cases hc2 : x4 = 2
  · exact Ev.tableIn (off := 41) (tgt := 80) dX10_bits_39 (by rw [hc2]; decide) (by rw [hc2]; decide) (by rw [hc2]; rfl) (by decide) (k2 hc2)
  refine Ev.tableOut (tgt := 88) dX10_bits_39 (tw_out (fun c h1 h2 => ?_)) (by decide) (kd hc0 hc1 hc2)
  have hcs : c = 0 ∨ c = 1 ∨ c = 2 := by omega
  rcases hcs with rfl | rfl | rfl
  · exact fun z => hc0 (Int32.toInt_inj.mp (z.trans (by decide)))
  · exact fun z => hc1 (Int32.toInt_inj.mp (z.trans (by decide)))
  · exact fun z => hc2 (Int32.toInt_inj.mp (z.trans (by decide)))
theorem bkX10_bits_64 {d : Nat} {S : hs_T} {Q : Option av_T → hs_T → Prop} {x1 x2 x3 x4 : Int32} (hq : Q (some (vI (S.1 0 0 2))) S) : Ev d mX10_bits 64 [some (vR 10 0), some (vI x1), some (vI x2), some (vI x3), some (vI x4)] [] S Q := by
  refine Ev.aload_n dX10_bits_64 rfl rfl ?_
  refine Ev.get (v := vR 0 0) okX10 (by decide) fl_X10_61 pz_10_0 (ff_10_8 _ _) dX10_bits_65 ?_
  refine Ev.get (v := vI (S.1 0 0 2)) okX0 (by decide) fl_X10_267 pz_0_0 (ff_0_2 _ _) dX10_bits_68 ?_
  exact Ev.iret dX10_bits_71 rfl rfl hq
theorem bkX10_bits_72 {d : Nat} {S : hs_T} {Q : Option av_T → hs_T → Prop} {x1 x2 x3 x4 : Int32} (hq : Q (some (vI (S.1 0 0 4))) S) : Ev d mX10_bits 72 [some (vR 10 0), some (vI x1), some (vI x2), some (vI x3), some (vI x4)] [] S Q := by
  refine Ev.aload_n dX10_bits_72 rfl rfl ?_
  refine Ev.get (v := vR 0 0) okX10 (by decide) fl_X10_61 pz_10_0 (ff_10_8 _ _) dX10_bits_73 ?_
  refine Ev.get (v := vI (S.1 0 0 4)) okX0 (by decide) fl_X10_270 pz_0_0 (ff_0_4 _ _) dX10_bits_76 ?_
  exact Ev.iret dX10_bits_79 rfl rfl hq
theorem bkX10_bits_80 {d : Nat} {S : hs_T} {Q : Option av_T → hs_T → Prop} {x1 x2 x3 x4 : Int32} (hq : Q (some (vI (S.1 0 0 5))) S) : Ev d mX10_bits 80 [some (vR 10 0), some (vI x1), some (vI x2), some (vI x3), some (vI x4)] [] S Q := by
  refine Ev.aload_n dX10_bits_80 rfl rfl ?_
  refine Ev.get (v := vR 0 0) okX10 (by decide) fl_X10_61 pz_10_0 (ff_10_8 _ _) dX10_bits_81 ?_
  refine Ev.get (v := vI (S.1 0 0 5)) okX0 (by decide) fl_X10_273 pz_0_0 (ff_0_5 _ _) dX10_bits_84 ?_
  exact Ev.iret dX10_bits_87 rfl rfl hq
theorem bkX10_bits_88 {d : Nat} {S : hs_T} {Q : Option av_T → hs_T → Prop} {x1 x2 x3 x4 : Int32} (kt : 10 ≤ x4 → Ev d mX10_bits 99 [some (vR 10 0), some (vI x1), some (vI x2), some (vI x3), some (vI x4)] [] S Q) (kf : ¬ 10 ≤ x4 → Ev d mX10_bits 95 [some (vR 10 0), some (vI x1), some (vI x2), some (vI x3), some (vI x4)] [] S Q) : Ev d mX10_bits 88 [some (vR 10 0), some (vI x1), some (vI x2), some (vI x3), some (vI x4)] [] S Q := by
  refine Ev.iload dX10_bits_88 rfl ?_
  refine Ev.bipush (v := 10) dX10_bits_90 (by decide) ?_
  exact Ev.icmp_ge (tgt := 99) dX10_bits_92 (by decide) kt kf
theorem bkX10_bits_95 {d : Nat} {S : hs_T} {Q : Option av_T → hs_T → Prop} {x1 x2 x3 x4 : Int32} (kn : Ev d mX10_bits 111 [some (vR 10 0), some (vI x1), some (vI x2), some (vI x3), some (vI x4)] [vI (-1)] S Q) : Ev d mX10_bits 95 [some (vR 10 0), some (vI x1), some (vI x2), some (vI x3), some (vI x4)] [] S Q := by
  refine Ev.iconst (v := (-1)) dX10_bits_95 (by decide) ?_
  refine Ev.goto (tgt := 111) dX10_bits_96 (by decide) ?_
  exact kn
theorem bkX10_bits_99 {d : Nat} {S : hs_T} {Q : Option av_T → hs_T → Prop} {P : Int32 → hs_T → Prop} {x1 x2 x3 x4 : Int32} (hC : Ci d mX0_value [vR 0 0, vI (x4 - 10)] S P) (kk : ∀ v S', P v S' → Ev (d + 1) mX10_bits 111 [some (vR 10 0), some (vI x1), some (vI x2), some (vI x3), some (vI x4)] [vI v] S' Q) : Ev (d + 1) mX10_bits 99 [some (vR 10 0), some (vI x1), some (vI x2), some (vI x3), some (vI x4)] [] S Q := by
  refine Ev.aload_n dX10_bits_99 rfl rfl ?_
  refine Ev.get (v := vR 0 0) okX10 (by decide) fl_X10_61 pz_10_0 (ff_10_8 _ _) dX10_bits_100 ?_
  refine Ev.iload dX10_bits_103 rfl ?_
  refine Ev.bipush (v := 10) dX10_bits_105 (by decide) ?_
  refine Ev.isub dX10_bits_107 ?_
  exact Ev.callV (as := [vI (x4 - 10)]) (rest := []) okX0_value in_X0_value ml_X10_276 rfl (Nat.le_of_ble_eq_true rfl) pz_0_0 (by decide) rfl rfl dX10_bits_108 hC (fun r S' h => by obtain ⟨v, rfl, h⟩ := h; exact kk v S' h)
theorem bkX10_bits_111 {d : Nat} {S : hs_T} {Q : Option av_T → hs_T → Prop} {x1 x2 x3 x4 y0 : Int32} (hq : Q (some (vI y0)) S) : Ev d mX10_bits 111 [some (vR 10 0), some (vI x1), some (vI x2), some (vI x3), some (vI x4)] [vI y0] S Q := by
  exact Ev.iret dX10_bits_111 rfl rfl hq
/-! EightWires.serial(III)I -/
theorem bkX10_serial_0 {d : Nat} {S : hs_T} {Q : Option av_T → hs_T → Prop} {P : Int32 → hs_T → Prop} {x1 x2 x3 : Int32} (hC : Ci d mX10_isWire [vI x1] S P) (kk : ∀ v S', P v S' → Ev (d + 1) mX10_serial 4 [some (vR 10 0), some (vI x1), some (vI x2), some (vI x3)] [vI v] S' Q) : Ev (d + 1) mX10_serial 0 [some (vR 10 0), some (vI x1), some (vI x2), some (vI x3)] [] S Q := by
  refine Ev.iload_n dX10_serial_0 rfl rfl ?_
  exact Ev.callS (as := [vI x1]) (rest := []) okX10_isWire stX10_isWire ml_X10_197 rfl (Nat.le_of_ble_eq_true rfl) rfl dX10_serial_1 hC (fun r S' h => by obtain ⟨v, rfl, h⟩ := h; exact kk v S' h)
theorem bkX10_serial_4 {d : Nat} {S : hs_T} {Q : Option av_T → hs_T → Prop} {x1 x2 x3 y0 : Int32} (kt : y0 = 0 → Ev d mX10_serial 17 [some (vR 10 0), some (vI x1), some (vI x2), some (vI x3)] [] S Q) (kf : ¬ y0 = 0 → Ev d mX10_serial 7 [some (vR 10 0), some (vI x1), some (vI x2), some (vI x3)] [] S Q) : Ev d mX10_serial 4 [some (vR 10 0), some (vI x1), some (vI x2), some (vI x3)] [vI y0] S Q := by
  exact Ev.if_eq (tgt := 17) dX10_serial_4 (by decide) kt kf
theorem bkX10_serial_7 {d : Nat} {S : hs_T} {Q : Option av_T → hs_T → Prop} {P : Int32 → hs_T → Prop} {x1 x2 x3 : Int32} (hC : Ci d mX10_within [vI x2, vI 2, vI 50] S P) (kk : ∀ v S', P v S' → Ev (d + 1) mX10_serial 14 [some (vR 10 0), some (vI x1), some (vI x2), some (vI x3)] [vI v] S' Q) : Ev (d + 1) mX10_serial 7 [some (vR 10 0), some (vI x1), some (vI x2), some (vI x3)] [] S Q := by
  refine Ev.iload_n dX10_serial_7 rfl rfl ?_
  refine Ev.iconst (v := 2) dX10_serial_8 (by decide) ?_
  refine Ev.bipush (v := 50) dX10_serial_9 (by decide) ?_
  exact Ev.callS (as := [vI x2, vI 2, vI 50]) (rest := []) okX10_within stX10_within ml_X10_93 rfl (Nat.le_of_ble_eq_true rfl) rfl dX10_serial_11 hC (fun r S' h => by obtain ⟨v, rfl, h⟩ := h; exact kk v S' h)
theorem bkX10_serial_14 {d : Nat} {S : hs_T} {Q : Option av_T → hs_T → Prop} {x1 x2 x3 y0 : Int32} (kt : ¬ y0 = 0 → Ev d mX10_serial 19 [some (vR 10 0), some (vI x1), some (vI x2), some (vI x3)] [] S Q) (kf : y0 = 0 → Ev d mX10_serial 17 [some (vR 10 0), some (vI x1), some (vI x2), some (vI x3)] [] S Q) : Ev d mX10_serial 14 [some (vR 10 0), some (vI x1), some (vI x2), some (vI x3)] [vI y0] S Q := by
  exact Ev.if_ne (tgt := 19) dX10_serial_14 (by decide) kt kf
theorem bkX10_serial_17 {d : Nat} {S : hs_T} {Q : Option av_T → hs_T → Prop} {x1 x2 x3 : Int32} (hq : Q (some (vI (-1))) S) : Ev d mX10_serial 17 [some (vR 10 0), some (vI x1), some (vI x2), some (vI x3)] [] S Q := by
  refine Ev.iconst (v := (-1)) dX10_serial_17 (by decide) ?_
  exact Ev.iret dX10_serial_18 rfl rfl hq
theorem bkX10_serial_19 {d : Nat} {S : hs_T} {Q : Option av_T → hs_T → Prop} {P : hs_T → Prop} {x1 x2 x3 : Int32} (hC : Cv d mX0_listen [vR 0 0, vR 8 0, vI x1, vI x2] S P) (kk : ∀ S', P S' → Ev (d + 1) mX10_serial 32 [some (vR 10 0), some (vI x1), some (vI x2), some (vI x3)] [] S' Q) : Ev (d + 1) mX10_serial 19 [some (vR 10 0), some (vI x1), some (vI x2), some (vI x3)] [] S Q := by
  refine Ev.aload_n dX10_serial_19 rfl rfl ?_
  refine Ev.get (v := vR 0 0) okX10 (by decide) fl_X10_61 pz_10_0 (ff_10_8 _ _) dX10_serial_20 ?_
  refine Ev.aload_n dX10_serial_23 rfl rfl ?_
  refine Ev.get (v := vR 8 0) okX10 (by decide) fl_X10_19 pz_10_0 (ff_10_1 _ _) dX10_serial_24 ?_
  refine Ev.iload_n dX10_serial_27 rfl rfl ?_
  refine Ev.iload_n dX10_serial_28 rfl rfl ?_
  exact Ev.callV (as := [vR 8 0, vI x1, vI x2]) (rest := []) okX0_listen in_X0_listen ml_X10_279 rfl (Nat.le_of_ble_eq_true rfl) pz_0_0 (by decide) rfl rfl dX10_serial_29 hC (fun r S' h => by obtain ⟨rfl, h⟩ := h; exact kk S' h)
theorem bkX10_serial_32 {d : Nat} {S : hs_T} {Q : Option av_T → hs_T → Prop} {x1 x2 x3 : Int32} (k0 : x3 = 0 → Ev d mX10_serial 60 [some (vR 10 0), some (vI x1), some (vI x2), some (vI x3)] [] S Q) (k1 : x3 = 1 → Ev d mX10_serial 68 [some (vR 10 0), some (vI x1), some (vI x2), some (vI x3)] [] S Q) (kd : ¬ x3 = 0 → ¬ x3 = 1 → Ev d mX10_serial 76 [some (vR 10 0), some (vI x1), some (vI x2), some (vI x3)] [] S Q) : Ev d mX10_serial 32 [some (vR 10 0), some (vI x1), some (vI x2), some (vI x3)] [] S Q := by
  refine Ev.iload_n dX10_serial_32 rfl rfl ?_
  by_cases hc0 : x3 = 0
  · exact Ev.lookup (off := 27) (tgt := 60) dX10_serial_33 (by decide) (by rw [hc0]; decide) (by decide) (k0 hc0)
  by_cases hc1 : x3 = 1
  · exact Ev.lookup (off := 35) (tgt := 68) dX10_serial_33 (by decide) (by rw [hc1]; decide) (by decide) (k1 hc1)
  refine Ev.lookup (off := 43) (tgt := 76) dX10_serial_33 (by decide) ?_ (by decide) (kd hc0 hc1)
  show Op.lookupswitch.offset [(0, 27), (1, 35)] 43 x3.toInt = 43
  rw [lv_osw hc0 (by decide), lv_osw hc1 (by decide)]
  rfl
theorem bkX10_serial_60 {d : Nat} {S : hs_T} {Q : Option av_T → hs_T → Prop} {x1 x2 x3 : Int32} (hq : Q (some (vI (S.1 0 0 2))) S) : Ev d mX10_serial 60 [some (vR 10 0), some (vI x1), some (vI x2), some (vI x3)] [] S Q := by
  refine Ev.aload_n dX10_serial_60 rfl rfl ?_
  refine Ev.get (v := vR 0 0) okX10 (by decide) fl_X10_61 pz_10_0 (ff_10_8 _ _) dX10_serial_61 ?_
  refine Ev.get (v := vI (S.1 0 0 2)) okX0 (by decide) fl_X10_267 pz_0_0 (ff_0_2 _ _) dX10_serial_64 ?_
  exact Ev.iret dX10_serial_67 rfl rfl hq
theorem bkX10_serial_68 {d : Nat} {S : hs_T} {Q : Option av_T → hs_T → Prop} {x1 x2 x3 : Int32} (hq : Q (some (vI (S.1 0 0 3))) S) : Ev d mX10_serial 68 [some (vR 10 0), some (vI x1), some (vI x2), some (vI x3)] [] S Q := by
  refine Ev.aload_n dX10_serial_68 rfl rfl ?_
  refine Ev.get (v := vR 0 0) okX10 (by decide) fl_X10_61 pz_10_0 (ff_10_8 _ _) dX10_serial_69 ?_
  refine Ev.get (v := vI (S.1 0 0 3)) okX0 (by decide) fl_X10_283 pz_0_0 (ff_0_3 _ _) dX10_serial_72 ?_
  exact Ev.iret dX10_serial_75 rfl rfl hq
theorem bkX10_serial_76 {d : Nat} {S : hs_T} {Q : Option av_T → hs_T → Prop} {x1 x2 x3 : Int32} (kt : 10 ≤ x3 → Ev d mX10_serial 86 [some (vR 10 0), some (vI x1), some (vI x2), some (vI x3)] [] S Q) (kf : ¬ 10 ≤ x3 → Ev d mX10_serial 82 [some (vR 10 0), some (vI x1), some (vI x2), some (vI x3)] [] S Q) : Ev d mX10_serial 76 [some (vR 10 0), some (vI x1), some (vI x2), some (vI x3)] [] S Q := by
  refine Ev.iload_n dX10_serial_76 rfl rfl ?_
  refine Ev.bipush (v := 10) dX10_serial_77 (by decide) ?_
  exact Ev.icmp_ge (tgt := 86) dX10_serial_79 (by decide) kt kf
theorem bkX10_serial_82 {d : Nat} {S : hs_T} {Q : Option av_T → hs_T → Prop} {x1 x2 x3 : Int32} (kn : Ev d mX10_serial 97 [some (vR 10 0), some (vI x1), some (vI x2), some (vI x3)] [vI (-1)] S Q) : Ev d mX10_serial 82 [some (vR 10 0), some (vI x1), some (vI x2), some (vI x3)] [] S Q := by
  refine Ev.iconst (v := (-1)) dX10_serial_82 (by decide) ?_
  refine Ev.goto (tgt := 97) dX10_serial_83 (by decide) ?_
  exact kn
theorem bkX10_serial_86 {d : Nat} {S : hs_T} {Q : Option av_T → hs_T → Prop} {P : Int32 → hs_T → Prop} {x1 x2 x3 : Int32} (hC : Ci d mX0_value [vR 0 0, vI (x3 - 10)] S P) (kk : ∀ v S', P v S' → Ev (d + 1) mX10_serial 97 [some (vR 10 0), some (vI x1), some (vI x2), some (vI x3)] [vI v] S' Q) : Ev (d + 1) mX10_serial 86 [some (vR 10 0), some (vI x1), some (vI x2), some (vI x3)] [] S Q := by
  refine Ev.aload_n dX10_serial_86 rfl rfl ?_
  refine Ev.get (v := vR 0 0) okX10 (by decide) fl_X10_61 pz_10_0 (ff_10_8 _ _) dX10_serial_87 ?_
  refine Ev.iload_n dX10_serial_90 rfl rfl ?_
  refine Ev.bipush (v := 10) dX10_serial_91 (by decide) ?_
  refine Ev.isub dX10_serial_93 ?_
  exact Ev.callV (as := [vI (x3 - 10)]) (rest := []) okX0_value in_X0_value ml_X10_276 rfl (Nat.le_of_ble_eq_true rfl) pz_0_0 (by decide) rfl rfl dX10_serial_94 hC (fun r S' h => by obtain ⟨v, rfl, h⟩ := h; exact kk v S' h)
theorem bkX10_serial_97 {d : Nat} {S : hs_T} {Q : Option av_T → hs_T → Prop} {x1 x2 x3 y0 : Int32} (hq : Q (some (vI y0)) S) : Ev d mX10_serial 97 [some (vR 10 0), some (vI x1), some (vI x2), some (vI x3)] [vI y0] S Q := by
  exact Ev.iret dX10_serial_97 rfl rfl hq
/-! EightWires.rate(II)I -/
theorem bkX10_rate_0 {d : Nat} {S : hs_T} {Q : Option av_T → hs_T → Prop} {P : Int32 → hs_T → Prop} {x1 x2 : Int32} {o3 o4 o5 o6 : Option av_T} (hC : Ci d mX10_isWire [vI x1] S P) (kk : ∀ v S', P v S' → Ev (d + 1) mX10_rate 4 [some (vR 10 0), some (vI x1), some (vI x2), o3, o4, o5, o6] [vI v] S' Q) : Ev (d + 1) mX10_rate 0 [some (vR 10 0), some (vI x1), some (vI x2), o3, o4, o5, o6] [] S Q := by
  refine Ev.iload_n dX10_rate_0 rfl rfl ?_
  exact Ev.callS (as := [vI x1]) (rest := []) okX10_isWire stX10_isWire ml_X10_197 rfl (Nat.le_of_ble_eq_true rfl) rfl dX10_rate_1 hC (fun r S' h => by obtain ⟨v, rfl, h⟩ := h; exact kk v S' h)
theorem bkX10_rate_4 {d : Nat} {S : hs_T} {Q : Option av_T → hs_T → Prop} {x1 x2 y0 : Int32} {o3 o4 o5 o6 : Option av_T} (kt : y0 = 0 → Ev d mX10_rate 16 [some (vR 10 0), some (vI x1), some (vI x2), o3, o4, o5, o6] [] S Q) (kf : ¬ y0 = 0 → Ev d mX10_rate 7 [some (vR 10 0), some (vI x1), some (vI x2), o3, o4, o5, o6] [] S Q) : Ev d mX10_rate 4 [some (vR 10 0), some (vI x1), some (vI x2), o3, o4, o5, o6] [vI y0] S Q := by
  exact Ev.if_eq (tgt := 16) dX10_rate_4 (by decide) kt kf
theorem bkX10_rate_7 {d : Nat} {S : hs_T} {Q : Option av_T → hs_T → Prop} {P : Int32 → hs_T → Prop} {x1 x2 : Int32} {o3 o4 o5 o6 : Option av_T} (hC : Ci d mX10_within [vI x2, vI 0, vI 2] S P) (kk : ∀ v S', P v S' → Ev (d + 1) mX10_rate 13 [some (vR 10 0), some (vI x1), some (vI x2), o3, o4, o5, o6] [vI v] S' Q) : Ev (d + 1) mX10_rate 7 [some (vR 10 0), some (vI x1), some (vI x2), o3, o4, o5, o6] [] S Q := by
  refine Ev.iload_n dX10_rate_7 rfl rfl ?_
  refine Ev.iconst (v := 0) dX10_rate_8 (by decide) ?_
  refine Ev.iconst (v := 2) dX10_rate_9 (by decide) ?_
  exact Ev.callS (as := [vI x2, vI 0, vI 2]) (rest := []) okX10_within stX10_within ml_X10_93 rfl (Nat.le_of_ble_eq_true rfl) rfl dX10_rate_10 hC (fun r S' h => by obtain ⟨v, rfl, h⟩ := h; exact kk v S' h)
theorem bkX10_rate_13 {d : Nat} {S : hs_T} {Q : Option av_T → hs_T → Prop} {x1 x2 y0 : Int32} {o3 o4 o5 o6 : Option av_T} (kt : ¬ y0 = 0 → Ev d mX10_rate 18 [some (vR 10 0), some (vI x1), some (vI x2), o3, o4, o5, o6] [] S Q) (kf : y0 = 0 → Ev d mX10_rate 16 [some (vR 10 0), some (vI x1), some (vI x2), o3, o4, o5, o6] [] S Q) : Ev d mX10_rate 13 [some (vR 10 0), some (vI x1), some (vI x2), o3, o4, o5, o6] [vI y0] S Q := by
  exact Ev.if_ne (tgt := 18) dX10_rate_13 (by decide) kt kf
theorem bkX10_rate_16 {d : Nat} {S : hs_T} {Q : Option av_T → hs_T → Prop} {x1 x2 : Int32} {o3 o4 o5 o6 : Option av_T} (hq : Q (some (vI (-1))) S) : Ev d mX10_rate 16 [some (vR 10 0), some (vI x1), some (vI x2), o3, o4, o5, o6] [] S Q := by
  refine Ev.iconst (v := (-1)) dX10_rate_16 (by decide) ?_
  exact Ev.iret dX10_rate_17 rfl rfl hq
theorem bkX10_rate_18 {d : Nat} {S : hs_T} {Q : Option av_T → hs_T → Prop} {x1 x2 : Int32} {o3 o4 o5 o6 : Option av_T} (kn : Ev d mX10_rate 29 [some (vR 10 0), some (vI x1), some (vI x2), some (vI 0), some (vI 0), some (vI 0), some (vI 2)] [] S Q) : Ev d mX10_rate 18 [some (vR 10 0), some (vI x1), some (vI x2), o3, o4, o5, o6] [] S Q := by
  refine Ev.iconst (v := 0) dX10_rate_18 (by decide) ?_
  refine Ev.istore_n (ls' := [some (vR 10 0), some (vI x1), some (vI x2), some (vI 0), o4, o5, o6]) dX10_rate_19 rfl (by decide) rfl ?_
  refine Ev.iconst (v := 0) dX10_rate_20 (by decide) ?_
  refine Ev.istore (ls' := [some (vR 10 0), some (vI x1), some (vI x2), some (vI 0), some (vI 0), o5, o6]) dX10_rate_21 (by decide) rfl ?_
  refine Ev.iconst (v := 0) dX10_rate_23 (by decide) ?_
  refine Ev.istore (ls' := [some (vR 10 0), some (vI x1), some (vI x2), some (vI 0), some (vI 0), some (vI 0), o6]) dX10_rate_24 (by decide) rfl ?_
  refine Ev.iconst (v := 2) dX10_rate_26 (by decide) ?_
  refine Ev.istore (ls' := [some (vR 10 0), some (vI x1), some (vI x2), some (vI 0), some (vI 0), some (vI 0), some (vI 2)]) dX10_rate_27 (by decide) rfl ?_
  exact kn
theorem bkX10_rate_29 {d : Nat} {S : hs_T} {Q : Option av_T → hs_T → Prop} {x1 x2 x3 x4 x5 x6 : Int32} (kt : 50 < x6 → Ev d mX10_rate 117 [some (vR 10 0), some (vI x1), some (vI x2), some (vI x3), some (vI x4), some (vI x5), some (vI x6)] [] S Q) (kf : ¬ 50 < x6 → Ev d mX10_rate 36 [some (vR 10 0), some (vI x1), some (vI x2), some (vI x3), some (vI x4), some (vI x5), some (vI x6)] [] S Q) : Ev d mX10_rate 29 [some (vR 10 0), some (vI x1), some (vI x2), some (vI x3), some (vI x4), some (vI x5), some (vI x6)] [] S Q := by
  refine Ev.iload dX10_rate_29 rfl ?_
  refine Ev.bipush (v := 50) dX10_rate_31 (by decide) ?_
  exact Ev.icmp_gt (tgt := 117) dX10_rate_33 (by decide) kt kf
theorem bkX10_rate_36 {d : Nat} {S : hs_T} {Q : Option av_T → hs_T → Prop} {P : hs_T → Prop} {x1 x2 x3 x4 x5 x6 : Int32} (hC : Cv d mX0_listen [vR 0 0, vR 8 0, vI x1, vI x6] S P) (kk : ∀ S', P S' → Ev (d + 1) mX10_rate 50 [some (vR 10 0), some (vI x1), some (vI x2), some (vI x3), some (vI x4), some (vI x5), some (vI x6)] [] S' Q) : Ev (d + 1) mX10_rate 36 [some (vR 10 0), some (vI x1), some (vI x2), some (vI x3), some (vI x4), some (vI x5), some (vI x6)] [] S Q := by
  refine Ev.aload_n dX10_rate_36 rfl rfl ?_
  refine Ev.get (v := vR 0 0) okX10 (by decide) fl_X10_61 pz_10_0 (ff_10_8 _ _) dX10_rate_37 ?_
  refine Ev.aload_n dX10_rate_40 rfl rfl ?_
  refine Ev.get (v := vR 8 0) okX10 (by decide) fl_X10_19 pz_10_0 (ff_10_1 _ _) dX10_rate_41 ?_
  refine Ev.iload_n dX10_rate_44 rfl rfl ?_
  refine Ev.iload dX10_rate_45 rfl ?_
  exact Ev.callV (as := [vR 8 0, vI x1, vI x6]) (rest := []) okX0_listen in_X0_listen ml_X10_279 rfl (Nat.le_of_ble_eq_true rfl) pz_0_0 (by decide) rfl rfl dX10_rate_47 hC (fun r S' h => by obtain ⟨rfl, h⟩ := h; exact kk S' h)
theorem bkX10_rate_50 {d : Nat} {S : hs_T} {Q : Option av_T → hs_T → Prop} {x1 x2 x3 x4 x5 x6 : Int32} (kt : x3 = 0 → Ev d mX10_rate 90 [some (vR 10 0), some (vI x1), some (vI x2), some (vI x3), some (vI x4), some (vI x5), some (vI x6)] [] S Q) (kf : ¬ x3 = 0 → Ev d mX10_rate 54 [some (vR 10 0), some (vI x1), some (vI x2), some (vI x3), some (vI x4), some (vI x5), some (vI x6)] [] S Q) : Ev d mX10_rate 50 [some (vR 10 0), some (vI x1), some (vI x2), some (vI x3), some (vI x4), some (vI x5), some (vI x6)] [] S Q := by
  refine Ev.iload_n dX10_rate_50 rfl rfl ?_
  exact Ev.if_eq (tgt := 90) dX10_rate_51 (by decide) kt kf
theorem bkX10_rate_54 {d : Nat} {S : hs_T} {Q : Option av_T → hs_T → Prop} {x1 x2 x3 x4 x5 x6 : Int32} (kt : x4 < (S.1 0 0 2) → Ev d mX10_rate 90 [some (vR 10 0), some (vI x1), some (vI x2), some (vI x3), some (vI x4), some (vI x5), some (vI x6)] [] S Q) (kf : ¬ x4 < (S.1 0 0 2) → Ev d mX10_rate 66 [some (vR 10 0), some (vI x1), some (vI x2), some (vI x3), some (vI x4), some (vI x5), some (vI x6)] [] S Q) : Ev d mX10_rate 54 [some (vR 10 0), some (vI x1), some (vI x2), some (vI x3), some (vI x4), some (vI x5), some (vI x6)] [] S Q := by
  refine Ev.aload_n dX10_rate_54 rfl rfl ?_
  refine Ev.get (v := vR 0 0) okX10 (by decide) fl_X10_61 pz_10_0 (ff_10_8 _ _) dX10_rate_55 ?_
  refine Ev.get (v := vI (S.1 0 0 2)) okX0 (by decide) fl_X10_267 pz_0_0 (ff_0_2 _ _) dX10_rate_58 ?_
  refine Ev.iload dX10_rate_61 rfl ?_
  exact Ev.icmp_gt (tgt := 90) dX10_rate_63 (by decide) kt kf
theorem bkX10_rate_66 {d : Nat} {S : hs_T} {Q : Option av_T → hs_T → Prop} {x1 x2 x3 x4 x5 x6 : Int32} (kt : ¬ (S.1 0 0 2) = x4 → Ev d mX10_rate 111 [some (vR 10 0), some (vI x1), some (vI x2), some (vI x3), some (vI x4), some (vI x5), some (vI x6)] [] S Q) (kf : (S.1 0 0 2) = x4 → Ev d mX10_rate 78 [some (vR 10 0), some (vI x1), some (vI x2), some (vI x3), some (vI x4), some (vI x5), some (vI x6)] [] S Q) : Ev d mX10_rate 66 [some (vR 10 0), some (vI x1), some (vI x2), some (vI x3), some (vI x4), some (vI x5), some (vI x6)] [] S Q := by
  refine Ev.aload_n dX10_rate_66 rfl rfl ?_
  refine Ev.get (v := vR 0 0) okX10 (by decide) fl_X10_61 pz_10_0 (ff_10_8 _ _) dX10_rate_67 ?_
  refine Ev.get (v := vI (S.1 0 0 2)) okX0 (by decide) fl_X10_267 pz_0_0 (ff_0_2 _ _) dX10_rate_70 ?_
  refine Ev.iload dX10_rate_73 rfl ?_
  exact Ev.icmp_ne (tgt := 111) dX10_rate_75 (by decide) kt kf
theorem bkX10_rate_78 {d : Nat} {S : hs_T} {Q : Option av_T → hs_T → Prop} {x1 x2 x3 x4 x5 x6 : Int32} (kt : x5 ≤ (S.1 0 0 3) → Ev d mX10_rate 111 [some (vR 10 0), some (vI x1), some (vI x2), some (vI x3), some (vI x4), some (vI x5), some (vI x6)] [] S Q) (kf : ¬ x5 ≤ (S.1 0 0 3) → Ev d mX10_rate 90 [some (vR 10 0), some (vI x1), some (vI x2), some (vI x3), some (vI x4), some (vI x5), some (vI x6)] [] S Q) : Ev d mX10_rate 78 [some (vR 10 0), some (vI x1), some (vI x2), some (vI x3), some (vI x4), some (vI x5), some (vI x6)] [] S Q := by
  refine Ev.aload_n dX10_rate_78 rfl rfl ?_
  refine Ev.get (v := vR 0 0) okX10 (by decide) fl_X10_61 pz_10_0 (ff_10_8 _ _) dX10_rate_79 ?_
  refine Ev.get (v := vI (S.1 0 0 3)) okX0 (by decide) fl_X10_283 pz_0_0 (ff_0_3 _ _) dX10_rate_82 ?_
  refine Ev.iload dX10_rate_85 rfl ?_
  exact Ev.icmp_ge (tgt := 111) dX10_rate_87 (by decide) kt kf
theorem bkX10_rate_90 {d : Nat} {S : hs_T} {Q : Option av_T → hs_T → Prop} {x1 x2 x3 x4 x5 x6 : Int32} (kn : Ev d mX10_rate 111 [some (vR 10 0), some (vI x1), some (vI x2), some (vI x6), some (vI (S.1 0 0 2)), some (vI (S.1 0 0 3)), some (vI x6)] [] S Q) : Ev d mX10_rate 90 [some (vR 10 0), some (vI x1), some (vI x2), some (vI x3), some (vI x4), some (vI x5), some (vI x6)] [] S Q := by
  refine Ev.iload dX10_rate_90 rfl ?_
  refine Ev.istore_n (ls' := [some (vR 10 0), some (vI x1), some (vI x2), some (vI x6), some (vI x4), some (vI x5), some (vI x6)]) dX10_rate_92 rfl (by decide) rfl ?_
  refine Ev.aload_n dX10_rate_93 rfl rfl ?_
  refine Ev.get (v := vR 0 0) okX10 (by decide) fl_X10_61 pz_10_0 (ff_10_8 _ _) dX10_rate_94 ?_
  refine Ev.get (v := vI (S.1 0 0 2)) okX0 (by decide) fl_X10_267 pz_0_0 (ff_0_2 _ _) dX10_rate_97 ?_
  refine Ev.istore (ls' := [some (vR 10 0), some (vI x1), some (vI x2), some (vI x6), some (vI (S.1 0 0 2)), some (vI x5), some (vI x6)]) dX10_rate_100 (by decide) rfl ?_
  refine Ev.aload_n dX10_rate_102 rfl rfl ?_
  refine Ev.get (v := vR 0 0) okX10 (by decide) fl_X10_61 pz_10_0 (ff_10_8 _ _) dX10_rate_103 ?_
  refine Ev.get (v := vI (S.1 0 0 3)) okX0 (by decide) fl_X10_283 pz_0_0 (ff_0_3 _ _) dX10_rate_106 ?_
  refine Ev.istore (ls' := [some (vR 10 0), some (vI x1), some (vI x2), some (vI x6), some (vI (S.1 0 0 2)), some (vI (S.1 0 0 3)), some (vI x6)]) dX10_rate_109 (by decide) rfl ?_
  exact kn
theorem bkX10_rate_111 {d : Nat} {S : hs_T} {Q : Option av_T → hs_T → Prop} {x1 x2 x3 x4 x5 x6 : Int32} (kn : Ev d mX10_rate 29 [some (vR 10 0), some (vI x1), some (vI x2), some (vI x3), some (vI x4), some (vI x5), some (vI (x6 + 1))] [] S Q) : Ev d mX10_rate 111 [some (vR 10 0), some (vI x1), some (vI x2), some (vI x3), some (vI x4), some (vI x5), some (vI x6)] [] S Q := by
  refine Ev.iinc (v := (x6 + 1)) (ls' := [some (vR 10 0), some (vI x1), some (vI x2), some (vI x3), some (vI x4), some (vI x5), some (vI (x6 + 1))]) dX10_rate_111 rfl rfl (by decide) rfl ?_
  refine Ev.goto (tgt := 29) dX10_rate_114 (by decide) ?_
  exact kn
theorem bkX10_rate_117 {d : Nat} {S : hs_T} {Q : Option av_T → hs_T → Prop} {x1 x2 x3 x4 x5 x6 : Int32} (k0 : x2 = 0 → Ev d mX10_rate 144 [some (vR 10 0), some (vI x1), some (vI x2), some (vI x3), some (vI x4), some (vI x5), some (vI x6)] [] S Q) (k1 : x2 = 1 → Ev d mX10_rate 146 [some (vR 10 0), some (vI x1), some (vI x2), some (vI x3), some (vI x4), some (vI x5), some (vI x6)] [] S Q) (kd : ¬ x2 = 0 → ¬ x2 = 1 → Ev d mX10_rate 149 [some (vR 10 0), some (vI x1), some (vI x2), some (vI x3), some (vI x4), some (vI x5), some (vI x6)] [] S Q) : Ev d mX10_rate 117 [some (vR 10 0), some (vI x1), some (vI x2), some (vI x3), some (vI x4), some (vI x5), some (vI x6)] [] S Q := by
  refine Ev.iload_n dX10_rate_117 rfl rfl ?_
  by_cases hc0 : x2 = 0
  · exact Ev.lookup (off := 26) (tgt := 144) dX10_rate_118 (by decide) (by rw [hc0]; decide) (by decide) (k0 hc0)
  by_cases hc1 : x2 = 1
  · exact Ev.lookup (off := 28) (tgt := 146) dX10_rate_118 (by decide) (by rw [hc1]; decide) (by decide) (k1 hc1)
  refine Ev.lookup (off := 31) (tgt := 149) dX10_rate_118 (by decide) ?_ (by decide) (kd hc0 hc1)
  show Op.lookupswitch.offset [(0, 26), (1, 28)] 31 x2.toInt = 31
  rw [lv_osw hc0 (by decide), lv_osw hc1 (by decide)]
  rfl
theorem bkX10_rate_144 {d : Nat} {S : hs_T} {Q : Option av_T → hs_T → Prop} {x1 x2 x3 x4 x5 x6 : Int32} (hq : Q (some (vI x3)) S) : Ev d mX10_rate 144 [some (vR 10 0), some (vI x1), some (vI x2), some (vI x3), some (vI x4), some (vI x5), some (vI x6)] [] S Q := by
  refine Ev.iload_n dX10_rate_144 rfl rfl ?_
  exact Ev.iret dX10_rate_145 rfl rfl hq
theorem bkX10_rate_146 {d : Nat} {S : hs_T} {Q : Option av_T → hs_T → Prop} {x1 x2 x3 x4 x5 x6 : Int32} (hq : Q (some (vI x4)) S) : Ev d mX10_rate 146 [some (vR 10 0), some (vI x1), some (vI x2), some (vI x3), some (vI x4), some (vI x5), some (vI x6)] [] S Q := by
  refine Ev.iload dX10_rate_146 rfl ?_
  exact Ev.iret dX10_rate_148 rfl rfl hq
theorem bkX10_rate_149 {d : Nat} {S : hs_T} {Q : Option av_T → hs_T → Prop} {x1 x2 x3 x4 x5 x6 : Int32} (hq : Q (some (vI x5)) S) : Ev d mX10_rate 149 [some (vR 10 0), some (vI x1), some (vI x2), some (vI x3), some (vI x4), some (vI x5), some (vI x6)] [] S Q := by
  refine Ev.iload dX10_rate_149 rfl ?_
  exact Ev.iret dX10_rate_151 rfl rfl hq
/-! EightWires.seen(III)I -/
theorem bkX10_seen_0 {d : Nat} {S : hs_T} {Q : Option av_T → hs_T → Prop} {P : Int32 → hs_T → Prop} {x1 x2 x3 : Int32} (hC : Ci d mX10_within [vI x1, vI 1, vI 400] S P) (kk : ∀ v S', P v S' → Ev (d + 1) mX10_seen 8 [some (vR 10 0), some (vI x1), some (vI x2), some (vI x3)] [vI v] S' Q) : Ev (d + 1) mX10_seen 0 [some (vR 10 0), some (vI x1), some (vI x2), some (vI x3)] [] S Q := by
  refine Ev.iload_n dX10_seen_0 rfl rfl ?_
  refine Ev.iconst (v := 1) dX10_seen_1 (by decide) ?_
  refine Ev.sipush (v := 400) dX10_seen_2 (by decide) ?_
  exact Ev.callS (as := [vI x1, vI 1, vI 400]) (rest := []) okX10_within stX10_within ml_X10_93 rfl (Nat.le_of_ble_eq_true rfl) rfl dX10_seen_5 hC (fun r S' h => by obtain ⟨v, rfl, h⟩ := h; exact kk v S' h)
theorem bkX10_seen_8 {d : Nat} {S : hs_T} {Q : Option av_T → hs_T → Prop} {x1 x2 x3 y0 : Int32} (kt : y0 = 0 → Ev d mX10_seen 31 [some (vR 10 0), some (vI x1), some (vI x2), some (vI x3)] [] S Q) (kf : ¬ y0 = 0 → Ev d mX10_seen 11 [some (vR 10 0), some (vI x1), some (vI x2), some (vI x3)] [] S Q) : Ev d mX10_seen 8 [some (vR 10 0), some (vI x1), some (vI x2), some (vI x3)] [vI y0] S Q := by
  exact Ev.if_eq (tgt := 31) dX10_seen_8 (by decide) kt kf
theorem bkX10_seen_11 {d : Nat} {S : hs_T} {Q : Option av_T → hs_T → Prop} {P : Int32 → hs_T → Prop} {x1 x2 x3 : Int32} (hC : Ci d mX10_within [vI x2, vI 0, vI (x1 - 1)] S P) (kk : ∀ v S', P v S' → Ev (d + 1) mX10_seen 19 [some (vR 10 0), some (vI x1), some (vI x2), some (vI x3)] [vI v] S' Q) : Ev (d + 1) mX10_seen 11 [some (vR 10 0), some (vI x1), some (vI x2), some (vI x3)] [] S Q := by
  refine Ev.iload_n dX10_seen_11 rfl rfl ?_
  refine Ev.iconst (v := 0) dX10_seen_12 (by decide) ?_
  refine Ev.iload_n dX10_seen_13 rfl rfl ?_
  refine Ev.iconst (v := 1) dX10_seen_14 (by decide) ?_
  refine Ev.isub dX10_seen_15 ?_
  exact Ev.callS (as := [vI x2, vI 0, vI (x1 - 1)]) (rest := []) okX10_within stX10_within ml_X10_93 rfl (Nat.le_of_ble_eq_true rfl) rfl dX10_seen_16 hC (fun r S' h => by obtain ⟨v, rfl, h⟩ := h; exact kk v S' h)
theorem bkX10_seen_19 {d : Nat} {S : hs_T} {Q : Option av_T → hs_T → Prop} {x1 x2 x3 y0 : Int32} (kt : y0 = 0 → Ev d mX10_seen 31 [some (vR 10 0), some (vI x1), some (vI x2), some (vI x3)] [] S Q) (kf : ¬ y0 = 0 → Ev d mX10_seen 22 [some (vR 10 0), some (vI x1), some (vI x2), some (vI x3)] [] S Q) : Ev d mX10_seen 19 [some (vR 10 0), some (vI x1), some (vI x2), some (vI x3)] [vI y0] S Q := by
  exact Ev.if_eq (tgt := 31) dX10_seen_19 (by decide) kt kf
theorem bkX10_seen_22 {d : Nat} {S : hs_T} {Q : Option av_T → hs_T → Prop} {P : Int32 → hs_T → Prop} {x1 x2 x3 : Int32} (hC : Ci d mX10_within [vI x3, vI 0, vI 2] S P) (kk : ∀ v S', P v S' → Ev (d + 1) mX10_seen 28 [some (vR 10 0), some (vI x1), some (vI x2), some (vI x3)] [vI v] S' Q) : Ev (d + 1) mX10_seen 22 [some (vR 10 0), some (vI x1), some (vI x2), some (vI x3)] [] S Q := by
  refine Ev.iload_n dX10_seen_22 rfl rfl ?_
  refine Ev.iconst (v := 0) dX10_seen_23 (by decide) ?_
  refine Ev.iconst (v := 2) dX10_seen_24 (by decide) ?_
  exact Ev.callS (as := [vI x3, vI 0, vI 2]) (rest := []) okX10_within stX10_within ml_X10_93 rfl (Nat.le_of_ble_eq_true rfl) rfl dX10_seen_25 hC (fun r S' h => by obtain ⟨v, rfl, h⟩ := h; exact kk v S' h)
theorem bkX10_seen_28 {d : Nat} {S : hs_T} {Q : Option av_T → hs_T → Prop} {x1 x2 x3 y0 : Int32} (kt : ¬ y0 = 0 → Ev d mX10_seen 33 [some (vR 10 0), some (vI x1), some (vI x2), some (vI x3)] [] S Q) (kf : y0 = 0 → Ev d mX10_seen 31 [some (vR 10 0), some (vI x1), some (vI x2), some (vI x3)] [] S Q) : Ev d mX10_seen 28 [some (vR 10 0), some (vI x1), some (vI x2), some (vI x3)] [vI y0] S Q := by
  exact Ev.if_ne (tgt := 33) dX10_seen_28 (by decide) kt kf
theorem bkX10_seen_31 {d : Nat} {S : hs_T} {Q : Option av_T → hs_T → Prop} {x1 x2 x3 : Int32} (hq : Q (some (vI (-1))) S) : Ev d mX10_seen 31 [some (vR 10 0), some (vI x1), some (vI x2), some (vI x3)] [] S Q := by
  refine Ev.iconst (v := (-1)) dX10_seen_31 (by decide) ?_
  exact Ev.iret dX10_seen_32 rfl rfl hq
theorem bkX10_seen_33 {d : Nat} {S : hs_T} {Q : Option av_T → hs_T → Prop} {x1 x2 x3 : Int32} (k0 : x3 = 0 → Ev d mX10_seen 60 [some (vR 10 0), some (vI x1), some (vI x2), some (vI x3)] [] S Q) (k1 : x3 = 1 → Ev d mX10_seen 91 [some (vR 10 0), some (vI x1), some (vI x2), some (vI x3)] [] S Q) (kd : ¬ x3 = 0 → ¬ x3 = 1 → Ev d mX10_seen 101 [some (vR 10 0), some (vI x1), some (vI x2), some (vI x3)] [] S Q) : Ev d mX10_seen 33 [some (vR 10 0), some (vI x1), some (vI x2), some (vI x3)] [] S Q := by
  refine Ev.iload_n dX10_seen_33 rfl rfl ?_
  by_cases hc0 : x3 = 0
  · exact Ev.lookup (off := 26) (tgt := 60) dX10_seen_34 (by decide) (by rw [hc0]; decide) (by decide) (k0 hc0)
  by_cases hc1 : x3 = 1
  · exact Ev.lookup (off := 57) (tgt := 91) dX10_seen_34 (by decide) (by rw [hc1]; decide) (by decide) (k1 hc1)
  refine Ev.lookup (off := 67) (tgt := 101) dX10_seen_34 (by decide) ?_ (by decide) (kd hc0 hc1)
  show Op.lookupswitch.offset [(0, 26), (1, 57)] 67 x3.toInt = 67
  rw [lv_osw hc0 (by decide), lv_osw hc1 (by decide)]
  rfl
theorem bkX10_seen_60 {d : Nat} {S : hs_T} {Q : Option av_T → hs_T → Prop} {x1 x2 x3 : Int32} (kt : (S.1 8 0 1) ≤ x2 → Ev d mX10_seen 89 [some (vR 10 0), some (vI x1), some (vI x2), some (vI x3)] [] S Q) (kf : ¬ (S.1 8 0 1) ≤ x2 → Ev d mX10_seen 71 [some (vR 10 0), some (vI x1), some (vI x2), some (vI x3)] [] S Q) : Ev d mX10_seen 60 [some (vR 10 0), some (vI x1), some (vI x2), some (vI x3)] [] S Q := by
  refine Ev.iload_n dX10_seen_60 rfl rfl ?_
  refine Ev.aload_n dX10_seen_61 rfl rfl ?_
  refine Ev.get (v := vR 8 0) okX10 (by decide) fl_X10_19 pz_10_0 (ff_10_1 _ _) dX10_seen_62 ?_
  refine Ev.get (v := vI (S.1 8 0 1)) okX8 (by decide) fl_X10_151 pz_8_0 (ff_8_1 _ _) dX10_seen_65 ?_
  exact Ev.icmp_ge (tgt := 89) dX10_seen_68 (by decide) kt kf
theorem bkX10_seen_71 {d : Nat} {S : hs_T} {Q : Option av_T → hs_T → Prop} {x1 x2 x3 : Int32} (hz85 : ¬ x1 = 0) (kn : Ev d mX10_seen 90 [some (vR 10 0), some (vI x1), some (vI x2), some (vI x3)] [vI (((((S.1 8 0 1) - x2) + x1) - 1) / x1)] S Q) : Ev d mX10_seen 71 [some (vR 10 0), some (vI x1), some (vI x2), some (vI x3)] [] S Q := by
  refine Ev.aload_n dX10_seen_71 rfl rfl ?_
  refine Ev.get (v := vR 8 0) okX10 (by decide) fl_X10_19 pz_10_0 (ff_10_1 _ _) dX10_seen_72 ?_
  refine Ev.get (v := vI (S.1 8 0 1)) okX8 (by decide) fl_X10_151 pz_8_0 (ff_8_1 _ _) dX10_seen_75 ?_
  refine Ev.iload_n dX10_seen_78 rfl rfl ?_
  refine Ev.isub dX10_seen_79 ?_
  refine Ev.iload_n dX10_seen_80 rfl rfl ?_
  refine Ev.iadd dX10_seen_81 ?_
  refine Ev.iconst (v := 1) dX10_seen_82 (by decide) ?_
  refine Ev.isub dX10_seen_83 ?_
  refine Ev.iload_n dX10_seen_84 rfl rfl ?_
  refine Ev.idiv dX10_seen_85 hz85 ?_
  refine Ev.goto (tgt := 90) dX10_seen_86 (by decide) ?_
  exact kn
theorem bkX10_seen_89 {d : Nat} {S : hs_T} {Q : Option av_T → hs_T → Prop} {x1 x2 x3 : Int32} (kn : Ev d mX10_seen 90 [some (vR 10 0), some (vI x1), some (vI x2), some (vI x3)] [vI 0] S Q) : Ev d mX10_seen 89 [some (vR 10 0), some (vI x1), some (vI x2), some (vI x3)] [] S Q := by
  refine Ev.iconst (v := 0) dX10_seen_89 (by decide) ?_
  exact kn
theorem bkX10_seen_90 {d : Nat} {S : hs_T} {Q : Option av_T → hs_T → Prop} {x1 x2 x3 y0 : Int32} (hq : Q (some (vI y0)) S) : Ev d mX10_seen 90 [some (vR 10 0), some (vI x1), some (vI x2), some (vI x3)] [vI y0] S Q := by
  exact Ev.iret dX10_seen_90 rfl rfl hq
theorem bkX10_seen_91 {d : Nat} {S : hs_T} {Q : Option av_T → hs_T → Prop} {P : Int32 → hs_T → Prop} {x1 x2 x3 : Int32} (hC : Ci d mX8_edgesSeen [vR 8 0, vI x1, vI x2] S P) (kk : ∀ v S', P v S' → Ev (d + 1) mX10_seen 100 [some (vR 10 0), some (vI x1), some (vI x2), some (vI x3)] [vI v] S' Q) : Ev (d + 1) mX10_seen 91 [some (vR 10 0), some (vI x1), some (vI x2), some (vI x3)] [] S Q := by
  refine Ev.aload_n dX10_seen_91 rfl rfl ?_
  refine Ev.get (v := vR 8 0) okX10 (by decide) fl_X10_19 pz_10_0 (ff_10_1 _ _) dX10_seen_92 ?_
  refine Ev.iload_n dX10_seen_95 rfl rfl ?_
  refine Ev.iload_n dX10_seen_96 rfl rfl ?_
  exact Ev.callV (as := [vI x1, vI x2]) (rest := []) okX8_edgesSeen in_X8_edgesSeen ml_X10_286 rfl (Nat.le_of_ble_eq_true rfl) pz_8_0 (by decide) rfl rfl dX10_seen_97 hC (fun r S' h => by obtain ⟨v, rfl, h⟩ := h; exact kk v S' h)
theorem bkX10_seen_100 {d : Nat} {S : hs_T} {Q : Option av_T → hs_T → Prop} {x1 x2 x3 y0 : Int32} (hq : Q (some (vI y0)) S) : Ev d mX10_seen 100 [some (vR 10 0), some (vI x1), some (vI x2), some (vI x3)] [vI y0] S Q := by
  exact Ev.iret dX10_seen_100 rfl rfl hq
theorem bkX10_seen_101 {d : Nat} {S : hs_T} {Q : Option av_T → hs_T → Prop} {P : Int32 → hs_T → Prop} {x1 x2 x3 : Int32} (hC : Ci d mX8_edgesSeen [vR 8 0, vI 1, vI 0] S P) (kk : ∀ v S', P v S' → Ev (d + 1) mX10_seen 110 [some (vR 10 0), some (vI x1), some (vI x2), some (vI x3)] [vI v] S' Q) : Ev (d + 1) mX10_seen 101 [some (vR 10 0), some (vI x1), some (vI x2), some (vI x3)] [] S Q := by
  refine Ev.aload_n dX10_seen_101 rfl rfl ?_
  refine Ev.get (v := vR 8 0) okX10 (by decide) fl_X10_19 pz_10_0 (ff_10_1 _ _) dX10_seen_102 ?_
  refine Ev.iconst (v := 1) dX10_seen_105 (by decide) ?_
  refine Ev.iconst (v := 0) dX10_seen_106 (by decide) ?_
  exact Ev.callV (as := [vI 1, vI 0]) (rest := []) okX8_edgesSeen in_X8_edgesSeen ml_X10_286 rfl (Nat.le_of_ble_eq_true rfl) pz_8_0 (by decide) rfl rfl dX10_seen_107 hC (fun r S' h => by obtain ⟨v, rfl, h⟩ := h; exact kk v S' h)
theorem bkX10_seen_110 {d : Nat} {S : hs_T} {Q : Option av_T → hs_T → Prop} {P : Int32 → hs_T → Prop} {x1 x2 x3 y0 : Int32} (hC : Ci d mX8_edgesSeen [vR 8 0, vI x1, vI x2] S P) (kk : ∀ v S', P v S' → Ev (d + 1) mX10_seen 119 [some (vR 10 0), some (vI x1), some (vI x2), some (vI x3)] [vI v, vI y0] S' Q) : Ev (d + 1) mX10_seen 110 [some (vR 10 0), some (vI x1), some (vI x2), some (vI x3)] [vI y0] S Q := by
  refine Ev.aload_n dX10_seen_110 rfl rfl ?_
  refine Ev.get (v := vR 8 0) okX10 (by decide) fl_X10_19 pz_10_0 (ff_10_1 _ _) dX10_seen_111 ?_
  refine Ev.iload_n dX10_seen_114 rfl rfl ?_
  refine Ev.iload_n dX10_seen_115 rfl rfl ?_
  exact Ev.callV (as := [vI x1, vI x2]) (rest := [vI y0]) okX8_edgesSeen in_X8_edgesSeen ml_X10_286 rfl (Nat.le_of_ble_eq_true rfl) pz_8_0 (by decide) rfl rfl dX10_seen_116 hC (fun r S' h => by obtain ⟨v, rfl, h⟩ := h; exact kk v S' h)
theorem bkX10_seen_119 {d : Nat} {S : hs_T} {Q : Option av_T → hs_T → Prop} {x1 x2 x3 y0 y1 : Int32} (hq : Q (some (vI (y1 - y0))) S) : Ev d mX10_seen 119 [some (vR 10 0), some (vI x1), some (vI x2), some (vI x3)] [vI y0, vI y1] S Q := by
  refine Ev.isub dX10_seen_119 ?_
  exact Ev.iret dX10_seen_120 rfl rfl hq
/-! EightWires.widest()I -/
theorem bkX10_widest_0 {d : Nat} {S : hs_T} {Q : Option av_T → hs_T → Prop} {o1 o2 : Option av_T} (kn : Ev d mX10_widest 6 [some (vR 10 0), some (vI 400), some (vI 0)] [] S Q) : Ev d mX10_widest 0 [some (vR 10 0), o1, o2] [] S Q := by
  refine Ev.sipush (v := 400) dX10_widest_0 (by decide) ?_
  refine Ev.istore_n (ls' := [some (vR 10 0), some (vI 400), o2]) dX10_widest_3 rfl (by decide) rfl ?_
  refine Ev.iconst (v := 0) dX10_widest_4 (by decide) ?_
  refine Ev.istore_n (ls' := [some (vR 10 0), some (vI 400), some (vI 0)]) dX10_widest_5 rfl (by decide) rfl ?_
  exact kn
theorem bkX10_widest_6 {d : Nat} {S : hs_T} {Q : Option av_T → hs_T → Prop} {x1 x2 : Int32} (kt : 8 ≤ x2 → Ev d mX10_widest 54 [some (vR 10 0), some (vI x1), some (vI x2)] [] S Q) (kf : ¬ 8 ≤ x2 → Ev d mX10_widest 12 [some (vR 10 0), some (vI x1), some (vI x2)] [] S Q) : Ev d mX10_widest 6 [some (vR 10 0), some (vI x1), some (vI x2)] [] S Q := by
  refine Ev.iload_n dX10_widest_6 rfl rfl ?_
  refine Ev.bipush (v := 8) dX10_widest_7 (by decide) ?_
  exact Ev.icmp_ge (tgt := 54) dX10_widest_9 (by decide) kt kf
theorem bkX10_widest_12 {d : Nat} {S : hs_T} {Q : Option av_T → hs_T → Prop} {P : hs_T → Prop} {x1 x2 : Int32} (hC : Cv d mX3_measure [vR 3 0, vR 8 0, vI x2, vI (-1), vI 0] S P) (kk : ∀ S', P S' → Ev (d + 1) mX10_widest 26 [some (vR 10 0), some (vI x1), some (vI x2)] [] S' Q) : Ev (d + 1) mX10_widest 12 [some (vR 10 0), some (vI x1), some (vI x2)] [] S Q := by
  refine Ev.aload_n dX10_widest_12 rfl rfl ?_
  refine Ev.get (v := vR 3 0) okX10 (by decide) fl_X10_47 pz_10_0 (ff_10_6 _ _) dX10_widest_13 ?_
  refine Ev.aload_n dX10_widest_16 rfl rfl ?_
  refine Ev.get (v := vR 8 0) okX10 (by decide) fl_X10_19 pz_10_0 (ff_10_1 _ _) dX10_widest_17 ?_
  refine Ev.iload_n dX10_widest_20 rfl rfl ?_
  refine Ev.iconst (v := (-1)) dX10_widest_21 (by decide) ?_
  refine Ev.iconst (v := 0) dX10_widest_22 (by decide) ?_
  exact Ev.callV (as := [vR 8 0, vI x2, vI (-1), vI 0]) (rest := []) okX3_measure in_X3_measure ml_X10_204 rfl (Nat.le_of_ble_eq_true rfl) pz_3_0 (by decide) rfl rfl dX10_widest_23 hC (fun r S' h => by obtain ⟨rfl, h⟩ := h; exact kk S' h)
theorem bkX10_widest_26 {d : Nat} {S : hs_T} {Q : Option av_T → hs_T → Prop} {x1 x2 : Int32} (kt : (S.1 3 0 0) ≤ 0 → Ev d mX10_widest 48 [some (vR 10 0), some (vI x1), some (vI x2)] [] S Q) (kf : ¬ (S.1 3 0 0) ≤ 0 → Ev d mX10_widest 36 [some (vR 10 0), some (vI x1), some (vI x2)] [] S Q) : Ev d mX10_widest 26 [some (vR 10 0), some (vI x1), some (vI x2)] [] S Q := by
  refine Ev.aload_n dX10_widest_26 rfl rfl ?_
  refine Ev.get (v := vR 3 0) okX10 (by decide) fl_X10_47 pz_10_0 (ff_10_6 _ _) dX10_widest_27 ?_
  refine Ev.get (v := vI (S.1 3 0 0)) okX3 (by decide) fl_X10_208 pz_3_0 (ff_3_0 _ _) dX10_widest_30 ?_
  exact Ev.if_le (tgt := 48) dX10_widest_33 (by decide) kt kf
theorem bkX10_widest_36 {d : Nat} {S : hs_T} {Q : Option av_T → hs_T → Prop} {x1 x2 : Int32} (kn : Ev (d + 1) mX10_widest 48 [some (vR 10 0), some (vI (if (S.1 3 0 1) < x1 then (S.1 3 0 1) else x1)), some (vI x2)] [] S Q) : Ev (d + 1) mX10_widest 36 [some (vR 10 0), some (vI x1), some (vI x2)] [] S Q := by
  refine Ev.iload_n dX10_widest_36 rfl rfl ?_
  refine Ev.aload_n dX10_widest_37 rfl rfl ?_
  refine Ev.get (v := vR 3 0) okX10 (by decide) fl_X10_47 pz_10_0 (ff_10_6 _ _) dX10_widest_38 ?_
  refine Ev.get (v := vI (S.1 3 0 1)) okX3 (by decide) fl_X10_211 pz_3_0 (ff_3_1 _ _) dX10_widest_41 ?_
  refine Ev.mmin ml_X10_185 (Nat.le_of_ble_eq_true rfl) dX10_widest_44 ?_
  refine Ev.istore_n (ls' := [some (vR 10 0), some (vI (if (S.1 3 0 1) < x1 then (S.1 3 0 1) else x1)), some (vI x2)]) dX10_widest_47 rfl (by decide) rfl ?_
  exact kn
theorem bkX10_widest_48 {d : Nat} {S : hs_T} {Q : Option av_T → hs_T → Prop} {x1 x2 : Int32} (kn : Ev d mX10_widest 6 [some (vR 10 0), some (vI x1), some (vI (x2 + 1))] [] S Q) : Ev d mX10_widest 48 [some (vR 10 0), some (vI x1), some (vI x2)] [] S Q := by
  refine Ev.iinc (v := (x2 + 1)) (ls' := [some (vR 10 0), some (vI x1), some (vI (x2 + 1))]) dX10_widest_48 rfl rfl (by decide) rfl ?_
  refine Ev.goto (tgt := 6) dX10_widest_51 (by decide) ?_
  exact kn
theorem bkX10_widest_54 {d : Nat} {S : hs_T} {Q : Option av_T → hs_T → Prop} {x1 x2 : Int32} (hq : Q (some (vI x1)) S) : Ev d mX10_widest 54 [some (vR 10 0), some (vI x1), some (vI x2)] [] S Q := by
  refine Ev.iload_n dX10_widest_54 rfl rfl ?_
  exact Ev.iret dX10_widest_55 rfl rfl hq
/-! EightWires.runs()I -/
theorem bkX10_runs_0 {d : Nat} {S : hs_T} {Q : Option av_T → hs_T → Prop} {o1 o2 : Option av_T} (kn : Ev d mX10_runs 4 [some (vR 10 0), some (vI 0), some (vI 0)] [] S Q) : Ev d mX10_runs 0 [some (vR 10 0), o1, o2] [] S Q := by
  refine Ev.iconst (v := 0) dX10_runs_0 (by decide) ?_
  refine Ev.istore_n (ls' := [some (vR 10 0), some (vI 0), o2]) dX10_runs_1 rfl (by decide) rfl ?_
  refine Ev.iconst (v := 0) dX10_runs_2 (by decide) ?_
  refine Ev.istore_n (ls' := [some (vR 10 0), some (vI 0), some (vI 0)]) dX10_runs_3 rfl (by decide) rfl ?_
  exact kn
theorem bkX10_runs_4 {d : Nat} {S : hs_T} {Q : Option av_T → hs_T → Prop} {x1 x2 : Int32} (kt : (S.1 8 0 1) ≤ x2 → Ev d mX10_runs 40 [some (vR 10 0), some (vI x1), some (vI x2)] [] S Q) (kf : ¬ (S.1 8 0 1) ≤ x2 → Ev d mX10_runs 15 [some (vR 10 0), some (vI x1), some (vI x2)] [] S Q) : Ev d mX10_runs 4 [some (vR 10 0), some (vI x1), some (vI x2)] [] S Q := by
  refine Ev.iload_n dX10_runs_4 rfl rfl ?_
  refine Ev.aload_n dX10_runs_5 rfl rfl ?_
  refine Ev.get (v := vR 8 0) okX10 (by decide) fl_X10_19 pz_10_0 (ff_10_1 _ _) dX10_runs_6 ?_
  refine Ev.get (v := vI (S.1 8 0 1)) okX8 (by decide) fl_X10_151 pz_8_0 (ff_8_1 _ _) dX10_runs_9 ?_
  exact Ev.icmp_ge (tgt := 40) dX10_runs_12 (by decide) kt kf
theorem bkX10_runs_15 {d : Nat} {S : hs_T} {Q : Option av_T → hs_T → Prop} {P : Int32 → hs_T → Prop} {x1 x2 : Int32} (hC : Ci d mX8_beginsRun [vR 8 0, vI x2] S P) (kk : ∀ v S', P v S' → Ev (d + 1) mX10_runs 24 [some (vR 10 0), some (vI x1), some (vI x2)] [vI v, vI x1] S' Q) : Ev (d + 1) mX10_runs 15 [some (vR 10 0), some (vI x1), some (vI x2)] [] S Q := by
  refine Ev.iload_n dX10_runs_15 rfl rfl ?_
  refine Ev.aload_n dX10_runs_16 rfl rfl ?_
  refine Ev.get (v := vR 8 0) okX10 (by decide) fl_X10_19 pz_10_0 (ff_10_1 _ _) dX10_runs_17 ?_
  refine Ev.iload_n dX10_runs_20 rfl rfl ?_
  exact Ev.callV (as := [vI x2]) (rest := [vI x1]) okX8_beginsRun in_X8_beginsRun ml_X10_289 rfl (Nat.le_of_ble_eq_true rfl) pz_8_0 (by decide) rfl rfl dX10_runs_21 hC (fun r S' h => by obtain ⟨v, rfl, h⟩ := h; exact kk v S' h)
theorem bkX10_runs_24 {d : Nat} {S : hs_T} {Q : Option av_T → hs_T → Prop} {x1 x2 y0 y1 : Int32} (kt : y0 = 0 → Ev d mX10_runs 31 [some (vR 10 0), some (vI x1), some (vI x2)] [vI y1] S Q) (kf : ¬ y0 = 0 → Ev d mX10_runs 27 [some (vR 10 0), some (vI x1), some (vI x2)] [vI y1] S Q) : Ev d mX10_runs 24 [some (vR 10 0), some (vI x1), some (vI x2)] [vI y0, vI y1] S Q := by
  exact Ev.if_eq (tgt := 31) dX10_runs_24 (by decide) kt kf
theorem bkX10_runs_27 {d : Nat} {S : hs_T} {Q : Option av_T → hs_T → Prop} {x1 x2 y0 : Int32} (kn : Ev d mX10_runs 32 [some (vR 10 0), some (vI x1), some (vI x2)] [vI 1, vI y0] S Q) : Ev d mX10_runs 27 [some (vR 10 0), some (vI x1), some (vI x2)] [vI y0] S Q := by
  refine Ev.iconst (v := 1) dX10_runs_27 (by decide) ?_
  refine Ev.goto (tgt := 32) dX10_runs_28 (by decide) ?_
  exact kn
theorem bkX10_runs_31 {d : Nat} {S : hs_T} {Q : Option av_T → hs_T → Prop} {x1 x2 y0 : Int32} (kn : Ev d mX10_runs 32 [some (vR 10 0), some (vI x1), some (vI x2)] [vI 0, vI y0] S Q) : Ev d mX10_runs 31 [some (vR 10 0), some (vI x1), some (vI x2)] [vI y0] S Q := by
  refine Ev.iconst (v := 0) dX10_runs_31 (by decide) ?_
  exact kn
theorem bkX10_runs_32 {d : Nat} {S : hs_T} {Q : Option av_T → hs_T → Prop} {x1 x2 y0 y1 : Int32} (kn : Ev d mX10_runs 4 [some (vR 10 0), some (vI (y1 + y0)), some (vI (x2 + 1))] [] S Q) : Ev d mX10_runs 32 [some (vR 10 0), some (vI x1), some (vI x2)] [vI y0, vI y1] S Q := by
  refine Ev.iadd dX10_runs_32 ?_
  refine Ev.istore_n (ls' := [some (vR 10 0), some (vI (y1 + y0)), some (vI x2)]) dX10_runs_33 rfl (by decide) rfl ?_
  refine Ev.iinc (v := (x2 + 1)) (ls' := [some (vR 10 0), some (vI (y1 + y0)), some (vI (x2 + 1))]) dX10_runs_34 rfl rfl (by decide) rfl ?_
  refine Ev.goto (tgt := 4) dX10_runs_37 (by decide) ?_
  exact kn
theorem bkX10_runs_40 {d : Nat} {S : hs_T} {Q : Option av_T → hs_T → Prop} {x1 x2 : Int32} (hq : Q (some (vI x1)) S) : Ev d mX10_runs 40 [some (vR 10 0), some (vI x1), some (vI x2)] [] S Q := by
  refine Ev.iload_n dX10_runs_40 rfl rfl ?_
  exact Ev.iret dX10_runs_41 rfl rfl hq
/-! EightWires.fills(II)I -/
theorem bkX10_fills_0 {d : Nat} {S : hs_T} {Q : Option av_T → hs_T → Prop} {P : Int32 → hs_T → Prop} {x1 x2 : Int32} {o3 o4 : Option av_T} (hC : Ci d mX10_within [vI x1, vI 1, vI 400] S P) (kk : ∀ v S', P v S' → Ev (d + 1) mX10_fills 8 [some (vR 10 0), some (vI x1), some (vI x2), o3, o4] [vI v] S' Q) : Ev (d + 1) mX10_fills 0 [some (vR 10 0), some (vI x1), some (vI x2), o3, o4] [] S Q := by
  refine Ev.iload_n dX10_fills_0 rfl rfl ?_
  refine Ev.iconst (v := 1) dX10_fills_1 (by decide) ?_
  refine Ev.sipush (v := 400) dX10_fills_2 (by decide) ?_
  exact Ev.callS (as := [vI x1, vI 1, vI 400]) (rest := []) okX10_within stX10_within ml_X10_93 rfl (Nat.le_of_ble_eq_true rfl) rfl dX10_fills_5 hC (fun r S' h => by obtain ⟨v, rfl, h⟩ := h; exact kk v S' h)
theorem bkX10_fills_8 {d : Nat} {S : hs_T} {Q : Option av_T → hs_T → Prop} {x1 x2 y0 : Int32} {o3 o4 : Option av_T} (kt : y0 = 0 → Ev d mX10_fills 22 [some (vR 10 0), some (vI x1), some (vI x2), o3, o4] [] S Q) (kf : ¬ y0 = 0 → Ev d mX10_fills 11 [some (vR 10 0), some (vI x1), some (vI x2), o3, o4] [] S Q) : Ev d mX10_fills 8 [some (vR 10 0), some (vI x1), some (vI x2), o3, o4] [vI y0] S Q := by
  exact Ev.if_eq (tgt := 22) dX10_fills_8 (by decide) kt kf
theorem bkX10_fills_11 {d : Nat} {S : hs_T} {Q : Option av_T → hs_T → Prop} {P : Int32 → hs_T → Prop} {x1 x2 : Int32} {o3 o4 : Option av_T} (hC : Ci d mX8_has [vR 8 0, vI x2] S P) (kk : ∀ v S', P v S' → Ev (d + 1) mX10_fills 19 [some (vR 10 0), some (vI x1), some (vI x2), o3, o4] [vI v] S' Q) : Ev (d + 1) mX10_fills 11 [some (vR 10 0), some (vI x1), some (vI x2), o3, o4] [] S Q := by
  refine Ev.aload_n dX10_fills_11 rfl rfl ?_
  refine Ev.get (v := vR 8 0) okX10 (by decide) fl_X10_19 pz_10_0 (ff_10_1 _ _) dX10_fills_12 ?_
  refine Ev.iload_n dX10_fills_15 rfl rfl ?_
  exact Ev.callV (as := [vI x2]) (rest := []) okX8_has in_X8_has ml_X10_159 rfl (Nat.le_of_ble_eq_true rfl) pz_8_0 (by decide) rfl rfl dX10_fills_16 hC (fun r S' h => by obtain ⟨v, rfl, h⟩ := h; exact kk v S' h)
theorem bkX10_fills_19 {d : Nat} {S : hs_T} {Q : Option av_T → hs_T → Prop} {x1 x2 y0 : Int32} {o3 o4 : Option av_T} (kt : ¬ y0 = 0 → Ev d mX10_fills 24 [some (vR 10 0), some (vI x1), some (vI x2), o3, o4] [] S Q) (kf : y0 = 0 → Ev d mX10_fills 22 [some (vR 10 0), some (vI x1), some (vI x2), o3, o4] [] S Q) : Ev d mX10_fills 19 [some (vR 10 0), some (vI x1), some (vI x2), o3, o4] [vI y0] S Q := by
  exact Ev.if_ne (tgt := 24) dX10_fills_19 (by decide) kt kf
theorem bkX10_fills_22 {d : Nat} {S : hs_T} {Q : Option av_T → hs_T → Prop} {x1 x2 : Int32} {o3 o4 : Option av_T} (hq : Q (some (vI (-1))) S) : Ev d mX10_fills 22 [some (vR 10 0), some (vI x1), some (vI x2), o3, o4] [] S Q := by
  refine Ev.iconst (v := (-1)) dX10_fills_22 (by decide) ?_
  exact Ev.iret dX10_fills_23 rfl rfl hq
theorem bkX10_fills_24 {d : Nat} {S : hs_T} {Q : Option av_T → hs_T → Prop} {x1 x2 : Int32} {o3 o4 : Option av_T} (kn : Ev d mX10_fills 31 [some (vR 10 0), some (vI x1), some (vI x2), some (vI 1), some (vI (x2 + 1))] [] S Q) : Ev d mX10_fills 24 [some (vR 10 0), some (vI x1), some (vI x2), o3, o4] [] S Q := by
  refine Ev.iconst (v := 1) dX10_fills_24 (by decide) ?_
  refine Ev.istore_n (ls' := [some (vR 10 0), some (vI x1), some (vI x2), some (vI 1), o4]) dX10_fills_25 rfl (by decide) rfl ?_
  refine Ev.iload_n dX10_fills_26 rfl rfl ?_
  refine Ev.iconst (v := 1) dX10_fills_27 (by decide) ?_
  refine Ev.iadd dX10_fills_28 ?_
  refine Ev.istore (ls' := [some (vR 10 0), some (vI x1), some (vI x2), some (vI 1), some (vI (x2 + 1))]) dX10_fills_29 (by decide) rfl ?_
  exact kn
theorem bkX10_fills_31 {d : Nat} {S : hs_T} {Q : Option av_T → hs_T → Prop} {x1 x2 x3 x4 : Int32} (kt : (S.1 8 0 1) ≤ x4 → Ev d mX10_fills 79 [some (vR 10 0), some (vI x1), some (vI x2), some (vI x3), some (vI x4)] [] S Q) (kf : ¬ (S.1 8 0 1) ≤ x4 → Ev d mX10_fills 43 [some (vR 10 0), some (vI x1), some (vI x2), some (vI x3), some (vI x4)] [] S Q) : Ev d mX10_fills 31 [some (vR 10 0), some (vI x1), some (vI x2), some (vI x3), some (vI x4)] [] S Q := by
  refine Ev.iload dX10_fills_31 rfl ?_
  refine Ev.aload_n dX10_fills_33 rfl rfl ?_
  refine Ev.get (v := vR 8 0) okX10 (by decide) fl_X10_19 pz_10_0 (ff_10_1 _ _) dX10_fills_34 ?_
  refine Ev.get (v := vI (S.1 8 0 1)) okX8 (by decide) fl_X10_151 pz_8_0 (ff_8_1 _ _) dX10_fills_37 ?_
  exact Ev.icmp_ge (tgt := 79) dX10_fills_40 (by decide) kt kf
theorem bkX10_fills_43 {d : Nat} {S : hs_T} {Q : Option av_T → hs_T → Prop} {P : Int32 → hs_T → Prop} {x1 x2 x3 x4 : Int32} (hC : Ci d mX8_beginsRun [vR 8 0, vI x4] S P) (kk : ∀ v S', P v S' → Ev (d + 1) mX10_fills 53 [some (vR 10 0), some (vI x1), some (vI x2), some (vI x3), some (vI x4)] [vI v, vI x3] S' Q) : Ev (d + 1) mX10_fills 43 [some (vR 10 0), some (vI x1), some (vI x2), some (vI x3), some (vI x4)] [] S Q := by
  refine Ev.iload_n dX10_fills_43 rfl rfl ?_
  refine Ev.aload_n dX10_fills_44 rfl rfl ?_
  refine Ev.get (v := vR 8 0) okX10 (by decide) fl_X10_19 pz_10_0 (ff_10_1 _ _) dX10_fills_45 ?_
  refine Ev.iload dX10_fills_48 rfl ?_
  exact Ev.callV (as := [vI x4]) (rest := [vI x3]) okX8_beginsRun in_X8_beginsRun ml_X10_289 rfl (Nat.le_of_ble_eq_true rfl) pz_8_0 (by decide) rfl rfl dX10_fills_50 hC (fun r S' h => by obtain ⟨v, rfl, h⟩ := h; exact kk v S' h)
theorem bkX10_fills_53 {d : Nat} {S : hs_T} {Q : Option av_T → hs_T → Prop} {x1 x2 x3 x4 y0 y1 : Int32} (kt : y0 = 0 → Ev d mX10_fills 60 [some (vR 10 0), some (vI x1), some (vI x2), some (vI x3), some (vI x4)] [vI y1] S Q) (kf : ¬ y0 = 0 → Ev d mX10_fills 56 [some (vR 10 0), some (vI x1), some (vI x2), some (vI x3), some (vI x4)] [vI y1] S Q) : Ev d mX10_fills 53 [some (vR 10 0), some (vI x1), some (vI x2), some (vI x3), some (vI x4)] [vI y0, vI y1] S Q := by
  exact Ev.if_eq (tgt := 60) dX10_fills_53 (by decide) kt kf
theorem bkX10_fills_56 {d : Nat} {S : hs_T} {Q : Option av_T → hs_T → Prop} {x1 x2 x3 x4 y0 : Int32} (kn : Ev d mX10_fills 61 [some (vR 10 0), some (vI x1), some (vI x2), some (vI x3), some (vI x4)] [vI 1, vI y0] S Q) : Ev d mX10_fills 56 [some (vR 10 0), some (vI x1), some (vI x2), some (vI x3), some (vI x4)] [vI y0] S Q := by
  refine Ev.iconst (v := 1) dX10_fills_56 (by decide) ?_
  refine Ev.goto (tgt := 61) dX10_fills_57 (by decide) ?_
  exact kn
theorem bkX10_fills_60 {d : Nat} {S : hs_T} {Q : Option av_T → hs_T → Prop} {x1 x2 x3 x4 y0 : Int32} (kn : Ev d mX10_fills 61 [some (vR 10 0), some (vI x1), some (vI x2), some (vI x3), some (vI x4)] [vI 0, vI y0] S Q) : Ev d mX10_fills 60 [some (vR 10 0), some (vI x1), some (vI x2), some (vI x3), some (vI x4)] [vI y0] S Q := by
  refine Ev.iconst (v := 0) dX10_fills_60 (by decide) ?_
  exact kn
theorem bkX10_fills_61 {d : Nat} {S : hs_T} {Q : Option av_T → hs_T → Prop} {x1 x2 x3 x4 y0 y1 : Int32} (kt : (y1 + y0) ≤ x1 → Ev d mX10_fills 73 [some (vR 10 0), some (vI x1), some (vI x2), some (vI (y1 + y0)), some (vI x4)] [] S Q) (kf : ¬ (y1 + y0) ≤ x1 → Ev d mX10_fills 68 [some (vR 10 0), some (vI x1), some (vI x2), some (vI (y1 + y0)), some (vI x4)] [] S Q) : Ev d mX10_fills 61 [some (vR 10 0), some (vI x1), some (vI x2), some (vI x3), some (vI x4)] [vI y0, vI y1] S Q := by
  refine Ev.iadd dX10_fills_61 ?_
  refine Ev.istore_n (ls' := [some (vR 10 0), some (vI x1), some (vI x2), some (vI (y1 + y0)), some (vI x4)]) dX10_fills_62 rfl (by decide) rfl ?_
  refine Ev.iload_n dX10_fills_63 rfl rfl ?_
  refine Ev.iload_n dX10_fills_64 rfl rfl ?_
  exact Ev.icmp_le (tgt := 73) dX10_fills_65 (by decide) kt kf
theorem bkX10_fills_68 {d : Nat} {S : hs_T} {Q : Option av_T → hs_T → Prop} {x1 x2 x3 x4 : Int32} (hq : Q (some (vI (x4 - x2))) S) : Ev d mX10_fills 68 [some (vR 10 0), some (vI x1), some (vI x2), some (vI x3), some (vI x4)] [] S Q := by
  refine Ev.iload dX10_fills_68 rfl ?_
  refine Ev.iload_n dX10_fills_70 rfl rfl ?_
  refine Ev.isub dX10_fills_71 ?_
  exact Ev.iret dX10_fills_72 rfl rfl hq
theorem bkX10_fills_73 {d : Nat} {S : hs_T} {Q : Option av_T → hs_T → Prop} {x1 x2 x3 x4 : Int32} (kn : Ev d mX10_fills 31 [some (vR 10 0), some (vI x1), some (vI x2), some (vI x3), some (vI (x4 + 1))] [] S Q) : Ev d mX10_fills 73 [some (vR 10 0), some (vI x1), some (vI x2), some (vI x3), some (vI x4)] [] S Q := by
  refine Ev.iinc (v := (x4 + 1)) (ls' := [some (vR 10 0), some (vI x1), some (vI x2), some (vI x3), some (vI (x4 + 1))]) dX10_fills_73 rfl rfl (by decide) rfl ?_
  refine Ev.goto (tgt := 31) dX10_fills_76 (by decide) ?_
  exact kn
theorem bkX10_fills_79 {d : Nat} {S : hs_T} {Q : Option av_T → hs_T → Prop} {x1 x2 x3 x4 : Int32} (hq : Q (some (vI ((S.1 8 0 1) - x2))) S) : Ev d mX10_fills 79 [some (vR 10 0), some (vI x1), some (vI x2), some (vI x3), some (vI x4)] [] S Q := by
  refine Ev.aload_n dX10_fills_79 rfl rfl ?_
  refine Ev.get (v := vR 8 0) okX10 (by decide) fl_X10_19 pz_10_0 (ff_10_1 _ _) dX10_fills_80 ?_
  refine Ev.get (v := vI (S.1 8 0 1)) okX8 (by decide) fl_X10_151 pz_8_0 (ff_8_1 _ _) dX10_fills_83 ?_
  refine Ev.iload_n dX10_fills_86 rfl rfl ?_
  refine Ev.isub dX10_fills_87 ?_
  exact Ev.iret dX10_fills_88 rfl rfl hq
/-! EightWires.values(I)I -/
theorem bkX10_values_0 {d : Nat} {S : hs_T} {Q : Option av_T → hs_T → Prop} {P : Int32 → hs_T → Prop} {x1 : Int32} (hC : Ci d mX10_within [vI x1, vI 0, vI 3] S P) (kk : ∀ v S', P v S' → Ev (d + 1) mX10_values 6 [some (vR 10 0), some (vI x1)] [vI v] S' Q) : Ev (d + 1) mX10_values 0 [some (vR 10 0), some (vI x1)] [] S Q := by
  refine Ev.iload_n dX10_values_0 rfl rfl ?_
  refine Ev.iconst (v := 0) dX10_values_1 (by decide) ?_
  refine Ev.iconst (v := 3) dX10_values_2 (by decide) ?_
  exact Ev.callS (as := [vI x1, vI 0, vI 3]) (rest := []) okX10_within stX10_within ml_X10_93 rfl (Nat.le_of_ble_eq_true rfl) rfl dX10_values_3 hC (fun r S' h => by obtain ⟨v, rfl, h⟩ := h; exact kk v S' h)
theorem bkX10_values_6 {d : Nat} {S : hs_T} {Q : Option av_T → hs_T → Prop} {x1 y0 : Int32} (kt : ¬ y0 = 0 → Ev d mX10_values 11 [some (vR 10 0), some (vI x1)] [] S Q) (kf : y0 = 0 → Ev d mX10_values 9 [some (vR 10 0), some (vI x1)] [] S Q) : Ev d mX10_values 6 [some (vR 10 0), some (vI x1)] [vI y0] S Q := by
  exact Ev.if_ne (tgt := 11) dX10_values_6 (by decide) kt kf
theorem bkX10_values_9 {d : Nat} {S : hs_T} {Q : Option av_T → hs_T → Prop} {x1 : Int32} (hq : Q (some (vI (-1))) S) : Ev d mX10_values 9 [some (vR 10 0), some (vI x1)] [] S Q := by
  refine Ev.iconst (v := (-1)) dX10_values_9 (by decide) ?_
  exact Ev.iret dX10_values_10 rfl rfl hq
theorem bkX10_values_11 {d : Nat} {S : hs_T} {Q : Option av_T → hs_T → Prop} {x1 : Int32} (kt : ¬ x1 = 1 → Ev d mX10_values 28 [some (vR 10 0), some (vI x1)] [] S Q) (kf : x1 = 1 → Ev d mX10_values 16 [some (vR 10 0), some (vI x1)] [] S Q) : Ev d mX10_values 11 [some (vR 10 0), some (vI x1)] [] S Q := by
  refine Ev.iload_n dX10_values_11 rfl rfl ?_
  refine Ev.iconst (v := 1) dX10_values_12 (by decide) ?_
  exact Ev.icmp_ne (tgt := 28) dX10_values_13 (by decide) kt kf
theorem bkX10_values_16 {d : Nat} {S : hs_T} {Q : Option av_T → hs_T → Prop} {P : Int32 → hs_T → Prop} {x1 : Int32} (hC : Ci d mX1_unlikePairs [vR 1 0, vR 8 0] S P) (kk : ∀ v S', P v S' → Ev (d + 1) mX10_values 27 [some (vR 10 0), some (vI x1)] [vI v] S' Q) : Ev (d + 1) mX10_values 16 [some (vR 10 0), some (vI x1)] [] S Q := by
  refine Ev.aload_n dX10_values_16 rfl rfl ?_
  refine Ev.get (v := vR 1 0) okX10 (by decide) fl_X10_68 pz_10_0 (ff_10_9 _ _) dX10_values_17 ?_
  refine Ev.aload_n dX10_values_20 rfl rfl ?_
  refine Ev.get (v := vR 8 0) okX10 (by decide) fl_X10_19 pz_10_0 (ff_10_1 _ _) dX10_values_21 ?_
  exact Ev.callV (as := [vR 8 0]) (rest := []) okX1_unlikePairs in_X1_unlikePairs ml_X10_292 rfl (Nat.le_of_ble_eq_true rfl) pz_1_0 (by decide) rfl rfl dX10_values_24 hC (fun r S' h => by obtain ⟨v, rfl, h⟩ := h; exact kk v S' h)
theorem bkX10_values_27 {d : Nat} {S : hs_T} {Q : Option av_T → hs_T → Prop} {x1 y0 : Int32} (hq : Q (some (vI y0)) S) : Ev d mX10_values 27 [some (vR 10 0), some (vI x1)] [vI y0] S Q := by
  exact Ev.iret dX10_values_27 rfl rfl hq
theorem bkX10_values_28 {d : Nat} {S : hs_T} {Q : Option av_T → hs_T → Prop} {P : hs_T → Prop} {x1 : Int32} (hC : Cv d mX1_tally [vR 1 0, vR 8 0] S P) (kk : ∀ S', P S' → Ev (d + 1) mX10_values 39 [some (vR 10 0), some (vI x1)] [] S' Q) : Ev (d + 1) mX10_values 28 [some (vR 10 0), some (vI x1)] [] S Q := by
  refine Ev.aload_n dX10_values_28 rfl rfl ?_
  refine Ev.get (v := vR 1 0) okX10 (by decide) fl_X10_68 pz_10_0 (ff_10_9 _ _) dX10_values_29 ?_
  refine Ev.aload_n dX10_values_32 rfl rfl ?_
  refine Ev.get (v := vR 8 0) okX10 (by decide) fl_X10_19 pz_10_0 (ff_10_1 _ _) dX10_values_33 ?_
  exact Ev.callV (as := [vR 8 0]) (rest := []) okX1_tally in_X1_tally ml_X10_296 rfl (Nat.le_of_ble_eq_true rfl) pz_1_0 (by decide) rfl rfl dX10_values_36 hC (fun r S' h => by obtain ⟨rfl, h⟩ := h; exact kk S' h)
theorem bkX10_values_39 {d : Nat} {S : hs_T} {Q : Option av_T → hs_T → Prop} {x1 : Int32} (k0 : x1 = 0 → Ev d mX10_values 68 [some (vR 10 0), some (vI x1)] [] S Q) (k1 : x1 = 2 → Ev d mX10_values 76 [some (vR 10 0), some (vI x1)] [] S Q) (kd : ¬ x1 = 0 → ¬ x1 = 2 → Ev d mX10_values 84 [some (vR 10 0), some (vI x1)] [] S Q) : Ev d mX10_values 39 [some (vR 10 0), some (vI x1)] [] S Q := by
  refine Ev.iload_n dX10_values_39 rfl rfl ?_
  by_cases hc0 : x1 = 0
  · exact Ev.lookup (off := 28) (tgt := 68) dX10_values_40 (by decide) (by rw [hc0]; decide) (by decide) (k0 hc0)
  by_cases hc1 : x1 = 2
  · exact Ev.lookup (off := 36) (tgt := 76) dX10_values_40 (by decide) (by rw [hc1]; decide) (by decide) (k1 hc1)
  refine Ev.lookup (off := 44) (tgt := 84) dX10_values_40 (by decide) ?_ (by decide) (kd hc0 hc1)
  show Op.lookupswitch.offset [(0, 28), (2, 36)] 44 x1.toInt = 44
  rw [lv_osw hc0 (by decide), lv_osw hc1 (by decide)]
  rfl
theorem bkX10_values_68 {d : Nat} {S : hs_T} {Q : Option av_T → hs_T → Prop} {x1 : Int32} (hq : Q (some (vI (S.1 1 0 2))) S) : Ev d mX10_values 68 [some (vR 10 0), some (vI x1)] [] S Q := by
  refine Ev.aload_n dX10_values_68 rfl rfl ?_
  refine Ev.get (v := vR 1 0) okX10 (by decide) fl_X10_68 pz_10_0 (ff_10_9 _ _) dX10_values_69 ?_
  refine Ev.get (v := vI (S.1 1 0 2)) okX1 (by decide) fl_X10_299 pz_1_0 (ff_1_2 _ _) dX10_values_72 ?_
  exact Ev.iret dX10_values_75 rfl rfl hq
theorem bkX10_values_76 {d : Nat} {S : hs_T} {Q : Option av_T → hs_T → Prop} {x1 : Int32} (hq : Q (some (vI (S.1 1 0 3))) S) : Ev d mX10_values 76 [some (vR 10 0), some (vI x1)] [] S Q := by
  refine Ev.aload_n dX10_values_76 rfl rfl ?_
  refine Ev.get (v := vR 1 0) okX10 (by decide) fl_X10_68 pz_10_0 (ff_10_9 _ _) dX10_values_77 ?_
  refine Ev.get (v := vI (S.1 1 0 3)) okX1 (by decide) fl_X10_302 pz_1_0 (ff_1_3 _ _) dX10_values_80 ?_
  exact Ev.iret dX10_values_83 rfl rfl hq
theorem bkX10_values_84 {d : Nat} {S : hs_T} {Q : Option av_T → hs_T → Prop} {x1 : Int32} (hq : Q (some (vI (S.1 1 0 4))) S) : Ev d mX10_values 84 [some (vR 10 0), some (vI x1)] [] S Q := by
  refine Ev.aload_n dX10_values_84 rfl rfl ?_
  refine Ev.get (v := vR 1 0) okX10 (by decide) fl_X10_68 pz_10_0 (ff_10_9 _ _) dX10_values_85 ?_
  refine Ev.get (v := vI (S.1 1 0 4)) okX1 (by decide) fl_X10_305 pz_1_0 (ff_1_4 _ _) dX10_values_88 ?_
  exact Ev.iret dX10_values_91 rfl rfl hq
/-! EightWires.keep(I)I -/
theorem bkX10_keep_0 {d : Nat} {S : hs_T} {Q : Option av_T → hs_T → Prop} {P : Option (Nat × Nat) → hs_T → Prop} {x1 : Int32} {o2 o3 : Option av_T} (hC : Cr d mX10_imageOf [vR 10 0, vI x1] S P) (kk : ∀ v S', P v S' → Ev (d + 1) mX10_keep 5 [some (vR 10 0), some (vI x1), o2, o3] [Sum.inr (Sum.inr v)] S' Q) : Ev (d + 1) mX10_keep 0 [some (vR 10 0), some (vI x1), o2, o3] [] S Q := by
  refine Ev.aload_n dX10_keep_0 rfl rfl ?_
  refine Ev.iload_n dX10_keep_1 rfl rfl ?_
  exact Ev.callV (as := [vI x1]) (rest := []) okX10_imageOf in_X10_imageOf ml_X10_308 rfl (Nat.le_of_ble_eq_true rfl) pz_10_0 (by decide) rfl rfl dX10_keep_2 hC (fun r S' h => by obtain ⟨v, rfl, h⟩ := h; exact kk v S' h)
theorem bkX10_keep_5_r {d : Nat} {S : hs_T} {Q : Option av_T → hs_T → Prop} {x1 : Int32} {i0 : Nat} {o2 o3 : Option av_T} (kn : Ev d mX10_keep 12 [some (vR 10 0), some (vI x1), some (vR 8 i0), o3] [] S Q) : Ev d mX10_keep 5 [some (vR 10 0), some (vI x1), o2, o3] [vR 8 i0] S Q := by
  refine Ev.astore_n (ls' := [some (vR 10 0), some (vI x1), some (vR 8 i0), o3]) dX10_keep_5 rfl (by decide) rfl ?_
  refine Ev.aload_n dX10_keep_6 rfl rfl ?_
  refine Ev.ifnonnull (tgt := 12) dX10_keep_7 (by decide) ?_
  exact kn
theorem bkX10_keep_5_n {d : Nat} {S : hs_T} {Q : Option av_T → hs_T → Prop} {x1 : Int32} {o2 o3 : Option av_T} (kn : Ev d mX10_keep 10 [some (vR 10 0), some (vI x1), some (vN), o3] [] S Q) : Ev d mX10_keep 5 [some (vR 10 0), some (vI x1), o2, o3] [vN] S Q := by
  refine Ev.astore_nN (ls' := [some (vR 10 0), some (vI x1), some (vN), o3]) dX10_keep_5 rfl (by decide) rfl ?_
  refine Ev.aload_nN dX10_keep_6 rfl rfl ?_
  refine Ev.ifnonnullN dX10_keep_7 ?_
  exact kn
theorem bkX10_keep_10 {d : Nat} {S : hs_T} {Q : Option av_T → hs_T → Prop} {x1 : Int32} {o3 : Option av_T} (hq : Q (some (vI (-1))) S) : Ev d mX10_keep 10 [some (vR 10 0), some (vI x1), some (vN), o3] [] S Q := by
  refine Ev.iconst (v := (-1)) dX10_keep_10 (by decide) ?_
  exact Ev.iret dX10_keep_11 rfl rfl hq
theorem bkX10_keep_12 {d : Nat} {S : hs_T} {Q : Option av_T → hs_T → Prop} {x1 : Int32} {j2 : Nat} {o3 : Option av_T} (hjj2 : j2 < 4) (kt : (S.1 8 j2 2) = 0 → Ev d mX10_keep 26 [some (vR 10 0), some (vI x1), some (vR 8 j2), o3] [] S Q) (kf : ¬ (S.1 8 j2 2) = 0 → Ev d mX10_keep 19 [some (vR 10 0), some (vI x1), some (vR 8 j2), o3] [] S Q) : Ev d mX10_keep 12 [some (vR 10 0), some (vI x1), some (vR 8 j2), o3] [] S Q := by
  refine Ev.aload_n dX10_keep_12 rfl rfl ?_
  refine Ev.get (v := vI (S.1 8 j2 2)) okX8 (by decide) fl_X10_312 (pl8 hjj2) (ff_8_2 _ _) dX10_keep_13 ?_
  exact Ev.if_eq (tgt := 26) dX10_keep_16 (by decide) kt kf
theorem bkX10_keep_19 {d : Nat} {S : hs_T} {Q : Option av_T → hs_T → Prop} {x1 : Int32} {j2 : Nat} {o3 : Option av_T} (hjj2 : j2 < 4) (kn : Ev d mX10_keep 28 [some (vR 10 0), some (vI x1), some (vR 8 j2), o3] [vI (S.1 8 j2 1)] S Q) : Ev d mX10_keep 19 [some (vR 10 0), some (vI x1), some (vR 8 j2), o3] [] S Q := by
  refine Ev.aload_n dX10_keep_19 rfl rfl ?_
  refine Ev.get (v := vI (S.1 8 j2 1)) okX8 (by decide) fl_X10_151 (pl8 hjj2) (ff_8_1 _ _) dX10_keep_20 ?_
  refine Ev.goto (tgt := 28) dX10_keep_23 (by decide) ?_
  exact kn
theorem bkX10_keep_26 {d : Nat} {S : hs_T} {Q : Option av_T → hs_T → Prop} {x1 : Int32} {j2 : Nat} {o3 : Option av_T} (kn : Ev d mX10_keep 28 [some (vR 10 0), some (vI x1), some (vR 8 j2), o3] [vI (-4)] S Q) : Ev d mX10_keep 26 [some (vR 10 0), some (vI x1), some (vR 8 j2), o3] [] S Q := by
  refine Ev.bipush (v := (-4)) dX10_keep_26 (by decide) ?_
  exact kn
theorem bkX10_keep_28 {d : Nat} {S : hs_T} {Q : Option av_T → hs_T → Prop} {P : hs_T → Prop} {x1 y0 : Int32} {j2 : Nat} {o3 : Option av_T} (hjj2 : j2 < 4) (hC : Cv d mX8_copy [vR 8 j2, vR 8 0] S P) (kk : ∀ S', P S' → Ev (d + 1) mX10_keep 37 [some (vR 10 0), some (vI x1), some (vR 8 j2), some (vI y0)] [] S' Q) : Ev (d + 1) mX10_keep 28 [some (vR 10 0), some (vI x1), some (vR 8 j2), o3] [vI y0] S Q := by
  refine Ev.istore_n (ls' := [some (vR 10 0), some (vI x1), some (vR 8 j2), some (vI y0)]) dX10_keep_28 rfl (by decide) rfl ?_
  refine Ev.aload_n dX10_keep_29 rfl rfl ?_
  refine Ev.aload_n dX10_keep_30 rfl rfl ?_
  refine Ev.get (v := vR 8 0) okX10 (by decide) fl_X10_19 pz_10_0 (ff_10_1 _ _) dX10_keep_31 ?_
  exact Ev.callV (as := [vR 8 0]) (rest := []) okX8_copy in_X8_copy ml_X10_239 rfl (Nat.le_of_ble_eq_true rfl) (pl8 hjj2) (by decide) rfl rfl dX10_keep_34 hC (fun r S' h => by obtain ⟨rfl, h⟩ := h; exact kk S' h)
theorem bkX10_keep_37 {d : Nat} {S : hs_T} {Q : Option av_T → hs_T → Prop} {x1 x3 : Int32} {j2 : Nat} (hjj2 : j2 < 4) (hq : Q (some (vI x3)) (sk_ S 8 j2 (upd (S.1 8 j2) 2 1))) : Ev d mX10_keep 37 [some (vR 10 0), some (vI x1), some (vR 8 j2), some (vI x3)] [] S Q := by
  refine Ev.aload_n dX10_keep_37 rfl rfl ?_
  refine Ev.iconst (v := 1) dX10_keep_38 (by decide) ?_
  refine Ev.put okX8 (by decide) fl_X10_312 (pl8 hjj2) (by decide) rfl (by decide) (by decide) rfl dX10_keep_39 ?_
  refine Ev.iload_n dX10_keep_42 rfl rfl ?_
  exact Ev.iret dX10_keep_43 rfl rfl hq
/-! EightWires.back(I)I -/
theorem bkX10_back_0 {d : Nat} {S : hs_T} {Q : Option av_T → hs_T → Prop} {P : Option (Nat × Nat) → hs_T → Prop} {x1 : Int32} {o2 : Option av_T} (hC : Cr d mX10_imageOf [vR 10 0, vI x1] S P) (kk : ∀ v S', P v S' → Ev (d + 1) mX10_back 5 [some (vR 10 0), some (vI x1), o2] [Sum.inr (Sum.inr v)] S' Q) : Ev (d + 1) mX10_back 0 [some (vR 10 0), some (vI x1), o2] [] S Q := by
  refine Ev.aload_n dX10_back_0 rfl rfl ?_
  refine Ev.iload_n dX10_back_1 rfl rfl ?_
  exact Ev.callV (as := [vI x1]) (rest := []) okX10_imageOf in_X10_imageOf ml_X10_308 rfl (Nat.le_of_ble_eq_true rfl) pz_10_0 (by decide) rfl rfl dX10_back_2 hC (fun r S' h => by obtain ⟨v, rfl, h⟩ := h; exact kk v S' h)
theorem bkX10_back_5_r {d : Nat} {S : hs_T} {Q : Option av_T → hs_T → Prop} {x1 : Int32} {i0 : Nat} {o2 : Option av_T} (kn : Ev d mX10_back 12 [some (vR 10 0), some (vI x1), some (vR 8 i0)] [] S Q) : Ev d mX10_back 5 [some (vR 10 0), some (vI x1), o2] [vR 8 i0] S Q := by
  refine Ev.astore_n (ls' := [some (vR 10 0), some (vI x1), some (vR 8 i0)]) dX10_back_5 rfl (by decide) rfl ?_
  refine Ev.aload_n dX10_back_6 rfl rfl ?_
  refine Ev.ifnonnull (tgt := 12) dX10_back_7 (by decide) ?_
  exact kn
theorem bkX10_back_5_n {d : Nat} {S : hs_T} {Q : Option av_T → hs_T → Prop} {x1 : Int32} {o2 : Option av_T} (kn : Ev d mX10_back 10 [some (vR 10 0), some (vI x1), some (vN)] [] S Q) : Ev d mX10_back 5 [some (vR 10 0), some (vI x1), o2] [vN] S Q := by
  refine Ev.astore_nN (ls' := [some (vR 10 0), some (vI x1), some (vN)]) dX10_back_5 rfl (by decide) rfl ?_
  refine Ev.aload_nN dX10_back_6 rfl rfl ?_
  refine Ev.ifnonnullN dX10_back_7 ?_
  exact kn
theorem bkX10_back_10 {d : Nat} {S : hs_T} {Q : Option av_T → hs_T → Prop} {x1 : Int32} (hq : Q (some (vI (-1))) S) : Ev d mX10_back 10 [some (vR 10 0), some (vI x1), some (vN)] [] S Q := by
  refine Ev.iconst (v := (-1)) dX10_back_10 (by decide) ?_
  exact Ev.iret dX10_back_11 rfl rfl hq
theorem bkX10_back_12 {d : Nat} {S : hs_T} {Q : Option av_T → hs_T → Prop} {x1 : Int32} {j2 : Nat} (hjj2 : j2 < 4) (kt : ¬ (S.1 8 j2 2) = 0 → Ev d mX10_back 22 [some (vR 10 0), some (vI x1), some (vR 8 j2)] [] S Q) (kf : (S.1 8 j2 2) = 0 → Ev d mX10_back 19 [some (vR 10 0), some (vI x1), some (vR 8 j2)] [] S Q) : Ev d mX10_back 12 [some (vR 10 0), some (vI x1), some (vR 8 j2)] [] S Q := by
  refine Ev.aload_n dX10_back_12 rfl rfl ?_
  refine Ev.get (v := vI (S.1 8 j2 2)) okX8 (by decide) fl_X10_312 (pl8 hjj2) (ff_8_2 _ _) dX10_back_13 ?_
  exact Ev.if_ne (tgt := 22) dX10_back_16 (by decide) kt kf
theorem bkX10_back_19 {d : Nat} {S : hs_T} {Q : Option av_T → hs_T → Prop} {x1 : Int32} {j2 : Nat} (hq : Q (some (vI (-2))) S) : Ev d mX10_back 19 [some (vR 10 0), some (vI x1), some (vR 8 j2)] [] S Q := by
  refine Ev.bipush (v := (-2)) dX10_back_19 (by decide) ?_
  exact Ev.iret dX10_back_21 rfl rfl hq
theorem bkX10_back_22 {d : Nat} {S : hs_T} {Q : Option av_T → hs_T → Prop} {P : hs_T → Prop} {x1 : Int32} {j2 : Nat} (hC : Cv d mX8_copy [vR 8 0, vR 8 j2] S P) (kk : ∀ S', P S' → Ev (d + 1) mX10_back 30 [some (vR 10 0), some (vI x1), some (vR 8 j2)] [] S' Q) : Ev (d + 1) mX10_back 22 [some (vR 10 0), some (vI x1), some (vR 8 j2)] [] S Q := by
  refine Ev.aload_n dX10_back_22 rfl rfl ?_
  refine Ev.get (v := vR 8 0) okX10 (by decide) fl_X10_19 pz_10_0 (ff_10_1 _ _) dX10_back_23 ?_
  refine Ev.aload_n dX10_back_26 rfl rfl ?_
  exact Ev.callV (as := [vR 8 j2]) (rest := []) okX8_copy in_X8_copy ml_X10_239 rfl (Nat.le_of_ble_eq_true rfl) pz_8_0 (by decide) rfl rfl dX10_back_27 hC (fun r S' h => by obtain ⟨rfl, h⟩ := h; exact kk S' h)
theorem bkX10_back_30 {d : Nat} {S : hs_T} {Q : Option av_T → hs_T → Prop} {x1 : Int32} {j2 : Nat} (hq : Q (some (vI (S.1 8 0 1))) S) : Ev d mX10_back 30 [some (vR 10 0), some (vI x1), some (vR 8 j2)] [] S Q := by
  refine Ev.aload_n dX10_back_30 rfl rfl ?_
  refine Ev.get (v := vR 8 0) okX10 (by decide) fl_X10_19 pz_10_0 (ff_10_1 _ _) dX10_back_31 ?_
  refine Ev.get (v := vI (S.1 8 0 1)) okX8 (by decide) fl_X10_151 pz_8_0 (ff_8_1 _ _) dX10_back_34 ?_
  exact Ev.iret dX10_back_37 rfl rfl hq
/-! EightWires.unlike(II)I -/
theorem bkX10_unlike_0 {d : Nat} {S : hs_T} {Q : Option av_T → hs_T → Prop} {P : Option (Nat × Nat) → hs_T → Prop} {x1 x2 : Int32} {o3 : Option av_T} (hC : Cr d mX10_imageOf [vR 10 0, vI x1] S P) (kk : ∀ v S', P v S' → Ev (d + 1) mX10_unlike 5 [some (vR 10 0), some (vI x1), some (vI x2), o3] [Sum.inr (Sum.inr v)] S' Q) : Ev (d + 1) mX10_unlike 0 [some (vR 10 0), some (vI x1), some (vI x2), o3] [] S Q := by
  refine Ev.aload_n dX10_unlike_0 rfl rfl ?_
  refine Ev.iload_n dX10_unlike_1 rfl rfl ?_
  exact Ev.callV (as := [vI x1]) (rest := []) okX10_imageOf in_X10_imageOf ml_X10_308 rfl (Nat.le_of_ble_eq_true rfl) pz_10_0 (by decide) rfl rfl dX10_unlike_2 hC (fun r S' h => by obtain ⟨v, rfl, h⟩ := h; exact kk v S' h)
theorem bkX10_unlike_5_r {d : Nat} {S : hs_T} {Q : Option av_T → hs_T → Prop} {x1 x2 : Int32} {i0 : Nat} {o3 : Option av_T} (kn : Ev d mX10_unlike 10 [some (vR 10 0), some (vI x1), some (vI x2), some (vR 8 i0)] [] S Q) : Ev d mX10_unlike 5 [some (vR 10 0), some (vI x1), some (vI x2), o3] [vR 8 i0] S Q := by
  refine Ev.astore_n (ls' := [some (vR 10 0), some (vI x1), some (vI x2), some (vR 8 i0)]) dX10_unlike_5 rfl (by decide) rfl ?_
  refine Ev.aload_n dX10_unlike_6 rfl rfl ?_
  refine Ev.ifnull dX10_unlike_7 ?_
  exact kn
theorem bkX10_unlike_5_n {d : Nat} {S : hs_T} {Q : Option av_T → hs_T → Prop} {x1 x2 : Int32} {o3 : Option av_T} (kn : Ev d mX10_unlike 23 [some (vR 10 0), some (vI x1), some (vI x2), some (vN)] [] S Q) : Ev d mX10_unlike 5 [some (vR 10 0), some (vI x1), some (vI x2), o3] [vN] S Q := by
  refine Ev.astore_nN (ls' := [some (vR 10 0), some (vI x1), some (vI x2), some (vN)]) dX10_unlike_5 rfl (by decide) rfl ?_
  refine Ev.aload_nN dX10_unlike_6 rfl rfl ?_
  refine Ev.ifnullN (tgt := 23) dX10_unlike_7 (by decide) ?_
  exact kn
theorem bkX10_unlike_10 {d : Nat} {S : hs_T} {Q : Option av_T → hs_T → Prop} {P : Int32 → hs_T → Prop} {x1 x2 : Int32} {j3 : Nat} (hC : Ci d mX10_within [vI x2, vI (-400), vI 400] S P) (kk : ∀ v S', P v S' → Ev (d + 1) mX10_unlike 20 [some (vR 10 0), some (vI x1), some (vI x2), some (vR 8 j3)] [vI v] S' Q) : Ev (d + 1) mX10_unlike 10 [some (vR 10 0), some (vI x1), some (vI x2), some (vR 8 j3)] [] S Q := by
  refine Ev.iload_n dX10_unlike_10 rfl rfl ?_
  refine Ev.sipush (v := (-400)) dX10_unlike_11 (by decide) ?_
  refine Ev.sipush (v := 400) dX10_unlike_14 (by decide) ?_
  exact Ev.callS (as := [vI x2, vI (-400), vI 400]) (rest := []) okX10_within stX10_within ml_X10_93 rfl (Nat.le_of_ble_eq_true rfl) rfl dX10_unlike_17 hC (fun r S' h => by obtain ⟨v, rfl, h⟩ := h; exact kk v S' h)
theorem bkX10_unlike_20 {d : Nat} {S : hs_T} {Q : Option av_T → hs_T → Prop} {x1 x2 y0 : Int32} {j3 : Nat} (kt : ¬ y0 = 0 → Ev d mX10_unlike 25 [some (vR 10 0), some (vI x1), some (vI x2), some (vR 8 j3)] [] S Q) (kf : y0 = 0 → Ev d mX10_unlike 23 [some (vR 10 0), some (vI x1), some (vI x2), some (vR 8 j3)] [] S Q) : Ev d mX10_unlike 20 [some (vR 10 0), some (vI x1), some (vI x2), some (vR 8 j3)] [vI y0] S Q := by
  exact Ev.if_ne (tgt := 25) dX10_unlike_20 (by decide) kt kf
theorem bkX10_unlike_23_r {d : Nat} {S : hs_T} {Q : Option av_T → hs_T → Prop} {x1 x2 : Int32} {j3 : Nat} (hq : Q (some (vI (-1))) S) : Ev d mX10_unlike 23 [some (vR 10 0), some (vI x1), some (vI x2), some (vR 8 j3)] [] S Q := by
  refine Ev.iconst (v := (-1)) dX10_unlike_23 (by decide) ?_
  exact Ev.iret dX10_unlike_24 rfl rfl hq
theorem bkX10_unlike_23_n {d : Nat} {S : hs_T} {Q : Option av_T → hs_T → Prop} {x1 x2 : Int32} (hq : Q (some (vI (-1))) S) : Ev d mX10_unlike 23 [some (vR 10 0), some (vI x1), some (vI x2), some (vN)] [] S Q := by
  refine Ev.iconst (v := (-1)) dX10_unlike_23 (by decide) ?_
  exact Ev.iret dX10_unlike_24 rfl rfl hq
theorem bkX10_unlike_25 {d : Nat} {S : hs_T} {Q : Option av_T → hs_T → Prop} {x1 x2 : Int32} {j3 : Nat} (hjj3 : j3 < 4) (kt : (S.1 8 j3 2) = 0 → Ev d mX10_unlike 44 [some (vR 10 0), some (vI x1), some (vI x2), some (vR 8 j3)] [] S Q) (kf : ¬ (S.1 8 j3 2) = 0 → Ev d mX10_unlike 32 [some (vR 10 0), some (vI x1), some (vI x2), some (vR 8 j3)] [] S Q) : Ev d mX10_unlike 25 [some (vR 10 0), some (vI x1), some (vI x2), some (vR 8 j3)] [] S Q := by
  refine Ev.aload_n dX10_unlike_25 rfl rfl ?_
  refine Ev.get (v := vI (S.1 8 j3 2)) okX8 (by decide) fl_X10_312 (pl8 hjj3) (ff_8_2 _ _) dX10_unlike_26 ?_
  exact Ev.if_eq (tgt := 44) dX10_unlike_29 (by decide) kt kf
theorem bkX10_unlike_32 {d : Nat} {S : hs_T} {Q : Option av_T → hs_T → Prop} {P : Int32 → hs_T → Prop} {x1 x2 : Int32} {j3 : Nat} (hC : Ci d mX8_unlikeLaid [vR 8 0, vR 8 j3, vI x2] S P) (kk : ∀ v S', P v S' → Ev (d + 1) mX10_unlike 41 [some (vR 10 0), some (vI x1), some (vI x2), some (vR 8 j3)] [vI v] S' Q) : Ev (d + 1) mX10_unlike 32 [some (vR 10 0), some (vI x1), some (vI x2), some (vR 8 j3)] [] S Q := by
  refine Ev.aload_n dX10_unlike_32 rfl rfl ?_
  refine Ev.get (v := vR 8 0) okX10 (by decide) fl_X10_19 pz_10_0 (ff_10_1 _ _) dX10_unlike_33 ?_
  refine Ev.aload_n dX10_unlike_36 rfl rfl ?_
  refine Ev.iload_n dX10_unlike_37 rfl rfl ?_
  exact Ev.callV (as := [vR 8 j3, vI x2]) (rest := []) okX8_unlikeLaid in_X8_unlikeLaid ml_X10_316 rfl (Nat.le_of_ble_eq_true rfl) pz_8_0 (by decide) rfl rfl dX10_unlike_38 hC (fun r S' h => by obtain ⟨v, rfl, h⟩ := h; exact kk v S' h)
theorem bkX10_unlike_41 {d : Nat} {S : hs_T} {Q : Option av_T → hs_T → Prop} {x1 x2 y0 : Int32} {j3 : Nat} (kn : Ev d mX10_unlike 46 [some (vR 10 0), some (vI x1), some (vI x2), some (vR 8 j3)] [vI y0] S Q) : Ev d mX10_unlike 41 [some (vR 10 0), some (vI x1), some (vI x2), some (vR 8 j3)] [vI y0] S Q := by
  refine Ev.goto (tgt := 46) dX10_unlike_41 (by decide) ?_
  exact kn
theorem bkX10_unlike_44 {d : Nat} {S : hs_T} {Q : Option av_T → hs_T → Prop} {x1 x2 : Int32} {j3 : Nat} (kn : Ev d mX10_unlike 46 [some (vR 10 0), some (vI x1), some (vI x2), some (vR 8 j3)] [vI (-2)] S Q) : Ev d mX10_unlike 44 [some (vR 10 0), some (vI x1), some (vI x2), some (vR 8 j3)] [] S Q := by
  refine Ev.bipush (v := (-2)) dX10_unlike_44 (by decide) ?_
  exact kn
theorem bkX10_unlike_46 {d : Nat} {S : hs_T} {Q : Option av_T → hs_T → Prop} {x1 x2 y0 : Int32} {j3 : Nat} (hq : Q (some (vI y0)) S) : Ev d mX10_unlike 46 [some (vR 10 0), some (vI x1), some (vI x2), some (vR 8 j3)] [vI y0] S Q := by
  exact Ev.iret dX10_unlike_46 rfl rfl hq
/-! EightWires.shift(II)I -/
theorem bkX10_shift_0 {d : Nat} {S : hs_T} {Q : Option av_T → hs_T → Prop} {P : Option (Nat × Nat) → hs_T → Prop} {x1 x2 : Int32} {o3 o4 o5 o6 o7 o8 : Option av_T} (hC : Cr d mX10_imageOf [vR 10 0, vI x1] S P) (kk : ∀ v S', P v S' → Ev (d + 1) mX10_shift 5 [some (vR 10 0), some (vI x1), some (vI x2), o3, o4, o5, o6, o7, o8] [Sum.inr (Sum.inr v)] S' Q) : Ev (d + 1) mX10_shift 0 [some (vR 10 0), some (vI x1), some (vI x2), o3, o4, o5, o6, o7, o8] [] S Q := by
  refine Ev.aload_n dX10_shift_0 rfl rfl ?_
  refine Ev.iload_n dX10_shift_1 rfl rfl ?_
  exact Ev.callV (as := [vI x1]) (rest := []) okX10_imageOf in_X10_imageOf ml_X10_308 rfl (Nat.le_of_ble_eq_true rfl) pz_10_0 (by decide) rfl rfl dX10_shift_2 hC (fun r S' h => by obtain ⟨v, rfl, h⟩ := h; exact kk v S' h)
theorem bkX10_shift_5_r {d : Nat} {S : hs_T} {Q : Option av_T → hs_T → Prop} {x1 x2 : Int32} {i0 : Nat} {o3 o4 o5 o6 o7 o8 : Option av_T} (kn : Ev d mX10_shift 10 [some (vR 10 0), some (vI x1), some (vI x2), some (vR 8 i0), o4, o5, o6, o7, o8] [] S Q) : Ev d mX10_shift 5 [some (vR 10 0), some (vI x1), some (vI x2), o3, o4, o5, o6, o7, o8] [vR 8 i0] S Q := by
  refine Ev.astore_n (ls' := [some (vR 10 0), some (vI x1), some (vI x2), some (vR 8 i0), o4, o5, o6, o7, o8]) dX10_shift_5 rfl (by decide) rfl ?_
  refine Ev.aload_n dX10_shift_6 rfl rfl ?_
  refine Ev.ifnull dX10_shift_7 ?_
  exact kn
theorem bkX10_shift_5_n {d : Nat} {S : hs_T} {Q : Option av_T → hs_T → Prop} {x1 x2 : Int32} {o3 o4 o5 o6 o7 o8 : Option av_T} (kn : Ev d mX10_shift 19 [some (vR 10 0), some (vI x1), some (vI x2), some (vN), o4, o5, o6, o7, o8] [] S Q) : Ev d mX10_shift 5 [some (vR 10 0), some (vI x1), some (vI x2), o3, o4, o5, o6, o7, o8] [vN] S Q := by
  refine Ev.astore_nN (ls' := [some (vR 10 0), some (vI x1), some (vI x2), some (vN), o4, o5, o6, o7, o8]) dX10_shift_5 rfl (by decide) rfl ?_
  refine Ev.aload_nN dX10_shift_6 rfl rfl ?_
  refine Ev.ifnullN (tgt := 19) dX10_shift_7 (by decide) ?_
  exact kn
theorem bkX10_shift_10 {d : Nat} {S : hs_T} {Q : Option av_T → hs_T → Prop} {P : Int32 → hs_T → Prop} {x1 x2 : Int32} {j3 : Nat} {o4 o5 o6 o7 o8 : Option av_T} (hC : Ci d mX10_within [vI x2, vI 0, vI 1] S P) (kk : ∀ v S', P v S' → Ev (d + 1) mX10_shift 16 [some (vR 10 0), some (vI x1), some (vI x2), some (vR 8 j3), o4, o5, o6, o7, o8] [vI v] S' Q) : Ev (d + 1) mX10_shift 10 [some (vR 10 0), some (vI x1), some (vI x2), some (vR 8 j3), o4, o5, o6, o7, o8] [] S Q := by
  refine Ev.iload_n dX10_shift_10 rfl rfl ?_
  refine Ev.iconst (v := 0) dX10_shift_11 (by decide) ?_
  refine Ev.iconst (v := 1) dX10_shift_12 (by decide) ?_
  exact Ev.callS (as := [vI x2, vI 0, vI 1]) (rest := []) okX10_within stX10_within ml_X10_93 rfl (Nat.le_of_ble_eq_true rfl) rfl dX10_shift_13 hC (fun r S' h => by obtain ⟨v, rfl, h⟩ := h; exact kk v S' h)
theorem bkX10_shift_16 {d : Nat} {S : hs_T} {Q : Option av_T → hs_T → Prop} {x1 x2 y0 : Int32} {j3 : Nat} {o4 o5 o6 o7 o8 : Option av_T} (kt : ¬ y0 = 0 → Ev d mX10_shift 21 [some (vR 10 0), some (vI x1), some (vI x2), some (vR 8 j3), o4, o5, o6, o7, o8] [] S Q) (kf : y0 = 0 → Ev d mX10_shift 19 [some (vR 10 0), some (vI x1), some (vI x2), some (vR 8 j3), o4, o5, o6, o7, o8] [] S Q) : Ev d mX10_shift 16 [some (vR 10 0), some (vI x1), some (vI x2), some (vR 8 j3), o4, o5, o6, o7, o8] [vI y0] S Q := by
  exact Ev.if_ne (tgt := 21) dX10_shift_16 (by decide) kt kf
theorem bkX10_shift_19_r {d : Nat} {S : hs_T} {Q : Option av_T → hs_T → Prop} {x1 x2 : Int32} {j3 : Nat} {o4 o5 o6 o7 o8 : Option av_T} (hq : Q (some (vI (-1))) S) : Ev d mX10_shift 19 [some (vR 10 0), some (vI x1), some (vI x2), some (vR 8 j3), o4, o5, o6, o7, o8] [] S Q := by
  refine Ev.iconst (v := (-1)) dX10_shift_19 (by decide) ?_
  exact Ev.iret dX10_shift_20 rfl rfl hq
theorem bkX10_shift_19_n {d : Nat} {S : hs_T} {Q : Option av_T → hs_T → Prop} {x1 x2 : Int32} {o4 o5 o6 o7 o8 : Option av_T} (hq : Q (some (vI (-1))) S) : Ev d mX10_shift 19 [some (vR 10 0), some (vI x1), some (vI x2), some (vN), o4, o5, o6, o7, o8] [] S Q := by
  refine Ev.iconst (v := (-1)) dX10_shift_19 (by decide) ?_
  exact Ev.iret dX10_shift_20 rfl rfl hq
theorem bkX10_shift_21 {d : Nat} {S : hs_T} {Q : Option av_T → hs_T → Prop} {x1 x2 : Int32} {j3 : Nat} {o4 o5 o6 o7 o8 : Option av_T} (hjj3 : j3 < 4) (kt : ¬ (S.1 8 j3 2) = 0 → Ev d mX10_shift 31 [some (vR 10 0), some (vI x1), some (vI x2), some (vR 8 j3), o4, o5, o6, o7, o8] [] S Q) (kf : (S.1 8 j3 2) = 0 → Ev d mX10_shift 28 [some (vR 10 0), some (vI x1), some (vI x2), some (vR 8 j3), o4, o5, o6, o7, o8] [] S Q) : Ev d mX10_shift 21 [some (vR 10 0), some (vI x1), some (vI x2), some (vR 8 j3), o4, o5, o6, o7, o8] [] S Q := by
  refine Ev.aload_n dX10_shift_21 rfl rfl ?_
  refine Ev.get (v := vI (S.1 8 j3 2)) okX8 (by decide) fl_X10_312 (pl8 hjj3) (ff_8_2 _ _) dX10_shift_22 ?_
  exact Ev.if_ne (tgt := 31) dX10_shift_25 (by decide) kt kf
theorem bkX10_shift_28 {d : Nat} {S : hs_T} {Q : Option av_T → hs_T → Prop} {x1 x2 : Int32} {j3 : Nat} {o4 o5 o6 o7 o8 : Option av_T} (hq : Q (some (vI (-2))) S) : Ev d mX10_shift 28 [some (vR 10 0), some (vI x1), some (vI x2), some (vR 8 j3), o4, o5, o6, o7, o8] [] S Q := by
  refine Ev.bipush (v := (-2)) dX10_shift_28 (by decide) ?_
  exact Ev.iret dX10_shift_30 rfl rfl hq
theorem bkX10_shift_31 {d : Nat} {S : hs_T} {Q : Option av_T → hs_T → Prop} {P : Int32 → hs_T → Prop} {x1 x2 : Int32} {j3 : Nat} {o4 o5 o6 o7 o8 : Option av_T} (hC : Ci d mX8_unlikeLaid [vR 8 0, vR 8 j3, vI 0] S P) (kk : ∀ v S', P v S' → Ev (d + 1) mX10_shift 43 [some (vR 10 0), some (vI x1), some (vI x2), some (vR 8 j3), some (vI 0), o5, o6, o7, o8] [vI v] S' Q) : Ev (d + 1) mX10_shift 31 [some (vR 10 0), some (vI x1), some (vI x2), some (vR 8 j3), o4, o5, o6, o7, o8] [] S Q := by
  refine Ev.iconst (v := 0) dX10_shift_31 (by decide) ?_
  refine Ev.istore (ls' := [some (vR 10 0), some (vI x1), some (vI x2), some (vR 8 j3), some (vI 0), o5, o6, o7, o8]) dX10_shift_32 (by decide) rfl ?_
  refine Ev.aload_n dX10_shift_34 rfl rfl ?_
  refine Ev.get (v := vR 8 0) okX10 (by decide) fl_X10_19 pz_10_0 (ff_10_1 _ _) dX10_shift_35 ?_
  refine Ev.aload_n dX10_shift_38 rfl rfl ?_
  refine Ev.iconst (v := 0) dX10_shift_39 (by decide) ?_
  exact Ev.callV (as := [vR 8 j3, vI 0]) (rest := []) okX8_unlikeLaid in_X8_unlikeLaid ml_X10_316 rfl (Nat.le_of_ble_eq_true rfl) pz_8_0 (by decide) rfl rfl dX10_shift_40 hC (fun r S' h => by obtain ⟨v, rfl, h⟩ := h; exact kk v S' h)
theorem bkX10_shift_43 {d : Nat} {S : hs_T} {Q : Option av_T → hs_T → Prop} {x1 x2 x4 y0 : Int32} {j3 : Nat} {o5 o6 o7 o8 : Option av_T} (kn : Ev d mX10_shift 48 [some (vR 10 0), some (vI x1), some (vI x2), some (vR 8 j3), some (vI x4), some (vI y0), some (vI 1), o7, o8] [] S Q) : Ev d mX10_shift 43 [some (vR 10 0), some (vI x1), some (vI x2), some (vR 8 j3), some (vI x4), o5, o6, o7, o8] [vI y0] S Q := by
  refine Ev.istore (ls' := [some (vR 10 0), some (vI x1), some (vI x2), some (vR 8 j3), some (vI x4), some (vI y0), o6, o7, o8]) dX10_shift_43 (by decide) rfl ?_
  refine Ev.iconst (v := 1) dX10_shift_45 (by decide) ?_
  refine Ev.istore (ls' := [some (vR 10 0), some (vI x1), some (vI x2), some (vR 8 j3), some (vI x4), some (vI y0), some (vI 1), o7, o8]) dX10_shift_46 (by decide) rfl ?_
  exact kn
theorem bkX10_shift_48 {d : Nat} {S : hs_T} {Q : Option av_T → hs_T → Prop} {x1 x2 x4 x5 x6 : Int32} {j3 : Nat} {o7 o8 : Option av_T} (kt : 40 < x6 → Ev d mX10_shift 117 [some (vR 10 0), some (vI x1), some (vI x2), some (vR 8 j3), some (vI x4), some (vI x5), some (vI x6), o7, o8] [] S Q) (kf : ¬ 40 < x6 → Ev d mX10_shift 55 [some (vR 10 0), some (vI x1), some (vI x2), some (vR 8 j3), some (vI x4), some (vI x5), some (vI x6), o7, o8] [] S Q) : Ev d mX10_shift 48 [some (vR 10 0), some (vI x1), some (vI x2), some (vR 8 j3), some (vI x4), some (vI x5), some (vI x6), o7, o8] [] S Q := by
  refine Ev.iload dX10_shift_48 rfl ?_
  refine Ev.bipush (v := 40) dX10_shift_50 (by decide) ?_
  exact Ev.icmp_gt (tgt := 117) dX10_shift_52 (by decide) kt kf
theorem bkX10_shift_55 {d : Nat} {S : hs_T} {Q : Option av_T → hs_T → Prop} {P : Int32 → hs_T → Prop} {x1 x2 x4 x5 x6 : Int32} {j3 : Nat} {o7 o8 : Option av_T} (hC : Ci d mX8_unlikeLaid [vR 8 0, vR 8 j3, vI (-x6)] S P) (kk : ∀ v S', P v S' → Ev (d + 1) mX10_shift 66 [some (vR 10 0), some (vI x1), some (vI x2), some (vR 8 j3), some (vI x4), some (vI x5), some (vI x6), o7, o8] [vI v] S' Q) : Ev (d + 1) mX10_shift 55 [some (vR 10 0), some (vI x1), some (vI x2), some (vR 8 j3), some (vI x4), some (vI x5), some (vI x6), o7, o8] [] S Q := by
  refine Ev.aload_n dX10_shift_55 rfl rfl ?_
  refine Ev.get (v := vR 8 0) okX10 (by decide) fl_X10_19 pz_10_0 (ff_10_1 _ _) dX10_shift_56 ?_
  refine Ev.aload_n dX10_shift_59 rfl rfl ?_
  refine Ev.iload dX10_shift_60 rfl ?_
  refine Ev.ineg dX10_shift_62 ?_
  exact Ev.callV (as := [vR 8 j3, vI (-x6)]) (rest := []) okX8_unlikeLaid in_X8_unlikeLaid ml_X10_316 rfl (Nat.le_of_ble_eq_true rfl) pz_8_0 (by decide) rfl rfl dX10_shift_63 hC (fun r S' h => by obtain ⟨v, rfl, h⟩ := h; exact kk v S' h)
theorem bkX10_shift_66 {d : Nat} {S : hs_T} {Q : Option av_T → hs_T → Prop} {x1 x2 x4 x5 x6 y0 : Int32} {j3 : Nat} {o7 o8 : Option av_T} (kt : x5 ≤ y0 → Ev d mX10_shift 84 [some (vR 10 0), some (vI x1), some (vI x2), some (vR 8 j3), some (vI x4), some (vI x5), some (vI x6), some (vI y0), o8] [] S Q) (kf : ¬ x5 ≤ y0 → Ev d mX10_shift 75 [some (vR 10 0), some (vI x1), some (vI x2), some (vR 8 j3), some (vI x4), some (vI x5), some (vI x6), some (vI y0), o8] [] S Q) : Ev d mX10_shift 66 [some (vR 10 0), some (vI x1), some (vI x2), some (vR 8 j3), some (vI x4), some (vI x5), some (vI x6), o7, o8] [vI y0] S Q := by
  refine Ev.istore (ls' := [some (vR 10 0), some (vI x1), some (vI x2), some (vR 8 j3), some (vI x4), some (vI x5), some (vI x6), some (vI y0), o8]) dX10_shift_66 (by decide) rfl ?_
  refine Ev.iload dX10_shift_68 rfl ?_
  refine Ev.iload dX10_shift_70 rfl ?_
  exact Ev.icmp_ge (tgt := 84) dX10_shift_72 (by decide) kt kf
theorem bkX10_shift_75 {d : Nat} {S : hs_T} {Q : Option av_T → hs_T → Prop} {x1 x2 x4 x5 x6 x7 : Int32} {j3 : Nat} {o8 : Option av_T} (kn : Ev d mX10_shift 84 [some (vR 10 0), some (vI x1), some (vI x2), some (vR 8 j3), some (vI (-x6)), some (vI x7), some (vI x6), some (vI x7), o8] [] S Q) : Ev d mX10_shift 75 [some (vR 10 0), some (vI x1), some (vI x2), some (vR 8 j3), some (vI x4), some (vI x5), some (vI x6), some (vI x7), o8] [] S Q := by
  refine Ev.iload dX10_shift_75 rfl ?_
  refine Ev.ineg dX10_shift_77 ?_
  refine Ev.istore (ls' := [some (vR 10 0), some (vI x1), some (vI x2), some (vR 8 j3), some (vI (-x6)), some (vI x5), some (vI x6), some (vI x7), o8]) dX10_shift_78 (by decide) rfl ?_
  refine Ev.iload dX10_shift_80 rfl ?_
  refine Ev.istore (ls' := [some (vR 10 0), some (vI x1), some (vI x2), some (vR 8 j3), some (vI (-x6)), some (vI x7), some (vI x6), some (vI x7), o8]) dX10_shift_82 (by decide) rfl ?_
  exact kn
theorem bkX10_shift_84 {d : Nat} {S : hs_T} {Q : Option av_T → hs_T → Prop} {P : Int32 → hs_T → Prop} {x1 x2 x4 x5 x6 x7 : Int32} {j3 : Nat} {o8 : Option av_T} (hC : Ci d mX8_unlikeLaid [vR 8 0, vR 8 j3, vI x6] S P) (kk : ∀ v S', P v S' → Ev (d + 1) mX10_shift 94 [some (vR 10 0), some (vI x1), some (vI x2), some (vR 8 j3), some (vI x4), some (vI x5), some (vI x6), some (vI x7), o8] [vI v] S' Q) : Ev (d + 1) mX10_shift 84 [some (vR 10 0), some (vI x1), some (vI x2), some (vR 8 j3), some (vI x4), some (vI x5), some (vI x6), some (vI x7), o8] [] S Q := by
  refine Ev.aload_n dX10_shift_84 rfl rfl ?_
  refine Ev.get (v := vR 8 0) okX10 (by decide) fl_X10_19 pz_10_0 (ff_10_1 _ _) dX10_shift_85 ?_
  refine Ev.aload_n dX10_shift_88 rfl rfl ?_
  refine Ev.iload dX10_shift_89 rfl ?_
  exact Ev.callV (as := [vR 8 j3, vI x6]) (rest := []) okX8_unlikeLaid in_X8_unlikeLaid ml_X10_316 rfl (Nat.le_of_ble_eq_true rfl) pz_8_0 (by decide) rfl rfl dX10_shift_91 hC (fun r S' h => by obtain ⟨v, rfl, h⟩ := h; exact kk v S' h)
theorem bkX10_shift_94 {d : Nat} {S : hs_T} {Q : Option av_T → hs_T → Prop} {x1 x2 x4 x5 x6 x7 y0 : Int32} {j3 : Nat} {o8 : Option av_T} (kt : x5 ≤ y0 → Ev d mX10_shift 111 [some (vR 10 0), some (vI x1), some (vI x2), some (vR 8 j3), some (vI x4), some (vI x5), some (vI x6), some (vI x7), some (vI y0)] [] S Q) (kf : ¬ x5 ≤ y0 → Ev d mX10_shift 103 [some (vR 10 0), some (vI x1), some (vI x2), some (vR 8 j3), some (vI x4), some (vI x5), some (vI x6), some (vI x7), some (vI y0)] [] S Q) : Ev d mX10_shift 94 [some (vR 10 0), some (vI x1), some (vI x2), some (vR 8 j3), some (vI x4), some (vI x5), some (vI x6), some (vI x7), o8] [vI y0] S Q := by
  refine Ev.istore (ls' := [some (vR 10 0), some (vI x1), some (vI x2), some (vR 8 j3), some (vI x4), some (vI x5), some (vI x6), some (vI x7), some (vI y0)]) dX10_shift_94 (by decide) rfl ?_
  refine Ev.iload dX10_shift_96 rfl ?_
  refine Ev.iload dX10_shift_98 rfl ?_
  exact Ev.icmp_ge (tgt := 111) dX10_shift_100 (by decide) kt kf
theorem bkX10_shift_103 {d : Nat} {S : hs_T} {Q : Option av_T → hs_T → Prop} {x1 x2 x4 x5 x6 x7 x8 : Int32} {j3 : Nat} (kn : Ev d mX10_shift 111 [some (vR 10 0), some (vI x1), some (vI x2), some (vR 8 j3), some (vI x6), some (vI x8), some (vI x6), some (vI x7), some (vI x8)] [] S Q) : Ev d mX10_shift 103 [some (vR 10 0), some (vI x1), some (vI x2), some (vR 8 j3), some (vI x4), some (vI x5), some (vI x6), some (vI x7), some (vI x8)] [] S Q := by
  refine Ev.iload dX10_shift_103 rfl ?_
  refine Ev.istore (ls' := [some (vR 10 0), some (vI x1), some (vI x2), some (vR 8 j3), some (vI x6), some (vI x5), some (vI x6), some (vI x7), some (vI x8)]) dX10_shift_105 (by decide) rfl ?_
  refine Ev.iload dX10_shift_107 rfl ?_
  refine Ev.istore (ls' := [some (vR 10 0), some (vI x1), some (vI x2), some (vR 8 j3), some (vI x6), some (vI x8), some (vI x6), some (vI x7), some (vI x8)]) dX10_shift_109 (by decide) rfl ?_
  exact kn
theorem bkX10_shift_111 {d : Nat} {S : hs_T} {Q : Option av_T → hs_T → Prop} {x1 x2 x4 x5 x6 x7 x8 : Int32} {j3 : Nat} (kn : Ev d mX10_shift 48 [some (vR 10 0), some (vI x1), some (vI x2), some (vR 8 j3), some (vI x4), some (vI x5), some (vI (x6 + 1)), some (vI x7), some (vI x8)] [] S Q) : Ev d mX10_shift 111 [some (vR 10 0), some (vI x1), some (vI x2), some (vR 8 j3), some (vI x4), some (vI x5), some (vI x6), some (vI x7), some (vI x8)] [] S Q := by
  refine Ev.iinc (v := (x6 + 1)) (ls' := [some (vR 10 0), some (vI x1), some (vI x2), some (vR 8 j3), some (vI x4), some (vI x5), some (vI (x6 + 1)), some (vI x7), some (vI x8)]) dX10_shift_111 rfl rfl (by decide) rfl ?_
  refine Ev.goto (tgt := 48) dX10_shift_114 (by decide) ?_
  exact kn
theorem bkX10_shift_117 {d : Nat} {S : hs_T} {Q : Option av_T → hs_T → Prop} {x1 x2 x4 x5 x6 : Int32} {j3 : Nat} {o7 o8 : Option av_T} (kt : ¬ x2 = 0 → Ev d mX10_shift 126 [some (vR 10 0), some (vI x1), some (vI x2), some (vR 8 j3), some (vI x4), some (vI x5), some (vI x6), o7, o8] [] S Q) (kf : x2 = 0 → Ev d mX10_shift 121 [some (vR 10 0), some (vI x1), some (vI x2), some (vR 8 j3), some (vI x4), some (vI x5), some (vI x6), o7, o8] [] S Q) : Ev d mX10_shift 117 [some (vR 10 0), some (vI x1), some (vI x2), some (vR 8 j3), some (vI x4), some (vI x5), some (vI x6), o7, o8] [] S Q := by
  refine Ev.iload_n dX10_shift_117 rfl rfl ?_
  exact Ev.if_ne (tgt := 126) dX10_shift_118 (by decide) kt kf
theorem bkX10_shift_121 {d : Nat} {S : hs_T} {Q : Option av_T → hs_T → Prop} {x1 x2 x4 x5 x6 : Int32} {j3 : Nat} {o7 o8 : Option av_T} (kn : Ev d mX10_shift 128 [some (vR 10 0), some (vI x1), some (vI x2), some (vR 8 j3), some (vI x4), some (vI x5), some (vI x6), o7, o8] [vI x4] S Q) : Ev d mX10_shift 121 [some (vR 10 0), some (vI x1), some (vI x2), some (vR 8 j3), some (vI x4), some (vI x5), some (vI x6), o7, o8] [] S Q := by
  refine Ev.iload dX10_shift_121 rfl ?_
  refine Ev.goto (tgt := 128) dX10_shift_123 (by decide) ?_
  exact kn
theorem bkX10_shift_126 {d : Nat} {S : hs_T} {Q : Option av_T → hs_T → Prop} {x1 x2 x4 x5 x6 : Int32} {j3 : Nat} {o7 o8 : Option av_T} (kn : Ev d mX10_shift 128 [some (vR 10 0), some (vI x1), some (vI x2), some (vR 8 j3), some (vI x4), some (vI x5), some (vI x6), o7, o8] [vI x5] S Q) : Ev d mX10_shift 126 [some (vR 10 0), some (vI x1), some (vI x2), some (vR 8 j3), some (vI x4), some (vI x5), some (vI x6), o7, o8] [] S Q := by
  refine Ev.iload dX10_shift_126 rfl ?_
  exact kn
theorem bkX10_shift_128 {d : Nat} {S : hs_T} {Q : Option av_T → hs_T → Prop} {x1 x2 x4 x5 x6 y0 : Int32} {j3 : Nat} {o7 o8 : Option av_T} (hq : Q (some (vI y0)) S) : Ev d mX10_shift 128 [some (vR 10 0), some (vI x1), some (vI x2), some (vR 8 j3), some (vI x4), some (vI x5), some (vI x6), o7, o8] [vI y0] S Q := by
  exact Ev.iret dX10_shift_128 rfl rfl hq
/-! EightWires.sheet(III)I -/
theorem bkX10_sheet_0 {d : Nat} {S : hs_T} {Q : Option av_T → hs_T → Prop} {P : Option (Nat × Nat) → hs_T → Prop} {x1 x2 x3 : Int32} {o4 : Option av_T} (hC : Cr d mX10_sheetOf [vR 10 0, vI x1] S P) (kk : ∀ v S', P v S' → Ev (d + 1) mX10_sheet 5 [some (vR 10 0), some (vI x1), some (vI x2), some (vI x3), o4] [Sum.inr (Sum.inr v)] S' Q) : Ev (d + 1) mX10_sheet 0 [some (vR 10 0), some (vI x1), some (vI x2), some (vI x3), o4] [] S Q := by
  refine Ev.aload_n dX10_sheet_0 rfl rfl ?_
  refine Ev.iload_n dX10_sheet_1 rfl rfl ?_
  exact Ev.callV (as := [vI x1]) (rest := []) okX10_sheetOf in_X10_sheetOf ml_X10_320 rfl (Nat.le_of_ble_eq_true rfl) pz_10_0 (by decide) rfl rfl dX10_sheet_2 hC (fun r S' h => by obtain ⟨v, rfl, h⟩ := h; exact kk v S' h)
theorem bkX10_sheet_5_r {d : Nat} {S : hs_T} {Q : Option av_T → hs_T → Prop} {x1 x2 x3 : Int32} {i0 : Nat} {o4 : Option av_T} (kn : Ev d mX10_sheet 12 [some (vR 10 0), some (vI x1), some (vI x2), some (vI x3), some (vR 6 i0)] [] S Q) : Ev d mX10_sheet 5 [some (vR 10 0), some (vI x1), some (vI x2), some (vI x3), o4] [vR 6 i0] S Q := by
  refine Ev.astore (ls' := [some (vR 10 0), some (vI x1), some (vI x2), some (vI x3), some (vR 6 i0)]) dX10_sheet_5 (by decide) rfl ?_
  refine Ev.aload dX10_sheet_7 rfl ?_
  refine Ev.ifnull dX10_sheet_9 ?_
  exact kn
theorem bkX10_sheet_5_n {d : Nat} {S : hs_T} {Q : Option av_T → hs_T → Prop} {x1 x2 x3 : Int32} {o4 : Option av_T} (kn : Ev d mX10_sheet 25 [some (vR 10 0), some (vI x1), some (vI x2), some (vI x3), some (vN)] [] S Q) : Ev d mX10_sheet 5 [some (vR 10 0), some (vI x1), some (vI x2), some (vI x3), o4] [vN] S Q := by
  refine Ev.astoreN (ls' := [some (vR 10 0), some (vI x1), some (vI x2), some (vI x3), some (vN)]) dX10_sheet_5 (by decide) rfl ?_
  refine Ev.aloadN dX10_sheet_7 rfl ?_
  refine Ev.ifnullN (tgt := 25) dX10_sheet_9 (by decide) ?_
  exact kn
theorem bkX10_sheet_12 {d : Nat} {S : hs_T} {Q : Option av_T → hs_T → Prop} {P : Int32 → hs_T → Prop} {x1 x2 x3 : Int32} {j4 : Nat} (hC : Ci d mX10_isLane [vI x2] S P) (kk : ∀ v S', P v S' → Ev (d + 1) mX10_sheet 16 [some (vR 10 0), some (vI x1), some (vI x2), some (vI x3), some (vR 6 j4)] [vI v] S' Q) : Ev (d + 1) mX10_sheet 12 [some (vR 10 0), some (vI x1), some (vI x2), some (vI x3), some (vR 6 j4)] [] S Q := by
  refine Ev.iload_n dX10_sheet_12 rfl rfl ?_
  exact Ev.callS (as := [vI x2]) (rest := []) okX10_isLane stX10_isLane ml_X10_324 rfl (Nat.le_of_ble_eq_true rfl) rfl dX10_sheet_13 hC (fun r S' h => by obtain ⟨v, rfl, h⟩ := h; exact kk v S' h)
theorem bkX10_sheet_16 {d : Nat} {S : hs_T} {Q : Option av_T → hs_T → Prop} {x1 x2 x3 y0 : Int32} {j4 : Nat} (kt : y0 = 0 → Ev d mX10_sheet 25 [some (vR 10 0), some (vI x1), some (vI x2), some (vI x3), some (vR 6 j4)] [] S Q) (kf : ¬ y0 = 0 → Ev d mX10_sheet 19 [some (vR 10 0), some (vI x1), some (vI x2), some (vI x3), some (vR 6 j4)] [] S Q) : Ev d mX10_sheet 16 [some (vR 10 0), some (vI x1), some (vI x2), some (vI x3), some (vR 6 j4)] [vI y0] S Q := by
  exact Ev.if_eq (tgt := 25) dX10_sheet_16 (by decide) kt kf
theorem bkX10_sheet_19 {d : Nat} {S : hs_T} {Q : Option av_T → hs_T → Prop} {x1 x2 x3 : Int32} {j4 : Nat} (kt : x3 ≤ 40 → Ev d mX10_sheet 27 [some (vR 10 0), some (vI x1), some (vI x2), some (vI x3), some (vR 6 j4)] [] S Q) (kf : ¬ x3 ≤ 40 → Ev d mX10_sheet 25 [some (vR 10 0), some (vI x1), some (vI x2), some (vI x3), some (vR 6 j4)] [] S Q) : Ev d mX10_sheet 19 [some (vR 10 0), some (vI x1), some (vI x2), some (vI x3), some (vR 6 j4)] [] S Q := by
  refine Ev.iload_n dX10_sheet_19 rfl rfl ?_
  refine Ev.bipush (v := 40) dX10_sheet_20 (by decide) ?_
  exact Ev.icmp_le (tgt := 27) dX10_sheet_22 (by decide) kt kf
theorem bkX10_sheet_25_r {d : Nat} {S : hs_T} {Q : Option av_T → hs_T → Prop} {x1 x2 x3 : Int32} {j4 : Nat} (hq : Q (some (vI (-1))) S) : Ev d mX10_sheet 25 [some (vR 10 0), some (vI x1), some (vI x2), some (vI x3), some (vR 6 j4)] [] S Q := by
  refine Ev.iconst (v := (-1)) dX10_sheet_25 (by decide) ?_
  exact Ev.iret dX10_sheet_26 rfl rfl hq
theorem bkX10_sheet_25_n {d : Nat} {S : hs_T} {Q : Option av_T → hs_T → Prop} {x1 x2 x3 : Int32} (hq : Q (some (vI (-1))) S) : Ev d mX10_sheet 25 [some (vR 10 0), some (vI x1), some (vI x2), some (vI x3), some (vN)] [] S Q := by
  refine Ev.iconst (v := (-1)) dX10_sheet_25 (by decide) ?_
  exact Ev.iret dX10_sheet_26 rfl rfl hq
theorem bkX10_sheet_27 {d : Nat} {S : hs_T} {Q : Option av_T → hs_T → Prop} {x1 x2 x3 : Int32} {j4 : Nat} (kt : 0 ≤ x3 → Ev d mX10_sheet 34 [some (vR 10 0), some (vI x1), some (vI x2), some (vI x3), some (vR 6 j4)] [] S Q) (kf : ¬ 0 ≤ x3 → Ev d mX10_sheet 31 [some (vR 10 0), some (vI x1), some (vI x2), some (vI x3), some (vR 6 j4)] [] S Q) : Ev d mX10_sheet 27 [some (vR 10 0), some (vI x1), some (vI x2), some (vI x3), some (vR 6 j4)] [] S Q := by
  refine Ev.iload_n dX10_sheet_27 rfl rfl ?_
  exact Ev.if_ge (tgt := 34) dX10_sheet_28 (by decide) kt kf
theorem bkX10_sheet_31 {d : Nat} {S : hs_T} {Q : Option av_T → hs_T → Prop} {x1 x2 x3 : Int32} {j4 : Nat} (hq : Q (some (vI (-14))) S) : Ev d mX10_sheet 31 [some (vR 10 0), some (vI x1), some (vI x2), some (vI x3), some (vR 6 j4)] [] S Q := by
  refine Ev.bipush (v := (-14)) dX10_sheet_31 (by decide) ?_
  exact Ev.iret dX10_sheet_33 rfl rfl hq
theorem bkX10_sheet_34 {d : Nat} {S : hs_T} {Q : Option av_T → hs_T → Prop} {P : hs_T → Prop} {x1 x2 x3 : Int32} {j4 : Nat} (hjj4 : j4 < 4) (hC : Cv d mX6_renew [vR 6 j4, vI x2, vI x3] S P) (kk : ∀ S', P S' → Ev (d + 1) mX10_sheet 41 [some (vR 10 0), some (vI x1), some (vI x2), some (vI x3), some (vR 6 j4)] [] S' Q) : Ev (d + 1) mX10_sheet 34 [some (vR 10 0), some (vI x1), some (vI x2), some (vI x3), some (vR 6 j4)] [] S Q := by
  refine Ev.aload dX10_sheet_34 rfl ?_
  refine Ev.iload_n dX10_sheet_36 rfl rfl ?_
  refine Ev.iload_n dX10_sheet_37 rfl rfl ?_
  exact Ev.callV (as := [vI x2, vI x3]) (rest := []) okX6_renew in_X6_renew ml_X10_327 rfl (Nat.le_of_ble_eq_true rfl) (pl6 hjj4) (by decide) rfl rfl dX10_sheet_38 hC (fun r S' h => by obtain ⟨rfl, h⟩ := h; exact kk S' h)
theorem bkX10_sheet_41 {d : Nat} {S : hs_T} {Q : Option av_T → hs_T → Prop} {x1 x2 x3 : Int32} {j4 : Nat} (hq : Q (some (vI 1)) S) : Ev d mX10_sheet 41 [some (vR 10 0), some (vI x1), some (vI x2), some (vI x3), some (vR 6 j4)] [] S Q := by
  refine Ev.iconst (v := 1) dX10_sheet_41 (by decide) ?_
  exact Ev.iret dX10_sheet_42 rfl rfl hq
/-! EightWires.lay(III)I -/
theorem bkX10_lay_0 {d : Nat} {S : hs_T} {Q : Option av_T → hs_T → Prop} {P : Option (Nat × Nat) → hs_T → Prop} {x1 x2 x3 : Int32} {o4 : Option av_T} (hC : Cr d mX10_sheetOf [vR 10 0, vI x1] S P) (kk : ∀ v S', P v S' → Ev (d + 1) mX10_lay 5 [some (vR 10 0), some (vI x1), some (vI x2), some (vI x3), o4] [Sum.inr (Sum.inr v)] S' Q) : Ev (d + 1) mX10_lay 0 [some (vR 10 0), some (vI x1), some (vI x2), some (vI x3), o4] [] S Q := by
  refine Ev.aload_n dX10_lay_0 rfl rfl ?_
  refine Ev.iload_n dX10_lay_1 rfl rfl ?_
  exact Ev.callV (as := [vI x1]) (rest := []) okX10_sheetOf in_X10_sheetOf ml_X10_320 rfl (Nat.le_of_ble_eq_true rfl) pz_10_0 (by decide) rfl rfl dX10_lay_2 hC (fun r S' h => by obtain ⟨v, rfl, h⟩ := h; exact kk v S' h)
theorem bkX10_lay_5_r {d : Nat} {S : hs_T} {Q : Option av_T → hs_T → Prop} {x1 x2 x3 : Int32} {i0 : Nat} {o4 : Option av_T} (kn : Ev d mX10_lay 14 [some (vR 10 0), some (vI x1), some (vI x2), some (vI x3), some (vR 6 i0)] [] S Q) : Ev d mX10_lay 5 [some (vR 10 0), some (vI x1), some (vI x2), some (vI x3), o4] [vR 6 i0] S Q := by
  refine Ev.astore (ls' := [some (vR 10 0), some (vI x1), some (vI x2), some (vI x3), some (vR 6 i0)]) dX10_lay_5 (by decide) rfl ?_
  refine Ev.aload dX10_lay_7 rfl ?_
  refine Ev.ifnonnull (tgt := 14) dX10_lay_9 (by decide) ?_
  exact kn
theorem bkX10_lay_5_n {d : Nat} {S : hs_T} {Q : Option av_T → hs_T → Prop} {x1 x2 x3 : Int32} {o4 : Option av_T} (kn : Ev d mX10_lay 12 [some (vR 10 0), some (vI x1), some (vI x2), some (vI x3), some (vN)] [] S Q) : Ev d mX10_lay 5 [some (vR 10 0), some (vI x1), some (vI x2), some (vI x3), o4] [vN] S Q := by
  refine Ev.astoreN (ls' := [some (vR 10 0), some (vI x1), some (vI x2), some (vI x3), some (vN)]) dX10_lay_5 (by decide) rfl ?_
  refine Ev.aloadN dX10_lay_7 rfl ?_
  refine Ev.ifnonnullN dX10_lay_9 ?_
  exact kn
theorem bkX10_lay_12 {d : Nat} {S : hs_T} {Q : Option av_T → hs_T → Prop} {x1 x2 x3 : Int32} (hq : Q (some (vI (-1))) S) : Ev d mX10_lay 12 [some (vR 10 0), some (vI x1), some (vI x2), some (vI x3), some (vN)] [] S Q := by
  refine Ev.iconst (v := (-1)) dX10_lay_12 (by decide) ?_
  exact Ev.iret dX10_lay_13 rfl rfl hq
theorem bkX10_lay_14 {d : Nat} {S : hs_T} {Q : Option av_T → hs_T → Prop} {P : Int32 → hs_T → Prop} {x1 x2 x3 : Int32} {j4 : Nat} (hjj4 : j4 < 4) (hC : Ci d mX6_isNothing [vR 6 j4] S P) (kk : ∀ v S', P v S' → Ev (d + 1) mX10_lay 19 [some (vR 10 0), some (vI x1), some (vI x2), some (vI x3), some (vR 6 j4)] [vI v] S' Q) : Ev (d + 1) mX10_lay 14 [some (vR 10 0), some (vI x1), some (vI x2), some (vI x3), some (vR 6 j4)] [] S Q := by
  refine Ev.aload dX10_lay_14 rfl ?_
  exact Ev.callV (as := []) (rest := []) okX6_isNothing in_X6_isNothing ml_X10_330 rfl (Nat.le_of_ble_eq_true rfl) (pl6 hjj4) (by decide) rfl rfl dX10_lay_16 hC (fun r S' h => by obtain ⟨v, rfl, h⟩ := h; exact kk v S' h)
theorem bkX10_lay_19 {d : Nat} {S : hs_T} {Q : Option av_T → hs_T → Prop} {x1 x2 x3 y0 : Int32} {j4 : Nat} (kt : y0 = 0 → Ev d mX10_lay 25 [some (vR 10 0), some (vI x1), some (vI x2), some (vI x3), some (vR 6 j4)] [] S Q) (kf : ¬ y0 = 0 → Ev d mX10_lay 22 [some (vR 10 0), some (vI x1), some (vI x2), some (vI x3), some (vR 6 j4)] [] S Q) : Ev d mX10_lay 19 [some (vR 10 0), some (vI x1), some (vI x2), some (vI x3), some (vR 6 j4)] [vI y0] S Q := by
  exact Ev.if_eq (tgt := 25) dX10_lay_19 (by decide) kt kf
theorem bkX10_lay_22 {d : Nat} {S : hs_T} {Q : Option av_T → hs_T → Prop} {x1 x2 x3 : Int32} {j4 : Nat} (hq : Q (some (vI (-11))) S) : Ev d mX10_lay 22 [some (vR 10 0), some (vI x1), some (vI x2), some (vI x3), some (vR 6 j4)] [] S Q := by
  refine Ev.bipush (v := (-11)) dX10_lay_22 (by decide) ?_
  exact Ev.iret dX10_lay_24 rfl rfl hq
theorem bkX10_lay_25 {d : Nat} {S : hs_T} {Q : Option av_T → hs_T → Prop} {P : Int32 → hs_T → Prop} {x1 x2 x3 : Int32} {j4 : Nat} (hjj4 : j4 < 4) (hC : Ci d mX6_has [vR 6 j4, vI x2] S P) (kk : ∀ v S', P v S' → Ev (d + 1) mX10_lay 31 [some (vR 10 0), some (vI x1), some (vI x2), some (vI x3), some (vR 6 j4)] [vI v] S' Q) : Ev (d + 1) mX10_lay 25 [some (vR 10 0), some (vI x1), some (vI x2), some (vI x3), some (vR 6 j4)] [] S Q := by
  refine Ev.aload dX10_lay_25 rfl ?_
  refine Ev.iload_n dX10_lay_27 rfl rfl ?_
  exact Ev.callV (as := [vI x2]) (rest := []) okX6_has in_X6_has ml_X10_334 rfl (Nat.le_of_ble_eq_true rfl) (pl6 hjj4) (by decide) rfl rfl dX10_lay_28 hC (fun r S' h => by obtain ⟨v, rfl, h⟩ := h; exact kk v S' h)
theorem bkX10_lay_31 {d : Nat} {S : hs_T} {Q : Option av_T → hs_T → Prop} {x1 x2 x3 y0 : Int32} {j4 : Nat} (kt : ¬ y0 = 0 → Ev d mX10_lay 37 [some (vR 10 0), some (vI x1), some (vI x2), some (vI x3), some (vR 6 j4)] [] S Q) (kf : y0 = 0 → Ev d mX10_lay 34 [some (vR 10 0), some (vI x1), some (vI x2), some (vI x3), some (vR 6 j4)] [] S Q) : Ev d mX10_lay 31 [some (vR 10 0), some (vI x1), some (vI x2), some (vI x3), some (vR 6 j4)] [vI y0] S Q := by
  exact Ev.if_ne (tgt := 37) dX10_lay_31 (by decide) kt kf
theorem bkX10_lay_34 {d : Nat} {S : hs_T} {Q : Option av_T → hs_T → Prop} {x1 x2 x3 : Int32} {j4 : Nat} (hq : Q (some (vI (-12))) S) : Ev d mX10_lay 34 [some (vR 10 0), some (vI x1), some (vI x2), some (vI x3), some (vR 6 j4)] [] S Q := by
  refine Ev.bipush (v := (-12)) dX10_lay_34 (by decide) ?_
  exact Ev.iret dX10_lay_36 rfl rfl hq
theorem bkX10_lay_37 {d : Nat} {S : hs_T} {Q : Option av_T → hs_T → Prop} {P : hs_T → Prop} {x1 x2 x3 : Int32} {j4 : Nat} (hjj4 : j4 < 4) (hC : Cv d mX6_write [vR 6 j4, vI x2, vI x3] S P) (kk : ∀ S', P S' → Ev (d + 1) mX10_lay 44 [some (vR 10 0), some (vI x1), some (vI x2), some (vI x3), some (vR 6 j4)] [] S' Q) : Ev (d + 1) mX10_lay 37 [some (vR 10 0), some (vI x1), some (vI x2), some (vI x3), some (vR 6 j4)] [] S Q := by
  refine Ev.aload dX10_lay_37 rfl ?_
  refine Ev.iload_n dX10_lay_39 rfl rfl ?_
  refine Ev.iload_n dX10_lay_40 rfl rfl ?_
  exact Ev.callV (as := [vI x2, vI x3]) (rest := []) okX6_write in_X6_write ml_X10_335 rfl (Nat.le_of_ble_eq_true rfl) (pl6 hjj4) (by decide) rfl rfl dX10_lay_41 hC (fun r S' h => by obtain ⟨rfl, h⟩ := h; exact kk S' h)
theorem bkX10_lay_44 {d : Nat} {S : hs_T} {Q : Option av_T → hs_T → Prop} {x1 x2 x3 : Int32} {j4 : Nat} (hq : Q (some (vI 1)) S) : Ev d mX10_lay 44 [some (vR 10 0), some (vI x1), some (vI x2), some (vI x3), some (vR 6 j4)] [] S Q := by
  refine Ev.iconst (v := 1) dX10_lay_44 (by decide) ?_
  exact Ev.iret dX10_lay_45 rfl rfl hq
/-! EightWires.read(IIII)I -/
theorem bkX10_read_0 {d : Nat} {S : hs_T} {Q : Option av_T → hs_T → Prop} {P : Option (Nat × Nat) → hs_T → Prop} {x1 x2 x3 x4 : Int32} {o5 o6 o7 o8 o9 : Option av_T} (hC : Cr d mX10_sheetOf [vR 10 0, vI x1] S P) (kk : ∀ v S', P v S' → Ev (d + 1) mX10_read 5 [some (vR 10 0), some (vI x1), some (vI x2), some (vI x3), some (vI x4), o5, o6, o7, o8, o9] [Sum.inr (Sum.inr v)] S' Q) : Ev (d + 1) mX10_read 0 [some (vR 10 0), some (vI x1), some (vI x2), some (vI x3), some (vI x4), o5, o6, o7, o8, o9] [] S Q := by
  refine Ev.aload_n dX10_read_0 rfl rfl ?_
  refine Ev.iload_n dX10_read_1 rfl rfl ?_
  exact Ev.callV (as := [vI x1]) (rest := []) okX10_sheetOf in_X10_sheetOf ml_X10_320 rfl (Nat.le_of_ble_eq_true rfl) pz_10_0 (by decide) rfl rfl dX10_read_2 hC (fun r S' h => by obtain ⟨v, rfl, h⟩ := h; exact kk v S' h)
theorem bkX10_read_5_r {d : Nat} {S : hs_T} {Q : Option av_T → hs_T → Prop} {x1 x2 x3 x4 : Int32} {i0 : Nat} {o5 o6 o7 o8 o9 : Option av_T} (kn : Ev d mX10_read 12 [some (vR 10 0), some (vI x1), some (vI x2), some (vI x3), some (vI x4), some (vR 6 i0), o6, o7, o8, o9] [] S Q) : Ev d mX10_read 5 [some (vR 10 0), some (vI x1), some (vI x2), some (vI x3), some (vI x4), o5, o6, o7, o8, o9] [vR 6 i0] S Q := by
  refine Ev.astore (ls' := [some (vR 10 0), some (vI x1), some (vI x2), some (vI x3), some (vI x4), some (vR 6 i0), o6, o7, o8, o9]) dX10_read_5 (by decide) rfl ?_
  refine Ev.aload dX10_read_7 rfl ?_
  refine Ev.ifnull dX10_read_9 ?_
  exact kn
theorem bkX10_read_5_n {d : Nat} {S : hs_T} {Q : Option av_T → hs_T → Prop} {x1 x2 x3 x4 : Int32} {o5 o6 o7 o8 o9 : Option av_T} (kn : Ev d mX10_read 30 [some (vR 10 0), some (vI x1), some (vI x2), some (vI x3), some (vI x4), some (vN), o6, o7, o8, o9] [] S Q) : Ev d mX10_read 5 [some (vR 10 0), some (vI x1), some (vI x2), some (vI x3), some (vI x4), o5, o6, o7, o8, o9] [vN] S Q := by
  refine Ev.astoreN (ls' := [some (vR 10 0), some (vI x1), some (vI x2), some (vI x3), some (vI x4), some (vN), o6, o7, o8, o9]) dX10_read_5 (by decide) rfl ?_
  refine Ev.aloadN dX10_read_7 rfl ?_
  refine Ev.ifnullN (tgt := 30) dX10_read_9 (by decide) ?_
  exact kn
theorem bkX10_read_12 {d : Nat} {S : hs_T} {Q : Option av_T → hs_T → Prop} {P : Int32 → hs_T → Prop} {x1 x2 x3 x4 : Int32} {j5 : Nat} {o6 o7 o8 o9 : Option av_T} (hC : Ci d mX10_isLane [vI x2] S P) (kk : ∀ v S', P v S' → Ev (d + 1) mX10_read 16 [some (vR 10 0), some (vI x1), some (vI x2), some (vI x3), some (vI x4), some (vR 6 j5), o6, o7, o8, o9] [vI v] S' Q) : Ev (d + 1) mX10_read 12 [some (vR 10 0), some (vI x1), some (vI x2), some (vI x3), some (vI x4), some (vR 6 j5), o6, o7, o8, o9] [] S Q := by
  refine Ev.iload_n dX10_read_12 rfl rfl ?_
  exact Ev.callS (as := [vI x2]) (rest := []) okX10_isLane stX10_isLane ml_X10_324 rfl (Nat.le_of_ble_eq_true rfl) rfl dX10_read_13 hC (fun r S' h => by obtain ⟨v, rfl, h⟩ := h; exact kk v S' h)
theorem bkX10_read_16 {d : Nat} {S : hs_T} {Q : Option av_T → hs_T → Prop} {x1 x2 x3 x4 y0 : Int32} {j5 : Nat} {o6 o7 o8 o9 : Option av_T} (kt : y0 = 0 → Ev d mX10_read 30 [some (vR 10 0), some (vI x1), some (vI x2), some (vI x3), some (vI x4), some (vR 6 j5), o6, o7, o8, o9] [] S Q) (kf : ¬ y0 = 0 → Ev d mX10_read 19 [some (vR 10 0), some (vI x1), some (vI x2), some (vI x3), some (vI x4), some (vR 6 j5), o6, o7, o8, o9] [] S Q) : Ev d mX10_read 16 [some (vR 10 0), some (vI x1), some (vI x2), some (vI x3), some (vI x4), some (vR 6 j5), o6, o7, o8, o9] [vI y0] S Q := by
  exact Ev.if_eq (tgt := 30) dX10_read_16 (by decide) kt kf
theorem bkX10_read_19 {d : Nat} {S : hs_T} {Q : Option av_T → hs_T → Prop} {P : Int32 → hs_T → Prop} {x1 x2 x3 x4 : Int32} {j5 : Nat} {o6 o7 o8 o9 : Option av_T} (hC : Ci d mX10_within [vI x4, vI 0, vI 20] S P) (kk : ∀ v S', P v S' → Ev (d + 1) mX10_read 27 [some (vR 10 0), some (vI x1), some (vI x2), some (vI x3), some (vI x4), some (vR 6 j5), o6, o7, o8, o9] [vI v] S' Q) : Ev (d + 1) mX10_read 19 [some (vR 10 0), some (vI x1), some (vI x2), some (vI x3), some (vI x4), some (vR 6 j5), o6, o7, o8, o9] [] S Q := by
  refine Ev.iload dX10_read_19 rfl ?_
  refine Ev.iconst (v := 0) dX10_read_21 (by decide) ?_
  refine Ev.bipush (v := 20) dX10_read_22 (by decide) ?_
  exact Ev.callS (as := [vI x4, vI 0, vI 20]) (rest := []) okX10_within stX10_within ml_X10_93 rfl (Nat.le_of_ble_eq_true rfl) rfl dX10_read_24 hC (fun r S' h => by obtain ⟨v, rfl, h⟩ := h; exact kk v S' h)
theorem bkX10_read_27 {d : Nat} {S : hs_T} {Q : Option av_T → hs_T → Prop} {x1 x2 x3 x4 y0 : Int32} {j5 : Nat} {o6 o7 o8 o9 : Option av_T} (kt : ¬ y0 = 0 → Ev d mX10_read 32 [some (vR 10 0), some (vI x1), some (vI x2), some (vI x3), some (vI x4), some (vR 6 j5), o6, o7, o8, o9] [] S Q) (kf : y0 = 0 → Ev d mX10_read 30 [some (vR 10 0), some (vI x1), some (vI x2), some (vI x3), some (vI x4), some (vR 6 j5), o6, o7, o8, o9] [] S Q) : Ev d mX10_read 27 [some (vR 10 0), some (vI x1), some (vI x2), some (vI x3), some (vI x4), some (vR 6 j5), o6, o7, o8, o9] [vI y0] S Q := by
  exact Ev.if_ne (tgt := 32) dX10_read_27 (by decide) kt kf
theorem bkX10_read_30_r {d : Nat} {S : hs_T} {Q : Option av_T → hs_T → Prop} {x1 x2 x3 x4 : Int32} {j5 : Nat} {o6 o7 o8 o9 : Option av_T} (hq : Q (some (vI (-1))) S) : Ev d mX10_read 30 [some (vR 10 0), some (vI x1), some (vI x2), some (vI x3), some (vI x4), some (vR 6 j5), o6, o7, o8, o9] [] S Q := by
  refine Ev.iconst (v := (-1)) dX10_read_30 (by decide) ?_
  exact Ev.iret dX10_read_31 rfl rfl hq
theorem bkX10_read_30_n {d : Nat} {S : hs_T} {Q : Option av_T → hs_T → Prop} {x1 x2 x3 x4 : Int32} {o6 o7 o8 o9 : Option av_T} (hq : Q (some (vI (-1))) S) : Ev d mX10_read 30 [some (vR 10 0), some (vI x1), some (vI x2), some (vI x3), some (vI x4), some (vN), o6, o7, o8, o9] [] S Q := by
  refine Ev.iconst (v := (-1)) dX10_read_30 (by decide) ?_
  exact Ev.iret dX10_read_31 rfl rfl hq
theorem bkX10_read_32 {d : Nat} {S : hs_T} {Q : Option av_T → hs_T → Prop} {x1 x2 x3 x4 : Int32} {j5 : Nat} {o6 o7 o8 o9 : Option av_T} (kt : ¬ x4 = 0 → Ev d mX10_read 41 [some (vR 10 0), some (vI x1), some (vI x2), some (vI x3), some (vI x4), some (vR 6 j5), o6, o7, o8, o9] [] S Q) (kf : x4 = 0 → Ev d mX10_read 37 [some (vR 10 0), some (vI x1), some (vI x2), some (vI x3), some (vI x4), some (vR 6 j5), o6, o7, o8, o9] [] S Q) : Ev d mX10_read 32 [some (vR 10 0), some (vI x1), some (vI x2), some (vI x3), some (vI x4), some (vR 6 j5), o6, o7, o8, o9] [] S Q := by
  refine Ev.iload dX10_read_32 rfl ?_
  exact Ev.if_ne (tgt := 41) dX10_read_34 (by decide) kt kf
theorem bkX10_read_37 {d : Nat} {S : hs_T} {Q : Option av_T → hs_T → Prop} {x1 x2 x3 x4 : Int32} {j5 : Nat} {o6 o7 o8 o9 : Option av_T} (kn : Ev d mX10_read 47 [some (vR 10 0), some (vI x1), some (vI x2), some (vI x3), some (vI x4), some (vR 6 j5), o6, o7, o8, o9] [vI 0] S Q) : Ev d mX10_read 37 [some (vR 10 0), some (vI x1), some (vI x2), some (vI x3), some (vI x4), some (vR 6 j5), o6, o7, o8, o9] [] S Q := by
  refine Ev.iconst (v := 0) dX10_read_37 (by decide) ?_
  refine Ev.goto (tgt := 47) dX10_read_38 (by decide) ?_
  exact kn
theorem bkX10_read_41 {d : Nat} {S : hs_T} {Q : Option av_T → hs_T → Prop} {P : Int32 → hs_T → Prop} {x1 x2 x3 x4 : Int32} {j5 : Nat} {o6 o7 o8 o9 : Option av_T} (hjj5 : j5 < 4) (hC : Ci d mX6_faultAs [vR 6 j5, vI x2] S P) (kk : ∀ v S', P v S' → Ev (d + 1) mX10_read 47 [some (vR 10 0), some (vI x1), some (vI x2), some (vI x3), some (vI x4), some (vR 6 j5), o6, o7, o8, o9] [vI v] S' Q) : Ev (d + 1) mX10_read 41 [some (vR 10 0), some (vI x1), some (vI x2), some (vI x3), some (vI x4), some (vR 6 j5), o6, o7, o8, o9] [] S Q := by
  refine Ev.aload dX10_read_41 rfl ?_
  refine Ev.iload_n dX10_read_43 rfl rfl ?_
  exact Ev.callV (as := [vI x2]) (rest := []) okX6_faultAs in_X6_faultAs ml_X10_338 rfl (Nat.le_of_ble_eq_true rfl) (pl6 hjj5) (by decide) rfl rfl dX10_read_44 hC (fun r S' h => by obtain ⟨v, rfl, h⟩ := h; exact kk v S' h)
theorem bkX10_read_47 {d : Nat} {S : hs_T} {Q : Option av_T → hs_T → Prop} {x1 x2 x3 x4 y0 : Int32} {j5 : Nat} {o6 o7 o8 o9 : Option av_T} (kt : ¬ y0 = 0 → Ev d mX10_read 65 [some (vR 10 0), some (vI x1), some (vI x2), some (vI x3), some (vI x4), some (vR 6 j5), some (vI y0), o7, o8, o9] [] S Q) (kf : y0 = 0 → Ev d mX10_read 54 [some (vR 10 0), some (vI x1), some (vI x2), some (vI x3), some (vI x4), some (vR 6 j5), some (vI y0), o7, o8, o9] [] S Q) : Ev d mX10_read 47 [some (vR 10 0), some (vI x1), some (vI x2), some (vI x3), some (vI x4), some (vR 6 j5), o6, o7, o8, o9] [vI y0] S Q := by
  refine Ev.istore (ls' := [some (vR 10 0), some (vI x1), some (vI x2), some (vI x3), some (vI x4), some (vR 6 j5), some (vI y0), o7, o8, o9]) dX10_read_47 (by decide) rfl ?_
  refine Ev.iload dX10_read_49 rfl ?_
  exact Ev.if_ne (tgt := 65) dX10_read_51 (by decide) kt kf
theorem bkX10_read_54 {d : Nat} {S : hs_T} {Q : Option av_T → hs_T → Prop} {P : Int32 → hs_T → Prop} {x1 x2 x3 x4 x6 : Int32} {j5 : Nat} {o7 o8 o9 : Option av_T} (hjj5 : j5 < 4) (hC : Ci d mX6_wholePairs [vR 6 j5, vI x3, vI x4] S P) (kk : ∀ v S', P v S' → Ev (d + 1) mX10_read 62 [some (vR 10 0), some (vI x1), some (vI x2), some (vI x3), some (vI x4), some (vR 6 j5), some (vI x6), o7, o8, o9] [vI v] S' Q) : Ev (d + 1) mX10_read 54 [some (vR 10 0), some (vI x1), some (vI x2), some (vI x3), some (vI x4), some (vR 6 j5), some (vI x6), o7, o8, o9] [] S Q := by
  refine Ev.aload dX10_read_54 rfl ?_
  refine Ev.iload_n dX10_read_56 rfl rfl ?_
  refine Ev.iload dX10_read_57 rfl ?_
  exact Ev.callV (as := [vI x3, vI x4]) (rest := []) okX6_wholePairs in_X6_wholePairs ml_X10_341 rfl (Nat.le_of_ble_eq_true rfl) (pl6 hjj5) (by decide) rfl rfl dX10_read_59 hC (fun r S' h => by obtain ⟨v, rfl, h⟩ := h; exact kk v S' h)
theorem bkX10_read_62 {d : Nat} {S : hs_T} {Q : Option av_T → hs_T → Prop} {x1 x2 x3 x4 x6 y0 : Int32} {j5 : Nat} {o7 o8 o9 : Option av_T} (kn : Ev d mX10_read 66 [some (vR 10 0), some (vI x1), some (vI x2), some (vI x3), some (vI x4), some (vR 6 j5), some (vI x6), o7, o8, o9] [vI y0] S Q) : Ev d mX10_read 62 [some (vR 10 0), some (vI x1), some (vI x2), some (vI x3), some (vI x4), some (vR 6 j5), some (vI x6), o7, o8, o9] [vI y0] S Q := by
  refine Ev.goto (tgt := 66) dX10_read_62 (by decide) ?_
  exact kn
theorem bkX10_read_65 {d : Nat} {S : hs_T} {Q : Option av_T → hs_T → Prop} {x1 x2 x3 x4 x6 : Int32} {j5 : Nat} {o7 o8 o9 : Option av_T} (kn : Ev d mX10_read 66 [some (vR 10 0), some (vI x1), some (vI x2), some (vI x3), some (vI x4), some (vR 6 j5), some (vI x6), o7, o8, o9] [vI 0] S Q) : Ev d mX10_read 65 [some (vR 10 0), some (vI x1), some (vI x2), some (vI x3), some (vI x4), some (vR 6 j5), some (vI x6), o7, o8, o9] [] S Q := by
  refine Ev.iconst (v := 0) dX10_read_65 (by decide) ?_
  exact kn
theorem bkX10_read_66 {d : Nat} {S : hs_T} {Q : Option av_T → hs_T → Prop} {x1 x2 x3 x4 x6 y0 : Int32} {j5 : Nat} {o7 o8 o9 : Option av_T} (kt : ¬ x6 = 0 → Ev d mX10_read 83 [some (vR 10 0), some (vI x1), some (vI x2), some (vI x3), some (vI x4), some (vR 6 j5), some (vI x6), some (vI y0), o8, o9] [] S Q) (kf : x6 = 0 → Ev d mX10_read 73 [some (vR 10 0), some (vI x1), some (vI x2), some (vI x3), some (vI x4), some (vR 6 j5), some (vI x6), some (vI y0), o8, o9] [] S Q) : Ev d mX10_read 66 [some (vR 10 0), some (vI x1), some (vI x2), some (vI x3), some (vI x4), some (vR 6 j5), some (vI x6), o7, o8, o9] [vI y0] S Q := by
  refine Ev.istore (ls' := [some (vR 10 0), some (vI x1), some (vI x2), some (vI x3), some (vI x4), some (vR 6 j5), some (vI x6), some (vI y0), o8, o9]) dX10_read_66 (by decide) rfl ?_
  refine Ev.iload dX10_read_68 rfl ?_
  exact Ev.if_ne (tgt := 83) dX10_read_70 (by decide) kt kf
theorem bkX10_read_73 {d : Nat} {S : hs_T} {Q : Option av_T → hs_T → Prop} {x1 x2 x3 x4 x6 x7 : Int32} {j5 : Nat} {o8 o9 : Option av_T} (kt : x4 ≤ x7 → Ev d mX10_read 83 [some (vR 10 0), some (vI x1), some (vI x2), some (vI x3), some (vI x4), some (vR 6 j5), some (vI x6), some (vI x7), o8, o9] [] S Q) (kf : ¬ x4 ≤ x7 → Ev d mX10_read 80 [some (vR 10 0), some (vI x1), some (vI x2), some (vI x3), some (vI x4), some (vR 6 j5), some (vI x6), some (vI x7), o8, o9] [] S Q) : Ev d mX10_read 73 [some (vR 10 0), some (vI x1), some (vI x2), some (vI x3), some (vI x4), some (vR 6 j5), some (vI x6), some (vI x7), o8, o9] [] S Q := by
  refine Ev.iload dX10_read_73 rfl ?_
  refine Ev.iload dX10_read_75 rfl ?_
  exact Ev.icmp_ge (tgt := 83) dX10_read_77 (by decide) kt kf
theorem bkX10_read_80 {d : Nat} {S : hs_T} {Q : Option av_T → hs_T → Prop} {x1 x2 x3 x4 x6 x7 : Int32} {j5 : Nat} {o8 o9 : Option av_T} (kn : Ev d mX10_read 83 [some (vR 10 0), some (vI x1), some (vI x2), some (vI x3), some (vI x4), some (vR 6 j5), some (vI 2), some (vI x7), o8, o9] [] S Q) : Ev d mX10_read 80 [some (vR 10 0), some (vI x1), some (vI x2), some (vI x3), some (vI x4), some (vR 6 j5), some (vI x6), some (vI x7), o8, o9] [] S Q := by
  refine Ev.iconst (v := 2) dX10_read_80 (by decide) ?_
  refine Ev.istore (ls' := [some (vR 10 0), some (vI x1), some (vI x2), some (vI x3), some (vI x4), some (vR 6 j5), some (vI 2), some (vI x7), o8, o9]) dX10_read_81 (by decide) rfl ?_
  exact kn
theorem bkX10_read_83 {d : Nat} {S : hs_T} {Q : Option av_T → hs_T → Prop} {P : Int32 → hs_T → Prop} {x1 x2 x3 x4 x6 x7 : Int32} {j5 : Nat} {o8 o9 : Option av_T} (hC : Ci d mX10_firstRefusal [vR 10 0, vR 6 j5, vI x3, vI x7] S P) (kk : ∀ v S', P v S' → Ev (d + 1) mX10_read 92 [some (vR 10 0), some (vI x1), some (vI x2), some (vI x3), some (vI x4), some (vR 6 j5), some (vI x6), some (vI x7), o8, o9] [vI v] S' Q) : Ev (d + 1) mX10_read 83 [some (vR 10 0), some (vI x1), some (vI x2), some (vI x3), some (vI x4), some (vR 6 j5), some (vI x6), some (vI x7), o8, o9] [] S Q := by
  refine Ev.aload_n dX10_read_83 rfl rfl ?_
  refine Ev.aload dX10_read_84 rfl ?_
  refine Ev.iload_n dX10_read_86 rfl rfl ?_
  refine Ev.iload dX10_read_87 rfl ?_
  exact Ev.callV (as := [vR 6 j5, vI x3, vI x7]) (rest := []) okX10_firstRefusal in_X10_firstRefusal ml_X10_344 rfl (Nat.le_of_ble_eq_true rfl) pz_10_0 (by decide) rfl rfl dX10_read_89 hC (fun r S' h => by obtain ⟨v, rfl, h⟩ := h; exact kk v S' h)
theorem bkX10_read_92 {d : Nat} {S : hs_T} {Q : Option av_T → hs_T → Prop} {x1 x2 x3 x4 x6 x7 y0 : Int32} {j5 : Nat} {o8 o9 : Option av_T} (kt : y0 = 0 → Ev d mX10_read 102 [some (vR 10 0), some (vI x1), some (vI x2), some (vI x3), some (vI x4), some (vR 6 j5), some (vI x6), some (vI x7), some (vI y0), o9] [] S Q) (kf : ¬ y0 = 0 → Ev d mX10_read 99 [some (vR 10 0), some (vI x1), some (vI x2), some (vI x3), some (vI x4), some (vR 6 j5), some (vI x6), some (vI x7), some (vI y0), o9] [] S Q) : Ev d mX10_read 92 [some (vR 10 0), some (vI x1), some (vI x2), some (vI x3), some (vI x4), some (vR 6 j5), some (vI x6), some (vI x7), o8, o9] [vI y0] S Q := by
  refine Ev.istore (ls' := [some (vR 10 0), some (vI x1), some (vI x2), some (vI x3), some (vI x4), some (vR 6 j5), some (vI x6), some (vI x7), some (vI y0), o9]) dX10_read_92 (by decide) rfl ?_
  refine Ev.iload dX10_read_94 rfl ?_
  exact Ev.if_eq (tgt := 102) dX10_read_96 (by decide) kt kf
theorem bkX10_read_99 {d : Nat} {S : hs_T} {Q : Option av_T → hs_T → Prop} {x1 x2 x3 x4 x6 x7 x8 : Int32} {j5 : Nat} {o9 : Option av_T} (hq : Q (some (vI x8)) S) : Ev d mX10_read 99 [some (vR 10 0), some (vI x1), some (vI x2), some (vI x3), some (vI x4), some (vR 6 j5), some (vI x6), some (vI x7), some (vI x8), o9] [] S Q := by
  refine Ev.iload dX10_read_99 rfl ?_
  exact Ev.iret dX10_read_101 rfl rfl hq
theorem bkX10_read_102 {d : Nat} {S : hs_T} {Q : Option av_T → hs_T → Prop} {x1 x2 x3 x4 x6 x7 x8 : Int32} {j5 : Nat} {o9 : Option av_T} (kn : Ev d mX10_read 105 [some (vR 10 0), some (vI x1), some (vI x2), some (vI x3), some (vI x4), some (vR 6 j5), some (vI x6), some (vI x7), some (vI x8), some (vI 0)] [] S Q) : Ev d mX10_read 102 [some (vR 10 0), some (vI x1), some (vI x2), some (vI x3), some (vI x4), some (vR 6 j5), some (vI x6), some (vI x7), some (vI x8), o9] [] S Q := by
  refine Ev.iconst (v := 0) dX10_read_102 (by decide) ?_
  refine Ev.istore (ls' := [some (vR 10 0), some (vI x1), some (vI x2), some (vI x3), some (vI x4), some (vR 6 j5), some (vI x6), some (vI x7), some (vI x8), some (vI 0)]) dX10_read_103 (by decide) rfl ?_
  exact kn
theorem bkX10_read_105 {d : Nat} {S : hs_T} {Q : Option av_T → hs_T → Prop} {x1 x2 x3 x4 x6 x7 x8 x9 : Int32} {j5 : Nat} (kt : x7 ≤ x9 → Ev d mX10_read 149 [some (vR 10 0), some (vI x1), some (vI x2), some (vI x3), some (vI x4), some (vR 6 j5), some (vI x6), some (vI x7), some (vI x8), some (vI x9)] [] S Q) (kf : ¬ x7 ≤ x9 → Ev d mX10_read 112 [some (vR 10 0), some (vI x1), some (vI x2), some (vI x3), some (vI x4), some (vR 6 j5), some (vI x6), some (vI x7), some (vI x8), some (vI x9)] [] S Q) : Ev d mX10_read 105 [some (vR 10 0), some (vI x1), some (vI x2), some (vI x3), some (vI x4), some (vR 6 j5), some (vI x6), some (vI x7), some (vI x8), some (vI x9)] [] S Q := by
  refine Ev.iload dX10_read_105 rfl ?_
  refine Ev.iload dX10_read_107 rfl ?_
  exact Ev.icmp_ge (tgt := 149) dX10_read_109 (by decide) kt kf
theorem bkX10_read_112 {d : Nat} {S : hs_T} {Q : Option av_T → hs_T → Prop} {P : Int32 → hs_T → Prop} {x1 x2 x3 x4 x6 x7 x8 x9 : Int32} {j5 : Nat} (hjj5 : j5 < 4) (hC : Ci d mX6_cell [vR 6 j5, vI (x3 + (2 * x9))] S P) (kk : ∀ v S', P v S' → Ev (d + 1) mX10_read 127 [some (vR 10 0), some (vI x1), some (vI x2), some (vI x3), some (vI x4), some (vR 6 j5), some (vI x6), some (vI x7), some (vI x8), some (vI x9)] [vI v, vR 8 0] S' Q) : Ev (d + 1) mX10_read 112 [some (vR 10 0), some (vI x1), some (vI x2), some (vI x3), some (vI x4), some (vR 6 j5), some (vI x6), some (vI x7), some (vI x8), some (vI x9)] [] S Q := by
  refine Ev.aload_n dX10_read_112 rfl rfl ?_
  refine Ev.get (v := vR 8 0) okX10 (by decide) fl_X10_19 pz_10_0 (ff_10_1 _ _) dX10_read_113 ?_
  refine Ev.aload dX10_read_116 rfl ?_
  refine Ev.iload_n dX10_read_118 rfl rfl ?_
  refine Ev.iconst (v := 2) dX10_read_119 (by decide) ?_
  refine Ev.iload dX10_read_120 rfl ?_
  refine Ev.imul dX10_read_122 ?_
  refine Ev.iadd dX10_read_123 ?_
  exact Ev.callV (as := [vI (x3 + (2 * x9))]) (rest := [vR 8 0]) okX6_cell in_X6_cell ml_X10_348 rfl (Nat.le_of_ble_eq_true rfl) (pl6 hjj5) (by decide) rfl rfl dX10_read_124 hC (fun r S' h => by obtain ⟨v, rfl, h⟩ := h; exact kk v S' h)
theorem bkX10_read_127 {d : Nat} {S : hs_T} {Q : Option av_T → hs_T → Prop} {P : Int32 → hs_T → Prop} {x1 x2 x3 x4 x6 x7 x8 x9 y0 : Int32} {j5 : Nat} (hjj5 : j5 < 4) (hC : Ci d mX6_cell [vR 6 j5, vI ((x3 + (2 * x9)) + 1)] S P) (kk : ∀ v S', P v S' → Ev (d + 1) mX10_read 140 [some (vR 10 0), some (vI x1), some (vI x2), some (vI x3), some (vI x4), some (vR 6 j5), some (vI x6), some (vI x7), some (vI x8), some (vI x9)] [vI v, vI y0, vR 8 0] S' Q) : Ev (d + 1) mX10_read 127 [some (vR 10 0), some (vI x1), some (vI x2), some (vI x3), some (vI x4), some (vR 6 j5), some (vI x6), some (vI x7), some (vI x8), some (vI x9)] [vI y0, vR 8 0] S Q := by
  refine Ev.aload dX10_read_127 rfl ?_
  refine Ev.iload_n dX10_read_129 rfl rfl ?_
  refine Ev.iconst (v := 2) dX10_read_130 (by decide) ?_
  refine Ev.iload dX10_read_131 rfl ?_
  refine Ev.imul dX10_read_133 ?_
  refine Ev.iadd dX10_read_134 ?_
  refine Ev.iconst (v := 1) dX10_read_135 (by decide) ?_
  refine Ev.iadd dX10_read_136 ?_
  exact Ev.callV (as := [vI ((x3 + (2 * x9)) + 1)]) (rest := [vI y0, vR 8 0]) okX6_cell in_X6_cell ml_X10_348 rfl (Nat.le_of_ble_eq_true rfl) (pl6 hjj5) (by decide) rfl rfl dX10_read_137 hC (fun r S' h => by obtain ⟨v, rfl, h⟩ := h; exact kk v S' h)
theorem bkX10_read_140 {d : Nat} {S : hs_T} {Q : Option av_T → hs_T → Prop} {P : hs_T → Prop} {x1 x2 x3 x4 x6 x7 x8 x9 y0 y1 : Int32} {j5 : Nat} (hC : Cv d mX8_append [vR 8 0, vI y1, vI y0] S P) (kk : ∀ S', P S' → Ev (d + 1) mX10_read 143 [some (vR 10 0), some (vI x1), some (vI x2), some (vI x3), some (vI x4), some (vR 6 j5), some (vI x6), some (vI x7), some (vI x8), some (vI x9)] [] S' Q) : Ev (d + 1) mX10_read 140 [some (vR 10 0), some (vI x1), some (vI x2), some (vI x3), some (vI x4), some (vR 6 j5), some (vI x6), some (vI x7), some (vI x8), some (vI x9)] [vI y0, vI y1, vR 8 0] S Q := by
  exact Ev.callV (as := [vI y1, vI y0]) (rest := []) okX8_append in_X8_append ml_X10_156 rfl (Nat.le_of_ble_eq_true rfl) pz_8_0 (by decide) rfl rfl dX10_read_140 hC (fun r S' h => by obtain ⟨rfl, h⟩ := h; exact kk S' h)
theorem bkX10_read_143 {d : Nat} {S : hs_T} {Q : Option av_T → hs_T → Prop} {x1 x2 x3 x4 x6 x7 x8 x9 : Int32} {j5 : Nat} (kn : Ev d mX10_read 105 [some (vR 10 0), some (vI x1), some (vI x2), some (vI x3), some (vI x4), some (vR 6 j5), some (vI x6), some (vI x7), some (vI x8), some (vI (x9 + 1))] [] S Q) : Ev d mX10_read 143 [some (vR 10 0), some (vI x1), some (vI x2), some (vI x3), some (vI x4), some (vR 6 j5), some (vI x6), some (vI x7), some (vI x8), some (vI x9)] [] S Q := by
  refine Ev.iinc (v := (x9 + 1)) (ls' := [some (vR 10 0), some (vI x1), some (vI x2), some (vI x3), some (vI x4), some (vR 6 j5), some (vI x6), some (vI x7), some (vI x8), some (vI (x9 + 1))]) dX10_read_143 rfl rfl (by decide) rfl ?_
  refine Ev.goto (tgt := 105) dX10_read_146 (by decide) ?_
  exact kn
theorem bkX10_read_149 {d : Nat} {S : hs_T} {Q : Option av_T → hs_T → Prop} {x1 x2 x3 x4 x6 x7 x8 x9 : Int32} {j5 : Nat} (hq : Q (some (vI x7)) (sk_ S 10 0 (upd (S.1 10 0) 12 x6))) : Ev d mX10_read 149 [some (vR 10 0), some (vI x1), some (vI x2), some (vI x3), some (vI x4), some (vR 6 j5), some (vI x6), some (vI x7), some (vI x8), some (vI x9)] [] S Q := by
  refine Ev.aload_n dX10_read_149 rfl rfl ?_
  refine Ev.iload dX10_read_150 rfl ?_
  refine Ev.put okX10 (by decide) fl_X10_351 pz_10_0 (by decide) rfl rfl rfl rfl dX10_read_152 ?_
  refine Ev.iload dX10_read_155 rfl ?_
  exact Ev.iret dX10_read_157 rfl rfl hq
/-! EightWires.torn()I -/
theorem bkX10_torn_0 {d : Nat} {S : hs_T} {Q : Option av_T → hs_T → Prop} (hq : Q (some (vI (S.1 10 0 12))) S) : Ev d mX10_torn 0 [some (vR 10 0)] [] S Q := by
  refine Ev.aload_n dX10_torn_0 rfl rfl ?_
  refine Ev.get (v := vI (S.1 10 0 12)) okX10 (by decide) fl_X10_351 pz_10_0 (ff_10_12 _ _) dX10_torn_1 ?_
  exact Ev.iret dX10_torn_4 rfl rfl hq
/-! EightWires.count(I)I -/
theorem bkX10_count_0 {d : Nat} {S : hs_T} {Q : Option av_T → hs_T → Prop} {x1 : Int32} (k0 : x1 = 0 → Ev d mX10_count 32 [some (vR 10 0), some (vI x1)] [] S Q) (k1 : x1 = 1 → Ev d mX10_count 40 [some (vR 10 0), some (vI x1)] [] S Q) (k2 : x1 = 2 → Ev d mX10_count 45 [some (vR 10 0), some (vI x1)] [] S Q) (k3 : x1 = 3 → Ev d mX10_count 56 [some (vR 10 0), some (vI x1)] [] S Q) (kd : ¬ x1 = 0 → ¬ x1 = 1 → ¬ x1 = 2 → ¬ x1 = 3 → Ev d mX10_count 61 [some (vR 10 0), some (vI x1)] [] S Q) : Ev d mX10_count 0 [some (vR 10 0), some (vI x1)] [] S Q := by
  refine Ev.iload_n dX10_count_0 rfl rfl ?_
  by_cases hc0 : x1 = 0
  · exact Ev.tableIn (off := 31) (tgt := 32) dX10_count_1 (by rw [hc0]; decide) (by rw [hc0]; decide) (by rw [hc0]; rfl) (by decide) (k0 hc0)
  by_cases hc1 : x1 = 1
  · exact Ev.tableIn (off := 39) (tgt := 40) dX10_count_1 (by rw [hc1]; decide) (by rw [hc1]; decide) (by rw [hc1]; rfl) (by decide) (k1 hc1)
  by_cases hc2 : x1 = 2
  · exact Ev.tableIn (off := 44) (tgt := 45) dX10_count_1 (by rw [hc2]; decide) (by rw [hc2]; decide) (by rw [hc2]; rfl) (by decide) (k2 hc2)
  by_cases hc3 : x1 = 3
  · exact Ev.tableIn (off := 55) (tgt := 56) dX10_count_1 (by rw [hc3]; decide) (by rw [hc3]; decide) (by rw [hc3]; rfl) (by decide) (k3 hc3)
  refine Ev.tableOut (tgt := 61) dX10_count_1 (tw_out (fun c h1 h2 => ?_)) (by decide) (kd hc0 hc1 hc2 hc3)
  have hcs : c = 0 ∨ c = 1 ∨ c = 2 ∨ c = 3 := by omega
  rcases hcs with rfl | rfl | rfl | rfl
  · exact fun z => hc0 (Int32.toInt_inj.mp (z.trans (by decide)))
  · exact fun z => hc1 (Int32.toInt_inj.mp (z.trans (by decide)))
  · exact fun z => hc2 (Int32.toInt_inj.mp (z.trans (by decide)))
  · exact fun z => hc3 (Int32.toInt_inj.mp (z.trans (by decide)))
theorem bkX10_count_32 {d : Nat} {S : hs_T} {Q : Option av_T → hs_T → Prop} {x1 : Int32} (hq : Q (some (vI (S.1 8 0 1))) S) : Ev d mX10_count 32 [some (vR 10 0), some (vI x1)] [] S Q := by
  refine Ev.aload_n dX10_count_32 rfl rfl ?_
  refine Ev.get (v := vR 8 0) okX10 (by decide) fl_X10_19 pz_10_0 (ff_10_1 _ _) dX10_count_33 ?_
  refine Ev.get (v := vI (S.1 8 0 1)) okX8 (by decide) fl_X10_151 pz_8_0 (ff_8_1 _ _) dX10_count_36 ?_
  exact Ev.iret dX10_count_39 rfl rfl hq
theorem bkX10_count_40 {d : Nat} {S : hs_T} {Q : Option av_T → hs_T → Prop} {P : Int32 → hs_T → Prop} {x1 : Int32} (hC : Ci d mX10_imagesKept [vR 10 0] S P) (kk : ∀ v S', P v S' → Ev (d + 1) mX10_count 44 [some (vR 10 0), some (vI x1)] [vI v] S' Q) : Ev (d + 1) mX10_count 40 [some (vR 10 0), some (vI x1)] [] S Q := by
  refine Ev.aload_n dX10_count_40 rfl rfl ?_
  exact Ev.callV (as := []) (rest := []) okX10_imagesKept in_X10_imagesKept ml_X10_354 rfl (Nat.le_of_ble_eq_true rfl) pz_10_0 (by decide) rfl rfl dX10_count_41 hC (fun r S' h => by obtain ⟨v, rfl, h⟩ := h; exact kk v S' h)
theorem bkX10_count_44 {d : Nat} {S : hs_T} {Q : Option av_T → hs_T → Prop} {x1 y0 : Int32} (hq : Q (some (vI y0)) S) : Ev d mX10_count 44 [some (vR 10 0), some (vI x1)] [vI y0] S Q := by
  exact Ev.iret dX10_count_44 rfl rfl hq
theorem bkX10_count_45 {d : Nat} {S : hs_T} {Q : Option av_T → hs_T → Prop} {x1 : Int32} (hq : Q (some (vI (S.1 7 0 1))) S) : Ev d mX10_count 45 [some (vR 10 0), some (vI x1)] [] S Q := by
  refine Ev.aload_n dX10_count_45 rfl rfl ?_
  refine Ev.get (v := vR 4 0) okX10 (by decide) fl_X10_10 pz_10_0 (ff_10_0 _ _) dX10_count_46 ?_
  refine Ev.get (v := vR 7 0) okX4 (by decide) fl_X10_79 pz_4_0 (ff_4_0 _ _) dX10_count_49 ?_
  refine Ev.get (v := vI (S.1 7 0 1)) okX7 (by decide) fl_X10_83 pz_7_0 (ff_7_1 _ _) dX10_count_52 ?_
  exact Ev.iret dX10_count_55 rfl rfl hq
theorem bkX10_count_56 {d : Nat} {S : hs_T} {Q : Option av_T → hs_T → Prop} {P : Int32 → hs_T → Prop} {x1 : Int32} (hC : Ci d mX10_cellsOfFirst [vR 10 0] S P) (kk : ∀ v S', P v S' → Ev (d + 1) mX10_count 60 [some (vR 10 0), some (vI x1)] [vI v] S' Q) : Ev (d + 1) mX10_count 56 [some (vR 10 0), some (vI x1)] [] S Q := by
  refine Ev.aload_n dX10_count_56 rfl rfl ?_
  exact Ev.callV (as := []) (rest := []) okX10_cellsOfFirst in_X10_cellsOfFirst ml_X10_358 rfl (Nat.le_of_ble_eq_true rfl) pz_10_0 (by decide) rfl rfl dX10_count_57 hC (fun r S' h => by obtain ⟨v, rfl, h⟩ := h; exact kk v S' h)
theorem bkX10_count_60 {d : Nat} {S : hs_T} {Q : Option av_T → hs_T → Prop} {x1 y0 : Int32} (hq : Q (some (vI y0)) S) : Ev d mX10_count 60 [some (vR 10 0), some (vI x1)] [vI y0] S Q := by
  exact Ev.iret dX10_count_60 rfl rfl hq
theorem bkX10_count_61 {d : Nat} {S : hs_T} {Q : Option av_T → hs_T → Prop} {x1 : Int32} (hq : Q (some (vI (-1))) S) : Ev d mX10_count 61 [some (vR 10 0), some (vI x1)] [] S Q := by
  refine Ev.iconst (v := (-1)) dX10_count_61 (by decide) ?_
  exact Ev.iret dX10_count_62 rfl rfl hq
/-! EightWires.within(III)Z -/
theorem bkX10_within_0 {d : Nat} {S : hs_T} {Q : Option av_T → hs_T → Prop} {x0 x1 x2 : Int32} (kt : x0 < x1 → Ev d mX10_within 14 [some (vI x0), some (vI x1), some (vI x2)] [] S Q) (kf : ¬ x0 < x1 → Ev d mX10_within 5 [some (vI x0), some (vI x1), some (vI x2)] [] S Q) : Ev d mX10_within 0 [some (vI x0), some (vI x1), some (vI x2)] [] S Q := by
  refine Ev.iload_n dX10_within_0 rfl rfl ?_
  refine Ev.iload_n dX10_within_1 rfl rfl ?_
  exact Ev.icmp_lt (tgt := 14) dX10_within_2 (by decide) kt kf
theorem bkX10_within_5 {d : Nat} {S : hs_T} {Q : Option av_T → hs_T → Prop} {x0 x1 x2 : Int32} (kt : x2 < x0 → Ev d mX10_within 14 [some (vI x0), some (vI x1), some (vI x2)] [] S Q) (kf : ¬ x2 < x0 → Ev d mX10_within 10 [some (vI x0), some (vI x1), some (vI x2)] [] S Q) : Ev d mX10_within 5 [some (vI x0), some (vI x1), some (vI x2)] [] S Q := by
  refine Ev.iload_n dX10_within_5 rfl rfl ?_
  refine Ev.iload_n dX10_within_6 rfl rfl ?_
  exact Ev.icmp_gt (tgt := 14) dX10_within_7 (by decide) kt kf
theorem bkX10_within_10 {d : Nat} {S : hs_T} {Q : Option av_T → hs_T → Prop} {x0 x1 x2 : Int32} (kn : Ev d mX10_within 15 [some (vI x0), some (vI x1), some (vI x2)] [vI 1] S Q) : Ev d mX10_within 10 [some (vI x0), some (vI x1), some (vI x2)] [] S Q := by
  refine Ev.iconst (v := 1) dX10_within_10 (by decide) ?_
  refine Ev.goto (tgt := 15) dX10_within_11 (by decide) ?_
  exact kn
theorem bkX10_within_14 {d : Nat} {S : hs_T} {Q : Option av_T → hs_T → Prop} {x0 x1 x2 : Int32} (kn : Ev d mX10_within 15 [some (vI x0), some (vI x1), some (vI x2)] [vI 0] S Q) : Ev d mX10_within 14 [some (vI x0), some (vI x1), some (vI x2)] [] S Q := by
  refine Ev.iconst (v := 0) dX10_within_14 (by decide) ?_
  exact kn
theorem bkX10_within_15 {d : Nat} {S : hs_T} {Q : Option av_T → hs_T → Prop} {x0 x1 x2 y0 : Int32} (hn15 : narrow .boolean (.int y0) = .int y0) (hq : Q (some (vI y0)) S) : Ev d mX10_within 15 [some (vI x0), some (vI x1), some (vI x2)] [vI y0] S Q := by
  exact Ev.iret dX10_within_15 rfl hn15 hq
/-! EightWires.isWire(I)Z -/
theorem bkX10_isWire_0 {d : Nat} {S : hs_T} {Q : Option av_T → hs_T → Prop} {P : Int32 → hs_T → Prop} {x0 : Int32} (hC : Ci d mX10_within [vI x0, vI 0, vI 7] S P) (kk : ∀ v S', P v S' → Ev (d + 1) mX10_isWire 7 [some (vI x0)] [vI v] S' Q) : Ev (d + 1) mX10_isWire 0 [some (vI x0)] [] S Q := by
  refine Ev.iload_n dX10_isWire_0 rfl rfl ?_
  refine Ev.iconst (v := 0) dX10_isWire_1 (by decide) ?_
  refine Ev.bipush (v := 7) dX10_isWire_2 (by decide) ?_
  exact Ev.callS (as := [vI x0, vI 0, vI 7]) (rest := []) okX10_within stX10_within ml_X10_93 rfl (Nat.le_of_ble_eq_true rfl) rfl dX10_isWire_4 hC (fun r S' h => by obtain ⟨v, rfl, h⟩ := h; exact kk v S' h)
theorem bkX10_isWire_7 {d : Nat} {S : hs_T} {Q : Option av_T → hs_T → Prop} {x0 y0 : Int32} (hn7 : narrow .boolean (.int y0) = .int y0) (hq : Q (some (vI y0)) S) : Ev d mX10_isWire 7 [some (vI x0)] [vI y0] S Q := by
  exact Ev.iret dX10_isWire_7 rfl hn7 hq
/-! EightWires.isLane(I)Z -/
theorem bkX10_isLane_0 {d : Nat} {S : hs_T} {Q : Option av_T → hs_T → Prop} {P : Int32 → hs_T → Prop} {x0 : Int32} (hC : Ci d mX10_within [vI x0, vI 0, vI 2] S P) (kk : ∀ v S', P v S' → Ev (d + 1) mX10_isLane 6 [some (vI x0)] [vI v] S' Q) : Ev (d + 1) mX10_isLane 0 [some (vI x0)] [] S Q := by
  refine Ev.iload_n dX10_isLane_0 rfl rfl ?_
  refine Ev.iconst (v := 0) dX10_isLane_1 (by decide) ?_
  refine Ev.iconst (v := 2) dX10_isLane_2 (by decide) ?_
  exact Ev.callS (as := [vI x0, vI 0, vI 2]) (rest := []) okX10_within stX10_within ml_X10_93 rfl (Nat.le_of_ble_eq_true rfl) rfl dX10_isLane_3 hC (fun r S' h => by obtain ⟨v, rfl, h⟩ := h; exact kk v S' h)
theorem bkX10_isLane_6 {d : Nat} {S : hs_T} {Q : Option av_T → hs_T → Prop} {x0 y0 : Int32} (hn6 : narrow .boolean (.int y0) = .int y0) (hq : Q (some (vI y0)) S) : Ev d mX10_isLane 6 [some (vI x0)] [vI y0] S Q := by
  exact Ev.iret dX10_isLane_6 rfl hn6 hq
/-! EightWires.greatestDivisor(II)I -/
theorem bkX10_greatestDivisor_0 {d : Nat} {S : hs_T} {Q : Option av_T → hs_T → Prop} {x0 x1 : Int32} {o2 o3 o4 o5 : Option av_T} (kn : Ev d mX10_greatestDivisor 7 [some (vI x0), some (vI x1), some (vI x0), some (vI x1), some (vI 0), o5] [] S Q) : Ev d mX10_greatestDivisor 0 [some (vI x0), some (vI x1), o2, o3, o4, o5] [] S Q := by
  refine Ev.iload_n dX10_greatestDivisor_0 rfl rfl ?_
  refine Ev.istore_n (ls' := [some (vI x0), some (vI x1), some (vI x0), o3, o4, o5]) dX10_greatestDivisor_1 rfl (by decide) rfl ?_
  refine Ev.iload_n dX10_greatestDivisor_2 rfl rfl ?_
  refine Ev.istore_n (ls' := [some (vI x0), some (vI x1), some (vI x0), some (vI x1), o4, o5]) dX10_greatestDivisor_3 rfl (by decide) rfl ?_
  refine Ev.iconst (v := 0) dX10_greatestDivisor_4 (by decide) ?_
  refine Ev.istore (ls' := [some (vI x0), some (vI x1), some (vI x0), some (vI x1), some (vI 0), o5]) dX10_greatestDivisor_5 (by decide) rfl ?_
  exact kn
theorem bkX10_greatestDivisor_7 {d : Nat} {S : hs_T} {Q : Option av_T → hs_T → Prop} {x0 x1 x2 x3 x4 : Int32} {o5 : Option av_T} (kt : 64 ≤ x4 → Ev d mX10_greatestDivisor 34 [some (vI x0), some (vI x1), some (vI x2), some (vI x3), some (vI x4), o5] [] S Q) (kf : ¬ 64 ≤ x4 → Ev d mX10_greatestDivisor 14 [some (vI x0), some (vI x1), some (vI x2), some (vI x3), some (vI x4), o5] [] S Q) : Ev d mX10_greatestDivisor 7 [some (vI x0), some (vI x1), some (vI x2), some (vI x3), some (vI x4), o5] [] S Q := by
  refine Ev.iload dX10_greatestDivisor_7 rfl ?_
  refine Ev.bipush (v := 64) dX10_greatestDivisor_9 (by decide) ?_
  exact Ev.icmp_ge (tgt := 34) dX10_greatestDivisor_11 (by decide) kt kf
theorem bkX10_greatestDivisor_14 {d : Nat} {S : hs_T} {Q : Option av_T → hs_T → Prop} {x0 x1 x2 x3 x4 : Int32} {o5 : Option av_T} (kt : x3 = 0 → Ev d mX10_greatestDivisor 34 [some (vI x0), some (vI x1), some (vI x2), some (vI x3), some (vI x4), o5] [] S Q) (kf : ¬ x3 = 0 → Ev d mX10_greatestDivisor 18 [some (vI x0), some (vI x1), some (vI x2), some (vI x3), some (vI x4), o5] [] S Q) : Ev d mX10_greatestDivisor 14 [some (vI x0), some (vI x1), some (vI x2), some (vI x3), some (vI x4), o5] [] S Q := by
  refine Ev.iload_n dX10_greatestDivisor_14 rfl rfl ?_
  exact Ev.if_eq (tgt := 34) dX10_greatestDivisor_15 (by decide) kt kf
theorem bkX10_greatestDivisor_18 {d : Nat} {S : hs_T} {Q : Option av_T → hs_T → Prop} {x0 x1 x2 x3 x4 : Int32} {o5 : Option av_T} (hz20 : ¬ x3 = 0) (kn : Ev d mX10_greatestDivisor 7 [some (vI x0), some (vI x1), some (vI x3), some (vI (x2 - x2 / x3 * x3)), some (vI (x4 + 1)), some (vI (x2 - x2 / x3 * x3))] [] S Q) : Ev d mX10_greatestDivisor 18 [some (vI x0), some (vI x1), some (vI x2), some (vI x3), some (vI x4), o5] [] S Q := by
  refine Ev.iload_n dX10_greatestDivisor_18 rfl rfl ?_
  refine Ev.iload_n dX10_greatestDivisor_19 rfl rfl ?_
  refine Ev.irem dX10_greatestDivisor_20 hz20 ?_
  refine Ev.istore (ls' := [some (vI x0), some (vI x1), some (vI x2), some (vI x3), some (vI x4), some (vI (x2 - x2 / x3 * x3))]) dX10_greatestDivisor_21 (by decide) rfl ?_
  refine Ev.iload_n dX10_greatestDivisor_23 rfl rfl ?_
  refine Ev.istore_n (ls' := [some (vI x0), some (vI x1), some (vI x3), some (vI x3), some (vI x4), some (vI (x2 - x2 / x3 * x3))]) dX10_greatestDivisor_24 rfl (by decide) rfl ?_
  refine Ev.iload dX10_greatestDivisor_25 rfl ?_
  refine Ev.istore_n (ls' := [some (vI x0), some (vI x1), some (vI x3), some (vI (x2 - x2 / x3 * x3)), some (vI x4), some (vI (x2 - x2 / x3 * x3))]) dX10_greatestDivisor_27 rfl (by decide) rfl ?_
  refine Ev.iinc (v := (x4 + 1)) (ls' := [some (vI x0), some (vI x1), some (vI x3), some (vI (x2 - x2 / x3 * x3)), some (vI (x4 + 1)), some (vI (x2 - x2 / x3 * x3))]) dX10_greatestDivisor_28 rfl rfl (by decide) rfl ?_
  refine Ev.goto (tgt := 7) dX10_greatestDivisor_31 (by decide) ?_
  exact kn
theorem bkX10_greatestDivisor_34 {d : Nat} {S : hs_T} {Q : Option av_T → hs_T → Prop} {x0 x1 x2 x3 x4 : Int32} {o5 : Option av_T} (hq : Q (some (vI x2)) S) : Ev d mX10_greatestDivisor 34 [some (vI x0), some (vI x1), some (vI x2), some (vI x3), some (vI x4), o5] [] S Q := by
  refine Ev.iload_n dX10_greatestDivisor_34 rfl rfl ?_
  exact Ev.iret dX10_greatestDivisor_35 rfl rfl hq
/-! EightWires.refusalOf(III)I -/
theorem bkX10_refusalOf_0 {d : Nat} {S : hs_T} {Q : Option av_T → hs_T → Prop} {P : Int32 → hs_T → Prop} {x0 x1 x2 : Int32} (hC : Ci d mX10_within [vI x0, vI 1, vI 400] S P) (kk : ∀ v S', P v S' → Ev (d + 1) mX10_refusalOf 8 [some (vI x0), some (vI x1), some (vI x2)] [vI v] S' Q) : Ev (d + 1) mX10_refusalOf 0 [some (vI x0), some (vI x1), some (vI x2)] [] S Q := by
  refine Ev.iload_n dX10_refusalOf_0 rfl rfl ?_
  refine Ev.iconst (v := 1) dX10_refusalOf_1 (by decide) ?_
  refine Ev.sipush (v := 400) dX10_refusalOf_2 (by decide) ?_
  exact Ev.callS (as := [vI x0, vI 1, vI 400]) (rest := []) okX10_within stX10_within ml_X10_93 rfl (Nat.le_of_ble_eq_true rfl) rfl dX10_refusalOf_5 hC (fun r S' h => by obtain ⟨v, rfl, h⟩ := h; exact kk v S' h)
theorem bkX10_refusalOf_8 {d : Nat} {S : hs_T} {Q : Option av_T → hs_T → Prop} {x0 x1 x2 y0 : Int32} (kt : y0 = 0 → Ev d mX10_refusalOf 22 [some (vI x0), some (vI x1), some (vI x2)] [] S Q) (kf : ¬ y0 = 0 → Ev d mX10_refusalOf 11 [some (vI x0), some (vI x1), some (vI x2)] [] S Q) : Ev d mX10_refusalOf 8 [some (vI x0), some (vI x1), some (vI x2)] [vI y0] S Q := by
  exact Ev.if_eq (tgt := 22) dX10_refusalOf_8 (by decide) kt kf
theorem bkX10_refusalOf_11 {d : Nat} {S : hs_T} {Q : Option av_T → hs_T → Prop} {P : Int32 → hs_T → Prop} {x0 x1 x2 : Int32} (hC : Ci d mX10_within [vI x1, vI 0, vI 255] S P) (kk : ∀ v S', P v S' → Ev (d + 1) mX10_refusalOf 19 [some (vI x0), some (vI x1), some (vI x2)] [vI v] S' Q) : Ev (d + 1) mX10_refusalOf 11 [some (vI x0), some (vI x1), some (vI x2)] [] S Q := by
  refine Ev.iload_n dX10_refusalOf_11 rfl rfl ?_
  refine Ev.iconst (v := 0) dX10_refusalOf_12 (by decide) ?_
  refine Ev.sipush (v := 255) dX10_refusalOf_13 (by decide) ?_
  exact Ev.callS (as := [vI x1, vI 0, vI 255]) (rest := []) okX10_within stX10_within ml_X10_93 rfl (Nat.le_of_ble_eq_true rfl) rfl dX10_refusalOf_16 hC (fun r S' h => by obtain ⟨v, rfl, h⟩ := h; exact kk v S' h)
theorem bkX10_refusalOf_19 {d : Nat} {S : hs_T} {Q : Option av_T → hs_T → Prop} {x0 x1 x2 y0 : Int32} (kt : ¬ y0 = 0 → Ev d mX10_refusalOf 24 [some (vI x0), some (vI x1), some (vI x2)] [] S Q) (kf : y0 = 0 → Ev d mX10_refusalOf 22 [some (vI x0), some (vI x1), some (vI x2)] [] S Q) : Ev d mX10_refusalOf 19 [some (vI x0), some (vI x1), some (vI x2)] [vI y0] S Q := by
  exact Ev.if_ne (tgt := 24) dX10_refusalOf_19 (by decide) kt kf
theorem bkX10_refusalOf_22 {d : Nat} {S : hs_T} {Q : Option av_T → hs_T → Prop} {x0 x1 x2 : Int32} (hq : Q (some (vI (-1))) S) : Ev d mX10_refusalOf 22 [some (vI x0), some (vI x1), some (vI x2)] [] S Q := by
  refine Ev.iconst (v := (-1)) dX10_refusalOf_22 (by decide) ?_
  exact Ev.iret dX10_refusalOf_23 rfl rfl hq
theorem bkX10_refusalOf_24 {d : Nat} {S : hs_T} {Q : Option av_T → hs_T → Prop} {x0 x1 x2 : Int32} (kt : (x2 + x0) ≤ 400 → Ev d mX10_refusalOf 38 [some (vI x0), some (vI x1), some (vI x2)] [] S Q) (kf : ¬ (x2 + x0) ≤ 400 → Ev d mX10_refusalOf 33 [some (vI x0), some (vI x1), some (vI x2)] [] S Q) : Ev d mX10_refusalOf 24 [some (vI x0), some (vI x1), some (vI x2)] [] S Q := by
  refine Ev.iload_n dX10_refusalOf_24 rfl rfl ?_
  refine Ev.iload_n dX10_refusalOf_25 rfl rfl ?_
  refine Ev.iadd dX10_refusalOf_26 ?_
  refine Ev.sipush (v := 400) dX10_refusalOf_27 (by decide) ?_
  exact Ev.icmp_le (tgt := 38) dX10_refusalOf_30 (by decide) kt kf
theorem bkX10_refusalOf_33 {d : Nat} {S : hs_T} {Q : Option av_T → hs_T → Prop} {x0 x1 x2 : Int32} (kn : Ev d mX10_refusalOf 39 [some (vI x0), some (vI x1), some (vI x2)] [vI (-3)] S Q) : Ev d mX10_refusalOf 33 [some (vI x0), some (vI x1), some (vI x2)] [] S Q := by
  refine Ev.bipush (v := (-3)) dX10_refusalOf_33 (by decide) ?_
  refine Ev.goto (tgt := 39) dX10_refusalOf_35 (by decide) ?_
  exact kn
theorem bkX10_refusalOf_38 {d : Nat} {S : hs_T} {Q : Option av_T → hs_T → Prop} {x0 x1 x2 : Int32} (kn : Ev d mX10_refusalOf 39 [some (vI x0), some (vI x1), some (vI x2)] [vI 0] S Q) : Ev d mX10_refusalOf 38 [some (vI x0), some (vI x1), some (vI x2)] [] S Q := by
  refine Ev.iconst (v := 0) dX10_refusalOf_38 (by decide) ?_
  exact kn
theorem bkX10_refusalOf_39 {d : Nat} {S : hs_T} {Q : Option av_T → hs_T → Prop} {x0 x1 x2 y0 : Int32} (hq : Q (some (vI y0)) S) : Ev d mX10_refusalOf 39 [some (vI x0), some (vI x1), some (vI x2)] [vI y0] S Q := by
  exact Ev.iret dX10_refusalOf_39 rfl rfl hq
/-! EightWires.firstRefusal(LEightWires$Sheet;II)I -/
theorem bkX10_firstRefusal_0 {d : Nat} {S : hs_T} {Q : Option av_T → hs_T → Prop} {x2 x3 : Int32} {j1 : Nat} {o4 o5 o6 o7 : Option av_T} (kn : Ev d mX10_firstRefusal 12 [some (vR 10 0), some (vR 6 j1), some (vI x2), some (vI x3), some (vI (S.1 8 0 1)), some (vI 0), o6, o7] [] S Q) : Ev d mX10_firstRefusal 0 [some (vR 10 0), some (vR 6 j1), some (vI x2), some (vI x3), o4, o5, o6, o7] [] S Q := by
  refine Ev.aload_n dX10_firstRefusal_0 rfl rfl ?_
  refine Ev.get (v := vR 8 0) okX10 (by decide) fl_X10_19 pz_10_0 (ff_10_1 _ _) dX10_firstRefusal_1 ?_
  refine Ev.get (v := vI (S.1 8 0 1)) okX8 (by decide) fl_X10_151 pz_8_0 (ff_8_1 _ _) dX10_firstRefusal_4 ?_
  refine Ev.istore (ls' := [some (vR 10 0), some (vR 6 j1), some (vI x2), some (vI x3), some (vI (S.1 8 0 1)), o5, o6, o7]) dX10_firstRefusal_7 (by decide) rfl ?_
  refine Ev.iconst (v := 0) dX10_firstRefusal_9 (by decide) ?_
  refine Ev.istore (ls' := [some (vR 10 0), some (vR 6 j1), some (vI x2), some (vI x3), some (vI (S.1 8 0 1)), some (vI 0), o6, o7]) dX10_firstRefusal_10 (by decide) rfl ?_
  exact kn
theorem bkX10_firstRefusal_12 {d : Nat} {S : hs_T} {Q : Option av_T → hs_T → Prop} {x2 x3 x4 x5 : Int32} {j1 : Nat} {o6 o7 : Option av_T} (kt : x3 ≤ x5 → Ev d mX10_firstRefusal 84 [some (vR 10 0), some (vR 6 j1), some (vI x2), some (vI x3), some (vI x4), some (vI x5), o6, o7] [] S Q) (kf : ¬ x3 ≤ x5 → Ev d mX10_firstRefusal 18 [some (vR 10 0), some (vR 6 j1), some (vI x2), some (vI x3), some (vI x4), some (vI x5), o6, o7] [] S Q) : Ev d mX10_firstRefusal 12 [some (vR 10 0), some (vR 6 j1), some (vI x2), some (vI x3), some (vI x4), some (vI x5), o6, o7] [] S Q := by
  refine Ev.iload dX10_firstRefusal_12 rfl ?_
  refine Ev.iload_n dX10_firstRefusal_14 rfl rfl ?_
  exact Ev.icmp_ge (tgt := 84) dX10_firstRefusal_15 (by decide) kt kf
theorem bkX10_firstRefusal_18 {d : Nat} {S : hs_T} {Q : Option av_T → hs_T → Prop} {P : Int32 → hs_T → Prop} {x2 x3 x4 x5 : Int32} {j1 : Nat} {o6 o7 : Option av_T} (hjj1 : j1 < 4) (hC : Ci d mX6_cell [vR 6 j1, vI (x2 + (2 * x5))] S P) (kk : ∀ v S', P v S' → Ev (d + 1) mX10_firstRefusal 28 [some (vR 10 0), some (vR 6 j1), some (vI x2), some (vI x3), some (vI x4), some (vI x5), o6, o7] [vI v] S' Q) : Ev (d + 1) mX10_firstRefusal 18 [some (vR 10 0), some (vR 6 j1), some (vI x2), some (vI x3), some (vI x4), some (vI x5), o6, o7] [] S Q := by
  refine Ev.aload_n dX10_firstRefusal_18 rfl rfl ?_
  refine Ev.iload_n dX10_firstRefusal_19 rfl rfl ?_
  refine Ev.iconst (v := 2) dX10_firstRefusal_20 (by decide) ?_
  refine Ev.iload dX10_firstRefusal_21 rfl ?_
  refine Ev.imul dX10_firstRefusal_23 ?_
  refine Ev.iadd dX10_firstRefusal_24 ?_
  exact Ev.callV (as := [vI (x2 + (2 * x5))]) (rest := []) okX6_cell in_X6_cell ml_X10_348 rfl (Nat.le_of_ble_eq_true rfl) (pl6 hjj1) (by decide) rfl rfl dX10_firstRefusal_25 hC (fun r S' h => by obtain ⟨v, rfl, h⟩ := h; exact kk v S' h)
theorem bkX10_firstRefusal_28 {d : Nat} {S : hs_T} {Q : Option av_T → hs_T → Prop} {P : Int32 → hs_T → Prop} {x2 x3 x4 x5 y0 : Int32} {j1 : Nat} {o6 o7 : Option av_T} (hjj1 : j1 < 4) (hC : Ci d mX6_cell [vR 6 j1, vI ((x2 + (2 * x5)) + 1)] S P) (kk : ∀ v S', P v S' → Ev (d + 1) mX10_firstRefusal 44 [some (vR 10 0), some (vR 6 j1), some (vI x2), some (vI x3), some (vI x4), some (vI x5), some (vI y0), o7] [vI v, vI y0] S' Q) : Ev (d + 1) mX10_firstRefusal 28 [some (vR 10 0), some (vR 6 j1), some (vI x2), some (vI x3), some (vI x4), some (vI x5), o6, o7] [vI y0] S Q := by
  refine Ev.istore (ls' := [some (vR 10 0), some (vR 6 j1), some (vI x2), some (vI x3), some (vI x4), some (vI x5), some (vI y0), o7]) dX10_firstRefusal_28 (by decide) rfl ?_
  refine Ev.iload dX10_firstRefusal_30 rfl ?_
  refine Ev.aload_n dX10_firstRefusal_32 rfl rfl ?_
  refine Ev.iload_n dX10_firstRefusal_33 rfl rfl ?_
  refine Ev.iconst (v := 2) dX10_firstRefusal_34 (by decide) ?_
  refine Ev.iload dX10_firstRefusal_35 rfl ?_
  refine Ev.imul dX10_firstRefusal_37 ?_
  refine Ev.iadd dX10_firstRefusal_38 ?_
  refine Ev.iconst (v := 1) dX10_firstRefusal_39 (by decide) ?_
  refine Ev.iadd dX10_firstRefusal_40 ?_
  exact Ev.callV (as := [vI ((x2 + (2 * x5)) + 1)]) (rest := [vI y0]) okX6_cell in_X6_cell ml_X10_348 rfl (Nat.le_of_ble_eq_true rfl) (pl6 hjj1) (by decide) rfl rfl dX10_firstRefusal_41 hC (fun r S' h => by obtain ⟨v, rfl, h⟩ := h; exact kk v S' h)
theorem bkX10_firstRefusal_44 {d : Nat} {S : hs_T} {Q : Option av_T → hs_T → Prop} {P : Int32 → hs_T → Prop} {x2 x3 x4 x5 x6 y0 y1 : Int32} {j1 : Nat} {o7 : Option av_T} (hC : Ci d mX10_refusalOf [vI y1, vI y0, vI x4] S P) (kk : ∀ v S', P v S' → Ev (d + 1) mX10_firstRefusal 49 [some (vR 10 0), some (vR 6 j1), some (vI x2), some (vI x3), some (vI x4), some (vI x5), some (vI x6), o7] [vI v] S' Q) : Ev (d + 1) mX10_firstRefusal 44 [some (vR 10 0), some (vR 6 j1), some (vI x2), some (vI x3), some (vI x4), some (vI x5), some (vI x6), o7] [vI y0, vI y1] S Q := by
  refine Ev.iload dX10_firstRefusal_44 rfl ?_
  exact Ev.callS (as := [vI y1, vI y0, vI x4]) (rest := []) okX10_refusalOf stX10_refusalOf ml_X10_152 rfl (Nat.le_of_ble_eq_true rfl) rfl dX10_firstRefusal_46 hC (fun r S' h => by obtain ⟨v, rfl, h⟩ := h; exact kk v S' h)
theorem bkX10_firstRefusal_49 {d : Nat} {S : hs_T} {Q : Option av_T → hs_T → Prop} {x2 x3 x4 x5 x6 y0 : Int32} {j1 : Nat} {o7 : Option av_T} (kt : ¬ y0 = (-1) → Ev d mX10_firstRefusal 63 [some (vR 10 0), some (vR 6 j1), some (vI x2), some (vI x3), some (vI x4), some (vI x5), some (vI x6), some (vI y0)] [] S Q) (kf : y0 = (-1) → Ev d mX10_firstRefusal 57 [some (vR 10 0), some (vR 6 j1), some (vI x2), some (vI x3), some (vI x4), some (vI x5), some (vI x6), some (vI y0)] [] S Q) : Ev d mX10_firstRefusal 49 [some (vR 10 0), some (vR 6 j1), some (vI x2), some (vI x3), some (vI x4), some (vI x5), some (vI x6), o7] [vI y0] S Q := by
  refine Ev.istore (ls' := [some (vR 10 0), some (vR 6 j1), some (vI x2), some (vI x3), some (vI x4), some (vI x5), some (vI x6), some (vI y0)]) dX10_firstRefusal_49 (by decide) rfl ?_
  refine Ev.iload dX10_firstRefusal_51 rfl ?_
  refine Ev.iconst (v := (-1)) dX10_firstRefusal_53 (by decide) ?_
  exact Ev.icmp_ne (tgt := 63) dX10_firstRefusal_54 (by decide) kt kf
theorem bkX10_firstRefusal_57 {d : Nat} {S : hs_T} {Q : Option av_T → hs_T → Prop} {x2 x3 x4 x5 x6 x7 : Int32} {j1 : Nat} (hq : Q (some (vI ((-20) - x5))) S) : Ev d mX10_firstRefusal 57 [some (vR 10 0), some (vR 6 j1), some (vI x2), some (vI x3), some (vI x4), some (vI x5), some (vI x6), some (vI x7)] [] S Q := by
  refine Ev.bipush (v := (-20)) dX10_firstRefusal_57 (by decide) ?_
  refine Ev.iload dX10_firstRefusal_59 rfl ?_
  refine Ev.isub dX10_firstRefusal_61 ?_
  exact Ev.iret dX10_firstRefusal_62 rfl rfl hq
theorem bkX10_firstRefusal_63 {d : Nat} {S : hs_T} {Q : Option av_T → hs_T → Prop} {x2 x3 x4 x5 x6 x7 : Int32} {j1 : Nat} (kt : x7 = 0 → Ev d mX10_firstRefusal 71 [some (vR 10 0), some (vR 6 j1), some (vI x2), some (vI x3), some (vI x4), some (vI x5), some (vI x6), some (vI x7)] [] S Q) (kf : ¬ x7 = 0 → Ev d mX10_firstRefusal 68 [some (vR 10 0), some (vR 6 j1), some (vI x2), some (vI x3), some (vI x4), some (vI x5), some (vI x6), some (vI x7)] [] S Q) : Ev d mX10_firstRefusal 63 [some (vR 10 0), some (vR 6 j1), some (vI x2), some (vI x3), some (vI x4), some (vI x5), some (vI x6), some (vI x7)] [] S Q := by
  refine Ev.iload dX10_firstRefusal_63 rfl ?_
  exact Ev.if_eq (tgt := 71) dX10_firstRefusal_65 (by decide) kt kf
theorem bkX10_firstRefusal_68 {d : Nat} {S : hs_T} {Q : Option av_T → hs_T → Prop} {x2 x3 x4 x5 x6 x7 : Int32} {j1 : Nat} (hq : Q (some (vI x7)) S) : Ev d mX10_firstRefusal 68 [some (vR 10 0), some (vR 6 j1), some (vI x2), some (vI x3), some (vI x4), some (vI x5), some (vI x6), some (vI x7)] [] S Q := by
  refine Ev.iload dX10_firstRefusal_68 rfl ?_
  exact Ev.iret dX10_firstRefusal_70 rfl rfl hq
theorem bkX10_firstRefusal_71 {d : Nat} {S : hs_T} {Q : Option av_T → hs_T → Prop} {x2 x3 x4 x5 x6 x7 : Int32} {j1 : Nat} (kn : Ev d mX10_firstRefusal 12 [some (vR 10 0), some (vR 6 j1), some (vI x2), some (vI x3), some (vI (x4 + x6)), some (vI (x5 + 1)), some (vI x6), some (vI x7)] [] S Q) : Ev d mX10_firstRefusal 71 [some (vR 10 0), some (vR 6 j1), some (vI x2), some (vI x3), some (vI x4), some (vI x5), some (vI x6), some (vI x7)] [] S Q := by
  refine Ev.iload dX10_firstRefusal_71 rfl ?_
  refine Ev.iload dX10_firstRefusal_73 rfl ?_
  refine Ev.iadd dX10_firstRefusal_75 ?_
  refine Ev.istore (ls' := [some (vR 10 0), some (vR 6 j1), some (vI x2), some (vI x3), some (vI (x4 + x6)), some (vI x5), some (vI x6), some (vI x7)]) dX10_firstRefusal_76 (by decide) rfl ?_
  refine Ev.iinc (v := (x5 + 1)) (ls' := [some (vR 10 0), some (vR 6 j1), some (vI x2), some (vI x3), some (vI (x4 + x6)), some (vI (x5 + 1)), some (vI x6), some (vI x7)]) dX10_firstRefusal_78 rfl rfl (by decide) rfl ?_
  refine Ev.goto (tgt := 12) dX10_firstRefusal_81 (by decide) ?_
  exact kn
theorem bkX10_firstRefusal_84 {d : Nat} {S : hs_T} {Q : Option av_T → hs_T → Prop} {x2 x3 x4 x5 : Int32} {j1 : Nat} {o6 o7 : Option av_T} (hq : Q (some (vI 0)) S) : Ev d mX10_firstRefusal 84 [some (vR 10 0), some (vR 6 j1), some (vI x2), some (vI x3), some (vI x4), some (vI x5), o6, o7] [] S Q := by
  refine Ev.iconst (v := 0) dX10_firstRefusal_84 (by decide) ?_
  exact Ev.iret dX10_firstRefusal_85 rfl rfl hq
/-! EightWires.turns(IZI)Z -/
theorem bkX10_turns_0 {d : Nat} {S : hs_T} {Q : Option av_T → hs_T → Prop} {x1 x2 x3 : Int32} (kt : x2 = 0 → Ev d mX10_turns 16 [some (vR 10 0), some (vI x1), some (vI x2), some (vI x3)] [] S Q) (kf : ¬ x2 = 0 → Ev d mX10_turns 4 [some (vR 10 0), some (vI x1), some (vI x2), some (vI x3)] [] S Q) : Ev d mX10_turns 0 [some (vR 10 0), some (vI x1), some (vI x2), some (vI x3)] [] S Q := by
  refine Ev.iload_n dX10_turns_0 rfl rfl ?_
  exact Ev.if_eq (tgt := 16) dX10_turns_1 (by decide) kt kf
theorem bkX10_turns_4 {d : Nat} {S : hs_T} {Q : Option av_T → hs_T → Prop} {P : Int32 → hs_T → Prop} {x1 x2 x3 : Int32} (hC : Ci d mX8_falls [vR 8 0, vI x1, vI x3] S P) (kk : ∀ v S', P v S' → Ev (d + 1) mX10_turns 13 [some (vR 10 0), some (vI x1), some (vI x2), some (vI x3)] [vI v] S' Q) : Ev (d + 1) mX10_turns 4 [some (vR 10 0), some (vI x1), some (vI x2), some (vI x3)] [] S Q := by
  refine Ev.aload_n dX10_turns_4 rfl rfl ?_
  refine Ev.get (v := vR 8 0) okX10 (by decide) fl_X10_19 pz_10_0 (ff_10_1 _ _) dX10_turns_5 ?_
  refine Ev.iload_n dX10_turns_8 rfl rfl ?_
  refine Ev.iload_n dX10_turns_9 rfl rfl ?_
  exact Ev.callV (as := [vI x1, vI x3]) (rest := []) okX8_falls in_X8_falls ml_X10_361 rfl (Nat.le_of_ble_eq_true rfl) pz_8_0 (by decide) rfl rfl dX10_turns_10 hC (fun r S' h => by obtain ⟨v, rfl, h⟩ := h; exact kk v S' h)
theorem bkX10_turns_13 {d : Nat} {S : hs_T} {Q : Option av_T → hs_T → Prop} {x1 x2 x3 y0 : Int32} (kn : Ev d mX10_turns 25 [some (vR 10 0), some (vI x1), some (vI x2), some (vI x3)] [vI y0] S Q) : Ev d mX10_turns 13 [some (vR 10 0), some (vI x1), some (vI x2), some (vI x3)] [vI y0] S Q := by
  refine Ev.goto (tgt := 25) dX10_turns_13 (by decide) ?_
  exact kn
theorem bkX10_turns_16 {d : Nat} {S : hs_T} {Q : Option av_T → hs_T → Prop} {P : Int32 → hs_T → Prop} {x1 x2 x3 : Int32} (hC : Ci d mX8_rises [vR 8 0, vI x1, vI x3] S P) (kk : ∀ v S', P v S' → Ev (d + 1) mX10_turns 25 [some (vR 10 0), some (vI x1), some (vI x2), some (vI x3)] [vI v] S' Q) : Ev (d + 1) mX10_turns 16 [some (vR 10 0), some (vI x1), some (vI x2), some (vI x3)] [] S Q := by
  refine Ev.aload_n dX10_turns_16 rfl rfl ?_
  refine Ev.get (v := vR 8 0) okX10 (by decide) fl_X10_19 pz_10_0 (ff_10_1 _ _) dX10_turns_17 ?_
  refine Ev.iload_n dX10_turns_20 rfl rfl ?_
  refine Ev.iload_n dX10_turns_21 rfl rfl ?_
  exact Ev.callV (as := [vI x1, vI x3]) (rest := []) okX8_rises in_X8_rises ml_X10_364 rfl (Nat.le_of_ble_eq_true rfl) pz_8_0 (by decide) rfl rfl dX10_turns_22 hC (fun r S' h => by obtain ⟨v, rfl, h⟩ := h; exact kk v S' h)
theorem bkX10_turns_25 {d : Nat} {S : hs_T} {Q : Option av_T → hs_T → Prop} {x1 x2 x3 y0 : Int32} (hn25 : narrow .boolean (.int y0) = .int y0) (hq : Q (some (vI y0)) S) : Ev d mX10_turns 25 [some (vR 10 0), some (vI x1), some (vI x2), some (vI x3)] [vI y0] S Q := by
  exact Ev.iret dX10_turns_25 rfl hn25 hq
/-! EightWires.firstRise(I)I -/
theorem bkX10_firstRise_0 {d : Nat} {S : hs_T} {Q : Option av_T → hs_T → Prop} {x1 : Int32} {o2 : Option av_T} (kn : Ev d mX10_firstRise 2 [some (vR 10 0), some (vI x1), some (vI 1)] [] S Q) : Ev d mX10_firstRise 0 [some (vR 10 0), some (vI x1), o2] [] S Q := by
  refine Ev.iconst (v := 1) dX10_firstRise_0 (by decide) ?_
  refine Ev.istore_n (ls' := [some (vR 10 0), some (vI x1), some (vI 1)]) dX10_firstRise_1 rfl (by decide) rfl ?_
  exact kn
theorem bkX10_firstRise_2 {d : Nat} {S : hs_T} {Q : Option av_T → hs_T → Prop} {x1 x2 : Int32} (kt : (S.1 8 0 1) ≤ x2 → Ev d mX10_firstRise 33 [some (vR 10 0), some (vI x1), some (vI x2)] [] S Q) (kf : ¬ (S.1 8 0 1) ≤ x2 → Ev d mX10_firstRise 13 [some (vR 10 0), some (vI x1), some (vI x2)] [] S Q) : Ev d mX10_firstRise 2 [some (vR 10 0), some (vI x1), some (vI x2)] [] S Q := by
  refine Ev.iload_n dX10_firstRise_2 rfl rfl ?_
  refine Ev.aload_n dX10_firstRise_3 rfl rfl ?_
  refine Ev.get (v := vR 8 0) okX10 (by decide) fl_X10_19 pz_10_0 (ff_10_1 _ _) dX10_firstRise_4 ?_
  refine Ev.get (v := vI (S.1 8 0 1)) okX8 (by decide) fl_X10_151 pz_8_0 (ff_8_1 _ _) dX10_firstRise_7 ?_
  exact Ev.icmp_ge (tgt := 33) dX10_firstRise_10 (by decide) kt kf
theorem bkX10_firstRise_13 {d : Nat} {S : hs_T} {Q : Option av_T → hs_T → Prop} {P : Int32 → hs_T → Prop} {x1 x2 : Int32} (hC : Ci d mX8_rises [vR 8 0, vI x1, vI x2] S P) (kk : ∀ v S', P v S' → Ev (d + 1) mX10_firstRise 22 [some (vR 10 0), some (vI x1), some (vI x2)] [vI v] S' Q) : Ev (d + 1) mX10_firstRise 13 [some (vR 10 0), some (vI x1), some (vI x2)] [] S Q := by
  refine Ev.aload_n dX10_firstRise_13 rfl rfl ?_
  refine Ev.get (v := vR 8 0) okX10 (by decide) fl_X10_19 pz_10_0 (ff_10_1 _ _) dX10_firstRise_14 ?_
  refine Ev.iload_n dX10_firstRise_17 rfl rfl ?_
  refine Ev.iload_n dX10_firstRise_18 rfl rfl ?_
  exact Ev.callV (as := [vI x1, vI x2]) (rest := []) okX8_rises in_X8_rises ml_X10_364 rfl (Nat.le_of_ble_eq_true rfl) pz_8_0 (by decide) rfl rfl dX10_firstRise_19 hC (fun r S' h => by obtain ⟨v, rfl, h⟩ := h; exact kk v S' h)
theorem bkX10_firstRise_22 {d : Nat} {S : hs_T} {Q : Option av_T → hs_T → Prop} {x1 x2 y0 : Int32} (kt : y0 = 0 → Ev d mX10_firstRise 27 [some (vR 10 0), some (vI x1), some (vI x2)] [] S Q) (kf : ¬ y0 = 0 → Ev d mX10_firstRise 25 [some (vR 10 0), some (vI x1), some (vI x2)] [] S Q) : Ev d mX10_firstRise 22 [some (vR 10 0), some (vI x1), some (vI x2)] [vI y0] S Q := by
  exact Ev.if_eq (tgt := 27) dX10_firstRise_22 (by decide) kt kf
theorem bkX10_firstRise_25 {d : Nat} {S : hs_T} {Q : Option av_T → hs_T → Prop} {x1 x2 : Int32} (hq : Q (some (vI x2)) S) : Ev d mX10_firstRise 25 [some (vR 10 0), some (vI x1), some (vI x2)] [] S Q := by
  refine Ev.iload_n dX10_firstRise_25 rfl rfl ?_
  exact Ev.iret dX10_firstRise_26 rfl rfl hq
theorem bkX10_firstRise_27 {d : Nat} {S : hs_T} {Q : Option av_T → hs_T → Prop} {x1 x2 : Int32} (kn : Ev d mX10_firstRise 2 [some (vR 10 0), some (vI x1), some (vI (x2 + 1))] [] S Q) : Ev d mX10_firstRise 27 [some (vR 10 0), some (vI x1), some (vI x2)] [] S Q := by
  refine Ev.iinc (v := (x2 + 1)) (ls' := [some (vR 10 0), some (vI x1), some (vI (x2 + 1))]) dX10_firstRise_27 rfl rfl (by decide) rfl ?_
  refine Ev.goto (tgt := 2) dX10_firstRise_30 (by decide) ?_
  exact kn
theorem bkX10_firstRise_33 {d : Nat} {S : hs_T} {Q : Option av_T → hs_T → Prop} {x1 x2 : Int32} (hq : Q (some (vI (-4))) S) : Ev d mX10_firstRise 33 [some (vR 10 0), some (vI x1), some (vI x2)] [] S Q := by
  refine Ev.bipush (v := (-4)) dX10_firstRise_33 (by decide) ?_
  exact Ev.iret dX10_firstRise_35 rfl rfl hq
/-! EightWires.lastRise(I)I -/
theorem bkX10_lastRise_0 {d : Nat} {S : hs_T} {Q : Option av_T → hs_T → Prop} {x1 : Int32} {o2 : Option av_T} (kn : Ev d mX10_lastRise 10 [some (vR 10 0), some (vI x1), some (vI ((S.1 8 0 1) - 1))] [] S Q) : Ev d mX10_lastRise 0 [some (vR 10 0), some (vI x1), o2] [] S Q := by
  refine Ev.aload_n dX10_lastRise_0 rfl rfl ?_
  refine Ev.get (v := vR 8 0) okX10 (by decide) fl_X10_19 pz_10_0 (ff_10_1 _ _) dX10_lastRise_1 ?_
  refine Ev.get (v := vI (S.1 8 0 1)) okX8 (by decide) fl_X10_151 pz_8_0 (ff_8_1 _ _) dX10_lastRise_4 ?_
  refine Ev.iconst (v := 1) dX10_lastRise_7 (by decide) ?_
  refine Ev.isub dX10_lastRise_8 ?_
  refine Ev.istore_n (ls' := [some (vR 10 0), some (vI x1), some (vI ((S.1 8 0 1) - 1))]) dX10_lastRise_9 rfl (by decide) rfl ?_
  exact kn
theorem bkX10_lastRise_10 {d : Nat} {S : hs_T} {Q : Option av_T → hs_T → Prop} {x1 x2 : Int32} (kt : x2 ≤ 0 → Ev d mX10_lastRise 34 [some (vR 10 0), some (vI x1), some (vI x2)] [] S Q) (kf : ¬ x2 ≤ 0 → Ev d mX10_lastRise 14 [some (vR 10 0), some (vI x1), some (vI x2)] [] S Q) : Ev d mX10_lastRise 10 [some (vR 10 0), some (vI x1), some (vI x2)] [] S Q := by
  refine Ev.iload_n dX10_lastRise_10 rfl rfl ?_
  exact Ev.if_le (tgt := 34) dX10_lastRise_11 (by decide) kt kf
theorem bkX10_lastRise_14 {d : Nat} {S : hs_T} {Q : Option av_T → hs_T → Prop} {P : Int32 → hs_T → Prop} {x1 x2 : Int32} (hC : Ci d mX8_rises [vR 8 0, vI x1, vI x2] S P) (kk : ∀ v S', P v S' → Ev (d + 1) mX10_lastRise 23 [some (vR 10 0), some (vI x1), some (vI x2)] [vI v] S' Q) : Ev (d + 1) mX10_lastRise 14 [some (vR 10 0), some (vI x1), some (vI x2)] [] S Q := by
  refine Ev.aload_n dX10_lastRise_14 rfl rfl ?_
  refine Ev.get (v := vR 8 0) okX10 (by decide) fl_X10_19 pz_10_0 (ff_10_1 _ _) dX10_lastRise_15 ?_
  refine Ev.iload_n dX10_lastRise_18 rfl rfl ?_
  refine Ev.iload_n dX10_lastRise_19 rfl rfl ?_
  exact Ev.callV (as := [vI x1, vI x2]) (rest := []) okX8_rises in_X8_rises ml_X10_364 rfl (Nat.le_of_ble_eq_true rfl) pz_8_0 (by decide) rfl rfl dX10_lastRise_20 hC (fun r S' h => by obtain ⟨v, rfl, h⟩ := h; exact kk v S' h)
theorem bkX10_lastRise_23 {d : Nat} {S : hs_T} {Q : Option av_T → hs_T → Prop} {x1 x2 y0 : Int32} (kt : y0 = 0 → Ev d mX10_lastRise 28 [some (vR 10 0), some (vI x1), some (vI x2)] [] S Q) (kf : ¬ y0 = 0 → Ev d mX10_lastRise 26 [some (vR 10 0), some (vI x1), some (vI x2)] [] S Q) : Ev d mX10_lastRise 23 [some (vR 10 0), some (vI x1), some (vI x2)] [vI y0] S Q := by
  exact Ev.if_eq (tgt := 28) dX10_lastRise_23 (by decide) kt kf
theorem bkX10_lastRise_26 {d : Nat} {S : hs_T} {Q : Option av_T → hs_T → Prop} {x1 x2 : Int32} (hq : Q (some (vI x2)) S) : Ev d mX10_lastRise 26 [some (vR 10 0), some (vI x1), some (vI x2)] [] S Q := by
  refine Ev.iload_n dX10_lastRise_26 rfl rfl ?_
  exact Ev.iret dX10_lastRise_27 rfl rfl hq
theorem bkX10_lastRise_28 {d : Nat} {S : hs_T} {Q : Option av_T → hs_T → Prop} {x1 x2 : Int32} (kn : Ev d mX10_lastRise 10 [some (vR 10 0), some (vI x1), some (vI (x2 + (-1)))] [] S Q) : Ev d mX10_lastRise 28 [some (vR 10 0), some (vI x1), some (vI x2)] [] S Q := by
  refine Ev.iinc (v := (x2 + (-1))) (ls' := [some (vR 10 0), some (vI x1), some (vI (x2 + (-1)))]) dX10_lastRise_28 rfl rfl (by decide) rfl ?_
  refine Ev.goto (tgt := 10) dX10_lastRise_31 (by decide) ?_
  exact kn
theorem bkX10_lastRise_34 {d : Nat} {S : hs_T} {Q : Option av_T → hs_T → Prop} {x1 x2 : Int32} (hq : Q (some (vI (-4))) S) : Ev d mX10_lastRise 34 [some (vR 10 0), some (vI x1), some (vI x2)] [] S Q := by
  refine Ev.bipush (v := (-4)) dX10_lastRise_34 (by decide) ?_
  exact Ev.iret dX10_lastRise_36 rfl rfl hq
/-! EightWires.imageOf(I)LEightWires$Trace; -/
theorem bkX10_imageOf_0 {d : Nat} {S : hs_T} {Q : Option av_T → hs_T → Prop} {P : Int32 → hs_T → Prop} {x1 : Int32} (hC : Ci d mX10_within [vI x1, vI 0, vI (2 - 1)] S P) (kk : ∀ v S', P v S' → Ev (d + 1) mX10_imageOf 12 [some (vR 10 0), some (vI x1)] [vI v] S' Q) : Ev (d + 1) mX10_imageOf 0 [some (vR 10 0), some (vI x1)] [] S Q := by
  refine Ev.iload_n dX10_imageOf_0 rfl rfl ?_
  refine Ev.iconst (v := 0) dX10_imageOf_1 (by decide) ?_
  refine Ev.aload_n dX10_imageOf_2 rfl rfl ?_
  refine Ev.get (v := vR 1103 0) okX10 (by decide) fl_X10_26 pz_10_0 (ff_10_3 _ _) dX10_imageOf_3 ?_
  refine Ev.alen (v := 2) pz_1103_0 (by decide) rfl (by decide) rfl dX10_imageOf_6 ?_
  refine Ev.iconst (v := 1) dX10_imageOf_7 (by decide) ?_
  refine Ev.isub dX10_imageOf_8 ?_
  exact Ev.callS (as := [vI x1, vI 0, vI (2 - 1)]) (rest := []) okX10_within stX10_within ml_X10_93 rfl (Nat.le_of_ble_eq_true rfl) rfl dX10_imageOf_9 hC (fun r S' h => by obtain ⟨v, rfl, h⟩ := h; exact kk v S' h)
theorem bkX10_imageOf_12 {d : Nat} {S : hs_T} {Q : Option av_T → hs_T → Prop} {x1 y0 : Int32} (kt : y0 = 0 → Ev d mX10_imageOf 24 [some (vR 10 0), some (vI x1)] [] S Q) (kf : ¬ y0 = 0 → Ev d mX10_imageOf 15 [some (vR 10 0), some (vI x1)] [] S Q) : Ev d mX10_imageOf 12 [some (vR 10 0), some (vI x1)] [vI y0] S Q := by
  exact Ev.if_eq (tgt := 24) dX10_imageOf_12 (by decide) kt kf
theorem bkX10_imageOf_15 {d : Nat} {S : hs_T} {Q : Option av_T → hs_T → Prop} {x1 : Int32} (hi20 : vp_in x1 2) (kn : Ev d mX10_imageOf 25 [some (vR 10 0), some (vI x1)] [vR 8 (2 + x1.toNatClampNeg)] S Q) : Ev d mX10_imageOf 15 [some (vR 10 0), some (vI x1)] [] S Q := by
  refine Ev.aload_n dX10_imageOf_15 rfl rfl ?_
  refine Ev.get (v := vR 1103 0) okX10 (by decide) fl_X10_26 pz_10_0 (ff_10_3 _ _) dX10_imageOf_16 ?_
  refine Ev.iload_n dX10_imageOf_19 rfl rfl ?_
  refine Ev.aaload (t0 := 2) pz_1103_0 (by decide) ak_1103 (fun _ => rfl) hi20 dX10_imageOf_20 ?_
  refine Ev.goto (tgt := 25) dX10_imageOf_21 (by decide) ?_
  exact kn
theorem bkX10_imageOf_24 {d : Nat} {S : hs_T} {Q : Option av_T → hs_T → Prop} {x1 : Int32} (kn : Ev d mX10_imageOf 25 [some (vR 10 0), some (vI x1)] [vN] S Q) : Ev d mX10_imageOf 24 [some (vR 10 0), some (vI x1)] [] S Q := by
  refine Ev.aconst_null dX10_imageOf_24 ?_
  exact kn
theorem bkX10_imageOf_25_r {d : Nat} {S : hs_T} {Q : Option av_T → hs_T → Prop} {x1 : Int32} {i0 : Nat} (hq : Q (some (vR 8 i0)) S) : Ev d mX10_imageOf 25 [some (vR 10 0), some (vI x1)] [vR 8 i0] S Q := by
  exact Ev.aret dX10_imageOf_25 rfl hq
theorem bkX10_imageOf_25_n {d : Nat} {S : hs_T} {Q : Option av_T → hs_T → Prop} {x1 : Int32} (hq : Q (some (vN)) S) : Ev d mX10_imageOf 25 [some (vR 10 0), some (vI x1)] [vN] S Q := by
  exact Ev.aret dX10_imageOf_25 rfl hq
/-! EightWires.sheetOf(I)LEightWires$Sheet; -/
theorem bkX10_sheetOf_0 {d : Nat} {S : hs_T} {Q : Option av_T → hs_T → Prop} {P : Int32 → hs_T → Prop} {x1 : Int32} (hC : Ci d mX10_within [vI x1, vI 0, vI (4 - 1)] S P) (kk : ∀ v S', P v S' → Ev (d + 1) mX10_sheetOf 12 [some (vR 10 0), some (vI x1)] [vI v] S' Q) : Ev (d + 1) mX10_sheetOf 0 [some (vR 10 0), some (vI x1)] [] S Q := by
  refine Ev.iload_n dX10_sheetOf_0 rfl rfl ?_
  refine Ev.iconst (v := 0) dX10_sheetOf_1 (by decide) ?_
  refine Ev.aload_n dX10_sheetOf_2 rfl rfl ?_
  refine Ev.get (v := vR 1104 0) okX10 (by decide) fl_X10_33 pz_10_0 (ff_10_4 _ _) dX10_sheetOf_3 ?_
  refine Ev.alen (v := 4) pz_1104_0 (by decide) rfl (by decide) rfl dX10_sheetOf_6 ?_
  refine Ev.iconst (v := 1) dX10_sheetOf_7 (by decide) ?_
  refine Ev.isub dX10_sheetOf_8 ?_
  exact Ev.callS (as := [vI x1, vI 0, vI (4 - 1)]) (rest := []) okX10_within stX10_within ml_X10_93 rfl (Nat.le_of_ble_eq_true rfl) rfl dX10_sheetOf_9 hC (fun r S' h => by obtain ⟨v, rfl, h⟩ := h; exact kk v S' h)
theorem bkX10_sheetOf_12 {d : Nat} {S : hs_T} {Q : Option av_T → hs_T → Prop} {x1 y0 : Int32} (kt : y0 = 0 → Ev d mX10_sheetOf 24 [some (vR 10 0), some (vI x1)] [] S Q) (kf : ¬ y0 = 0 → Ev d mX10_sheetOf 15 [some (vR 10 0), some (vI x1)] [] S Q) : Ev d mX10_sheetOf 12 [some (vR 10 0), some (vI x1)] [vI y0] S Q := by
  exact Ev.if_eq (tgt := 24) dX10_sheetOf_12 (by decide) kt kf
theorem bkX10_sheetOf_15 {d : Nat} {S : hs_T} {Q : Option av_T → hs_T → Prop} {x1 : Int32} (hi20 : vp_in x1 4) (kn : Ev d mX10_sheetOf 25 [some (vR 10 0), some (vI x1)] [vR 6 (0 + x1.toNatClampNeg)] S Q) : Ev d mX10_sheetOf 15 [some (vR 10 0), some (vI x1)] [] S Q := by
  refine Ev.aload_n dX10_sheetOf_15 rfl rfl ?_
  refine Ev.get (v := vR 1104 0) okX10 (by decide) fl_X10_33 pz_10_0 (ff_10_4 _ _) dX10_sheetOf_16 ?_
  refine Ev.iload_n dX10_sheetOf_19 rfl rfl ?_
  refine Ev.aaload (t0 := 3) pz_1104_0 (by decide) ak_1104 (fun _ => rfl) hi20 dX10_sheetOf_20 ?_
  refine Ev.goto (tgt := 25) dX10_sheetOf_21 (by decide) ?_
  exact kn
theorem bkX10_sheetOf_24 {d : Nat} {S : hs_T} {Q : Option av_T → hs_T → Prop} {x1 : Int32} (kn : Ev d mX10_sheetOf 25 [some (vR 10 0), some (vI x1)] [vN] S Q) : Ev d mX10_sheetOf 24 [some (vR 10 0), some (vI x1)] [] S Q := by
  refine Ev.aconst_null dX10_sheetOf_24 ?_
  exact kn
theorem bkX10_sheetOf_25_r {d : Nat} {S : hs_T} {Q : Option av_T → hs_T → Prop} {x1 : Int32} {i0 : Nat} (hq : Q (some (vR 6 i0)) S) : Ev d mX10_sheetOf 25 [some (vR 10 0), some (vI x1)] [vR 6 i0] S Q := by
  exact Ev.aret dX10_sheetOf_25 rfl hq
theorem bkX10_sheetOf_25_n {d : Nat} {S : hs_T} {Q : Option av_T → hs_T → Prop} {x1 : Int32} (hq : Q (some (vN)) S) : Ev d mX10_sheetOf 25 [some (vR 10 0), some (vI x1)] [vN] S Q := by
  exact Ev.aret dX10_sheetOf_25 rfl hq
/-! EightWires.imagesKept()I -/
theorem bkX10_imagesKept_0 {d : Nat} {S : hs_T} {Q : Option av_T → hs_T → Prop} {o1 o2 o3 : Option av_T} (kn : Ev d mX10_imagesKept 4 [some (vR 10 0), some (vI 0), some (vI 0), o3] [] S Q) : Ev d mX10_imagesKept 0 [some (vR 10 0), o1, o2, o3] [] S Q := by
  refine Ev.iconst (v := 0) dX10_imagesKept_0 (by decide) ?_
  refine Ev.istore_n (ls' := [some (vR 10 0), some (vI 0), o2, o3]) dX10_imagesKept_1 rfl (by decide) rfl ?_
  refine Ev.iconst (v := 0) dX10_imagesKept_2 (by decide) ?_
  refine Ev.istore_n (ls' := [some (vR 10 0), some (vI 0), some (vI 0), o3]) dX10_imagesKept_3 rfl (by decide) rfl ?_
  exact kn
theorem bkX10_imagesKept_4 {d : Nat} {S : hs_T} {Q : Option av_T → hs_T → Prop} {x1 x2 : Int32} {o3 : Option av_T} (kt : 2 ≤ x2 → Ev d mX10_imagesKept 45 [some (vR 10 0), some (vI x1), some (vI x2), o3] [] S Q) (kf : ¬ 2 ≤ x2 → Ev d mX10_imagesKept 13 [some (vR 10 0), some (vI x1), some (vI x2), o3] [] S Q) : Ev d mX10_imagesKept 4 [some (vR 10 0), some (vI x1), some (vI x2), o3] [] S Q := by
  refine Ev.iload_n dX10_imagesKept_4 rfl rfl ?_
  refine Ev.aload_n dX10_imagesKept_5 rfl rfl ?_
  refine Ev.get (v := vR 1103 0) okX10 (by decide) fl_X10_26 pz_10_0 (ff_10_3 _ _) dX10_imagesKept_6 ?_
  refine Ev.alen (v := 2) pz_1103_0 (by decide) rfl (by decide) rfl dX10_imagesKept_9 ?_
  exact Ev.icmp_ge (tgt := 45) dX10_imagesKept_10 (by decide) kt kf
theorem bkX10_imagesKept_13 {d : Nat} {S : hs_T} {Q : Option av_T → hs_T → Prop} {x1 x2 : Int32} {o3 : Option av_T} (hi18 : vp_in x2 2) (kn : Ev d mX10_imagesKept 25 [some (vR 10 0), some (vI x1), some (vI x2), some (vR 8 (2 + x2.toNatClampNeg))] [vI x1] S Q) : Ev d mX10_imagesKept 13 [some (vR 10 0), some (vI x1), some (vI x2), o3] [] S Q := by
  refine Ev.aload_n dX10_imagesKept_13 rfl rfl ?_
  refine Ev.get (v := vR 1103 0) okX10 (by decide) fl_X10_26 pz_10_0 (ff_10_3 _ _) dX10_imagesKept_14 ?_
  refine Ev.iload_n dX10_imagesKept_17 rfl rfl ?_
  refine Ev.aaload (t0 := 2) pz_1103_0 (by decide) ak_1103 (fun _ => rfl) hi18 dX10_imagesKept_18 ?_
  refine Ev.astore_n (ls' := [some (vR 10 0), some (vI x1), some (vI x2), some (vR 8 (2 + x2.toNatClampNeg))]) dX10_imagesKept_19 rfl (by decide) rfl ?_
  refine Ev.iload_n dX10_imagesKept_20 rfl rfl ?_
  refine Ev.aload_n dX10_imagesKept_21 rfl rfl ?_
  refine Ev.ifnull dX10_imagesKept_22 ?_
  exact kn
theorem bkX10_imagesKept_25 {d : Nat} {S : hs_T} {Q : Option av_T → hs_T → Prop} {x1 x2 y0 : Int32} {j3 : Nat} (hjj3 : j3 < 4) (kt : (S.1 8 j3 2) = 0 → Ev d mX10_imagesKept 36 [some (vR 10 0), some (vI x1), some (vI x2), some (vR 8 j3)] [vI y0] S Q) (kf : ¬ (S.1 8 j3 2) = 0 → Ev d mX10_imagesKept 32 [some (vR 10 0), some (vI x1), some (vI x2), some (vR 8 j3)] [vI y0] S Q) : Ev d mX10_imagesKept 25 [some (vR 10 0), some (vI x1), some (vI x2), some (vR 8 j3)] [vI y0] S Q := by
  refine Ev.aload_n dX10_imagesKept_25 rfl rfl ?_
  refine Ev.get (v := vI (S.1 8 j3 2)) okX8 (by decide) fl_X10_312 (pl8 hjj3) (ff_8_2 _ _) dX10_imagesKept_26 ?_
  exact Ev.if_eq (tgt := 36) dX10_imagesKept_29 (by decide) kt kf
theorem bkX10_imagesKept_32 {d : Nat} {S : hs_T} {Q : Option av_T → hs_T → Prop} {x1 x2 y0 : Int32} {j3 : Nat} (kn : Ev d mX10_imagesKept 37 [some (vR 10 0), some (vI x1), some (vI x2), some (vR 8 j3)] [vI 1, vI y0] S Q) : Ev d mX10_imagesKept 32 [some (vR 10 0), some (vI x1), some (vI x2), some (vR 8 j3)] [vI y0] S Q := by
  refine Ev.iconst (v := 1) dX10_imagesKept_32 (by decide) ?_
  refine Ev.goto (tgt := 37) dX10_imagesKept_33 (by decide) ?_
  exact kn
theorem bkX10_imagesKept_36 {d : Nat} {S : hs_T} {Q : Option av_T → hs_T → Prop} {x1 x2 y0 : Int32} {j3 : Nat} (kn : Ev d mX10_imagesKept 37 [some (vR 10 0), some (vI x1), some (vI x2), some (vR 8 j3)] [vI 0, vI y0] S Q) : Ev d mX10_imagesKept 36 [some (vR 10 0), some (vI x1), some (vI x2), some (vR 8 j3)] [vI y0] S Q := by
  refine Ev.iconst (v := 0) dX10_imagesKept_36 (by decide) ?_
  exact kn
theorem bkX10_imagesKept_37 {d : Nat} {S : hs_T} {Q : Option av_T → hs_T → Prop} {x1 x2 y0 y1 : Int32} {j3 : Nat} (kn : Ev d mX10_imagesKept 4 [some (vR 10 0), some (vI (y1 + y0)), some (vI (x2 + 1)), some (vR 8 j3)] [] S Q) : Ev d mX10_imagesKept 37 [some (vR 10 0), some (vI x1), some (vI x2), some (vR 8 j3)] [vI y0, vI y1] S Q := by
  refine Ev.iadd dX10_imagesKept_37 ?_
  refine Ev.istore_n (ls' := [some (vR 10 0), some (vI (y1 + y0)), some (vI x2), some (vR 8 j3)]) dX10_imagesKept_38 rfl (by decide) rfl ?_
  refine Ev.iinc (v := (x2 + 1)) (ls' := [some (vR 10 0), some (vI (y1 + y0)), some (vI (x2 + 1)), some (vR 8 j3)]) dX10_imagesKept_39 rfl rfl (by decide) rfl ?_
  refine Ev.goto (tgt := 4) dX10_imagesKept_42 (by decide) ?_
  exact kn
theorem bkX10_imagesKept_45 {d : Nat} {S : hs_T} {Q : Option av_T → hs_T → Prop} {x1 x2 : Int32} {o3 : Option av_T} (hq : Q (some (vI x1)) S) : Ev d mX10_imagesKept 45 [some (vR 10 0), some (vI x1), some (vI x2), o3] [] S Q := by
  refine Ev.iload_n dX10_imagesKept_45 rfl rfl ?_
  exact Ev.iret dX10_imagesKept_46 rfl rfl hq
/-! EightWires.cellsOfFirst()I -/
theorem bkX10_cellsOfFirst_0 {d : Nat} {S : hs_T} {Q : Option av_T → hs_T → Prop} {P : Option (Nat × Nat) → hs_T → Prop} {o1 : Option av_T} (hC : Cr d mX10_sheetOf [vR 10 0, vI 0] S P) (kk : ∀ v S', P v S' → Ev (d + 1) mX10_cellsOfFirst 5 [some (vR 10 0), o1] [Sum.inr (Sum.inr v)] S' Q) : Ev (d + 1) mX10_cellsOfFirst 0 [some (vR 10 0), o1] [] S Q := by
  refine Ev.aload_n dX10_cellsOfFirst_0 rfl rfl ?_
  refine Ev.iconst (v := 0) dX10_cellsOfFirst_1 (by decide) ?_
  exact Ev.callV (as := [vI 0]) (rest := []) okX10_sheetOf in_X10_sheetOf ml_X10_320 rfl (Nat.le_of_ble_eq_true rfl) pz_10_0 (by decide) rfl rfl dX10_cellsOfFirst_2 hC (fun r S' h => by obtain ⟨v, rfl, h⟩ := h; exact kk v S' h)
theorem bkX10_cellsOfFirst_5_r {d : Nat} {S : hs_T} {Q : Option av_T → hs_T → Prop} {i0 : Nat} {o1 : Option av_T} (kn : Ev d mX10_cellsOfFirst 10 [some (vR 10 0), some (vR 6 i0)] [] S Q) : Ev d mX10_cellsOfFirst 5 [some (vR 10 0), o1] [vR 6 i0] S Q := by
  refine Ev.astore_n (ls' := [some (vR 10 0), some (vR 6 i0)]) dX10_cellsOfFirst_5 rfl (by decide) rfl ?_
  refine Ev.aload_n dX10_cellsOfFirst_6 rfl rfl ?_
  refine Ev.ifnull dX10_cellsOfFirst_7 ?_
  exact kn
theorem bkX10_cellsOfFirst_5_n {d : Nat} {S : hs_T} {Q : Option av_T → hs_T → Prop} {o1 : Option av_T} (kn : Ev d mX10_cellsOfFirst 17 [some (vR 10 0), some (vN)] [] S Q) : Ev d mX10_cellsOfFirst 5 [some (vR 10 0), o1] [vN] S Q := by
  refine Ev.astore_nN (ls' := [some (vR 10 0), some (vN)]) dX10_cellsOfFirst_5 rfl (by decide) rfl ?_
  refine Ev.aload_nN dX10_cellsOfFirst_6 rfl rfl ?_
  refine Ev.ifnullN (tgt := 17) dX10_cellsOfFirst_7 (by decide) ?_
  exact kn
theorem bkX10_cellsOfFirst_10 {d : Nat} {S : hs_T} {Q : Option av_T → hs_T → Prop} {P : Int32 → hs_T → Prop} {j1 : Nat} (hjj1 : j1 < 4) (hC : Ci d mX6_isNothing [vR 6 j1] S P) (kk : ∀ v S', P v S' → Ev (d + 1) mX10_cellsOfFirst 14 [some (vR 10 0), some (vR 6 j1)] [vI v] S' Q) : Ev (d + 1) mX10_cellsOfFirst 10 [some (vR 10 0), some (vR 6 j1)] [] S Q := by
  refine Ev.aload_n dX10_cellsOfFirst_10 rfl rfl ?_
  exact Ev.callV (as := []) (rest := []) okX6_isNothing in_X6_isNothing ml_X10_330 rfl (Nat.le_of_ble_eq_true rfl) (pl6 hjj1) (by decide) rfl rfl dX10_cellsOfFirst_11 hC (fun r S' h => by obtain ⟨v, rfl, h⟩ := h; exact kk v S' h)
theorem bkX10_cellsOfFirst_14 {d : Nat} {S : hs_T} {Q : Option av_T → hs_T → Prop} {y0 : Int32} {j1 : Nat} (kt : y0 = 0 → Ev d mX10_cellsOfFirst 22 [some (vR 10 0), some (vR 6 j1)] [] S Q) (kf : ¬ y0 = 0 → Ev d mX10_cellsOfFirst 17 [some (vR 10 0), some (vR 6 j1)] [] S Q) : Ev d mX10_cellsOfFirst 14 [some (vR 10 0), some (vR 6 j1)] [vI y0] S Q := by
  exact Ev.if_eq (tgt := 22) dX10_cellsOfFirst_14 (by decide) kt kf
theorem bkX10_cellsOfFirst_17_r {d : Nat} {S : hs_T} {Q : Option av_T → hs_T → Prop} {j1 : Nat} (kn : Ev d mX10_cellsOfFirst 26 [some (vR 10 0), some (vR 6 j1)] [vI (-4)] S Q) : Ev d mX10_cellsOfFirst 17 [some (vR 10 0), some (vR 6 j1)] [] S Q := by
  refine Ev.bipush (v := (-4)) dX10_cellsOfFirst_17 (by decide) ?_
  refine Ev.goto (tgt := 26) dX10_cellsOfFirst_19 (by decide) ?_
  exact kn
theorem bkX10_cellsOfFirst_17_n {d : Nat} {S : hs_T} {Q : Option av_T → hs_T → Prop} (kn : Ev d mX10_cellsOfFirst 26 [some (vR 10 0), some (vN)] [vI (-4)] S Q) : Ev d mX10_cellsOfFirst 17 [some (vR 10 0), some (vN)] [] S Q := by
  refine Ev.bipush (v := (-4)) dX10_cellsOfFirst_17 (by decide) ?_
  refine Ev.goto (tgt := 26) dX10_cellsOfFirst_19 (by decide) ?_
  exact kn
theorem bkX10_cellsOfFirst_22 {d : Nat} {S : hs_T} {Q : Option av_T → hs_T → Prop} {j1 : Nat} (hjj1 : j1 < 4) (kn : Ev d mX10_cellsOfFirst 26 [some (vR 10 0), some (vR 6 j1)] [vI (S.1 6 j1 2)] S Q) : Ev d mX10_cellsOfFirst 22 [some (vR 10 0), some (vR 6 j1)] [] S Q := by
  refine Ev.aload_n dX10_cellsOfFirst_22 rfl rfl ?_
  refine Ev.get (v := vI (S.1 6 j1 2)) okX6 (by decide) fl_X10_367 (pl6 hjj1) (ff_6_2 _ _) dX10_cellsOfFirst_23 ?_
  exact kn
theorem bkX10_cellsOfFirst_26_r {d : Nat} {S : hs_T} {Q : Option av_T → hs_T → Prop} {y0 : Int32} {j1 : Nat} (hq : Q (some (vI y0)) S) : Ev d mX10_cellsOfFirst 26 [some (vR 10 0), some (vR 6 j1)] [vI y0] S Q := by
  exact Ev.iret dX10_cellsOfFirst_26 rfl rfl hq
theorem bkX10_cellsOfFirst_26_n {d : Nat} {S : hs_T} {Q : Option av_T → hs_T → Prop} {y0 : Int32} (hq : Q (some (vI y0)) S) : Ev d mX10_cellsOfFirst 26 [some (vR 10 0), some (vN)] [vI y0] S Q := by
  exact Ev.iret dX10_cellsOfFirst_26 rfl rfl hq
/-! java/lang/Integer.bitCount(I)I -/
theorem bkJ6_bitCount_0f7a4_0 {d : Nat} {S : hs_T} {Q : Option av_T → hs_T → Prop} {x0 : Int32} (hq : Q (some (vI ((((((((x0 - (((x0.toUInt32 >>> ((1 : Int32).toUInt32 &&& Int32.toUInt32 31)).toInt32) &&& 1431655765)) &&& 858993459) + ((((x0 - (((x0.toUInt32 >>> ((1 : Int32).toUInt32 &&& Int32.toUInt32 31)).toInt32) &&& 1431655765)).toUInt32 >>> ((2 : Int32).toUInt32 &&& Int32.toUInt32 31)).toInt32) &&& 858993459)) + (((((x0 - (((x0.toUInt32 >>> ((1 : Int32).toUInt32 &&& Int32.toUInt32 31)).toInt32) &&& 1431655765)) &&& 858993459) + ((((x0 - (((x0.toUInt32 >>> ((1 : Int32).toUInt32 &&& Int32.toUInt32 31)).toInt32) &&& 1431655765)).toUInt32 >>> ((2 : Int32).toUInt32 &&& Int32.toUInt32 31)).toInt32) &&& 858993459)).toUInt32 >>> ((4 : Int32).toUInt32 &&& Int32.toUInt32 31)).toInt32)) &&& 252645135) + (((((((x0 - (((x0.toUInt32 >>> ((1 : Int32).toUInt32 &&& Int32.toUInt32 31)).toInt32) &&& 1431655765)) &&& 858993459) + ((((x0 - (((x0.toUInt32 >>> ((1 : Int32).toUInt32 &&& Int32.toUInt32 31)).toInt32) &&& 1431655765)).toUInt32 >>> ((2 : Int32).toUInt32 &&& Int32.toUInt32 31)).toInt32) &&& 858993459)) + (((((x0 - (((x0.toUInt32 >>> ((1 : Int32).toUInt32 &&& Int32.toUInt32 31)).toInt32) &&& 1431655765)) &&& 858993459) + ((((x0 - (((x0.toUInt32 >>> ((1 : Int32).toUInt32 &&& Int32.toUInt32 31)).toInt32) &&& 1431655765)).toUInt32 >>> ((2 : Int32).toUInt32 &&& Int32.toUInt32 31)).toInt32) &&& 858993459)).toUInt32 >>> ((4 : Int32).toUInt32 &&& Int32.toUInt32 31)).toInt32)) &&& 252645135).toUInt32 >>> ((8 : Int32).toUInt32 &&& Int32.toUInt32 31)).toInt32)) + ((((((((x0 - (((x0.toUInt32 >>> ((1 : Int32).toUInt32 &&& Int32.toUInt32 31)).toInt32) &&& 1431655765)) &&& 858993459) + ((((x0 - (((x0.toUInt32 >>> ((1 : Int32).toUInt32 &&& Int32.toUInt32 31)).toInt32) &&& 1431655765)).toUInt32 >>> ((2 : Int32).toUInt32 &&& Int32.toUInt32 31)).toInt32) &&& 858993459)) + (((((x0 - (((x0.toUInt32 >>> ((1 : Int32).toUInt32 &&& Int32.toUInt32 31)).toInt32) &&& 1431655765)) &&& 858993459) + ((((x0 - (((x0.toUInt32 >>> ((1 : Int32).toUInt32 &&& Int32.toUInt32 31)).toInt32) &&& 1431655765)).toUInt32 >>> ((2 : Int32).toUInt32 &&& Int32.toUInt32 31)).toInt32) &&& 858993459)).toUInt32 >>> ((4 : Int32).toUInt32 &&& Int32.toUInt32 31)).toInt32)) &&& 252645135) + (((((((x0 - (((x0.toUInt32 >>> ((1 : Int32).toUInt32 &&& Int32.toUInt32 31)).toInt32) &&& 1431655765)) &&& 858993459) + ((((x0 - (((x0.toUInt32 >>> ((1 : Int32).toUInt32 &&& Int32.toUInt32 31)).toInt32) &&& 1431655765)).toUInt32 >>> ((2 : Int32).toUInt32 &&& Int32.toUInt32 31)).toInt32) &&& 858993459)) + (((((x0 - (((x0.toUInt32 >>> ((1 : Int32).toUInt32 &&& Int32.toUInt32 31)).toInt32) &&& 1431655765)) &&& 858993459) + ((((x0 - (((x0.toUInt32 >>> ((1 : Int32).toUInt32 &&& Int32.toUInt32 31)).toInt32) &&& 1431655765)).toUInt32 >>> ((2 : Int32).toUInt32 &&& Int32.toUInt32 31)).toInt32) &&& 858993459)).toUInt32 >>> ((4 : Int32).toUInt32 &&& Int32.toUInt32 31)).toInt32)) &&& 252645135).toUInt32 >>> ((8 : Int32).toUInt32 &&& Int32.toUInt32 31)).toInt32)).toUInt32 >>> ((16 : Int32).toUInt32 &&& Int32.toUInt32 31)).toInt32)) &&& 63))) S) : Ev d mJ6_bitCount_0f7a4 0 [some (vI x0)] [] S Q := by
  refine Ev.iload_n dJ6_bitCount_0f7a4_0 rfl rfl ?_
  refine Ev.iload_n dJ6_bitCount_0f7a4_1 rfl rfl ?_
  refine Ev.iconst (v := 1) dJ6_bitCount_0f7a4_2 (by decide) ?_
  refine Ev.iushr dJ6_bitCount_0f7a4_3 ?_
  refine Ev.ldcw ki_J6_265 dJ6_bitCount_0f7a4_4 ?_
  refine Ev.iand dJ6_bitCount_0f7a4_7 ?_
  refine Ev.isub dJ6_bitCount_0f7a4_8 ?_
  refine Ev.istore_n (ls' := [some (vI (x0 - (((x0.toUInt32 >>> ((1 : Int32).toUInt32 &&& Int32.toUInt32 31)).toInt32) &&& 1431655765)))]) dJ6_bitCount_0f7a4_9 rfl (by decide) rfl ?_
  refine Ev.iload_n dJ6_bitCount_0f7a4_10 rfl rfl ?_
  refine Ev.ldcw ki_J6_266 dJ6_bitCount_0f7a4_11 ?_
  refine Ev.iand dJ6_bitCount_0f7a4_14 ?_
  refine Ev.iload_n dJ6_bitCount_0f7a4_15 rfl rfl ?_
  refine Ev.iconst (v := 2) dJ6_bitCount_0f7a4_16 (by decide) ?_
  refine Ev.iushr dJ6_bitCount_0f7a4_17 ?_
  refine Ev.ldcw ki_J6_266 dJ6_bitCount_0f7a4_18 ?_
  refine Ev.iand dJ6_bitCount_0f7a4_21 ?_
  refine Ev.iadd dJ6_bitCount_0f7a4_22 ?_
  refine Ev.istore_n (ls' := [some (vI (((x0 - (((x0.toUInt32 >>> ((1 : Int32).toUInt32 &&& Int32.toUInt32 31)).toInt32) &&& 1431655765)) &&& 858993459) + ((((x0 - (((x0.toUInt32 >>> ((1 : Int32).toUInt32 &&& Int32.toUInt32 31)).toInt32) &&& 1431655765)).toUInt32 >>> ((2 : Int32).toUInt32 &&& Int32.toUInt32 31)).toInt32) &&& 858993459)))]) dJ6_bitCount_0f7a4_23 rfl (by decide) rfl ?_
  refine Ev.iload_n dJ6_bitCount_0f7a4_24 rfl rfl ?_
  refine Ev.iload_n dJ6_bitCount_0f7a4_25 rfl rfl ?_
  refine Ev.iconst (v := 4) dJ6_bitCount_0f7a4_26 (by decide) ?_
  refine Ev.iushr dJ6_bitCount_0f7a4_27 ?_
  refine Ev.iadd dJ6_bitCount_0f7a4_28 ?_
  refine Ev.ldcw ki_J6_267 dJ6_bitCount_0f7a4_29 ?_
  refine Ev.iand dJ6_bitCount_0f7a4_32 ?_
  refine Ev.istore_n (ls' := [some (vI (((((x0 - (((x0.toUInt32 >>> ((1 : Int32).toUInt32 &&& Int32.toUInt32 31)).toInt32) &&& 1431655765)) &&& 858993459) + ((((x0 - (((x0.toUInt32 >>> ((1 : Int32).toUInt32 &&& Int32.toUInt32 31)).toInt32) &&& 1431655765)).toUInt32 >>> ((2 : Int32).toUInt32 &&& Int32.toUInt32 31)).toInt32) &&& 858993459)) + (((((x0 - (((x0.toUInt32 >>> ((1 : Int32).toUInt32 &&& Int32.toUInt32 31)).toInt32) &&& 1431655765)) &&& 858993459) + ((((x0 - (((x0.toUInt32 >>> ((1 : Int32).toUInt32 &&& Int32.toUInt32 31)).toInt32) &&& 1431655765)).toUInt32 >>> ((2 : Int32).toUInt32 &&& Int32.toUInt32 31)).toInt32) &&& 858993459)).toUInt32 >>> ((4 : Int32).toUInt32 &&& Int32.toUInt32 31)).toInt32)) &&& 252645135))]) dJ6_bitCount_0f7a4_33 rfl (by decide) rfl ?_
  refine Ev.iload_n dJ6_bitCount_0f7a4_34 rfl rfl ?_
  refine Ev.iload_n dJ6_bitCount_0f7a4_35 rfl rfl ?_
  refine Ev.bipush (v := 8) dJ6_bitCount_0f7a4_36 (by decide) ?_
  refine Ev.iushr dJ6_bitCount_0f7a4_38 ?_
  refine Ev.iadd dJ6_bitCount_0f7a4_39 ?_
  refine Ev.istore_n (ls' := [some (vI ((((((x0 - (((x0.toUInt32 >>> ((1 : Int32).toUInt32 &&& Int32.toUInt32 31)).toInt32) &&& 1431655765)) &&& 858993459) + ((((x0 - (((x0.toUInt32 >>> ((1 : Int32).toUInt32 &&& Int32.toUInt32 31)).toInt32) &&& 1431655765)).toUInt32 >>> ((2 : Int32).toUInt32 &&& Int32.toUInt32 31)).toInt32) &&& 858993459)) + (((((x0 - (((x0.toUInt32 >>> ((1 : Int32).toUInt32 &&& Int32.toUInt32 31)).toInt32) &&& 1431655765)) &&& 858993459) + ((((x0 - (((x0.toUInt32 >>> ((1 : Int32).toUInt32 &&& Int32.toUInt32 31)).toInt32) &&& 1431655765)).toUInt32 >>> ((2 : Int32).toUInt32 &&& Int32.toUInt32 31)).toInt32) &&& 858993459)).toUInt32 >>> ((4 : Int32).toUInt32 &&& Int32.toUInt32 31)).toInt32)) &&& 252645135) + (((((((x0 - (((x0.toUInt32 >>> ((1 : Int32).toUInt32 &&& Int32.toUInt32 31)).toInt32) &&& 1431655765)) &&& 858993459) + ((((x0 - (((x0.toUInt32 >>> ((1 : Int32).toUInt32 &&& Int32.toUInt32 31)).toInt32) &&& 1431655765)).toUInt32 >>> ((2 : Int32).toUInt32 &&& Int32.toUInt32 31)).toInt32) &&& 858993459)) + (((((x0 - (((x0.toUInt32 >>> ((1 : Int32).toUInt32 &&& Int32.toUInt32 31)).toInt32) &&& 1431655765)) &&& 858993459) + ((((x0 - (((x0.toUInt32 >>> ((1 : Int32).toUInt32 &&& Int32.toUInt32 31)).toInt32) &&& 1431655765)).toUInt32 >>> ((2 : Int32).toUInt32 &&& Int32.toUInt32 31)).toInt32) &&& 858993459)).toUInt32 >>> ((4 : Int32).toUInt32 &&& Int32.toUInt32 31)).toInt32)) &&& 252645135).toUInt32 >>> ((8 : Int32).toUInt32 &&& Int32.toUInt32 31)).toInt32)))]) dJ6_bitCount_0f7a4_40 rfl (by decide) rfl ?_
  refine Ev.iload_n dJ6_bitCount_0f7a4_41 rfl rfl ?_
  refine Ev.iload_n dJ6_bitCount_0f7a4_42 rfl rfl ?_
  refine Ev.bipush (v := 16) dJ6_bitCount_0f7a4_43 (by decide) ?_
  refine Ev.iushr dJ6_bitCount_0f7a4_45 ?_
  refine Ev.iadd dJ6_bitCount_0f7a4_46 ?_
  refine Ev.istore_n (ls' := [some (vI (((((((x0 - (((x0.toUInt32 >>> ((1 : Int32).toUInt32 &&& Int32.toUInt32 31)).toInt32) &&& 1431655765)) &&& 858993459) + ((((x0 - (((x0.toUInt32 >>> ((1 : Int32).toUInt32 &&& Int32.toUInt32 31)).toInt32) &&& 1431655765)).toUInt32 >>> ((2 : Int32).toUInt32 &&& Int32.toUInt32 31)).toInt32) &&& 858993459)) + (((((x0 - (((x0.toUInt32 >>> ((1 : Int32).toUInt32 &&& Int32.toUInt32 31)).toInt32) &&& 1431655765)) &&& 858993459) + ((((x0 - (((x0.toUInt32 >>> ((1 : Int32).toUInt32 &&& Int32.toUInt32 31)).toInt32) &&& 1431655765)).toUInt32 >>> ((2 : Int32).toUInt32 &&& Int32.toUInt32 31)).toInt32) &&& 858993459)).toUInt32 >>> ((4 : Int32).toUInt32 &&& Int32.toUInt32 31)).toInt32)) &&& 252645135) + (((((((x0 - (((x0.toUInt32 >>> ((1 : Int32).toUInt32 &&& Int32.toUInt32 31)).toInt32) &&& 1431655765)) &&& 858993459) + ((((x0 - (((x0.toUInt32 >>> ((1 : Int32).toUInt32 &&& Int32.toUInt32 31)).toInt32) &&& 1431655765)).toUInt32 >>> ((2 : Int32).toUInt32 &&& Int32.toUInt32 31)).toInt32) &&& 858993459)) + (((((x0 - (((x0.toUInt32 >>> ((1 : Int32).toUInt32 &&& Int32.toUInt32 31)).toInt32) &&& 1431655765)) &&& 858993459) + ((((x0 - (((x0.toUInt32 >>> ((1 : Int32).toUInt32 &&& Int32.toUInt32 31)).toInt32) &&& 1431655765)).toUInt32 >>> ((2 : Int32).toUInt32 &&& Int32.toUInt32 31)).toInt32) &&& 858993459)).toUInt32 >>> ((4 : Int32).toUInt32 &&& Int32.toUInt32 31)).toInt32)) &&& 252645135).toUInt32 >>> ((8 : Int32).toUInt32 &&& Int32.toUInt32 31)).toInt32)) + ((((((((x0 - (((x0.toUInt32 >>> ((1 : Int32).toUInt32 &&& Int32.toUInt32 31)).toInt32) &&& 1431655765)) &&& 858993459) + ((((x0 - (((x0.toUInt32 >>> ((1 : Int32).toUInt32 &&& Int32.toUInt32 31)).toInt32) &&& 1431655765)).toUInt32 >>> ((2 : Int32).toUInt32 &&& Int32.toUInt32 31)).toInt32) &&& 858993459)) + (((((x0 - (((x0.toUInt32 >>> ((1 : Int32).toUInt32 &&& Int32.toUInt32 31)).toInt32) &&& 1431655765)) &&& 858993459) + ((((x0 - (((x0.toUInt32 >>> ((1 : Int32).toUInt32 &&& Int32.toUInt32 31)).toInt32) &&& 1431655765)).toUInt32 >>> ((2 : Int32).toUInt32 &&& Int32.toUInt32 31)).toInt32) &&& 858993459)).toUInt32 >>> ((4 : Int32).toUInt32 &&& Int32.toUInt32 31)).toInt32)) &&& 252645135) + (((((((x0 - (((x0.toUInt32 >>> ((1 : Int32).toUInt32 &&& Int32.toUInt32 31)).toInt32) &&& 1431655765)) &&& 858993459) + ((((x0 - (((x0.toUInt32 >>> ((1 : Int32).toUInt32 &&& Int32.toUInt32 31)).toInt32) &&& 1431655765)).toUInt32 >>> ((2 : Int32).toUInt32 &&& Int32.toUInt32 31)).toInt32) &&& 858993459)) + (((((x0 - (((x0.toUInt32 >>> ((1 : Int32).toUInt32 &&& Int32.toUInt32 31)).toInt32) &&& 1431655765)) &&& 858993459) + ((((x0 - (((x0.toUInt32 >>> ((1 : Int32).toUInt32 &&& Int32.toUInt32 31)).toInt32) &&& 1431655765)).toUInt32 >>> ((2 : Int32).toUInt32 &&& Int32.toUInt32 31)).toInt32) &&& 858993459)).toUInt32 >>> ((4 : Int32).toUInt32 &&& Int32.toUInt32 31)).toInt32)) &&& 252645135).toUInt32 >>> ((8 : Int32).toUInt32 &&& Int32.toUInt32 31)).toInt32)).toUInt32 >>> ((16 : Int32).toUInt32 &&& Int32.toUInt32 31)).toInt32)))]) dJ6_bitCount_0f7a4_47 rfl (by decide) rfl ?_
  refine Ev.iload_n dJ6_bitCount_0f7a4_48 rfl rfl ?_
  refine Ev.bipush (v := 63) dJ6_bitCount_0f7a4_49 (by decide) ?_
  refine Ev.iand dJ6_bitCount_0f7a4_51 ?_
  exact Ev.iret dJ6_bitCount_0f7a4_52 rfl rfl hq
